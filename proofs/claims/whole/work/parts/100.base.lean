-- ===== STATE: int fields, references that change (as places), int and boolean arrays, long arrays; by place =====
abbrev sp_St : Type := (Nat → Nat → Int32) × (Nat → Nat → Nat) × (Nat → Nat → Int32) × (Nat → Nat → Int64)
/-- places; of each its kind (1 ints, 2 booleans, 3 longs, 4 texts, 10 + class) and length or number of fields; of a class's field: 0 a number, 1 a reference that stays, 2 one that changes; where a reference that stays leads -/
abbrev sp_Sh : Type := Nat × (Nat → Nat × Nat) × (Nat → Nat → Nat) × (Nat → Nat → Nat)
abbrev sp_Wd : Type := va_G × (Nat → Nat) × (Nat → Nat → Nat) × (Nat → ClassId)
def sp_fv (sh : sp_Sh) (w : sp_Wd) (σ : sp_St) (ci p k : Nat) : Value := if sh.2.2.1 ci k = 0 then .int (σ.1 p k) else if sh.2.2.1 ci k = 1 then .ref (w.2.1 (sh.2.2.2 p k)) else .ref (w.2.1 (σ.2.1 p k))
def sp_cell (sh : sp_Sh) (w : sp_Wd) (σ : sp_St) (p : Nat) : va_E :=
  if (sh.2.1 p).1 = 1 then .inl (w.2.2.2 0, (sh.2.1 p).2, .inl (σ.2.2.1 p))
  else if (sh.2.1 p).1 = 2 then .inl (w.2.2.2 1, (sh.2.1 p).2, .inl (σ.2.2.1 p))
  else if (sh.2.1 p).1 = 3 then .inl (w.2.2.2 2, (sh.2.1 p).2, .inr (.inl (σ.2.2.2 p)))
  else if (sh.2.1 p).1 = 4 then .inl (w.2.2.2 3, (sh.2.1 p).2, .inr (.inr (.inr (.inr (fun j => some (w.2.2.1 0 (sh.2.2.2 p j)))))))
  else .inr ((sh.2.1 p).1 - 10, (List.range (sh.2.1 p).2).map (sp_fv sh w σ ((sh.2.1 p).1 - 10) p))
def sp_wl (sh : sp_Sh) (w : sp_Wd) (σ : sp_St) : va_W := (List.range sh.1).map (fun p => (w.2.1 p, sp_cell sh w σ p))
def sp_tys (w : sp_Wd) : List (ClassId × FieldType) := [(w.2.2.2 0, .int), (w.2.2.2 1, .boolean), (w.2.2.2 2, .long), (w.2.2.2 3, .object "java/lang/String")]
def sp_si (σ : sp_St) (p k : Nat) (v : Int32) : sp_St := (fun q j => if q = p ∧ j = k then v else σ.1 q j, σ.2)
def sp_sr (σ : sp_St) (p k : Nat) (v : Nat) : sp_St := (σ.1, (fun q j => if q = p ∧ j = k then v else σ.2.1 q j), σ.2.2)
def sp_sa (σ : sp_St) (p i : Nat) (v : Int32) : sp_St := (σ.1, σ.2.1, (fun q j => if q = p ∧ j = i then v else σ.2.2.1 q j), σ.2.2.2)
def sp_sl (σ : sp_St) (p i : Nat) (v : Int64) : sp_St := (σ.1, σ.2.1, σ.2.2.1, (fun q j => if q = p ∧ j = i then v else σ.2.2.2 q j))
theorem sp_wl_get {sh : sp_Sh} {w : sp_Wd} {σ : sp_St} {p : Nat} (h : p < sh.1) : (sp_wl sh w σ)[p]? = some (w.2.1 p, sp_cell sh w σ p) := by
  simp [sp_wl, h]
theorem sp_wl_len {sh : sp_Sh} {w : sp_Wd} {σ : sp_St} : (sp_wl sh w σ).length = sh.1 := by simp [sp_wl]
theorem sp_wl_lt {sh : sp_Sh} {w : sp_Wd} {σ : sp_St} {k : Nat} {q : Nat × va_E} (h : (sp_wl sh w σ)[k]? = some q) : k < sh.1 := by
  have := (List.getElem?_eq_some_iff.mp h).1
  rwa [sp_wl_len] at this
theorem sp_wl_set {sh : sp_Sh} {w : sp_Wd} {σ τ : sp_St} {p : Nat} {e : va_E} (h : p < sh.1) (h1 : sp_cell sh w τ p = e) (h2 : ∀ q, q ≠ p → sp_cell sh w τ q = sp_cell sh w σ q) : (sp_wl sh w σ).set p (w.2.1 p, e) = sp_wl sh w τ := by
  refine List.ext_getElem? fun i => ?_
  by_cases hi : i = p
  · subst hi
    rw [List.getElem?_set_self (by rw [sp_wl_len]; exact h), sp_wl_get h, h1]
  · rw [List.getElem?_set_ne (fun e => hi e.symm)]
    by_cases hl : i < sh.1
    · rw [sp_wl_get hl, sp_wl_get hl, h2 i hi]
    · rw [List.getElem?_eq_none (by rw [sp_wl_len]; omega), List.getElem?_eq_none (by rw [sp_wl_len]; omega)]
def sp_inj (sh : sp_Sh) (w : sp_Wd) : Prop := ∀ i j, i < sh.1 → j < sh.1 → w.2.1 i = w.2.1 j → i = j
theorem sp_D {sh : sp_Sh} {w : sp_Wd} {σ : sp_St} {A : Nat → Prop} (hi : sp_inj sh w) (hA : ∀ i, i < sh.1 → A (w.2.1 i)) : va_D A (sp_wl sh w σ) := by
  refine ⟨fun i j p q h1 h2 e => ?_, fun k q h => ?_⟩
  · have l1 := sp_wl_lt h1
    have l2 := sp_wl_lt h2
    rw [sp_wl_get l1] at h1
    rw [sp_wl_get l2] at h2
    cases h1
    cases h2
    exact hi i j l1 l2 e
  · have l1 := sp_wl_lt h
    rw [sp_wl_get l1] at h
    cases h
    exact hA k l1
-- cells by kind
theorem sp_cell_i {sh : sp_Sh} {w : sp_Wd} {σ : sp_St} {p n : Nat} (h : sh.2.1 p = (1, n)) : sp_cell sh w σ p = .inl (w.2.2.2 0, n, .inl (σ.2.2.1 p)) := by simp [sp_cell, h]
theorem sp_cell_z {sh : sp_Sh} {w : sp_Wd} {σ : sp_St} {p n : Nat} (h : sh.2.1 p = (2, n)) : sp_cell sh w σ p = .inl (w.2.2.2 1, n, .inl (σ.2.2.1 p)) := by simp [sp_cell, h]
theorem sp_cell_l {sh : sp_Sh} {w : sp_Wd} {σ : sp_St} {p n : Nat} (h : sh.2.1 p = (3, n)) : sp_cell sh w σ p = .inl (w.2.2.2 2, n, .inr (.inl (σ.2.2.2 p))) := by simp [sp_cell, h]
theorem sp_cell_s {sh : sp_Sh} {w : sp_Wd} {σ : sp_St} {p n : Nat} (h : sh.2.1 p = (4, n)) : sp_cell sh w σ p = .inl (w.2.2.2 3, n, .inr (.inr (.inr (.inr (fun j => some (w.2.2.1 0 (sh.2.2.2 p j))))))) := by simp [sp_cell, h]
theorem sp_cell_o {sh : sp_Sh} {w : sp_Wd} {σ : sp_St} {p ci n : Nat} (h : sh.2.1 p = (10 + ci, n)) : sp_cell sh w σ p = .inr (ci, (List.range n).map (sp_fv sh w σ ci p)) := by
  have h1 : ¬ (10 + ci = 1) := by omega
  have h2 : ¬ (10 + ci = 2) := by omega
  have h3 : ¬ (10 + ci = 3) := by omega
  have h4 : ¬ (10 + ci = 4) := by omega
  simp [sp_cell, h, h1, h2, h3, h4]
theorem sp_fs_get {sh : sp_Sh} {w : sp_Wd} {σ : sp_St} {ci p k n : Nat} (h : k < n) : ((List.range n).map (sp_fv sh w σ ci p))[k]? = some (sp_fv sh w σ ci p k) := by simp [h]
theorem sp_fs_set {sh : sp_Sh} {w : sp_Wd} {σ τ : sp_St} {ci p k n : Nat} {v : Value} (h1 : sp_fv sh w τ ci p k = v) (h2 : ∀ j, j ≠ k → sp_fv sh w τ ci p j = sp_fv sh w σ ci p j) : ((List.range n).map (sp_fv sh w σ ci p)).set k v = (List.range n).map (sp_fv sh w τ ci p) := by
  refine List.ext_getElem? fun i => ?_
  by_cases hi : i = k
  · subst hi
    by_cases hl : i < n
    · rw [List.getElem?_set_self (by simpa using hl), sp_fs_get hl, h1]
    · rw [List.getElem?_eq_none (by simpa using hl), List.getElem?_eq_none (by simpa using hl)]
  · rw [List.getElem?_set_ne (fun e => hi e.symm)]
    by_cases hl : i < n
    · rw [sp_fs_get hl, sp_fs_get hl, h2 i hi]
    · rw [List.getElem?_eq_none (by simpa using hl), List.getElem?_eq_none (by simpa using hl)]
-- ===== LOCALS by place =====
def sp_lv (ls : Array Slot) (nL : Nat) (lv : List (Option Value)) : Prop := ls.size = nL ∧ lv_wf ls ∧ ∀ (i : Nat) (v : Value), lv[i]? = some (some v) → ls[i]? = some (.val v)
def sp_prs (lv : List (Option Value)) : List (Nat × Value) := (List.range lv.length).filterMap (fun j => match lv[j]? with
  | some (some v) => some (j, v)
  | _ => none)
theorem sp_prs_mem {lv : List (Option Value)} {q : Nat × Value} : q ∈ sp_prs lv ↔ lv[q.1]? = some (some q.2) := by
  obtain ⟨i, v⟩ := q
  unfold sp_prs
  rw [List.mem_filterMap]
  constructor
  · rintro ⟨j, -, h⟩
    split at h
    · next u hu => cases h; exact hu
    · cases h
  · intro h
    refine ⟨i, List.mem_range.mpr (List.getElem?_eq_some_iff.mp h).1, ?_⟩
    dsimp only at h ⊢
    rw [h]
theorem sp_lv_has {ls : Array Slot} {nL : Nat} {lv : List (Option Value)} (h : sp_lv ls nL lv) : lv_has ls nL (sp_prs lv) := ⟨h.1, h.2.1, fun q hq => h.2.2 q.1 q.2 (sp_prs_mem.mp hq)⟩
def sp_c1 (lv : List (Option Value)) : Bool := lv.all (fun o => match o with
  | some v => v.category == 1
  | none => true)
theorem sp_lv_set {ls : Array Slot} {nL i : Nat} {v : Value} {lv : List (Option Value)} (hc : sp_c1 lv = true) (h : lv_has ls nL ((i, v) :: (sp_prs lv).filter (fun q => !(q.1 == i) && !(q.1 + 1 == i && q.2.category == 2)))) : sp_lv ls nL (lv.set i (some v)) := by
  refine ⟨h.1, h.2.1, fun j u hj => ?_⟩
  by_cases hji : j = i
  · subst hji
    by_cases hl : j < lv.length
    · rw [List.getElem?_set_self hl] at hj
      cases hj
      exact h.2.2 (j, v) List.mem_cons_self
    · rw [List.getElem?_eq_none (by simpa using hl)] at hj
      cases hj
  · rw [List.getElem?_set_ne (fun e => hji e.symm)] at hj
    refine h.2.2 (j, u) (List.mem_cons_of_mem _ (List.mem_filter.mpr ⟨sp_prs_mem.mpr hj, ?_⟩))
    have h1 := List.all_eq_true.mp hc _ (List.mem_of_getElem? hj)
    have h2 : u.category = 1 := by simpa using h1
    simp [hji, h2]
def sp_ent : List Value → List (Option Value)
  | [] => []
  | v :: vs => some v :: (if v.category = 2 then none :: sp_ent vs else sp_ent vs)
theorem sp_ent_args : ∀ (vs : List Value) (k i : Nat) (v : Value), (sp_ent vs)[i]? = some (some v) → (k + i, v) ∈ lv_args k vs
  | [], _, _, _, h => by simp [sp_ent] at h
  | u :: vs, k, i, v, h => by
    unfold sp_ent at h
    unfold lv_args
    cases i with
    | zero =>
      simp at h
      subst h
      exact List.mem_cons_self
    | succ i =>
      rw [List.getElem?_cons_succ] at h
      by_cases hu : u.category = 2
      · rw [if_pos hu] at h ⊢
        cases i with
        | zero => simp at h
        | succ i =>
          rw [List.getElem?_cons_succ] at h
          have := sp_ent_args vs (k + 2) i v h
          rw [show k + (i + 1 + 1) = k + 2 + i by omega]
          exact List.mem_cons_of_mem _ this
      · rw [if_neg hu] at h ⊢
        have := sp_ent_args vs (k + 1) i v h
        rw [show k + (i + 1) = k + 1 + i by omega]
        exact List.mem_cons_of_mem _ this
theorem sp_lv_ent {vs : List Value} {n : Nat} {lv : List (Option Value)} (h : (lg_sl vs).length ≤ n) (hv : (sp_ent vs ++ List.replicate n none).take n = lv) : sp_lv ((lg_sl vs ++ List.replicate (n - (lg_sl vs).length) Slot.unset).toArray) n lv := by
  obtain ⟨h1, h2, h3⟩ := lv_entry vs h
  refine ⟨h1, h2, fun i v hi => ?_⟩
  subst hv
  rw [List.getElem?_take] at hi
  split at hi
  · rw [List.getElem?_append] at hi
    split at hi
    · have := sp_ent_args vs 0 i v hi
      rw [Nat.zero_add] at this
      exact h3 (i, v) this
    · rw [List.getElem?_replicate] at hi
      split at hi <;> cases hi
  · cases hi
