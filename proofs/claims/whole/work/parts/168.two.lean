-- ===== THE LAW'S WORLD: the class's (places 0 to 68) and the reference's (69 on) =====
def shL : sp_Sh := (112, fun p => if p < 69 then shX.2.1 p else shM.2.1 (p - 69), fun ci k => if ci = 12 then shM.2.2.1 ci k else shX.2.2.1 ci k, fun p k => if p < 69 then shX.2.2.2 p k else if (shM.2.1 (p - 69)).1 = 4 then shM.2.2.2 (p - 69) k else 69 + shM.2.2.2 (p - 69) k)
def sp_pair (σ μ : sp_St) : sp_St := (fun p k => if p < 69 then σ.1 p k else μ.1 (p - 69) k, fun p k => if p < 69 then σ.2.1 p k else 69 + μ.2.1 (p - 69) k, fun p i => if p < 69 then σ.2.2.1 p i else μ.2.2.1 (p - 69) i, fun p i => if p < 69 then σ.2.2.2 p i else μ.2.2.2 (p - 69) i)
def sp_wM (w : sp_Wd) : sp_Wd := (w.1, fun p => w.2.1 (69 + p), w.2.2)
theorem lg_cX : ∀ p, p < 69 → ((shX.2.1 p).1 - 10 ≠ 12 ∧ (shX.2.1 p).1 ≠ 4) := by decide +kernel
theorem lg_cM : ∀ p, p < 43 → (shM.2.1 p).1 ≠ 1 → (shM.2.1 p).1 ≠ 2 → (shM.2.1 p).1 ≠ 3 → (shM.2.1 p).1 ≠ 4 → (shM.2.1 p).1 - 10 = 12 := by decide +kernel
theorem lg_cellX {w : sp_Wd} {σ μ : sp_St} {p : Nat} (h : p < 69) : sp_cell shL w (sp_pair σ μ) p = sp_cell shX w σ p := by
  have h1 : shL.2.1 p = shX.2.1 p := by show (if p < 69 then _ else _) = _; rw [if_pos h]
  have h2 : (sp_pair σ μ).2.2.1 p = σ.2.2.1 p := by funext i; show (if p < 69 then _ else _) = _; rw [if_pos h]
  have h3 : (sp_pair σ μ).2.2.2 p = σ.2.2.2 p := by funext i; show (if p < 69 then _ else _) = _; rw [if_pos h]
  have h4 : sp_fv shL w (sp_pair σ μ) ((shX.2.1 p).1 - 10) p = sp_fv shX w σ ((shX.2.1 p).1 - 10) p := by
    funext k
    have e1 : shL.2.2.1 ((shX.2.1 p).1 - 10) k = shX.2.2.1 ((shX.2.1 p).1 - 10) k := by show (if _ = 12 then _ else _) = _; rw [if_neg (lg_cX p h).1]
    have e2 : (sp_pair σ μ).1 p k = σ.1 p k := by show (if p < 69 then _ else _) = _; rw [if_pos h]
    have e3 : (sp_pair σ μ).2.1 p k = σ.2.1 p k := by show (if p < 69 then _ else _) = _; rw [if_pos h]
    have e4 : shL.2.2.2 p k = shX.2.2.2 p k := by show (if p < 69 then _ else _) = _; rw [if_pos h]
    unfold sp_fv
    rw [e1, e2, e3, e4]
  unfold sp_cell
  rw [h1, h2, h3, h4, if_neg (lg_cX p h).2, if_neg (lg_cX p h).2]
theorem lg_cellM {w : sp_Wd} {σ μ : sp_St} {p : Nat} (h : p < 43) : sp_cell shL w (sp_pair σ μ) (69 + p) = sp_cell shM (sp_wM w) μ p := by
  have hn : ¬ 69 + p < 69 := by omega
  have hs : 69 + p - 69 = p := by omega
  have h1 : shL.2.1 (69 + p) = shM.2.1 p := by show (if 69 + p < 69 then _ else _) = _; rw [if_neg hn, hs]
  have h2 : (sp_pair σ μ).2.2.1 (69 + p) = μ.2.2.1 p := by funext i; show (if 69 + p < 69 then _ else _) = _; rw [if_neg hn, hs]
  have h3 : (sp_pair σ μ).2.2.2 (69 + p) = μ.2.2.2 p := by funext i; show (if 69 + p < 69 then _ else _) = _; rw [if_neg hn, hs]
  unfold sp_cell
  rw [h1, h2, h3]
  by_cases k1 : (shM.2.1 p).1 = 1
  · rw [if_pos k1, if_pos k1]; rfl
  rw [if_neg k1, if_neg k1]
  by_cases k2 : (shM.2.1 p).1 = 2
  · rw [if_pos k2, if_pos k2]; rfl
  rw [if_neg k2, if_neg k2]
  by_cases k3 : (shM.2.1 p).1 = 3
  · rw [if_pos k3, if_pos k3]; rfl
  rw [if_neg k3, if_neg k3]
  by_cases k4 : (shM.2.1 p).1 = 4
  · rw [if_pos k4, if_pos k4]
    have e : ∀ j, shL.2.2.2 (69 + p) j = shM.2.2.2 p j := by
      intro j
      show (if 69 + p < 69 then _ else if (shM.2.1 (69 + p - 69)).1 = 4 then _ else _) = _
      rw [if_neg hn, hs, if_pos k4]
    simp only [e]
    rfl
  rw [if_neg k4, if_neg k4]
  have k5 := lg_cM p h k1 k2 k3 k4
  have h4 : sp_fv shL w (sp_pair σ μ) ((shM.2.1 p).1 - 10) (69 + p) = sp_fv shM (sp_wM w) μ ((shM.2.1 p).1 - 10) p := by
    funext k
    have e1 : shL.2.2.1 ((shM.2.1 p).1 - 10) k = shM.2.2.1 ((shM.2.1 p).1 - 10) k := by show (if _ = 12 then _ else _) = _; rw [if_pos k5]
    have e2 : (sp_pair σ μ).1 (69 + p) k = μ.1 p k := by show (if 69 + p < 69 then _ else _) = _; rw [if_neg hn, hs]
    have e3 : (sp_pair σ μ).2.1 (69 + p) k = 69 + μ.2.1 p k := by show (if 69 + p < 69 then _ else _) = _; rw [if_neg hn, hs]
    have e4 : shL.2.2.2 (69 + p) k = 69 + shM.2.2.2 p k := by
      show (if 69 + p < 69 then _ else if (shM.2.1 (69 + p - 69)).1 = 4 then _ else _) = _
      rw [if_neg hn, hs, if_neg k4]
    unfold sp_fv
    rw [e1, e2, e3, e4]
    rfl
  rw [h4]
section LGW
variable {D : va_G} {w : sp_Wd} {σ μ τ : sp_St} {H H1 : Heap}
theorem lg_inX (h : va_P D vwCl (sp_wl shL w (sp_pair σ μ)) H) : va_P D vwCl (sp_wl shX w σ) H := by
  intro k q hk
  have hl : k < 69 := sp_wl_lt hk
  rw [sp_wl_get (sh := shX) hl, ← lg_cellX (μ := μ) hl] at hk
  exact h k q (by rw [sp_wl_get (sh := shL) (show k < 112 by omega)]; exact hk)
theorem lg_inM (h : va_P D vwCl (sp_wl shL w (sp_pair σ μ)) H) : va_P D vwCl (sp_wl shM (sp_wM w) μ) H := by
  intro k q hk
  have hl : k < 43 := sp_wl_lt hk
  rw [sp_wl_get (sh := shM) hl, ← lg_cellM (σ := σ) hl] at hk
  exact h (69 + k) q (by rw [sp_wl_get (sh := shL) (show 69 + k < 112 by omega)]; exact hk)
theorem lg_join (h1 : va_P D vwCl (sp_wl shX w σ) H) (h2 : va_P D vwCl (sp_wl shM (sp_wM w) μ) H) : va_P D vwCl (sp_wl shL w (sp_pair σ μ)) H := by
  intro k q hk
  have hl : k < 112 := sp_wl_lt hk
  rw [sp_wl_get (sh := shL) hl] at hk
  by_cases h : k < 69
  · rw [lg_cellX h] at hk
    exact h1 k q (by rw [sp_wl_get (sh := shX) h]; exact hk)
  · obtain ⟨j, rfl⟩ : ∃ j, k = 69 + j := ⟨k - 69, by omega⟩
    have hj : j < 43 := by omega
    rw [lg_cellM hj] at hk
    exact h2 j q (by rw [sp_wl_get (sh := shM) hj]; exact hk)
theorem lg_injX (h : sp_inj shL w) : sp_inj shX w := fun i j (hi : i < 69) (hj : j < 69) e => h i j (show i < 112 by omega) (show j < 112 by omega) e
theorem lg_injM (h : sp_inj shL w) : sp_inj shM (sp_wM w) := fun i j (hi : i < 43) (hj : j < 43) e => by
  have := h (69 + i) (69 + j) (show 69 + i < 112 by omega) (show 69 + j < 112 by omega) e
  omega
theorem lg_backX (hi : sp_inj shL w) (h : va_P D vwCl (sp_wl shL w (sp_pair σ μ)) H) (h1 : va_P D vwCl (sp_wl shX w τ) H1) (hk : ∀ q : Nat, q < H.size → ¬ sp_A shX w H.size q → H1[q]? = H[q]?) : va_P D vwCl (sp_wl shL w (sp_pair τ μ)) H1 := by
  refine lg_join h1 ((lg_inM h).kept fun k q hq => ?_)
  have hl : k < 43 := sp_wl_lt hq
  have hz := (lg_inM h k q hq).lt
  rw [sp_wl_get (sh := shM) hl] at hq
  cases hq
  refine hk _ hz (fun ha => ?_)
  rcases ha with ⟨i, h3, h4⟩ | ha
  · have h3 : i < 69 := h3
    have := hi (69 + k) i (show 69 + k < 112 by omega) (show i < 112 by omega) h4
    omega
  · omega
theorem lg_backM (hi : sp_inj shL w) (h : va_P D vwCl (sp_wl shL w (sp_pair σ μ)) H) (h1 : va_P D vwCl (sp_wl shM (sp_wM w) τ) H1) (hk : ∀ q : Nat, q < H.size → ¬ sp_A shM (sp_wM w) H.size q → H1[q]? = H[q]?) : va_P D vwCl (sp_wl shL w (sp_pair σ τ)) H1 := by
  refine lg_join ((lg_inX h).kept fun k q hq => ?_) h1
  have hl : k < 69 := sp_wl_lt hq
  have hz := (lg_inX h k q hq).lt
  rw [sp_wl_get (sh := shX) hl] at hq
  cases hq
  refine hk _ hz (fun ha => ?_)
  rcases ha with ⟨i, h3, h4⟩ | ha
  · have h3 : i < 43 := h3
    have := hi k (69 + i) (show k < 112 by omega) (show 69 + i < 112 by omega) h4
    omega
  · omega
end LGW
theorem atL_0 : sp_at shL 0 11 13 := ⟨by decide, by decide⟩
theorem atL_69 : sp_at shL 69 12 64 := ⟨by decide, by decide⟩
theorem arL_68 : sp_ar shL 68 3 1 := ⟨by decide, by decide⟩
theorem lg_g68 {σ μ : sp_St} {i : Int32} : sp_gl (sp_pair σ μ) 68 i = sp_gl σ 68 i := rfl
section LGC
variable {X : sp_X} {σ μ τ : sp_St} {nL : Nat} {lv : List (Option Value)} {st : List Value} {pc kc ks : Nat} {cc : ByteArray} {own : String} {rm : Room} {q : Nat}
theorem lg_subX {H : Heap} {locs : List Loc} (hX : sp_OK shL X cc own nL rm) (hS : va_S (sx_A X) (sx_s X).heap H locs) : ∀ z, sp_A shX (sx_w X) H.size z → sx_A X z := by
  intro z hz
  rcases hz with ⟨i, hi, rfl⟩ | hz
  · have hi : i < 69 := hi
    exact sp_aw hX i (show i < 112 by omega)
  · exact sp_an hX z (Nat.le_trans hS.1 hz)
theorem lg_subM {H : Heap} {locs : List Loc} (hX : sp_OK shL X cc own nL rm) (hS : va_S (sx_A X) (sx_s X).heap H locs) : ∀ z, sp_A shM (sp_wM (sx_w X)) H.size z → sx_A X z := by
  intro z hz
  rcases hz with ⟨i, hi, rfl⟩ | hz
  · have hi : i < 43 := hi
    exact sp_aw hX (69 + i) (show 69 + i < 112 by omega)
  · exact sp_an hX z (Nat.le_trans hS.1 hz)
theorem lg_preX {H : Heap} {locs : List Loc} {U : State} (hX : sp_OK shL X cc own nL rm) (hP : va_P (sx_w X).1 vwCl (sp_wl shL (sx_w X) (sp_pair σ μ)) H) (hS : va_S (sx_A X) (sx_s X).heap H locs) (hU : U.heap = H) (hW : (sx_s X).WarmedH U.vm) : sp_pre shX (sx_w X) σ H.size U := by
  refine ⟨by rw [hU], by rw [hU]; exact lg_inX hP, va_K.moved hW.alike (sp_ka hX), lg_injX (sp_ij hX), ?_⟩
  rw [hU]
  exact sp_Ev.narrow (lg_subX hX hS) (sp_Ev.kept (fun a h1 h2 => hS.2.1 a h1 h2) (sp_Ev.warm hW (sp_ev hX)))
theorem lg_preM {H : Heap} {locs : List Loc} {U : State} (hX : sp_OK shL X cc own nL rm) (hP : va_P (sx_w X).1 vwCl (sp_wl shL (sx_w X) (sp_pair σ μ)) H) (hS : va_S (sx_A X) (sx_s X).heap H locs) (hU : U.heap = H) (hW : (sx_s X).WarmedH U.vm) : sp_pre shM (sp_wM (sx_w X)) μ H.size U := by
  refine ⟨by rw [hU], by rw [hU]; exact lg_inM hP, va_K.moved hW.alike (sp_ka hX), lg_injM (sp_ij hX), ?_⟩
  rw [hU]
  exact sp_Ev.narrow (lg_subM hX hS) (sp_Ev.kept (fun a h1 h2 => hS.2.1 a h1 h2) (sp_Ev.warm hW (sp_ev hX)))
def sp_wW (own : String) (i : Nat) (y : MethodName) (cy : ByteArray) (nY : Nat) (ret : Option FieldType) (hh : List (Nat × Nat × Nat × Nat)) (n : Nat) : Prop := (Cond.methodLink own i y ∈ sp_T ∧ Cond.static y ∈ sp_T ∧ Cond.initialized y.cls ∈ sp_T ∧ Cond.codeWith y cy nY ret hh ∈ sp_T) ∧ y.cls ≠ "java/lang/invoke/MethodHandle" ∧ y.cls ≠ "java/lang/invoke/VarHandle" ∧ (parseMethodDescriptor y.desc).map (fun d => d.parameters.length) = some n
theorem sp_goodW {i : Nat} {y : MethodName} {cy : ByteArray} {nY n : Nat} {ret : Option FieldType} {hh : List (Nat × Nat × Nat × Nat)} (h : sp_wW own i y cy nY ret hh n) : GoodIn sp_T (va_wsS own i y (.codeWith y cy nY ret hh :: sp_T)) := by
  obtain ⟨⟨h1, h2, h3, h5⟩, -⟩ := h
  refine sp_GT fun w hw => ?_
  unfold va_wsS at hw
  simp only [List.mem_append, List.mem_cons, List.not_mem_nil, or_false] at hw
  rcases hw with (rfl | rfl | rfl) | rfl | hw
  · exact h1
  · exact h2
  · exact h3
  · exact h5
  · exact hw
theorem sp_cwW {sh : sp_Sh} {rY : Room} {i : Nat} {y : MethodName} {cy : ByteArray} {nY n mY sY : Nat} {ret : Option FieldType} {hh : List (Nat × Nat × Nat × Nat)} (hX : sp_OK sh X cc own nL rm) (hw : sp_wW own i y cy nY ret hh n) (h1 : rY.cells = mY) (h2 : rY.slots = sY) (h3 : rY.frames + 1 ≤ rm.frames) (h4 : 8 + (nY + 11) + rY.locals ≤ rm.locals) : vx_CSW (sx_R X) (sx_s X) (sx_a X) own i y cy nY ret hh (.codeWith y cy nY ret hh :: sp_T) rY mY sY n := by
  rw [sp_rm hX]
  exact vx_cwSW n (sp_ts hX) (sp_goodW hw) rfl h1 h2 hw.2 ⟨h3, h4⟩
set_option maxHeartbeats 1000000 in
theorem lg_callVXi {rY : Room} {i : Nat} {y : MethodName} {cy : ByteArray} {nY n mY sY : Nat} {r : Int32} {ret : Option FieldType} {As rest : List Value} (hX : sp_OK shL X cc own nL rm) (hC : sp_Ci shX (sx_l X) (sx_w X) y cy nY ret rY mY sY σ (.ref (sx_ad X 0) :: As) τ r) (hw : sp_wV own i RX11 y cy nY ret n) (hst : st = As.reverse ++ .ref (sx_ad X 0) :: rest) (hn : As.length = n) (h1 : rY.cells = mY) (h2 : rY.slots = sY) (h3 : rY.frames + 1 ≤ rm.frames) (h4 : 8 + (nY + 11) + rY.locals ≤ rm.locals) (h5 : (rest.map fun v => v.category).sum ≤ 8) (h6 : kc + mY ≤ rm.cells) (h7 : ks + sY ≤ rm.slots) (hd : decode cc pc = .ok (.invokevirtual i, 3)) (hq : pc + 3 = q) (k : sp_GG shL X (sp_pair τ μ) nL lv (.int r :: rest) q (kc + mY) (ks + sY)) : sp_GG shL X (sp_pair σ μ) nL lv st pc kc ks := by
  subst hq
  subst hst
  intro ls H locs hl hP hS
  have hsub := lg_subX hX hS
  have hR := sp_rm hX
  refine va_calli (va_runV (As := As) (rest := rest) ⟨sp_ex hX, sp_co hX, sp_ml hX, sp_ow hX, sp_ts hX⟩ (hC H.size) (sp_cwV (R := rm) hX hw h1 h2 h3 h4) ⟨sp_pre_blind, sp_rcv hX hP atL_0 rfl, fun U hU hW => ⟨rfl, lg_preX hX hP hS hU hW⟩⟩ rfl hn hl.1 rfl (lv_room h5) hd ⟨by rw [hR]; exact h6, by rw [hR]; exact h7⟩) hS (fun z _ h => hsub z h) hsub (fun r9 u t H1 locs1 ht hvm hw9 hB hz1 hk1 hS1 => ?_)
  obtain ⟨rfl, rfl⟩ := hw9
  unfold sp_be at hB
  rw [ht] at hB
  exact k ls H1 locs1 hl (lg_backX (sp_ij hX) hP hB hk1) hS1
set_option maxHeartbeats 1000000 in
theorem lg_callVXv {rY : Room} {i : Nat} {y : MethodName} {cy : ByteArray} {nY n mY sY : Nat} {As rest : List Value} (hX : sp_OK shL X cc own nL rm) (hC : sp_Cv shX (sx_l X) (sx_w X) y cy nY rY mY sY σ (.ref (sx_ad X 0) :: As) τ) (hw : sp_wV own i RX11 y cy nY none n) (hst : st = As.reverse ++ .ref (sx_ad X 0) :: rest) (hn : As.length = n) (h1 : rY.cells = mY) (h2 : rY.slots = sY) (h3 : rY.frames + 1 ≤ rm.frames) (h4 : 8 + (nY + 11) + rY.locals ≤ rm.locals) (h5 : (rest.map fun v => v.category).sum ≤ 8) (h6 : kc + mY ≤ rm.cells) (h7 : ks + sY ≤ rm.slots) (hd : decode cc pc = .ok (.invokevirtual i, 3)) (hq : pc + 3 = q) (k : sp_GG shL X (sp_pair τ μ) nL lv rest q (kc + mY) (ks + sY)) : sp_GG shL X (sp_pair σ μ) nL lv st pc kc ks := by
  subst hq
  subst hst
  intro ls H locs hl hP hS
  have hsub := lg_subX hX hS
  have hR := sp_rm hX
  refine va_callv (va_runV (As := As) (rest := rest) ⟨sp_ex hX, sp_co hX, sp_ml hX, sp_ow hX, sp_ts hX⟩ (hC H.size) (sp_cwV (R := rm) hX hw h1 h2 h3 h4) ⟨sp_pre_blind, sp_rcv hX hP atL_0 rfl, fun U hU hW => ⟨rfl, lg_preX hX hP hS hU hW⟩⟩ rfl hn hl.1 rfl (lv_room h5) hd ⟨by rw [hR]; exact h6, by rw [hR]; exact h7⟩) hS (fun z _ h => hsub z h) hsub (fun u t H1 locs1 ht hvm hw9 hB hz1 hk1 hS1 => ?_)
  subst hw9
  unfold sp_be at hB
  rw [ht] at hB
  exact k ls H1 locs1 hl (lg_backX (sp_ij hX) hP hB hk1) hS1
set_option maxHeartbeats 1000000 in
theorem lg_callWX {rY : Room} {i : Nat} {y : MethodName} {cy : ByteArray} {nY n mY sY : Nat} {r : Int32} {ret : Option FieldType} {hh : List (Nat × Nat × Nat × Nat)} {As rest : List Value} (hX : sp_OK shL X cc own nL rm) (hC : sp_Cw shX (sx_l X) (sx_w X) y cy nY ret hh rY mY sY σ As τ r) (hw : sp_wW own i y cy nY ret hh n) (hst : st = As.reverse ++ rest) (hn : As.length = n) (h1 : rY.cells = mY) (h2 : rY.slots = sY) (h3 : rY.frames + 1 ≤ rm.frames) (h4 : 8 + (nY + 11) + rY.locals ≤ rm.locals) (h5 : (rest.map fun v => v.category).sum ≤ 8) (h6 : kc + mY ≤ rm.cells) (h7 : ks + sY ≤ rm.slots) (hd : decode cc pc = .ok (.invokestatic i, 3)) (hq : pc + 3 = q) (k : sp_GG shL X (sp_pair τ μ) nL lv (.int r :: rest) q (kc + mY) (ks + sY)) : sp_GG shL X (sp_pair σ μ) nL lv st pc kc ks := by
  subst hq
  subst hst
  intro ls H locs hl hP hS
  have hsub := lg_subX hX hS
  have hR := sp_rm hX
  refine va_calli (vx_runSW (As := As) (rest := rest) ⟨sp_ex hX, sp_co hX, sp_ml hX, sp_ow hX, sp_ts hX⟩ (hC H.size) (sp_cwW hX hw h1 h2 h3 h4) ⟨sp_pre_blind, fun U hU hW => ⟨rfl, lg_preX hX hP hS hU hW⟩⟩ rfl hn hl.1 rfl (lv_room h5) hd ⟨by rw [hR]; exact h6, by rw [hR]; exact h7⟩) hS (fun z _ h => hsub z h) hsub (fun r9 u t H1 locs1 ht hvm hw9 hB hz1 hk1 hS1 => ?_)
  obtain ⟨rfl, rfl⟩ := hw9
  unfold sp_be at hB
  rw [ht] at hB
  exact k ls H1 locs1 hl (lg_backX (sp_ij hX) hP hB hk1) hS1
set_option maxHeartbeats 1000000 in
theorem lg_callVMi {rY : Room} {i : Nat} {y : MethodName} {cy : ByteArray} {nY n mY sY : Nat} {r : Int32} {ret : Option FieldType} {As rest : List Value} (hX : sp_OK shL X cc own nL rm) (hC : sp_Ci shM (sx_l X) (sp_wM (sx_w X)) y cy nY ret rY mY sY μ (.ref (sx_ad X 69) :: As) τ r) (hw : sp_wV own i RX12 y cy nY ret n) (hst : st = As.reverse ++ .ref (sx_ad X 69) :: rest) (hn : As.length = n) (h1 : rY.cells = mY) (h2 : rY.slots = sY) (h3 : rY.frames + 1 ≤ rm.frames) (h4 : 8 + (nY + 11) + rY.locals ≤ rm.locals) (h5 : (rest.map fun v => v.category).sum ≤ 8) (h6 : kc + mY ≤ rm.cells) (h7 : ks + sY ≤ rm.slots) (hd : decode cc pc = .ok (.invokevirtual i, 3)) (hq : pc + 3 = q) (k : sp_GG shL X (sp_pair σ τ) nL lv (.int r :: rest) q (kc + mY) (ks + sY)) : sp_GG shL X (sp_pair σ μ) nL lv st pc kc ks := by
  subst hq
  subst hst
  intro ls H locs hl hP hS
  have hsub := lg_subM hX hS
  have hR := sp_rm hX
  refine va_calli (va_runV (As := As) (rest := rest) ⟨sp_ex hX, sp_co hX, sp_ml hX, sp_ow hX, sp_ts hX⟩ (hC H.size) (sp_cwV (R := rm) hX hw h1 h2 h3 h4) ⟨sp_pre_blind, sp_rcv hX hP atL_69 rfl, fun U hU hW => ⟨rfl, lg_preM hX hP hS hU hW⟩⟩ rfl hn hl.1 rfl (lv_room h5) hd ⟨by rw [hR]; exact h6, by rw [hR]; exact h7⟩) hS (fun z _ h => hsub z h) hsub (fun r9 u t H1 locs1 ht hvm hw9 hB hz1 hk1 hS1 => ?_)
  obtain ⟨rfl, rfl⟩ := hw9
  unfold sp_be at hB
  rw [ht] at hB
  exact k ls H1 locs1 hl (lg_backM (sp_ij hX) hP hB hk1) hS1
set_option maxHeartbeats 1000000 in
theorem lg_callVMv {rY : Room} {i : Nat} {y : MethodName} {cy : ByteArray} {nY n mY sY : Nat} {As rest : List Value} (hX : sp_OK shL X cc own nL rm) (hC : sp_Cv shM (sx_l X) (sp_wM (sx_w X)) y cy nY rY mY sY μ (.ref (sx_ad X 69) :: As) τ) (hw : sp_wV own i RX12 y cy nY none n) (hst : st = As.reverse ++ .ref (sx_ad X 69) :: rest) (hn : As.length = n) (h1 : rY.cells = mY) (h2 : rY.slots = sY) (h3 : rY.frames + 1 ≤ rm.frames) (h4 : 8 + (nY + 11) + rY.locals ≤ rm.locals) (h5 : (rest.map fun v => v.category).sum ≤ 8) (h6 : kc + mY ≤ rm.cells) (h7 : ks + sY ≤ rm.slots) (hd : decode cc pc = .ok (.invokevirtual i, 3)) (hq : pc + 3 = q) (k : sp_GG shL X (sp_pair σ τ) nL lv rest q (kc + mY) (ks + sY)) : sp_GG shL X (sp_pair σ μ) nL lv st pc kc ks := by
  subst hq
  subst hst
  intro ls H locs hl hP hS
  have hsub := lg_subM hX hS
  have hR := sp_rm hX
  refine va_callv (va_runV (As := As) (rest := rest) ⟨sp_ex hX, sp_co hX, sp_ml hX, sp_ow hX, sp_ts hX⟩ (hC H.size) (sp_cwV (R := rm) hX hw h1 h2 h3 h4) ⟨sp_pre_blind, sp_rcv hX hP atL_69 rfl, fun U hU hW => ⟨rfl, lg_preM hX hP hS hU hW⟩⟩ rfl hn hl.1 rfl (lv_room h5) hd ⟨by rw [hR]; exact h6, by rw [hR]; exact h7⟩) hS (fun z _ h => hsub z h) hsub (fun u t H1 locs1 ht hvm hw9 hB hz1 hk1 hS1 => ?_)
  subst hw9
  unfold sp_be at hB
  rw [ht] at hB
  exact k ls H1 locs1 hl (lg_backM (sp_ij hX) hP hB hk1) hS1
end LGC
