section SPD
variable {sh : sp_Sh} {X : sp_X} {σ σ' : sp_St} {nL : Nat} {lv lv' : List (Option Value)} {st : List Value} {pc kc ks : Nat}
/-- fewer locals are known -/
def sp_sub : List (Option Value) → List (Option Value) → Prop
  | [], _ => True
  | some v :: a, o :: b => o = some v ∧ sp_sub a b
  | none :: a, _ :: b => sp_sub a b
  | _ :: _, [] => False
theorem sp_sub_get : ∀ (a b : List (Option Value)) (i : Nat) (v : Value), sp_sub a b → a[i]? = some (some v) → b[i]? = some (some v)
  | [], _, _, _, _, h => by simp at h
  | some _ :: _, [], _, _, hs, _ => hs.elim
  | none :: _, [], _, _, hs, _ => hs.elim
  | some u :: a, o :: b, i, v, hs, h => by
    obtain ⟨h1, h2⟩ := hs
    cases i with
    | zero => simp at h ⊢; rw [h1, h]
    | succ i => rw [List.getElem?_cons_succ] at h ⊢; exact sp_sub_get a b i v h2 h
  | none :: a, o :: b, i, v, hs, h => by
    cases i with
    | zero => simp at h
    | succ i => rw [List.getElem?_cons_succ] at h ⊢; exact sp_sub_get a b i v hs h
theorem sp_drop (h : sp_sub lv' lv) (k : sp_GG sh X σ nL lv' st pc kc ks) : sp_GG sh X σ nL lv st pc kc ks := fun ls H locs hl hP hS => k ls H locs ⟨hl.1, hl.2.1, fun i v hi => hl.2.2 i v (sp_sub_get lv' lv i v h hi)⟩ hP hS
theorem sp_nmi {x v : Int32} (e : x = v) (k : sp_GG sh X σ nL lv (.int x :: st) pc kc ks) : sp_GG sh X σ nL lv (.int v :: st) pc kc ks := e ▸ k
theorem sp_nml {x v : Int64} (e : x = v) (k : sp_GG sh X σ nL lv (.long x :: st) pc kc ks) : sp_GG sh X σ nL lv (.long v :: st) pc kc ks := e ▸ k
theorem sp_nmr {x v : Nat} (e : x = v) (k : sp_GG sh X σ nL lv (.ref (sx_ad X x) :: st) pc kc ks) : sp_GG sh X σ nL lv (.ref (sx_ad X v) :: st) pc kc ks := e ▸ k
theorem sp_nms (e : σ' = σ) (k : sp_GG sh X σ' nL lv st pc kc ks) : sp_GG sh X σ nL lv st pc kc ks := e ▸ k
end SPD
def sp_bd {α β γ : Type} (e : Option (α × β)) (k : α → β → Option γ) : Option γ := match e with
  | none => none
  | some x => k x.1 x.2
theorem sp_bd_so {α β γ : Type} {e : Option (α × β)} {k : α → β → Option γ} {r : γ} (h : sp_bd e k = some r) : ∃ a b, e = some (a, b) ∧ k a b = some r := by
  cases e with
  | none => cases h
  | some x => exact ⟨x.1, x.2, rfl, h⟩
theorem sp_bd_eq {α β γ : Type} {e : Option (α × β)} {k : α → β → Option γ} {a : α} {b : β} (h : e = some (a, b)) : sp_bd e k = k a b := by rw [h]; rfl
def sp_bv {α γ : Type} (e : Option α) (k : α → Option γ) : Option γ := match e with
  | none => none
  | some x => k x
theorem sp_bv_so {α γ : Type} {e : Option α} {k : α → Option γ} {r : γ} (h : sp_bv e k = some r) : ∃ a, e = some a ∧ k a = some r := by
  cases e with
  | none => cases h
  | some x => exact ⟨x, rfl, h⟩
theorem sp_bv_eq {α γ : Type} {e : Option α} {k : α → Option γ} {a : α} (h : e = some a) : sp_bv e k = k a := by rw [h]; rfl
