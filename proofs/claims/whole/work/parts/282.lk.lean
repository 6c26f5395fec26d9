section
variable {n j : Nat} {σ μ : sp_St}
def lkF (n : Nat) (l : Option (sp_St × Int32)) (y : Option (sp_St × Int32)) : Option (sp_St × sp_St) := sp_bd l fun σ2 v3 => sp_bd y fun μ5 v6 => sp_bd (X12_thrown n μ5) fun μ8 v9 => if v9 = v3 then if v3 = 0 then if v6 = 0 then if (lg_cmp (sp_gl σ2 68 (0 : Int32)) ((0 : Int64))) = 0 then some (σ2, μ8) else none else if (lg_cmp (sp_gl σ2 68 (0 : Int32)) ((1 : Int64))) = 0 then some (σ2, μ8) else none else some (σ2, μ8) else none
theorem lkB {kd : Nat → Option Int32} {x : Option (sp_St × (Int32 ⊕ Nat))} {y : Option (sp_St × Int32)} {kx : sp_St → Nat → Option (sp_St × Int32)} {Lx : sp_St → Int64 → Int32 → Option (sp_St × Int32)} (h : agr j kd x y) (hL : ∀ τ z, Lx τ z 0 = some (sp_sl τ 68 ((0 : Int32)).toNatClampNeg z, (0 : Int32))) (hk : ∀ τ k e, kd k = some e → kx τ k = some (τ, e)) : ∃ τ υ, lkF n (sp_bc x (fun σ2 v6 => if v6 = 0 then Lx σ2 ((0 : Int64)) ((0 : Int32)) else Lx σ2 ((1 : Int64)) ((0 : Int32))) kx) y = some (τ, υ) ∧ Inv j τ υ := by
  obtain ⟨τ, υ, r, w, rfl, rfl, hI, hr⟩ := h
  cases r with
  | inl v =>
    obtain ⟨rfl, h0⟩ := hr
    have e : ∀ z : Int64, sp_gl (sp_sl τ 68 ((0 : Int32)).toNatClampNeg z) 68 (0 : Int32) = z := fun z => sp_sl_eq
    show ∃ τ' υ', lkF n (if w = 0 then Lx τ 0 0 else Lx τ 1 0) (some (υ, w)) = some (τ', υ') ∧ Inv j τ' υ'
    by_cases p : w = 0
    · refine ⟨sp_sl τ 68 ((0 : Int32)).toNatClampNeg 0, υ, ?_, hI⟩
      rw [if_pos p, hL, lkF, sp_bd_s, sp_bd_s, X12_thrown, sp_bd_s, h0, if_pos rfl, if_pos rfl, if_pos p, e, lg_eq, if_pos rfl]
    · refine ⟨sp_sl τ 68 ((0 : Int32)).toNatClampNeg 1, υ, ?_, hI⟩
      rw [if_neg p, hL, lkF, sp_bd_s, sp_bd_s, X12_thrown, sp_bd_s, h0, if_pos rfl, if_pos rfl, if_neg p, e, lg_eq, if_pos rfl]
  | inr k =>
    obtain ⟨e, k1, k2, k3⟩ := hr
    show ∃ τ' υ', lkF n (kx τ k) (some (υ, w)) = some (τ', υ') ∧ Inv j τ' υ'
    rw [hk τ k e k1]
    refine ⟨τ, υ, ?_, hI⟩
    rw [lkF, sp_bd_s, sp_bd_s, X12_thrown, sp_bd_s, k2, if_pos rfl, if_neg k3]
theorem lk6 (hn : 5000 ≤ n) (hj : j < 512) (h : Inv j σ μ) (a1 a2 a3 a4 a5 : Int32) : ∃ τ υ, LK6 n σ μ a1 a2 a3 a4 a5 = some (τ, υ) ∧ Inv (j + 1) τ υ := by
  have hn1 : 1000 ≤ n := by omega
  exact lkU (lkB (Lx := L_feud_16 n) (op_feud hn1 h a1 a2) (fun τ z => rfl) kx1)
theorem lk11 (hn : 5000 ≤ n) (hj : j < 512) (h : Inv j σ μ) (a1 a2 a3 a4 a5 : Int32) : ∃ τ υ, LK11 n σ μ a1 a2 a3 a4 a5 = some (τ, υ) ∧ Inv (j + 1) τ υ := by
  unfold LK11
  by_cases e : a3 = 0
  · simp only [if_pos e]
    exact lkB (Lx := L_make_18 n) (op_make hn h a1 a2 0 (Or.inl rfl)) (fun τ z => rfl) kx1
  · simp only [if_neg e]
    exact lkB (Lx := L_make_18 n) (op_make hn h a1 a2 1 (Or.inr rfl)) (fun τ z => rfl) kx1
end
