-- ===== one step of the law, from the calls =====
section
variable {n j : Nat}
theorem lkI {x y : Option (sp_St × Int32)} (h : agi j x y) : ∃ τ υ, (sp_bd x fun σ2 v3 => sp_bd y fun μ5 v6 => if v3 = v6 then some (σ2, μ5) else none) = some (τ, υ) ∧ Inv j τ υ := by
  obtain ⟨τ, υ, r, rfl, rfl, h⟩ := h
  exact ⟨τ, υ, by rw [sp_bd_s, sp_bd_s, if_pos rfl], h⟩
theorem lkV {x y : Option sp_St} (h : agv j x y) : ∃ τ υ, (sp_bv x fun σ2 => sp_bv y fun μ4 => some (σ2, μ4)) = some (τ, υ) ∧ Inv j τ υ := by
  obtain ⟨τ, υ, rfl, rfl, h⟩ := h
  exact ⟨τ, υ, by rw [sp_bv_s, sp_bv_s], h⟩
/-- how the law ends a call that may throw -/
def lkE (n : Nat) (l : Option (sp_St × Int32)) (y : Option (sp_St × Int32)) : Option (sp_St × sp_St) := sp_bd l fun σ2 v3 => sp_bd y fun μ5 v6 => sp_bd (X12_thrown n μ5) fun μ8 v9 => if v9 = v3 then if v3 = 0 then if (lg_cmp (sp_gl σ2 68 (0 : Int32)) v6.toInt64) = 0 then some (σ2, μ8) else none else some (σ2, μ8) else none
theorem lkE_0 {τ υ : sp_St} {v : Int32} (h : υ.1 0 3 = 0) (hI : Inv j τ υ) : ∃ τ' υ', lkE n (some (sp_sl τ 68 ((0 : Int32)).toNatClampNeg v.toInt64, (0 : Int32))) (some (υ, v)) = some (τ', υ') ∧ Inv j τ' υ' := by
  refine ⟨sp_sl τ 68 ((0 : Int32)).toNatClampNeg v.toInt64, υ, ?_, hI⟩
  have e : sp_gl (sp_sl τ 68 ((0 : Int32)).toNatClampNeg v.toInt64) 68 (0 : Int32) = v.toInt64 := sp_sl_eq
  rw [lkE, sp_bd_s, sp_bd_s, X12_thrown, sp_bd_s, h, if_pos rfl, if_pos rfl, e, lg_eq, if_pos rfl]
theorem lkE_1 {τ υ : sp_St} {v e : Int32} (h : υ.1 0 3 = e) (he : e ≠ 0) (hI : Inv j τ υ) : ∃ τ' υ', lkE n (some (τ, e)) (some (υ, v)) = some (τ', υ') ∧ Inv j τ' υ' := by
  refine ⟨τ, υ, ?_, hI⟩
  rw [lkE, sp_bd_s, sp_bd_s, X12_thrown, sp_bd_s, h, if_pos rfl, if_neg he]
theorem lkR {kd : Nat → Option Int32} {x : Option (sp_St × (Int32 ⊕ Nat))} {y : Option (sp_St × Int32)} {kx : sp_St → Nat → Option (sp_St × Int32)} (h : agr j kd x y) (hk : ∀ τ k e, kd k = some e → kx τ k = some (τ, e)) : ∃ τ υ, lkE n (sp_bc x (fun σ2 v6 => sp_pl (sp_sl σ2 68 ((0 : Int32)).toNatClampNeg v6.toInt64) fun σ8 => some (σ8, (0 : Int32))) kx) y = some (τ, υ) ∧ Inv j τ υ := by
  obtain ⟨τ, υ, r, w, rfl, rfl, hI, hr⟩ := h
  cases r with
  | inl v =>
    obtain ⟨rfl, h0⟩ := hr
    exact lkE_0 h0 hI
  | inr k =>
    obtain ⟨e, k1, k2, k3⟩ := hr
    show ∃ τ' υ', lkE n (kx τ k) (some (υ, w)) = some (τ', υ') ∧ Inv j τ' υ'
    rw [hk τ k e k1]
    exact lkE_1 k2 k3 hI
theorem kx1 (τ : sp_St) (k : Nat) (e : Int32) (h : kd1 k = some e) : (sp_ck (decide (k = 1)) <| some (τ, (1 : Int32))) = some (τ, e) := by
  unfold kd1 at h
  split at h
  · next hk => subst hk; cases h; rfl
  · cases h
theorem kx2 (τ : sp_St) (k : Nat) (e : Int32) (h : kd2 k = some e) : (sp_ck (decide (k = 2)) <| some (τ, (1 : Int32))) = some (τ, e) := by
  unfold kd2 at h
  split at h
  · next hk => subst hk; cases h; rfl
  · cases h
variable {σ μ : sp_St}
theorem lk0 (hn : 5000 ≤ n) (h : Inv j σ μ) (a1 a2 a3 a4 a5 : Int32) : ∃ τ υ, LK0 n σ μ a1 a2 a3 a4 a5 = some (τ, υ) ∧ Inv j τ υ := lkI (op_feed hn h a1 a2 a3 a4 a5)
theorem lk18 (hn : 5000 ≤ n) (h : Inv j σ μ) (a1 a2 a3 a4 a5 : Int32) : ∃ τ υ, LK18 n σ μ a1 a2 a3 a4 a5 = some (τ, υ) ∧ Inv j τ υ := lkR (op_takeIn hn h a1) kx1
theorem lk19 (hn : 5000 ≤ n) (h : Inv j σ μ) (a1 a2 a3 a4 a5 : Int32) : ∃ τ υ, LK19 n σ μ a1 a2 a3 a4 a5 = some (τ, υ) ∧ Inv j τ υ := lkI (op_throats hn h)
theorem lk22 (hn : 5000 ≤ n) (h : Inv j σ μ) (a1 a2 a3 a4 a5 : Int32) : ∃ τ υ, LK22 n σ μ a1 a2 a3 a4 a5 = some (τ, υ) ∧ Inv j τ υ := lkI (op_camps hn h)
theorem lk23 (hn : 5000 ≤ n) (h : Inv j σ μ) (a1 a2 a3 a4 a5 : Int32) : ∃ τ υ, LK23 n σ μ a1 a2 a3 a4 a5 = some (τ, υ) ∧ Inv j τ υ := lkI (op_couples hn h)
end
