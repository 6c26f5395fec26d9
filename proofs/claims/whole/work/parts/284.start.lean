-- ===== the start, and the law's step =====
def sX0 : sp_St := (fun p k => if p = 0 ∧ k = 2 then -1 else if (p = 2 ∨ p = 11) ∧ k = 16 then 50 else 0, fun p k => if p = 0 ∧ k = 3 then 2 else if p = 0 ∧ k = 4 then 11 else if p = 21 ∧ k = 1 then 11 else if (p = 23 ∨ p = 37 ∨ p = 50) ∧ k = 0 then 2 else 0, fun _ _ => 0, fun _ _ => 0)
def sM0 : sp_St := (fun p k => if p = 0 ∧ k = 24 then -1 else 0, fun p k => if p = 0 ∧ k = 2 then 1 else 0, fun p => if p = 3 then upd (fun _ => 0) (3 : Int32).toNatClampNeg 50 else fun _ => 0, fun _ _ => 0)
theorem scz_0 (k : Nat) : scz ct0 k = 0 := by
  unfold scz
  rw [if_neg (show ¬ k < ct0 0 13 from Nat.not_lt_zero k), if_neg (show ¬ (30 ≤ k ∧ k < 30 + ct0 0 14) from fun h => by have h2 : ct0 0 14 = 0 := rfl; omega)]
theorem sM3 : sM0.2.2.1 3 3 = 50 ∧ ∀ k, k < 6 → k ≠ 3 → sM0.2.2.1 3 k = 0 := by
  refine ⟨by decide, ?_⟩
  decide
theorem sMr {p : Nat} (h : p ≠ 3) (i : Nat) : sM0.2.2.1 p i = 0 := by
  show (if p = 3 then upd (fun _ => 0) (3 : Int32).toNatClampNeg 50 else fun _ => 0) i = 0
  rw [if_neg h]
theorem Inv_0 : Inv 0 sX0 sM0 := by
  have z : ∀ k, scz ct0 k = 0 := scz_0
  have c0 : ∀ p k, p ≠ 0 → p ≠ 2 → ct0 p k = 0 := fun p k h1 h2 => by simp [ct0, h1, h2]
  have n13 : ct0 0 13 = 0 := rfl
  have n14 : ct0 0 14 = 0 := rfl
  refine ⟨2, 11, ct0, ([], []), by omega, rfl, rfl, g_0.2.2.2.2.2.2.2.2, ?_, ⟨scz ct0, fun _ => [], 0, 0, fun _ _ => 0, fun _ _ => [], 0, fun _ => 0, fun _ => 0, fun _ => 0, ?_, ?_, ?_, ?_, rfl, ?_, rfl, ?_⟩, rfl, Or.inl rfl, ?_, rfl⟩
  · exact ⟨sM3.2 1 (by omega) (by omega), sM3.2 2 (by omega) (by omega), sM3.1, sM3.2 4 (by omega) (by omega), sM3.2 5 (by omega) (by omega), fun b hb => by omega, fun b hb => by omega, fun b hb => by omega, fun k hk => absurd hk (Nat.not_lt_zero k), fun k hk => absurd hk (Nat.not_lt_zero k), by simp, by simp⟩
  · refine ⟨by omega, rfl, rfl, ⟨rfl, rfl, rfl, fun b hb => by omega, fun b hb => by omega, fun b hb => by omega, fun h _ => by rw [c0 _ _ (by omega) (by omega)]; rfl, fun b hb => by omega, fun b hb => by omega, fun h _ => by rw [c0 _ _ (by omega) (by omega)]; rfl, ⟨0, rfl, rfl, by simp, fun k hk => absurd hk (Nat.not_lt_zero k)⟩, ⟨0, rfl, rfl, by simp, fun k hk => absurd hk (Nat.not_lt_zero k)⟩⟩, fun k _ => by rw [z]; rfl, g_0.1, fun k => by rw [z]; omega⟩
  · refine ⟨by rw [z]; rfl, by rw [z]; rfl, fun b hb => by omega, fun b hb => by omega, fun b hb => by omega, fun b hb => by omega, fun b hb => by omega, fun h hh => ?_⟩
    rw [z]
    unfold rowOf
    rw [if_neg (by omega), if_neg (by omega), if_neg (by omega), if_neg (by omega), if_neg (by omega), if_neg (by omega), if_neg (by omega)]
    exact sMr (by omega) _
  · exact ⟨scz_I g_0, fun s hs => by omega, fun k => by rw [z]; omega, by rw [z]; omega, by rw [z]; omega⟩
  · exact ⟨by omega, by omega, rfl, rfl, fun i hi => absurd hi (Nat.not_lt_zero i)⟩
  · exact ⟨by omega, rfl, fun i hi => absurd hi (Nat.not_lt_zero i)⟩
  · intro k hk
    rw [sMr (by omega)]
    rfl
  · exact ⟨0, by omega, rfl, rfl, fun i hi => absurd hi (Nat.not_lt_zero i), rfl⟩
theorem lk1 {n : Nat} (hn : 5000 ≤ n) {j : Nat} {σ μ : sp_St} (hj : j < 512) (h : Inv j σ μ) (a1 a2 a3 a4 a5 : Int32) : ∃ τ υ, LK1 n σ μ a1 a2 a3 a4 a5 = some (τ, υ) ∧ Inv (j + 1) τ υ := lkR (op_city hn h a1) kx2
theorem lk_all (j : Nat) (σ μ : sp_St) (op a1 a2 a3 a4 a5 : Int32) (hj : j < 512) (h : Inv j σ μ) : ∃ τ υ, LK 5000 op σ μ a1 a2 a3 a4 a5 = some (τ, υ) ∧ Inv (j + 1) τ υ := lk_step (Nat.le_refl _) (fun hj h a1 a2 a3 a4 a5 => lk1 (Nat.le_refl _) hj h a1 a2 a3 a4 a5) hj h op a1 a2 a3 a4 a5
