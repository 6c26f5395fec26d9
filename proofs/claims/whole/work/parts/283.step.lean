theorem lk_step {n : Nat} (hn : 5000 ≤ n) (c1 : ∀ {j : Nat} {σ μ : sp_St}, j < 512 → Inv j σ μ → ∀ a1 a2 a3 a4 a5 : Int32, ∃ τ υ, LK1 n σ μ a1 a2 a3 a4 a5 = some (τ, υ) ∧ Inv (j + 1) τ υ) {j : Nat} {σ μ : sp_St} (hj : j < 512) (h : Inv j σ μ) (op a1 a2 a3 a4 a5 : Int32) : ∃ τ υ, LK n op σ μ a1 a2 a3 a4 a5 = some (τ, υ) ∧ Inv (j + 1) τ υ := by
  unfold LK
  by_cases e0 : op = 0
  · rw [if_pos e0]; exact lkU (lk0 hn h a1 a2 a3 a4 a5)
  rw [if_neg e0]
  by_cases e1 : op = 1
  · rw [if_pos e1]; exact c1 hj h a1 a2 a3 a4 a5
  rw [if_neg e1]
  by_cases e2 : op = 2
  · rw [if_pos e2]; exact lk2 hn hj h a1 a2 a3 a4 a5
  rw [if_neg e2]
  by_cases e3 : op = 3
  · rw [if_pos e3]; exact lk3 hn hj h a1 a2 a3 a4 a5
  rw [if_neg e3]
  by_cases e4 : op = 4
  · rw [if_pos e4]; exact lk4 hn hj h a1 a2 a3 a4 a5
  rw [if_neg e4]
  by_cases e5 : op = 5
  · rw [if_pos e5]; exact lk5 hn hj h a1 a2 a3 a4 a5
  rw [if_neg e5]
  by_cases e6 : op = 6
  · rw [if_pos e6]; exact lk6 hn hj h a1 a2 a3 a4 a5
  rw [if_neg e6]
  by_cases e7 : op = 7
  · rw [if_pos e7]; exact lk7 hn hj h a1 a2 a3 a4 a5
  rw [if_neg e7]
  by_cases e8 : op = 8
  · rw [if_pos e8]; exact lk8 hn hj h a1 a2 a3 a4 a5
  rw [if_neg e8]
  by_cases e9 : op = 9
  · rw [if_pos e9]; exact lk9 hn hj h a1 a2 a3 a4 a5
  rw [if_neg e9]
  by_cases e10 : op = 10
  · rw [if_pos e10]; exact lk10 hn hj h a1 a2 a3 a4 a5
  rw [if_neg e10]
  by_cases e11 : op = 11
  · rw [if_pos e11]; exact lk11 hn hj h a1 a2 a3 a4 a5
  rw [if_neg e11]
  by_cases e12 : op = 12
  · rw [if_pos e12]; exact lk12 hn hj h a1 a2 a3 a4 a5
  rw [if_neg e12]
  by_cases e13 : op = 13
  · rw [if_pos e13]; exact lk13 hn hj h a1 a2 a3 a4 a5
  rw [if_neg e13]
  by_cases e14 : op = 14
  · rw [if_pos e14]; exact lk14 hn hj h a1 a2 a3 a4 a5
  rw [if_neg e14]
  by_cases e15 : op = 15
  · rw [if_pos e15]; exact lk15 hn hj h a1 a2 a3 a4 a5
  rw [if_neg e15]
  by_cases e16 : op = 16
  · rw [if_pos e16]; exact lk16 hn hj h a1 a2 a3 a4 a5
  rw [if_neg e16]
  by_cases e17 : op = 17
  · rw [if_pos e17]; exact lk17 hn hj h a1 a2 a3 a4 a5
  rw [if_neg e17]
  by_cases e18 : op = 18
  · rw [if_pos e18]; exact lkU (lk18 hn h a1 a2 a3 a4 a5)
  rw [if_neg e18]
  by_cases e19 : op = 19
  · rw [if_pos e19]; exact lkU (lk19 hn h a1 a2 a3 a4 a5)
  rw [if_neg e19]
  by_cases e20 : op = 20
  · rw [if_pos e20]; exact lk20 hn hj h a1 a2 a3 a4 a5
  rw [if_neg e20]
  by_cases e21 : op = 21
  · rw [if_pos e21]; exact lk21 hn hj h a1 a2 a3 a4 a5
  rw [if_neg e21]
  by_cases e22 : op = 22
  · rw [if_pos e22]; exact lkU (lk22 hn h a1 a2 a3 a4 a5)
  rw [if_neg e22]
  by_cases e23 : op = 23
  · rw [if_pos e23]; exact lkU (lk23 hn h a1 a2 a3 a4 a5)
  rw [if_neg e23]
  by_cases e24 : op = 24
  · rw [if_pos e24]; exact lk24 hn hj h a1 a2 a3 a4 a5
  rw [if_neg e24]
  by_cases e25 : op = 25
  · rw [if_pos e25]; exact lk25 hn hj h a1 a2 a3 a4 a5
  rw [if_neg e25]
  by_cases e26 : op = 26
  · rw [if_pos e26]; exact lk26 hn hj h a1 a2 a3 a4 a5
  rw [if_neg e26]
  by_cases e27 : op = 27
  · rw [if_pos e27]; exact lk27 hn hj h a1 a2 a3 a4 a5
  rw [if_neg e27]
  by_cases e28 : op = 28
  · rw [if_pos e28]; exact lk28 hn hj h a1 a2 a3 a4 a5
  rw [if_neg e28]
  by_cases e29 : op = 29
  · rw [if_pos e29]; exact lk29 hn hj h a1 a2 a3 a4 a5
  rw [if_neg e29]
  by_cases e30 : op = 30
  · rw [if_pos e30]; exact lk30 hn hj h a1 a2 a3 a4 a5
  rw [if_neg e30]
  by_cases e31 : op = 31
  · rw [if_pos e31]; exact lk31 hn hj h a1 a2 a3 a4 a5
  rw [if_neg e31]
  by_cases e32 : op = 32
  · rw [if_pos e32]; exact lk32 hn hj h a1 a2 a3 a4 a5
  rw [if_neg e32]
  by_cases e33 : op = 33
  · rw [if_pos e33]; exact lk33 hn hj h a1 a2 a3 a4 a5
  rw [if_neg e33]
  by_cases e34 : op = 34
  · rw [if_pos e34]; exact lk34 hn hj h a1 a2 a3 a4 a5
  rw [if_neg e34]
  by_cases e35 : op = 35
  · rw [if_pos e35]; exact lk35 hn hj h a1 a2 a3 a4 a5
  rw [if_neg e35]
  by_cases e36 : op = 36
  · rw [if_pos e36]; exact lk36 hn hj h a1 a2 a3 a4 a5
  rw [if_neg e36]
  by_cases e37 : op = 37
  · rw [if_pos e37]; exact lk37 hn hj h a1 a2 a3 a4 a5
  rw [if_neg e37]
  by_cases e38 : op = 38
  · rw [if_pos e38]; exact lk38 hn hj h a1 a2 a3 a4 a5
  rw [if_neg e38]
  exact ⟨σ, μ, rfl, Inv_mono (by omega) h⟩
