theorem kx3 (τ : sp_St) (k : Nat) (e : Int32) (h : kd3 k = some e) : (if k = 1 then some (τ, (1 : Int32)) else sp_ck (decide (k = 2)) <| some (τ, (2 : Int32))) = some (τ, e) := by
  unfold kd3 at h
  split at h
  · next hk => subst hk; cases h; rfl
  · split at h
    · next hk => subst hk; cases h; rfl
    · cases h
section
variable {n j : Nat} {σ μ : sp_St}
theorem lkU {x : Option (sp_St × sp_St)} (h : ∃ τ υ, x = some (τ, υ) ∧ Inv j τ υ) : ∃ τ υ, x = some (τ, υ) ∧ Inv (j + 1) τ υ := by
  obtain ⟨τ, υ, h1, h2⟩ := h
  exact ⟨τ, υ, h1, Inv_mono (by omega) h2⟩
theorem lk2 (hn : 5000 ≤ n) (hj : j < 512) (h : Inv j σ μ) (a1 a2 a3 a4 a5 : Int32) : ∃ τ υ, LK2 n σ μ a1 a2 a3 a4 a5 = some (τ, υ) ∧ Inv (j + 1) τ υ := by
  have hn1 : 1000 ≤ n := by omega
  exact lkU (lkI (op_fault h))
theorem lk3 (hn : 5000 ≤ n) (hj : j < 512) (h : Inv j σ μ) (a1 a2 a3 a4 a5 : Int32) : ∃ τ υ, LK3 n σ μ a1 a2 a3 a4 a5 = some (τ, υ) ∧ Inv (j + 1) τ υ := by
  have hn1 : 1000 ≤ n := by omega
  exact lkU (lkR (op_count hn1 h a1) kx1)
theorem lk4 (hn : 5000 ≤ n) (hj : j < 512) (h : Inv j σ μ) (a1 a2 a3 a4 a5 : Int32) : ∃ τ υ, LK4 n σ μ a1 a2 a3 a4 a5 = some (τ, υ) ∧ Inv (j + 1) τ υ := by
  have hn1 : 1000 ≤ n := by omega
  exact lkU (lkR (op_blade hn1 h a1 a2) kx1)
theorem lk5 (hn : 5000 ≤ n) (hj : j < 512) (h : Inv j σ μ) (a1 a2 a3 a4 a5 : Int32) : ∃ τ υ, LK5 n σ μ a1 a2 a3 a4 a5 = some (τ, υ) ∧ Inv (j + 1) τ υ := by
  have hn1 : 1000 ≤ n := by omega
  exact lkU (lkR (op_throat hn1 h a1 a2) kx1)
theorem lk7 (hn : 5000 ≤ n) (hj : j < 512) (h : Inv j σ μ) (a1 a2 a3 a4 a5 : Int32) : ∃ τ υ, LK7 n σ μ a1 a2 a3 a4 a5 = some (τ, υ) ∧ Inv (j + 1) τ υ := by
  have hn1 : 1000 ≤ n := by omega
  exact lkI (op_days hn h a1)
theorem lk8 (hn : 5000 ≤ n) (hj : j < 512) (h : Inv j σ μ) (a1 a2 a3 a4 a5 : Int32) : ∃ τ υ, LK8 n σ μ a1 a2 a3 a4 a5 = some (τ, υ) ∧ Inv (j + 1) τ υ := by
  have hn1 : 1000 ≤ n := by omega
  exact lkR (op_swallow hn hj h a1 a2) kx1
theorem lk9 (hn : 5000 ≤ n) (hj : j < 512) (h : Inv j σ μ) (a1 a2 a3 a4 a5 : Int32) : ∃ τ υ, LK9 n σ μ a1 a2 a3 a4 a5 = some (τ, υ) ∧ Inv (j + 1) τ υ := by
  have hn1 : 1000 ≤ n := by omega
  exact lkR (op_draw hn h a1) kx1
theorem lk10 (hn : 5000 ≤ n) (hj : j < 512) (h : Inv j σ μ) (a1 a2 a3 a4 a5 : Int32) : ∃ τ υ, LK10 n σ μ a1 a2 a3 a4 a5 = some (τ, υ) ∧ Inv (j + 1) τ υ := by
  have hn1 : 1000 ≤ n := by omega
  exact lkR (op_broth hn h a1 a2) kx1
theorem lk12 (hn : 5000 ≤ n) (hj : j < 512) (h : Inv j σ μ) (a1 a2 a3 a4 a5 : Int32) : ∃ τ υ, LK12 n σ μ a1 a2 a3 a4 a5 = some (τ, υ) ∧ Inv (j + 1) τ υ := by
  have hn1 : 1000 ≤ n := by omega
  exact lkI (op_undo hn h)
theorem lk13 (hn : 5000 ≤ n) (hj : j < 512) (h : Inv j σ μ) (a1 a2 a3 a4 a5 : Int32) : ∃ τ υ, LK13 n σ μ a1 a2 a3 a4 a5 = some (τ, υ) ∧ Inv (j + 1) τ υ := by
  have hn1 : 1000 ≤ n := by omega
  exact lkU (lkR (op_then hn h a1 a2 a3) kx3)
theorem lk14 (hn : 5000 ≤ n) (hj : j < 512) (h : Inv j σ μ) (a1 a2 a3 a4 a5 : Int32) : ∃ τ υ, LK14 n σ μ a1 a2 a3 a4 a5 = some (τ, υ) ∧ Inv (j + 1) τ υ := by
  have hn1 : 1000 ≤ n := by omega
  exact lkU (lkI (op_peace hn h))
theorem lk15 (hn : 5000 ≤ n) (hj : j < 512) (h : Inv j σ μ) (a1 a2 a3 a4 a5 : Int32) : ∃ τ υ, LK15 n σ μ a1 a2 a3 a4 a5 = some (τ, υ) ∧ Inv (j + 1) τ υ := by
  have hn1 : 1000 ≤ n := by omega
  exact lkU (lkR (op_fights hn h a1) kx2)
theorem lk16 (hn : 5000 ≤ n) (hj : j < 512) (h : Inv j σ μ) (a1 a2 a3 a4 a5 : Int32) : ∃ τ υ, LK16 n σ μ a1 a2 a3 a4 a5 = some (τ, υ) ∧ Inv (j + 1) τ υ := by
  have hn1 : 1000 ≤ n := by omega
  exact lkU (lkR (op_rests hn h a1) kx1)
theorem lk17 (hn : 5000 ≤ n) (hj : j < 512) (h : Inv j σ μ) (a1 a2 a3 a4 a5 : Int32) : ∃ τ υ, LK17 n σ μ a1 a2 a3 a4 a5 = some (τ, υ) ∧ Inv (j + 1) τ υ := by
  have hn1 : 1000 ≤ n := by omega
  exact lkU (lkR (op_worst hn h a1) kx2)
theorem lk20 (hn : 5000 ≤ n) (hj : j < 512) (h : Inv j σ μ) (a1 a2 a3 a4 a5 : Int32) : ∃ τ υ, LK20 n σ μ a1 a2 a3 a4 a5 = some (τ, υ) ∧ Inv (j + 1) τ υ := by
  have hn1 : 1000 ≤ n := by omega
  exact lkU (lkR (op_toDraw hn1 h a1) kx1)
theorem lk21 (hn : 5000 ≤ n) (hj : j < 512) (h : Inv j σ μ) (a1 a2 a3 a4 a5 : Int32) : ∃ τ υ, LK21 n σ μ a1 a2 a3 a4 a5 = some (τ, υ) ∧ Inv (j + 1) τ υ := by
  have hn1 : 1000 ≤ n := by omega
  exact lkU (lkR (op_toSwallow hn hj h a1) kx1)
theorem lk24 (hn : 5000 ≤ n) (hj : j < 512) (h : Inv j σ μ) (a1 a2 a3 a4 a5 : Int32) : ∃ τ υ, LK24 n σ μ a1 a2 a3 a4 a5 = some (τ, υ) ∧ Inv (j + 1) τ υ := by
  have hn1 : 1000 ≤ n := by omega
  exact lkU (lkR (op_grudge hn1 h a1) kx1)
theorem lk25 (hn : 5000 ≤ n) (hj : j < 512) (h : Inv j σ μ) (a1 a2 a3 a4 a5 : Int32) : ∃ τ υ, LK25 n σ μ a1 a2 a3 a4 a5 = some (τ, υ) ∧ Inv (j + 1) τ υ := by
  have hn1 : 1000 ≤ n := by omega
  exact lkU (lkR (op_foes hn1 h a1 a2) kx1)
theorem lk26 (hn : 5000 ≤ n) (hj : j < 512) (h : Inv j σ μ) (a1 a2 a3 a4 a5 : Int32) : ∃ τ υ, LK26 n σ μ a1 a2 a3 a4 a5 = some (τ, υ) ∧ Inv (j + 1) τ υ := by
  have hn1 : 1000 ≤ n := by omega
  exact lkU (lkI (op_parts hn h))
theorem lk27 (hn : 5000 ≤ n) (hj : j < 512) (h : Inv j σ μ) (a1 a2 a3 a4 a5 : Int32) : ∃ τ υ, LK27 n σ μ a1 a2 a3 a4 a5 = some (τ, υ) ∧ Inv (j + 1) τ υ := by
  have hn1 : 1000 ≤ n := by omega
  exact lkU (lkR (op_calm hn h a1) kx2)
theorem lk28 (hn : 5000 ≤ n) (hj : j < 512) (h : Inv j σ μ) (a1 a2 a3 a4 a5 : Int32) : ∃ τ υ, LK28 n σ μ a1 a2 a3 a4 a5 = some (τ, υ) ∧ Inv (j + 1) τ υ := by
  have hn1 : 1000 ≤ n := by omega
  exact lkU (lkR (op_lacks hn1 h a1) kx1)
theorem lk29 (hn : 5000 ≤ n) (hj : j < 512) (h : Inv j σ μ) (a1 a2 a3 a4 a5 : Int32) : ∃ τ υ, LK29 n σ μ a1 a2 a3 a4 a5 = some (τ, υ) ∧ Inv (j + 1) τ υ := by
  have hn1 : 1000 ≤ n := by omega
  exact lkU (lkR (op_above hn1 h a1) kx1)
theorem lk30 (hn : 5000 ≤ n) (hj : j < 512) (h : Inv j σ μ) (a1 a2 a3 a4 a5 : Int32) : ∃ τ υ, LK30 n σ μ a1 a2 a3 a4 a5 = some (τ, υ) ∧ Inv (j + 1) τ υ := by
  have hn1 : 1000 ≤ n := by omega
  exact lkU (lkR (op_hiccup hn1 h a1) kx1)
theorem lk31 (hn : 5000 ≤ n) (hj : j < 512) (h : Inv j σ μ) (a1 a2 a3 a4 a5 : Int32) : ∃ τ υ, LK31 n σ μ a1 a2 a3 a4 a5 = some (τ, υ) ∧ Inv (j + 1) τ υ := by
  have hn1 : 1000 ≤ n := by omega
  exact lkR (op_see hn h a1 a2 a3) kx1
theorem lk32 (hn : 5000 ≤ n) (hj : j < 512) (h : Inv j σ μ) (a1 a2 a3 a4 a5 : Int32) : ∃ τ υ, LK32 n σ μ a1 a2 a3 a4 a5 = some (τ, υ) ∧ Inv (j + 1) τ υ := by
  have hn1 : 1000 ≤ n := by omega
  exact lkU (lkR (op_wrong hn h a1) kx1)
theorem lk33 (hn : 5000 ≤ n) (hj : j < 512) (h : Inv j σ μ) (a1 a2 a3 a4 a5 : Int32) : ∃ τ υ, LK33 n σ μ a1 a2 a3 a4 a5 = some (τ, υ) ∧ Inv (j + 1) τ υ := by
  have hn1 : 1000 ≤ n := by omega
  exact lkU (lkR (op_look hn h a1) kx1)
theorem lk34 (hn : 5000 ≤ n) (hj : j < 512) (h : Inv j σ μ) (a1 a2 a3 a4 a5 : Int32) : ∃ τ υ, LK34 n σ μ a1 a2 a3 a4 a5 = some (τ, υ) ∧ Inv (j + 1) τ υ := by
  have hn1 : 1000 ≤ n := by omega
  exact lkV (op_forget h)
theorem lk35 (hn : 5000 ≤ n) (hj : j < 512) (h : Inv j σ μ) (a1 a2 a3 a4 a5 : Int32) : ∃ τ υ, LK35 n σ μ a1 a2 a3 a4 a5 = some (τ, υ) ∧ Inv (j + 1) τ υ := by
  have hn1 : 1000 ≤ n := by omega
  exact lkU (lkR (op_game hn hj h a1 a2 a3) kx3)
theorem lk36 (hn : 5000 ≤ n) (hj : j < 512) (h : Inv j σ μ) (a1 a2 a3 a4 a5 : Int32) : ∃ τ υ, LK36 n σ μ a1 a2 a3 a4 a5 = some (τ, υ) ∧ Inv (j + 1) τ υ := by
  have hn1 : 1000 ≤ n := by omega
  exact lkU (lkR (op_summer hn h a1 a2 a3) kx3)
theorem lk37 (hn : 5000 ≤ n) (hj : j < 512) (h : Inv j σ μ) (a1 a2 a3 a4 a5 : Int32) : ∃ τ υ, LK37 n σ μ a1 a2 a3 a4 a5 = some (τ, υ) ∧ Inv (j + 1) τ υ := by
  have hn1 : 1000 ≤ n := by omega
  exact lkV (op_image hn h)
theorem lk38 (hn : 5000 ≤ n) (hj : j < 512) (h : Inv j σ μ) (a1 a2 a3 a4 a5 : Int32) : ∃ τ υ, LK38 n σ μ a1 a2 a3 a4 a5 = some (τ, υ) ∧ Inv (j + 1) τ υ := by
  have hn1 : 1000 ≤ n := by omega
  exact lkI (op_restore hn h)
end
