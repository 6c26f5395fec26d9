-- ===== look: the reference's =====
def sA (x : Nat → Nat) : Nat → Nat → Bool
  | 0, _ => false
  | z + 1, v => sA x z v || decide (x z = v)
theorem sA_cong {x y : Nat → Nat} : ∀ {z : Nat}, (∀ k, k < z → x k = y k) → sA x z = sA y z := by
  intro z
  induction z with
  | zero => intro _; rfl
  | succ z ih =>
    intro h
    funext v
    rw [sA, sA, ih (fun k hk => h k (by omega)), h z (by omega)]
theorem sA_fL {P : Nat → Bool} {S : Nat → Nat → Nat} {i : Nat} : ∀ q, sA (fun z => S ((fL P q).getD z 0) i) (fL P q).length = an P S q i := by
  intro q
  induction q with
  | zero => rfl
  | succ q ih =>
    funext v
    rw [an, ← ih, fL]
    by_cases p : P q = true
    · rw [if_pos p, List.length_append]
      show sA _ ((fL P q).length + 1) v = _
      rw [sA, gd_r, p, sA_cong (y := fun z => S ((fL P q).getD z 0) i) (fun k hk => by rw [gd_l hk])]
      simp
    · rw [if_neg p]
      have : P q = false := by simpa using p
      rw [this]; simp
theorem sA_100 {x : Nat → Nat} : ∀ z, (∀ k, k < z → x k ≤ 99) → ∀ v, 100 ≤ v → sA x z v = false := by
  intro z
  induction z with
  | zero => intro _ v _; rfl
  | succ z ih =>
    intro h v hv
    have := h z (by omega)
    rw [sA, ih (fun k hk => h k (by omega)) v hv, decide_eq_false (by omega)]; rfl
theorem qc_0 {P : Nat → Bool} : ∀ {N : Nat}, (∀ k, k < N → P k = false) → qc P N = 0 := by
  intro N
  induction N with
  | zero => intro _; rfl
  | succ N ih => intro h; rw [qc_s, ih (fun k hk => h k (by omega)), h N (by omega)]; rfl
theorem aD_100 {a : Nat → Nat → Bool} {i : Nat} (h : ∀ v, 100 ≤ v → a i v = false) : aD a i = qc (a i) 100 := by
  unfold aD
  have e1 : qc (a i) 100 = qc (a i) 64 + qc (fun k => a i (64 + k)) 36 := qc_add (a i) 64 36
  have e2 : qc (fun k => a i (64 * 1 + k)) 64 = qc (fun k => a i (64 * 1 + k)) 36 + qc (fun k => a i (64 * 1 + (36 + k))) 28 := qc_add (fun k => a i (64 * 1 + k)) 36 28
  have e3 : qc (fun k => a i (64 * 1 + (36 + k))) 28 = 0 := qc_0 fun k _ => h _ (by omega)
  have e4 : qc (fun k => a i (64 * 0 + k)) 64 = qc (a i) 64 := qc_cong fun k _ => by rw [show 64 * 0 + k = k by omega]
  rw [e4, e2, e3, e1]; rfl
section
variable {n j c s : Nat} {σ μ : sp_St} {ct : Nat → Nat → Nat} {cd : List Nat × List Nat} {sc : Nat → Nat} {stk : Nat → List Nat} {sb sd sa : Nat → Nat}
theorem rq_unlike {i L : Nat} {x : Nat → Nat} (hn : 1100 ≤ n) (hi : i < 10) (hL : L ≤ 1000) (h51 : μ.1 0 51 = nI L) (h34 : ∀ z, z < L → μ.2.2.1 34 (10 * z + i) = nI (x z)) (h99 : ∀ z, z < L → x z ≤ 99) : ∃ ν, X12_unlike n μ (nI i) = some (ν, nI (qc (sA x L) 100)) ∧ ν.1 = μ.1 ∧ ν.2.1 = μ.2.1 ∧ ∀ p, p ≠ 35 → ν.2.2.1 p = μ.2.2.1 p := by
  have loop : ∀ f z ν, z ≤ L → L - z < f → ν.1 = μ.1 → ν.2.1 = μ.2.1 → (∀ p, p ≠ 35 → ν.2.2.1 p = μ.2.2.1 p) → (∀ v, v < 100 → ν.2.2.1 35 v = if sA x z v then nI 1 else nI 0) → ∃ ν', X12_unlike_25 n f ν (nI i) (nI (qc (sA x z) 100)) (nI z) = some (ν', nI (qc (sA x L) 100)) ∧ ν'.1 = μ.1 ∧ ν'.2.1 = μ.2.1 ∧ ∀ p, p ≠ 35 → ν'.2.2.1 p = μ.2.2.1 p := by
    intro f
    induction f with
    | zero => intro z ν _ hf; omega
    | succ f ih =>
      intro z ν hz hf g1 g2 g3 g4
      rw [X12_unlike_25, g1, h51]
      by_cases e : z = L
      · subst e
        exact ⟨ν, by rw [if_pos (Int32.le_refl _), X12_unlike_78], g1, g2, g3⟩
      · have hz2 : z < L := by omega
        have h9 := h99 z hz2
        have ex : sp_g ν 34 (nI (10 * z + i)) = nI (x z) := by rw [qn_g (by omega), g3 34 (by omega)]; exact h34 z hz2
        have e35 : sp_g ν 35 (nI (x z)) = if sA x z (x z) then nI 1 else nI 0 := by rw [qn_g (by omega)]; exact g4 (x z) (by omega)
        rw [if_neg (nI_ge hz2 (by omega)), show (10 : Int32) * nI z = nI (10 * z) from pk_mul 10 z, nI_add, qn_in (by omega) (by omega), sp_ckt, ex, sp_pl, qn_in (by omega) (by omega), sp_ckt, e35, sp_pl, sp_pl, sp_ckt, nI_clamp (by omega), sp_pl, sp_pl, nI_1]
        have tab : ∀ v, v < 100 → (sp_sa ν 35 (x z) 1).2.2.1 35 v = if sA x (z + 1) v then nI 1 else nI 0 := fun v hv => by
          rw [sA]
          by_cases ev : v = x z
          · subst ev; rw [sp_sa_eq]; simp; rfl
          · rw [sp_sa_nj ev, g4 v hv]
            have : ¬ x z = v := fun h => ev h.symm
            simp [this]
        have cnt : nI (qc (sA x z) 100) + (if (if sA x z (x z) then nI 1 else nI 0) = 0 then (1 : Int32) else 0) = nI (qc (sA x (z + 1)) 100) := by
          cases p : sA x z (x z) with
          | true =>
            have : sA x (z + 1) = sA x z := by
              funext v
              rw [sA]
              by_cases ev : x z = v
              · subst ev; rw [p]; rfl
              · simp [ev]
            rw [this, if_pos rfl, if_neg n10]
            exact Int32.add_zero _
          | false =>
            have : qc (sA x (z + 1)) 100 = qc (sA x z) 100 + 1 := by
              rw [← qc_ins (P := sA x z) (a := x z) p (by omega : x z < 100)]
              refine qc_cong fun k _ => ?_
              rw [sA, Bool.or_comm]
              congr 1
              exact decide_eq_decide.mpr ⟨fun h => h.symm, fun h => h.symm⟩
            rw [this, show (if false = true then nI 1 else nI 0) = nI 0 from rfl, if_pos n00]
            exact nI_1 _
        rw [cnt]
        exact ih (z + 1) _ (by omega) (by omega) g1 g2 (fun p hp => by
          rw [← g3 p hp]
          funext y; rw [sp_sa_np hp]) tab
  have zero : ∀ f k ν, k ≤ 100 → 100 - k < f → ν.1 = μ.1 → ν.2.1 = μ.2.1 → (∀ p, p ≠ 35 → ν.2.2.1 p = μ.2.2.1 p) → (∀ v, v < k → ν.2.2.1 35 v = 0) → ∃ ν', X12_unlike_2 n f ν (nI i) (nI k) = some (ν', nI (qc (sA x L) 100)) ∧ ν'.1 = μ.1 ∧ ν'.2.1 = μ.2.1 ∧ ∀ p, p ≠ 35 → ν'.2.2.1 p = μ.2.2.1 p := by
    intro f
    induction f with
    | zero => intro k ν _ hf; omega
    | succ f ih =>
      intro k ν hk hf g1 g2 g3 g4
      rw [X12_unlike_2]
      by_cases e : k = 100
      · subst e
        rw [if_pos (show (99 : Int32) < nI 100 by decide), X12_unlike_21, sp_pl, sp_pl]
        have z0 : qc (sA x 0) 100 = 0 := qc_0 fun k _ => rfl
        have := loop n 0 ν (by omega) (by omega) g1 g2 g3 (fun v hv => by rw [g4 v hv]; rfl)
        rw [z0] at this
        exact this
      · rw [if_neg (show ¬ (99 : Int32) < nI k from fun hh => by
          have := (nI_ltI (a := 99) (b := k) (by omega) (by omega)).mp hh
          omega), qn_in (by omega) (by omega), sp_ckt, nI_clamp (by omega), sp_pl, sp_pl, nI_1]
        refine ih (k + 1) _ (by omega) (by omega) g1 g2 (fun p hp => by
          rw [← g3 p hp]
          funext y; rw [sp_sa_np hp]) (fun v hv => ?_)
        by_cases ev : v = k
        · subst ev; rw [sp_sa_eq]
        · rw [sp_sa_nj ev]; exact g4 v (by omega)
  rw [X12_unlike, sp_pl]
  exact zero n 0 μ (by omega) (by omega) rfl rfl (fun _ _ => rfl) (fun v hv => by omega)
end
