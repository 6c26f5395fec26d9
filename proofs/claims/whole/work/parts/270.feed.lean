theorem isc_ge {c : Nat} (h : sp_isc c = true) : 2 ≤ c := by
  simp [sp_isc] at h
  omega
theorem qSC_q2 {σ τ : sp_St} {t c : Nat} {ct : Nat → Nat → Nat} {cd : List Nat × List Nat} {sc : Nat → Nat} (hc : ∀ p, 2 ≤ p → p ≤ 19 → τ.1 p = σ.1 p ∧ τ.2.2.1 p = σ.2.2.1 p) (ht : τ.2.1 t 0 = σ.2.1 t 0) (hr : τ.2.2.1 (t + 1) = σ.2.2.1 (t + 1)) (h : qSC σ t c ct cd sc) : qSC τ t c ct cd sc := by
  obtain ⟨h1, h2, h3, h4, h5, h6⟩ := h
  have hc11 := isc_le h3
  have hc2 := isc_ge h3
  refine ⟨h1, by rw [ht]; exact h2, h3, ?_, by rw [hr]; exact h5, h6⟩
  unfold qC qR at *
  rw [(hc c (by omega) (by omega)).1, (hc (c + 1) (by omega) (by omega)).2, (hc (c + 2) (by omega) (by omega)).2, (hc (c + 3) (by omega) (by omega)).2, (hc (c + 4) (by omega) (by omega)).2, (hc (c + 5) (by omega) (by omega)).2, (hc (c + 6) (by omega) (by omega)).2, (hc (c + 7) (by omega) (by omega)).2, (hc (c + 8) (by omega) (by omega)).2]
  exact h4
theorem Chr_q2 {σ τ : sp_St} {t c j : Nat} {ct : Nat → Nat → Nat} {cd : List Nat × List Nat} {row past rb rd ra rs : Nat → Int32} {acts seen : Int32} (ht : t = 22 ∨ t = 36) (gp : ∀ p, 2 ≤ p → τ.1 p = σ.1 p ∧ τ.2.1 p = σ.2.1 p ∧ τ.2.2.1 p = σ.2.2.1 p) (h : Chr σ t c ct cd j row past rb rd ra rs acts seen) : Chr τ t c ct cd j row past rb rd ra rs acts seen := by
  obtain ⟨sc, stk, m, nr, hs, ht', s, sb, sd, sa, h1, h2, h3, h4, h5, h6, h7, h8⟩ := h
  have k0 := gp t (by omega)
  have k1 := gp (t + 1) (by omega)
  have k2 := gp (t + 1 + 1) (by omega)
  have k8 := gp (t + 8) (by omega)
  have k9 := gp (t + 9) (by omega)
  have k10 := gp (t + 10) (by omega)
  have k11 := gp (t + 11) (by omega)
  have k12 := gp (t + 12) (by omega)
  have k13 := gp (t + 13) (by omega)
  refine ⟨sc, stk, m, nr, hs, ht', s, sb, sd, sa, qSC_q2 (fun p hp _ => ⟨(gp p hp).1, (gp p hp).2.2⟩) (by rw [k1.2.1]) k2.2.2 h1, h2, h3, ?_, h5, ?_, h7, ?_⟩
  · unfold cHs at *
    rw [k0.1, k13.2.2]
    exact h4
  · unfold cSe at *
    rw [k8.1, k9.2.2, k10.2.2, k11.2.2]
    exact h6
  · rw [k12.2.2]
    exact h8
/-- the tape has grown, all else is as it was -/
def Tp (σ μ τ ν : sp_St) (tp : Nat) : Prop := tp ≤ 700 ∧ τ.1 0 1 = nI tp ∧ ν.1 0 15 = nI tp ∧ (∀ i, i < tp → τ.2.2.1 1 i = ν.2.2.1 13 i ∧ ∃ b, b < 256 ∧ τ.2.2.1 1 i = nI b) ∧ τ.2.1 = σ.2.1 ∧ (∀ p k, ¬ (p = 0 ∧ k = 1) → τ.1 p k = σ.1 p k) ∧ (∀ p, p ≠ 1 → τ.2.2.1 p = σ.2.2.1 p) ∧ (∀ k, k ≠ 15 → ν.1 0 k = μ.1 0 k) ∧ ∀ p, p ≠ 13 → ν.2.2.1 p = μ.2.2.1 p
theorem Inv_Tp {j tp : Nat} {σ μ τ ν : sp_St} (h : Inv j σ μ) (g : Tp σ μ τ ν tp) : Inv j τ ν := by
  obtain ⟨g1, g2, g3, g4, g5, g6, g7, g8, g9⟩ := g
  obtain ⟨c, d, ct, cd, h1, h2, h3, h4, h5, h6, h7, h8, h9, h10⟩ := h
  have gp : ∀ p, 2 ≤ p → τ.1 p = σ.1 p ∧ τ.2.1 p = σ.2.1 p ∧ τ.2.2.1 p = σ.2.2.1 p := fun p hp => ⟨by funext k; exact g6 p k (by omega), by rw [g5], g7 p (by omega)⟩
  have er : rowOf ν = rowOf μ := by
    funext x
    unfold rowOf
    rw [g8 33 (by omega), g8 34 (by omega), g9 14 (by omega), g9 15 (by omega), g9 16 (by omega), g9 17 (by omega), g9 18 (by omega), g9 19 (by omega)]
  refine ⟨c, d, ct, cd, h1, by rw [g5]; exact h2, by rw [g5]; exact h3, h4, ?_, ?_, ?_, ?_, ?_, ?_⟩
  · unfold mC at *
    rw [g9 3 (by omega), g9 7 (by omega), g9 8 (by omega), g9 6 (by omega), g9 10 (by omega), g9 11 (by omega)]
    exact h5
  · rw [er, g9 20 (by omega), g9 29 (by omega), g9 30 (by omega), g9 31 (by omega), g9 12 (by omega), g8 35 (by omega), g8 36 (by omega)]
    exact Chr_q2 (by omega) gp h6
  · rw [g6 0 8 (by omega), g8 55 (by omega)]; exact h7
  · rw [g8 55 (by omega), g9 37 (by omega), g9 38 (by omega), g9 39 (by omega), g9 40 (by omega), g9 41 (by omega), g9 42 (by omega), g8 56 (by omega), g8 57 (by omega)]
    rcases h8 with h8 | ⟨h8, h8'⟩
    · exact Or.inl h8
    · exact Or.inr ⟨h8, Chr_q2 (by omega) gp h8'⟩
  · obtain ⟨_, _, _, _, _, h67⟩ := h9
    exact ⟨tp, g1, g2, g3, g4, by rw [g7 67 (by omega)]; exact h67⟩
  · rw [g6 0 2 (by omega), g8 24 (by omega)]; exact h10
def apC (σ : sp_St) (tp : Nat) (v : Int32) : sp_St := sp_si (sp_sa σ 1 tp v) 0 1 (nI (tp + 1))
def apM (μ : sp_St) (tp : Nat) (v : Int32) : sp_St := sp_si (sp_sa μ 13 tp v) 0 15 (nI (tp + 1))
theorem Tp_s {σ μ τ ν : sp_St} {tp b : Nat} (h : Tp σ μ τ ν tp) (ht : tp < 700) (hb : b < 256) : Tp σ μ (apC τ tp (nI b)) (apM ν tp (nI b)) (tp + 1) := by
  obtain ⟨g1, g2, g3, g4, g5, g6, g7, g8, g9⟩ := h
  refine ⟨by omega, sp_si_eq, sp_si_eq, fun i hi => ?_, g5, fun p k hpk => ?_, fun p hp => ?_, fun k hk => ?_, fun p hp => ?_⟩
  · show (sp_sa τ 1 tp (nI b)).2.2.1 1 i = (sp_sa ν 13 tp (nI b)).2.2.1 13 i ∧ ∃ b', b' < 256 ∧ (sp_sa τ 1 tp (nI b)).2.2.1 1 i = nI b'
    by_cases e : i = tp
    · subst e
      rw [sp_sa_eq, sp_sa_eq]
      exact ⟨rfl, b, hb, rfl⟩
    · rw [sp_sa_nj e, sp_sa_nj e]
      exact g4 i (by omega)
  · show (sp_si (sp_sa τ 1 tp (nI b)) 0 1 (nI (tp + 1))).1 p k = _
    rw [sp_si_g, if_neg hpk]
    exact g6 p k hpk
  · show (sp_sa τ 1 tp (nI b)).2.2.1 p = _
    rw [← g7 p hp]
    funext y; rw [sp_sa_np hp]
  · show (sp_si (sp_sa ν 13 tp (nI b)) 0 15 (nI (tp + 1))).1 0 k = _
    rw [sp_si_g, if_neg (by omega)]
    exact g8 k hk
  · show (sp_sa ν 13 tp (nI b)).2.2.1 p = _
    rw [← g9 p hp]
    funext y; rw [sp_sa_np hp]
