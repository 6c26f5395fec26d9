-- ===== the class's scene: how anger changes =====
theorem qn_max {a b : Nat} (ha : a < 2 ^ 31) (hb : b < 2 ^ 31) : sp_max (nI a) (nI b) = nI (max a b) := by
  unfold sp_max
  by_cases h : a < b
  · rw [if_pos ((nI_ltI ha hb).mpr h), Nat.max_eq_right (by omega)]
  · rw [if_neg (fun x => h ((nI_ltI ha hb).mp x)), Nat.max_eq_left (by omega)]
theorem qn_min {a b : Nat} (ha : a < 2 ^ 31) (hb : b < 2 ^ 31) : sp_min (nI a) (nI b) = nI (min a b) := by
  unfold sp_min
  by_cases h : b < a
  · rw [if_pos ((nI_ltI hb ha).mpr h), Nat.min_eq_right (by omega)]
  · rw [if_neg (fun x => h ((nI_ltI hb ha).mp x)), Nat.min_eq_left (by omega)]
theorem qc_pos {P : Nat → Bool} {k : Nat} : ∀ {N : Nat}, k < N → P k = true → 1 ≤ qc P N := by
  intro N
  induction N with
  | zero => intro h; omega
  | succ N ih =>
    intro h hp
    have e : qc P (N + 1) = qc P N + if P N then 1 else 0 := rfl
    rw [e]
    by_cases hk : k = N
    · subst hk; rw [if_pos hp]; omega
    · have := ih (by omega) hp; omega
def qclamp (x : Int32) : Nat := (sp_max (nI 0) (sp_min (nI 99) x)).toNatClampNeg
theorem qclamp_is (x : Int32) : sp_max (nI 0) (sp_min (nI 99) x) = nI (qclamp x) ∧ qclamp x ≤ 99 := by
  have e0 : (nI 0).toInt = 0 := nI_toInt (by decide)
  have e9 : (nI 99).toInt = 99 := nI_toInt (by decide)
  have h : ∃ m, m ≤ 99 ∧ sp_max (nI 0) (sp_min (nI 99) x) = nI m := by
    unfold sp_min
    by_cases h1 : x < nI 99
    · rw [if_pos h1]
      unfold sp_max
      by_cases h2 : nI 0 < x
      · rw [if_pos h2]
        have h3 : ¬ x < 0 := fun h => by
          have a1 := Int32.lt_iff_toInt_lt.mp h2
          have a2 := Int32.lt_iff_toInt_lt.mp h
          rw [e0] at a1
          have : (0 : Int32).toInt = 0 := by decide
          omega
        obtain ⟨m, hm, rfl⟩ := nI_of h3
        rw [qn_lt hm (by decide)] at h1
        exact ⟨m, by omega, rfl⟩
      · rw [if_neg h2]
        exact ⟨0, by omega, rfl⟩
    · rw [if_neg h1, qn_max (by decide) (by decide)]
      exact ⟨99, by omega, rfl⟩
  obtain ⟨m, hm, e⟩ := h
  unfold qclamp
  rw [e, nI_clamp (by omega)]
  exact ⟨rfl, hm⟩
def qfoe (ct : Nat → Nat → Nat) (sc : Nat → Nat) (b : Nat) : Nat := if sc (10 + b) = 6 then 0 else qc (fun k => decide (sc (10 + k) = sc (10 + b)) && (sc (35 + ct 1 b)).testBit (ct 1 k)) (ct 0 13)
def qval (ct : Nat → Nat → Nat) (sc : Nat → Nat) (b k : Nat) : Int32 := nI (if k = 0 then sc b else if k = 1 then ct 2 b else if k = 2 then sc 47 else if k = 3 then qfoe ct sc b else if k = 4 then qc (fun k => decide (sc (10 + k) = sc (10 + b))) (ct 0 13) - 1 else qc (fun k => decide (sc (10 + k) = sc (10 + b)) && decide (sc (20 + b) < sc (20 + k))) (ct 0 13))
/-- a rule's value -/
def qrv (v : Nat → Int32) (L : List Nat) : Int32 := (qev v L []).headD 0
def qchg (ct : Nat → Nat → Nat) (cd : List Nat × List Nat) (sc : Nat → Nat) (b : Nat) : Nat := if sc (10 + b) = 6 then 0 else if sc (10 + b) = 0 then (if cd.2.length = 0 then qfoe ct sc b else qclamp (qrv (qval ct sc b) cd.2)) else (if cd.1.length = 0 then 2 + qfoe ct sc b else qclamp (qrv (qval ct sc b) cd.1))
def qcd (cd : List Nat × List Nat) : Prop := (cd.1.length ≠ 0 → qok 40 6 cd.1 0) ∧ (cd.2.length ≠ 0 → qok 40 4 cd.2 0)
theorem qfoe_le (ct : Nat → Nat → Nat) (sc : Nat → Nat) (b : Nat) : qfoe ct sc b ≤ ct 0 13 := by
  unfold qfoe
  split
  · omega
  · exact qc_le _ _
theorem qchg_le {ct : Nat → Nat → Nat} (h : ct 0 13 ≤ 10) (cd : List Nat × List Nat) (sc : Nat → Nat) (b : Nat) : qchg ct cd sc b ≤ 99 := by
  have := qfoe_le ct sc b
  unfold qchg
  split
  · omega
  · split
    · split
      · omega
      · exact (qclamp_is _).2
    · split
      · omega
      · exact (qclamp_is _).2
/-- what places and feuds keep -/
def qP (ct : Nat → Nat → Nat) (sc : Nat → Nat) : Prop := (∀ b, b < ct 0 13 → sc (10 + b) ≤ 6) ∧ ∀ h, h < 6 → sc (41 + h) = bs (fun b => (sc (35 + h)).testBit (ct 1 b)) (ct 0 13)
/-- who is where stands in a row -/
def qat (σ : sp_St) (t : Nat) (ct : Nat → Nat → Nat) (sc : Nat → Nat) : Prop := ∀ p, p ≤ 6 → σ.2.2.1 (t + 3) p = nI (bs (fun b => decide (sc (10 + b) = p)) (ct 0 13))
theorem sp_si_eq {σ : sp_St} {p i : Nat} {v : Int32} : (sp_si σ p i v).1 p i = v := by simp [sp_si]
theorem sp_si_ne {σ : sp_St} {p i j : Nat} {v : Int32} (h : j ≠ i) : (sp_si σ p i v).1 p j = σ.1 p j := by simp [sp_si, h]
section
variable {σ : sp_St} {t c n : Nat} {ct : Nat → Nat → Nat} {cd : List Nat × List Nat} {sc : Nat → Nat}
theorem sq_lookRound (h : qSC σ t c ct cd sc) (hn : 100 ≤ n) (hP : qP ct sc) : sp_wp (X8_lookRound n σ t) (fun τ => qat τ t ct sc ∧ qfp (t + 3) (t + 3) σ τ) := by
  have hn13 := h.2.2.2.2.2.1.1
  simp only [X8_lookRound, sp_pl, qn_l]
  refine lp_inv (fun f i s => X8_lookRound_2 n t f s (nI i)) (fun i s => qfp (t + 3) (t + 3) σ s ∧ ∀ p, p < i → s.2.2.1 (t + 3) p = nI 0) 7 _ (fun f s hI => ?_) (fun f i s hi hI k => ?_) n 0 σ (by omega) (by omega) ⟨qfp_refl σ, fun p hp => by omega⟩
  · simp (disch := first | assumption | omega | exact hX _ | exact hY _ _ | exact hZ _ | fail) only [X8_lookRound_2, X8_lookRound_21, sp_pl, sp_ckt, sp_bd_s, sp_bv_s, qn_l, nI_add, qn_sub, pk_mul, qn_le, qn_lt, qn_eq, qn_in, qn_g, nI_clamp, qn_and31, qn_sl, qn_sr, qn_b0, qn_b1, sp_zb0, sp_zb1, if_true, if_false, if_pos, if_neg, reduceIte, not_true_eq_false, not_false_eq_true, decide_true, decide_false, Bool.false_eq_true, Bool.not_true, Bool.not_false, Bool.true_eq_false, eq_self, qn_meq, qn_of, show (6 : Nat) < 7 by decide]
    refine lp_inv (fun f i s => X8_lookRound_23 n t f s (nI i)) (fun i s => qfp (t + 3) (t + 3) σ s ∧ ∀ p, p ≤ 6 → s.2.2.1 (t + 3) p = nI (bs (fun b => decide (sc (10 + b) = p)) i)) (ct 0 13) _ (fun f s hI => ?_) (fun f i s hi hI k => ?_) n 0 s (by omega) (by omega) ⟨hI.1, fun p hp => hI.2 p (by omega)⟩
    · have h := qSC_oth h hI.1 (by omega) (by omega)
      have h0 := h
      obtain ⟨ht, hc, hi, ⟨hnb, hns, hpt, hA1, hA2, hA3, hA4, hA5, hA6, hA7, hR1, hR2⟩, hS, ⟨hb10, hs5, hG, hH, hL, hU, hO⟩, hB⟩ := h
      have hX := fun k => Nat.lt_trans (hB k) (by decide : (1048576 : Nat) < 2 ^ 31)
      have hY : ∀ p k, ct p k < 2 ^ 31 := fun p k => Nat.lt_trans (hG p k) (by decide)
      simp (disch := first | assumption | omega | exact hX _ | exact hY _ _ | exact hZ _ | fail) only [X8_lookRound_23, hc, hi, hnb, sp_pl, sp_ckt, sp_bd_s, sp_bv_s, qn_l, nI_add, qn_sub, pk_mul, qn_le, qn_lt, qn_eq, qn_in, qn_g, nI_clamp, qn_and31, qn_sl, qn_sr, qn_b0, qn_b1, sp_zb0, sp_zb1, if_true, if_false, if_pos, if_neg, reduceIte, not_true_eq_false, not_false_eq_true, decide_true, decide_false, Bool.false_eq_true, Bool.not_true, Bool.not_false, Bool.true_eq_false, eq_self, qn_meq, qn_of, Nat.le_refl]
      exact wp_of rfl ⟨hI.2, hI.1⟩
    · have h := qSC_oth h hI.1 (by omega) (by omega)
      have hp6 := hP.1 i hi
      have hi2 := hi
      have h0 := h
      obtain ⟨ht, hc, hi, ⟨hnb, hns, hpt, hA1, hA2, hA3, hA4, hA5, hA6, hA7, hR1, hR2⟩, hS, ⟨hb10, hs5, hG, hH, hL, hU, hO⟩, hB⟩ := h
      have hX := fun k => Nat.lt_trans (hB k) (by decide : (1048576 : Nat) < 2 ^ 31)
      have hY : ∀ p k, ct p k < 2 ^ 31 := fun p k => Nat.lt_trans (hG p k) (by decide)
      simp (disch := first | assumption | omega | exact hX _ | exact hY _ _ | exact hZ _ | fail) only [X8_lookRound_23, X8_lookRound_66, hc, hi, hnb, sp_pl, sp_ckt, sp_bd_s, sp_bv_s, qn_l, nI_add, qn_sub, pk_mul, qn_le, qn_lt, qn_eq, qn_in, qn_g, nI_clamp, qn_and31, qn_sl, qn_sr, qn_b0, qn_b1, sp_zb0, sp_zb1, if_true, if_false, if_pos, if_neg, reduceIte, not_true_eq_false, not_false_eq_true, decide_true, decide_false, Bool.false_eq_true, Bool.not_true, Bool.not_false, Bool.true_eq_false, eq_self, qn_meq, qn_of, hS, Nat.not_le.mpr hi2, show ¬ sc (10 + i) < 0 by omega, show ¬ 6 < sc (10 + i) by omega, hI.2, qn_or]
      refine k _ ⟨qfp_trans hI.1 (qfp_sa (by omega) (by omega)), fun p hp => ?_⟩
      rw [sp_sa_g, bs_s]
      by_cases e : sc (10 + i) = p
      · simp [e]
      · have e' : ¬ p = sc (10 + i) := fun x => e x.symm
        simp [e, e', hI.2 p hp]
  · simp (disch := first | assumption | omega | exact hX _ | exact hY _ _ | exact hZ _ | fail) only [X8_lookRound_2, sp_pl, sp_ckt, sp_bd_s, sp_bv_s, qn_l, nI_add, qn_sub, pk_mul, qn_le, qn_lt, qn_eq, qn_in, qn_g, nI_clamp, qn_and31, qn_sl, qn_sr, qn_b0, qn_b1, sp_zb0, sp_zb1, if_true, if_false, if_pos, if_neg, reduceIte, not_true_eq_false, not_false_eq_true, decide_true, decide_false, Bool.false_eq_true, Bool.not_true, Bool.not_false, Bool.true_eq_false, eq_self, qn_meq, qn_of, show ¬ 6 < i by omega]
    refine k _ ⟨qfp_trans hI.1 (qfp_sa (by omega) (by omega)), fun p hp => ?_⟩
    rw [sp_sa_g]
    by_cases e : p = i
    · simp [e]
    · simp [e, hI.2 p (by omega)]
theorem sq_foesWith (h : qSC σ t c ct cd sc) (hP : qP ct sc) (hat : qat σ t ct sc) {b : Nat} (hb : b < ct 0 13) : X8_foesWith n σ t (nI b) = some (σ, nI (qfoe ct sc b)) := by
  have h0 := h
  obtain ⟨ht, hc, hi, ⟨hnb, hns, hpt, hA1, hA2, hA3, hA4, hA5, hA6, hA7, hR1, hR2⟩, hS, ⟨hb10, hs5, hG, hH, hL, hU, hO⟩, hB⟩ := h
  have hX := fun k => Nat.lt_trans (hB k) (by decide : (1048576 : Nat) < 2 ^ 31)
  have hY : ∀ p k, ct p k < 2 ^ 31 := fun p k => Nat.lt_trans (hG p k) (by decide)
  have hp6 := hP.1 b hb
  have hhb := hH b
  simp (disch := first | assumption | omega | exact hX _ | exact hY _ _ | exact hZ _ | fail) only [X8_foesWith, X8_foesWith_20, hc, hi, sp_pl, sp_ckt, sp_bd_s, sp_bv_s, qn_l, nI_add, qn_sub, pk_mul, qn_le, qn_lt, qn_eq, qn_in, qn_g, nI_clamp, qn_and31, qn_sl, qn_sr, qn_b0, qn_b1, sp_zb0, sp_zb1, if_true, if_false, if_pos, if_neg, reduceIte, not_true_eq_false, not_false_eq_true, decide_true, decide_false, Bool.false_eq_true, Bool.not_true, Bool.not_false, Bool.true_eq_false, eq_self, qn_meq, qn_of, hS, hA1, show ¬ sc (10 + b) < 0 by omega]
  unfold qfoe
  by_cases e : sc (10 + b) = 6
  · simp (disch := first | assumption | omega | exact hX _ | exact hY _ _ | exact hZ _ | fail) only [e, sp_pl, sp_ckt, sp_bd_s, sp_bv_s, qn_l, nI_add, qn_sub, pk_mul, qn_le, qn_lt, qn_eq, qn_in, qn_g, nI_clamp, qn_and31, qn_sl, qn_sr, qn_b0, qn_b1, sp_zb0, sp_zb1, if_true, if_false, if_pos, if_neg, reduceIte, not_true_eq_false, not_false_eq_true, decide_true, decide_false, Bool.false_eq_true, Bool.not_true, Bool.not_false, Bool.true_eq_false, eq_self, qn_meq, qn_of, show ¬ 6 < 6 by omega]
  · simp (disch := first | assumption | omega | exact hX _ | exact hY _ _ | exact hZ _ | fail) only [e, sp_pl, sp_ckt, sp_bd_s, sp_bv_s, qn_l, nI_add, qn_sub, pk_mul, qn_le, qn_lt, qn_eq, qn_in, qn_g, nI_clamp, qn_and31, qn_sl, qn_sr, qn_b0, qn_b1, sp_zb0, sp_zb1, if_true, if_false, if_pos, if_neg, reduceIte, not_true_eq_false, not_false_eq_true, decide_true, decide_false, Bool.false_eq_true, Bool.not_true, Bool.not_false, Bool.true_eq_false, eq_self, qn_meq, qn_of, show sc (10 + b) < 6 by omega, hat (sc (10 + b)) hp6, hP.2 (ct 1 b) hhb, qn_and, bs_and, bc_bs]
theorem sq_told1 (h : qSC σ t c ct cd sc) : X2_coolsTold n σ c = some (σ, if cd.1.length = 0 then nI 0 else nI 1) := by
  have h0 := h
  obtain ⟨ht, hc, hi, ⟨hnb, hns, hpt, hA1, hA2, hA3, hA4, hA5, hA6, hA7, hR1, hR2⟩, hS, ⟨hb10, hs5, hG, hH, hL, hU, hO⟩, hB⟩ := h
  have hX := fun k => Nat.lt_trans (hB k) (by decide : (1048576 : Nat) < 2 ^ 31)
  have hY : ∀ p k, ct p k < 2 ^ 31 := fun p k => Nat.lt_trans (hG p k) (by decide)
  obtain ⟨a, r1, r2, r3, r4⟩ := hR1
  simp (disch := first | assumption | omega | exact hX _ | exact hY _ _ | exact hZ _ | fail) only [X2_coolsTold, r1, r2, sp_pl, sp_ckt, sp_bd_s, sp_bv_s, qn_l, nI_add, qn_sub, pk_mul, qn_le, qn_lt, qn_eq, qn_in, qn_g, nI_clamp, qn_and31, qn_sl, qn_sr, qn_b0, qn_b1, sp_zb0, sp_zb1, if_true, if_false, if_pos, if_neg, reduceIte, not_true_eq_false, not_false_eq_true, decide_true, decide_false, Bool.false_eq_true, Bool.not_true, Bool.not_false, Bool.true_eq_false, eq_self, qn_meq, qn_of]
  by_cases e : cd.1.length = 0
  · simp (disch := first | assumption | omega | exact hX _ | exact hY _ _ | exact hZ _ | fail) only [e, sp_pl, sp_ckt, sp_bd_s, sp_bv_s, qn_l, nI_add, qn_sub, pk_mul, qn_le, qn_lt, qn_eq, qn_in, qn_g, nI_clamp, qn_and31, qn_sl, qn_sr, qn_b0, qn_b1, sp_zb0, sp_zb1, if_true, if_false, if_pos, if_neg, reduceIte, not_true_eq_false, not_false_eq_true, decide_true, decide_false, Bool.false_eq_true, Bool.not_true, Bool.not_false, Bool.true_eq_false, eq_self, qn_meq, qn_of, Nat.add_zero, Nat.le_refl]
  · simp (disch := first | assumption | omega | exact hX _ | exact hY _ _ | exact hZ _ | fail) only [e, sp_pl, sp_ckt, sp_bd_s, sp_bv_s, qn_l, nI_add, qn_sub, pk_mul, qn_le, qn_lt, qn_eq, qn_in, qn_g, nI_clamp, qn_and31, qn_sl, qn_sr, qn_b0, qn_b1, sp_zb0, sp_zb1, if_true, if_false, if_pos, if_neg, reduceIte, not_true_eq_false, not_false_eq_true, decide_true, decide_false, Bool.false_eq_true, Bool.not_true, Bool.not_false, Bool.true_eq_false, eq_self, qn_meq, qn_of, show ¬ a + cd.1.length ≤ a by omega]
theorem sq_told2 (h : qSC σ t c ct cd sc) : X2_risesTold n σ c = some (σ, if cd.2.length = 0 then nI 0 else nI 1) := by
  have h0 := h
  obtain ⟨ht, hc, hi, ⟨hnb, hns, hpt, hA1, hA2, hA3, hA4, hA5, hA6, hA7, hR1, hR2⟩, hS, ⟨hb10, hs5, hG, hH, hL, hU, hO⟩, hB⟩ := h
  have hX := fun k => Nat.lt_trans (hB k) (by decide : (1048576 : Nat) < 2 ^ 31)
  have hY : ∀ p k, ct p k < 2 ^ 31 := fun p k => Nat.lt_trans (hG p k) (by decide)
  obtain ⟨a, r1, r2, r3, r4⟩ := hR2
  simp (disch := first | assumption | omega | exact hX _ | exact hY _ _ | exact hZ _ | fail) only [X2_risesTold, r1, r2, sp_pl, sp_ckt, sp_bd_s, sp_bv_s, qn_l, nI_add, qn_sub, pk_mul, qn_le, qn_lt, qn_eq, qn_in, qn_g, nI_clamp, qn_and31, qn_sl, qn_sr, qn_b0, qn_b1, sp_zb0, sp_zb1, if_true, if_false, if_pos, if_neg, reduceIte, not_true_eq_false, not_false_eq_true, decide_true, decide_false, Bool.false_eq_true, Bool.not_true, Bool.not_false, Bool.true_eq_false, eq_self, qn_meq, qn_of]
  by_cases e : cd.2.length = 0
  · simp (disch := first | assumption | omega | exact hX _ | exact hY _ _ | exact hZ _ | fail) only [e, sp_pl, sp_ckt, sp_bd_s, sp_bv_s, qn_l, nI_add, qn_sub, pk_mul, qn_le, qn_lt, qn_eq, qn_in, qn_g, nI_clamp, qn_and31, qn_sl, qn_sr, qn_b0, qn_b1, sp_zb0, sp_zb1, if_true, if_false, if_pos, if_neg, reduceIte, not_true_eq_false, not_false_eq_true, decide_true, decide_false, Bool.false_eq_true, Bool.not_true, Bool.not_false, Bool.true_eq_false, eq_self, qn_meq, qn_of, Nat.add_zero, Nat.le_refl]
  · simp (disch := first | assumption | omega | exact hX _ | exact hY _ _ | exact hZ _ | fail) only [e, sp_pl, sp_ckt, sp_bd_s, sp_bv_s, qn_l, nI_add, qn_sub, pk_mul, qn_le, qn_lt, qn_eq, qn_in, qn_g, nI_clamp, qn_and31, qn_sl, qn_sr, qn_b0, qn_b1, sp_zb0, sp_zb1, if_true, if_false, if_pos, if_neg, reduceIte, not_true_eq_false, not_false_eq_true, decide_true, decide_false, Bool.false_eq_true, Bool.not_true, Bool.not_false, Bool.true_eq_false, eq_self, qn_meq, qn_of, show ¬ a + cd.2.length ≤ a by omega]
theorem sq_work {u p a lv : Nat} (hu : p ≠ u + 1) (hn : 1000 ≤ n) (v : Nat → Int32) {L : List Nat} (hr : a + L.length ≤ 700) (hl : lv ≤ 6) (hq : qok 40 lv L 0) (hv : ∀ k, k < lv → σ.1 u (k + 1) = v k) (hc : ∀ k, k < L.length → σ.2.2.1 p (a + k) = encC (L.getD k 0)) : sp_wp (X0_work n σ u p 700 (nI a) (nI (a + L.length))) (fun r => r.2 = qrv v L ∧ r.1.1 = σ.1 ∧ r.1.2.1 = σ.2.1 ∧ r.1.2.2.2 = σ.2.2.2 ∧ ∀ q, q ≠ u + 1 → r.1.2.2.1 q = σ.2.2.1 q) := by
  have e : sp_max (0 : Int32) (nI a) = nI a := by
    have := qn_max (a := 0) (b := a) (by decide) (by omega)
    rw [Nat.zero_max] at this
    exact this
  rw [X0_work, sp_pl, sp_pl, e]
  exact ab_work hu v hr hl L [] n a σ (by omega) rfl (by decide) hq hv hc (fun i hi => absurd hi (by simp))
/-- what the abacus leaves as it was -/
theorem sq_workfp {u : Nat} {τ : sp_St} (g2 : τ.1 = σ.1) (g3 : τ.2.1 = σ.2.1) (g4 : τ.2.2.2 = σ.2.2.2) (g5 : ∀ q, q ≠ u + 1 → τ.2.2.1 q = σ.2.2.1 q) : qfp u (u + 1) σ τ := ⟨g3, g4, fun p hp => ⟨by rw [g2], g5 p (by omega)⟩⟩
theorem sq_ch204 (τ : sp_St) (x : Int32) : X8_changeOf_204 n t τ x = some (τ, nI (qclamp x)) := by
  rw [X8_changeOf_204, sp_pl, sp_pl, show sp_max 0 (sp_min 99 x) = nI (qclamp x) from (qclamp_is x).1]
theorem sq_si4 {u : Nat} {a b c d : Int32} : qfp u u σ (sp_si (sp_si (sp_si (sp_si σ u 1 a) u 2 b) u 3 c) u 4 d) := qfp_trans (qfp_trans (qfp_trans (qfp_si (by omega) (by omega)) (qfp_si (by omega) (by omega))) (qfp_si (by omega) (by omega))) (qfp_si (by omega) (by omega))
theorem sq_ch80r (h : qSC σ t c ct cd sc) (hn : 1000 ≤ n) (hP : qP ct sc) (hD : qcd cd) {b : Nat} (hb : b < ct 0 13) (el : cd.2.length ≠ 0) : sp_wp (X8_changeOf_80 n t σ (nI b) (nI (sc (10 + b))) (nI 1) (nI (qfoe ct sc b))) (fun r => r.2 = nI (qclamp (qrv (qval ct sc b) cd.2)) ∧ qfp (t + 5) (t + 6) σ r.1) := by
  have h0 := h
  obtain ⟨ht, hc, hi, ⟨hnb, hns, hpt, hA1, hA2, hA3, hA4, hA5, hA6, hA7, hR1, hR2⟩, hS, ⟨hb10, hs5, hG, hH, hL, hU, hO⟩, hB⟩ := h
  have hX := fun k => Nat.lt_trans (hB k) (by decide : (1048576 : Nat) < 2 ^ 31)
  have hY : ∀ p k, ct p k < 2 ^ 31 := fun p k => Nat.lt_trans (hG p k) (by decide)
  have hc11 := isc_le hi
  obtain ⟨a, r1, r2, r3, r4⟩ := hR2
  obtain ⟨σ7, e7⟩ : ∃ x, x = sp_si (sp_si (sp_si (sp_si σ (t + 5) 1 (nI (sc b))) (t + 5) 2 (nI (ct 2 b))) (t + 5) 3 (nI (sc 47))) (t + 5) 4 (nI (qfoe ct sc b)) := ⟨_, rfl⟩
  have hf : qfp (t + 5) (t + 5) σ σ7 := by rw [e7]; exact sq_si4
  have f1 : σ7.2.1 t 0 = c := by rw [hf.1]; exact hc
  have f2 : σ7.1 c 11 = nI a := by rw [(hf.2.2 c (by omega)).1]; exact r1
  have f3 : σ7.1 c 12 = nI (a + cd.2.length) := by rw [(hf.2.2 c (by omega)).1]; exact r2
  have f4 : ∀ k, k < 4 → σ7.1 (t + 5) (k + 1) = qval ct sc b k := by
    intro k hk
    rcases (show k = 0 ∨ k = 1 ∨ k = 2 ∨ k = 3 by omega) with rfl | rfl | rfl | rfl <;> simp [e7, sp_si, qval]
  simp (disch := first | assumption | omega | exact hX _ | exact hY _ _ | exact hZ _ | fail) only [X8_changeOf_80, X0_setForAll, hc, hi, sp_pl, sp_ckt, sp_bd_s, sp_bv_s, qn_l, nI_add, qn_sub, pk_mul, qn_le, qn_lt, qn_eq, qn_in, qn_g, nI_clamp, qn_and31, qn_sl, qn_sr, qn_b0, qn_b1, sp_zb0, sp_zb1, if_true, if_false, if_pos, if_neg, reduceIte, not_true_eq_false, not_false_eq_true, decide_true, decide_false, Bool.false_eq_true, Bool.not_true, Bool.not_false, Bool.true_eq_false, eq_self, qn_meq, qn_of, hS, hA2]
  rw [← e7]
  simp only [f1, f2, f3, hi, sp_ckt]
  refine wp_bd (wp_mono (sq_work (by omega) hn (qval ct sc b) r3 (by decide) (hD.2 el) f4 (fun k hk => ?_)) ?_)
  · rw [(hf.2.2 (c + 8) (by omega)).2]
    exact r4 k hk
  · rintro ⟨τ, r⟩ ⟨g1, g2, g3, g4, g5⟩
    dsimp only at g1 g2 g3 g4 g5 ⊢
    rw [sq_ch204]
    refine wp_of rfl ⟨by rw [g1], qfp_trans (qfp_mono hf (by omega) (by omega)) (sq_workfp (u := t + 5) g2 g3 g4 g5)⟩
theorem qval_0 {b : Nat} : qval ct sc b 0 = nI (sc b) := rfl
theorem qval_1 {b : Nat} : qval ct sc b 1 = nI (ct 2 b) := rfl
theorem qval_2 {b : Nat} : qval ct sc b 2 = nI (sc 47) := rfl
theorem qval_3 {b : Nat} : qval ct sc b 3 = nI (qfoe ct sc b) := rfl
theorem qval_4 {b : Nat} : qval ct sc b 4 = nI (qc (fun k => decide (sc (10 + k) = sc (10 + b))) (ct 0 13) - 1) := by
  unfold qval
  rw [if_neg (by decide), if_neg (by decide), if_neg (by decide), if_neg (by decide), if_pos rfl]
theorem qval_5 {b : Nat} : qval ct sc b 5 = nI (qc (fun k => decide (sc (10 + k) = sc (10 + b)) && decide (sc (20 + b) < sc (20 + k))) (ct 0 13)) := by
  unfold qval
  rw [if_neg (by decide), if_neg (by decide), if_neg (by decide), if_neg (by decide), if_neg (by decide)]
theorem sq_ch80c (h : qSC σ t c ct cd sc) (hn : 1000 ≤ n) (hP : qP ct sc) (hD : qcd cd) (hat : qat σ t ct sc) {b : Nat} (hb : b < ct 0 13) (el : cd.1.length ≠ 0) : sp_wp (X8_changeOf_80 n t σ (nI b) (nI (sc (10 + b))) (nI 0) (nI (qfoe ct sc b))) (fun r => r.2 = nI (qclamp (qrv (qval ct sc b) cd.1)) ∧ qfp (t + 5) (t + 6) σ r.1) := by
  have h0 := h
  obtain ⟨ht, hc, hi, ⟨hnb, hns, hpt, hA1, hA2, hA3, hA4, hA5, hA6, hA7, hR1, hR2⟩, hS, ⟨hb10, hs5, hG, hH, hL, hU, hO⟩, hB⟩ := h
  have hX := fun k => Nat.lt_trans (hB k) (by decide : (1048576 : Nat) < 2 ^ 31)
  have hY : ∀ p k, ct p k < 2 ^ 31 := fun p k => Nat.lt_trans (hG p k) (by decide)
  have hc11 := isc_le hi
  have hp6 := hP.1 b hb
  obtain ⟨a, r1, r2, r3, r4⟩ := hR1
  have hc1 : 1 ≤ qc (fun k => decide (sc (10 + k) = sc (10 + b))) (ct 0 13) := qc_pos hb (by simp)
  obtain ⟨σ7, e7⟩ : ∃ x, x = sp_si (sp_si (sp_si (sp_si σ (t + 5) 1 (nI (sc b))) (t + 5) 2 (nI (ct 2 b))) (t + 5) 3 (nI (sc 47))) (t + 5) 4 (nI (qfoe ct sc b)) := ⟨_, rfl⟩
  have hf : qfp (t + 5) (t + 5) σ σ7 := by rw [e7]; exact sq_si4
  have hs7 : qSC σ7 t c ct cd sc := qSC_oth h0 hf (by omega) (by omega)
  have ha7 : σ7.2.2.1 (t + 3) (sc (10 + b)) = nI (bs (fun k => decide (sc (10 + k) = sc (10 + b))) (ct 0 13)) := by rw [(hf.2.2 (t + 3) (by omega)).2]; exact hat _ hp6
  obtain ⟨σ9, e9⟩ : ∃ x, x = sp_si (sp_si σ7 (t + 5) 5 (nI (qc (fun k => decide (sc (10 + k) = sc (10 + b))) (ct 0 13) - 1))) (t + 5) 6 (nI (qc (fun k => decide (sc (10 + k) = sc (10 + b)) && decide (sc (20 + b) < sc (20 + k))) (ct 0 13))) := ⟨_, rfl⟩
  have hg : qfp (t + 5) (t + 5) σ σ9 := by rw [e9]; exact qfp_trans hf (qfp_trans (qfp_si (by omega) (by omega)) (qfp_si (by omega) (by omega)))
  have f1 : σ9.2.1 t 0 = c := by rw [hg.1]; exact hc
  have f2 : σ9.1 c 9 = nI a := by rw [(hg.2.2 c (by omega)).1]; exact r1
  have f3 : σ9.1 c 10 = nI (a + cd.1.length) := by rw [(hg.2.2 c (by omega)).1]; exact r2
  have g1 : σ9.1 (t + 5) 1 = nI (sc b) := by rw [e9, sp_si_ne (by decide), sp_si_ne (by decide), e7, sp_si_ne (by decide), sp_si_ne (by decide), sp_si_ne (by decide), sp_si_eq]
  have g2 : σ9.1 (t + 5) 2 = nI (ct 2 b) := by rw [e9, sp_si_ne (by decide), sp_si_ne (by decide), e7, sp_si_ne (by decide), sp_si_ne (by decide), sp_si_eq]
  have g3 : σ9.1 (t + 5) 3 = nI (sc 47) := by rw [e9, sp_si_ne (by decide), sp_si_ne (by decide), e7, sp_si_ne (by decide), sp_si_eq]
  have g4 : σ9.1 (t + 5) 4 = nI (qfoe ct sc b) := by rw [e9, sp_si_ne (by decide), sp_si_ne (by decide), e7, sp_si_eq]
  have g5 : σ9.1 (t + 5) 5 = nI (qc (fun k => decide (sc (10 + k) = sc (10 + b))) (ct 0 13) - 1) := by rw [e9, sp_si_ne (by decide), sp_si_eq]
  have g6 : σ9.1 (t + 5) 6 = nI (qc (fun k => decide (sc (10 + k) = sc (10 + b)) && decide (sc (20 + b) < sc (20 + k))) (ct 0 13)) := by rw [e9, sp_si_eq]
  have f4 : ∀ k, k < 6 → σ9.1 (t + 5) (k + 1) = qval ct sc b k := by
    intro k hk
    rcases (show k = 0 ∨ k = 1 ∨ k = 2 ∨ k = 3 ∨ k = 4 ∨ k = 5 by omega) with rfl | rfl | rfl | rfl | rfl | rfl
    · rw [qval_0]; exact g1
    · rw [qval_1]; exact g2
    · rw [qval_2]; exact g3
    · rw [qval_3]; exact g4
    · rw [qval_4]; exact g5
    · rw [qval_5]; exact g6
  have k1 : X0_setForAll n σ (t + 5) (nI (sc b)) (nI (ct 2 b)) (nI (sc 47)) (nI (qfoe ct sc b)) = some σ7 := by rw [e7]; rfl
  have k2 := bc_bs n σ7 (fun k => decide (sc (10 + k) = sc (10 + b))) hb10
  have k3 := sq_bladesAbove hs7 (by omega) (show b < 10 by omega) (n := n)
  have k4 := bc_bs n σ7 (fun k => decide (sc (10 + k) = sc (10 + b)) && decide (sc (20 + b) < sc (20 + k))) hb10
  have k5 : X0_setForCools n σ7 (t + 5) (nI (qc (fun k => decide (sc (10 + k) = sc (10 + b))) (ct 0 13) - 1)) (nI (qc (fun k => decide (sc (10 + k) = sc (10 + b)) && decide (sc (20 + b) < sc (20 + k))) (ct 0 13))) = some σ9 := by rw [e9]; rfl
  have k6 : nI (qc (fun k => decide (sc (10 + k) = sc (10 + b))) (ct 0 13)) - (1 : Int32) = nI (qc (fun k => decide (sc (10 + k) = sc (10 + b))) (ct 0 13) - 1) := pk_sub hc1
  have w1 : sp_in (nI b) 50 = true := qn_in (by omega) (by omega)
  have w2 : sp_in (nI b) 10 = true := qn_in (by omega) (by omega)
  have w3 : sp_in (nI (sc (10 + b))) 7 = true := qn_in (by omega) (by omega)
  have w4 : sp_g σ (t + 1) (nI b) = nI (sc b) := by rw [qn_g (by omega)]; exact hS b (by omega)
  have w5 : sp_g σ (c + 2) (nI b) = nI (ct 2 b) := by rw [qn_g (by omega)]; exact hA2 b hb
  have w6 : sp_g σ (t + 1) (47 : Int32) = nI (sc 47) := hS 47 (by omega)
  have w7 : sp_g σ7 (t + 3) (nI (sc (10 + b))) = nI (bs (fun k => decide (sc (10 + k) = sc (10 + b))) (ct 0 13)) := by rw [qn_g (by omega)]; exact ha7
  rw [X8_changeOf_80, w1, sp_ckt, sp_pl, hc, hi, sp_ckt, w2, sp_ckt, w4, w5, w6, k1, sp_bv_s, if_pos (show nI 0 = 0 from rfl), w3, sp_ckt, w7, k2, sp_bd_s, k3, sp_bd_s, k4, sp_bd_s, k6, k5, sp_bv_s, sp_pl]
  simp only [f1, f2, f3, hi, sp_ckt]
  refine wp_bd (wp_mono (sq_work (by omega) hn (qval ct sc b) r3 (by decide) (hD.1 el) f4 (fun k hk => ?_)) ?_)
  · rw [(hg.2.2 (c + 8) (by omega)).2]
    exact r4 k hk
  · rintro ⟨τ, r⟩ ⟨g1, g2, g3, g4, g5⟩
    dsimp only at g1 g2 g3 g4 g5 ⊢
    rw [sq_ch204]
    refine wp_of rfl ⟨by rw [g1], qfp_trans (qfp_mono hg (by omega) (by omega)) (sq_workfp (u := t + 5) g2 g3 g4 g5)⟩
theorem sq_changeOf (h : qSC σ t c ct cd sc) (hn : 1000 ≤ n) (hP : qP ct sc) (hD : qcd cd) (hat : qat σ t ct sc) {b : Nat} (hb : b < ct 0 13) : sp_wp (X8_changeOf n σ t (nI b)) (fun r => r.2 = nI (qchg ct cd sc b) ∧ qfp (t + 5) (t + 6) σ r.1) := by
  have h0 := h
  obtain ⟨ht, hc, hi, ⟨hnb, hns, hpt, hA1, hA2, hA3, hA4, hA5, hA6, hA7, hR1, hR2⟩, hS, ⟨hb10, hs5, hG, hH, hL, hU, hO⟩, hB⟩ := h
  have hX := fun k => Nat.lt_trans (hB k) (by decide : (1048576 : Nat) < 2 ^ 31)
  have hY : ∀ p k, ct p k < 2 ^ 31 := fun p k => Nat.lt_trans (hG p k) (by decide)
  have hp6 := hP.1 b hb
  simp (disch := first | assumption | omega | exact hX _ | exact hY _ _ | exact hZ _ | fail) only [X8_changeOf, sp_pl, sp_ckt, sp_bd_s, sp_bv_s, qn_l, nI_add, qn_sub, pk_mul, qn_le, qn_lt, qn_eq, qn_in, qn_g, nI_clamp, qn_and31, qn_sl, qn_sr, qn_b0, qn_b1, sp_zb0, sp_zb1, if_true, if_false, if_pos, if_neg, reduceIte, not_true_eq_false, not_false_eq_true, decide_true, decide_false, Bool.false_eq_true, Bool.not_true, Bool.not_false, Bool.true_eq_false, eq_self, qn_meq, qn_of, hS, show ¬ sc (10 + b) < 0 by omega]
  by_cases e6 : sc (10 + b) = 6
  · simp (disch := first | assumption | omega | exact hX _ | exact hY _ _ | exact hZ _ | fail) only [e6, sp_pl, sp_ckt, sp_bd_s, sp_bv_s, qn_l, nI_add, qn_sub, pk_mul, qn_le, qn_lt, qn_eq, qn_in, qn_g, nI_clamp, qn_and31, qn_sl, qn_sr, qn_b0, qn_b1, sp_zb0, sp_zb1, if_true, if_false, if_pos, if_neg, reduceIte, not_true_eq_false, not_false_eq_true, decide_true, decide_false, Bool.false_eq_true, Bool.not_true, Bool.not_false, Bool.true_eq_false, eq_self, qn_meq, qn_of, show ¬ (6 : Nat) < 6 by omega, X8_changeOf_20]
    exact wp_of rfl ⟨by unfold qchg; rw [if_pos e6], qfp_refl σ⟩
  · simp (disch := first | assumption | omega | exact hX _ | exact hY _ _ | exact hZ _ | fail) only [show sc (10 + b) < 6 by omega, sq_foesWith h0 hP hat hb, sp_pl, sp_ckt, sp_bd_s, sp_bv_s, qn_l, nI_add, qn_sub, pk_mul, qn_le, qn_lt, qn_eq, qn_in, qn_g, nI_clamp, qn_and31, qn_sl, qn_sr, qn_b0, qn_b1, sp_zb0, sp_zb1, if_true, if_false, if_pos, if_neg, reduceIte, not_true_eq_false, not_false_eq_true, decide_true, decide_false, Bool.false_eq_true, Bool.not_true, Bool.not_false, Bool.true_eq_false, eq_self, qn_meq, qn_of]
    by_cases e0 : sc (10 + b) = 0
    · simp (disch := first | assumption | omega | exact hX _ | exact hY _ _ | exact hZ _ | fail) only [e0, sp_pl, sp_ckt, sp_bd_s, sp_bv_s, qn_l, nI_add, qn_sub, pk_mul, qn_le, qn_lt, qn_eq, qn_in, qn_g, nI_clamp, qn_and31, qn_sl, qn_sr, qn_b0, qn_b1, sp_zb0, sp_zb1, if_true, if_false, if_pos, if_neg, reduceIte, not_true_eq_false, not_false_eq_true, decide_true, decide_false, Bool.false_eq_true, Bool.not_true, Bool.not_false, Bool.true_eq_false, eq_self, qn_meq, qn_of, hc, hi, sq_told2 h0]
      by_cases el : cd.2.length = 0
      · simp (disch := first | assumption | omega | exact hX _ | exact hY _ _ | exact hZ _ | fail) only [el, sp_pl, sp_ckt, sp_bd_s, sp_bv_s, qn_l, nI_add, qn_sub, pk_mul, qn_le, qn_lt, qn_eq, qn_in, qn_g, nI_clamp, qn_and31, qn_sl, qn_sr, qn_b0, qn_b1, sp_zb0, sp_zb1, if_true, if_false, if_pos, if_neg, reduceIte, not_true_eq_false, not_false_eq_true, decide_true, decide_false, Bool.false_eq_true, Bool.not_true, Bool.not_false, Bool.true_eq_false, eq_self, qn_meq, qn_of, X8_changeOf_66]
        exact wp_of rfl ⟨by unfold qchg; rw [if_neg e6, if_pos e0, if_pos el], qfp_refl σ⟩
      · simp (disch := first | assumption | omega | exact hX _ | exact hY _ _ | exact hZ _ | fail) only [el, sp_pl, sp_ckt, sp_bd_s, sp_bv_s, qn_l, nI_add, qn_sub, pk_mul, qn_le, qn_lt, qn_eq, qn_in, qn_g, nI_clamp, qn_and31, qn_sl, qn_sr, qn_b0, qn_b1, sp_zb0, sp_zb1, if_true, if_false, if_pos, if_neg, reduceIte, not_true_eq_false, not_false_eq_true, decide_true, decide_false, Bool.false_eq_true, Bool.not_true, Bool.not_false, Bool.true_eq_false, eq_self, qn_meq, qn_of]
        have := sq_ch80r h0 hn hP hD hb el
        rw [e0] at this
        refine wp_mono this ?_
        rintro r ⟨g1, g2⟩
        exact ⟨by unfold qchg; rw [g1, if_neg e6, if_pos e0, if_neg el], g2⟩
    · simp (disch := first | assumption | omega | exact hX _ | exact hY _ _ | exact hZ _ | fail) only [e0, sp_pl, sp_ckt, sp_bd_s, sp_bv_s, qn_l, nI_add, qn_sub, pk_mul, qn_le, qn_lt, qn_eq, qn_in, qn_g, nI_clamp, qn_and31, qn_sl, qn_sr, qn_b0, qn_b1, sp_zb0, sp_zb1, if_true, if_false, if_pos, if_neg, reduceIte, not_true_eq_false, not_false_eq_true, decide_true, decide_false, Bool.false_eq_true, Bool.not_true, Bool.not_false, Bool.true_eq_false, eq_self, qn_meq, qn_of, hc, hi, sq_told1 h0]
      by_cases el : cd.1.length = 0
      · simp (disch := first | assumption | omega | exact hX _ | exact hY _ _ | exact hZ _ | fail) only [el, sp_pl, sp_ckt, sp_bd_s, sp_bv_s, qn_l, nI_add, qn_sub, pk_mul, qn_le, qn_lt, qn_eq, qn_in, qn_g, nI_clamp, qn_and31, qn_sl, qn_sr, qn_b0, qn_b1, sp_zb0, sp_zb1, if_true, if_false, if_pos, if_neg, reduceIte, not_true_eq_false, not_false_eq_true, decide_true, decide_false, Bool.false_eq_true, Bool.not_true, Bool.not_false, Bool.true_eq_false, eq_self, qn_meq, qn_of, X8_changeOf_66]
        exact wp_of rfl ⟨by unfold qchg; rw [if_neg e6, if_neg e0, if_pos el], qfp_refl σ⟩
      · simp (disch := first | assumption | omega | exact hX _ | exact hY _ _ | exact hZ _ | fail) only [el, sp_pl, sp_ckt, sp_bd_s, sp_bv_s, qn_l, nI_add, qn_sub, pk_mul, qn_le, qn_lt, qn_eq, qn_in, qn_g, nI_clamp, qn_and31, qn_sl, qn_sr, qn_b0, qn_b1, sp_zb0, sp_zb1, if_true, if_false, if_pos, if_neg, reduceIte, not_true_eq_false, not_false_eq_true, decide_true, decide_false, Bool.false_eq_true, Bool.not_true, Bool.not_false, Bool.true_eq_false, eq_self, qn_meq, qn_of]
        refine wp_mono (sq_ch80c h0 hn hP hD hat hb el) ?_
        rintro r ⟨g1, g2⟩
        exact ⟨by unfold qchg; rw [g1, if_neg e6, if_neg e0, if_neg el], g2⟩
end
