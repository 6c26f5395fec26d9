-- ===== a day of the class's scene: fights =====
theorem sp_sa_eq {σ : sp_St} {p i : Nat} {v : Int32} : (sp_sa σ p i v).2.2.1 p i = v := by simp [sp_sa]
theorem sp_sa_np {σ : sp_St} {p i q j : Nat} {v : Int32} (h : q ≠ p) : (sp_sa σ p i v).2.2.1 q j = σ.2.2.1 q j := by simp [sp_sa, h]
theorem sp_sa_nj {σ : sp_St} {p i j : Nat} {v : Int32} (h : j ≠ i) : (sp_sa σ p i v).2.2.1 p j = σ.2.2.1 p j := by simp [sp_sa, h]
section
variable {σ : sp_St} {t c n : Nat} {ct : Nat → Nat → Nat} {cd : List Nat × List Nat} {sc : Nat → Nat}
def qF (ct : Nat → Nat → Nat) (sc : Nat → Nat) : Prop := ∀ h, h < 6 → sc (41 + h) = bs (fun b => (sc (35 + h)).testBit (ct 1 b)) (ct 0 13)
theorem qn_tb (a i : Nat) : (nI (a / 2 ^ i) &&& nI 1 = nI 0) = (a.testBit i = false) := qn_b0 a i
theorem sq_firstFoe (h : qSC σ t c ct cd sc) (hn : 100 ≤ n) (hF : qF ct sc) {b r : Nat} (hb : b < ct 0 13) (hr : r < 1024) : X8_firstFoe n σ t (nI b) (nI r) = some (σ, qe (qfoe1 ct sc r b)) := by
  have h0 := h
  obtain ⟨ht, hc, hi, ⟨hnb, hns, hpt, hA1, hA2, hA3, hA4, hA5, hA6, hA7, hR1, hR2⟩, hS, ⟨hb10, hs5, hG, hH, hL, hU, hO⟩, hB⟩ := h
  have hX := fun k => Nat.lt_trans (hB k) (by decide : (1048576 : Nat) < 2 ^ 31)
  have hY : ∀ p k, ct p k < 2 ^ 31 := fun p k => Nat.lt_trans (hG p k) (by decide)
  have hhb := hH b
  have hand : ∀ k, k < ct 0 13 → (r &&& bs (fun o => (sc (35 + ct 1 b)).testBit (ct 1 o)) (ct 0 13)).testBit k = (r.testBit k && (sc (35 + ct 1 b)).testBit (ct 1 k)) := by
    intro k hk
    rw [Nat.testBit_and, bs_t]
    simp [hk]
  have hlt : r &&& bs (fun o => (sc (35 + ct 1 b)).testBit (ct 1 o)) (ct 0 13) < 2 ^ 31 := Nat.lt_of_le_of_lt Nat.and_le_left (by omega)
  unfold qfoe1
  simp (disch := first | assumption | omega | exact hX _ | exact hY _ _ | exact hZ _ | fail) only [X8_firstFoe, sp_pl, sp_ckt, sp_bd_s, sp_bv_s, qn_l, nI_add, qn_sub, pk_mul, qn_le, qn_lt, qn_eq, qn_in, qn_g, nI_clamp, qn_and31, qn_sl, qn_sr, qn_b0, qn_b1, sp_zb0, sp_zb1, if_true, if_false, if_pos, if_neg, reduceIte, not_true_eq_false, not_false_eq_true, decide_true, decide_false, Bool.false_eq_true, Bool.not_true, Bool.not_false, Bool.true_eq_false, eq_self, qn_meq, qn_of, Nat.reduceEqDiff, Nat.reduceLT, Nat.reduceLeDiff, Nat.reduceAdd, Nat.reduceSub, Nat.reduceMul, Nat.reducePow, or_self, or_false, or_true, false_or, true_or, and_true, true_and, and_false, false_and, and_self]
  by_cases e : r.testBit b = true
  · simp (disch := first | assumption | omega | exact hX _ | exact hY _ _ | exact hZ _ | fail) only [e, hc, hi, hA1, hS, hF (ct 1 b) hhb, sp_pl, sp_ckt, sp_bd_s, sp_bv_s, qn_l, nI_add, qn_sub, pk_mul, qn_le, qn_lt, qn_eq, qn_in, qn_g, nI_clamp, qn_and31, qn_sl, qn_sr, qn_b0, qn_b1, sp_zb0, sp_zb1, if_true, if_false, if_pos, if_neg, reduceIte, not_true_eq_false, not_false_eq_true, decide_true, decide_false, Bool.false_eq_true, Bool.not_true, Bool.not_false, Bool.true_eq_false, eq_self, qn_meq, qn_of, Nat.reduceEqDiff, Nat.reduceLT, Nat.reduceLeDiff, Nat.reduceAdd, Nat.reduceSub, Nat.reduceMul, Nat.reducePow, or_self, or_false, or_true, false_or, true_or, and_true, true_and, and_false, false_and, and_self, qn_and]
    have := lp_find (fun f i => X8_firstFoe_35 n t f σ (nI (r &&& bs (fun o => (sc (35 + ct 1 b)).testBit (ct 1 o)) (ct 0 13))) (nI i)) (ct 0 13) (fun o => r.testBit o && (sc (35 + ct 1 b)).testBit (ct 1 o)) (some (σ, -nI 1)) (fun o => some (σ, nI o)) (fun f => ?_) (fun f i hi2 => ?_) n (b + 1) (by omega) (by omega)
    · rw [this]
      cases qf (fun o => r.testBit o && (sc (35 + ct 1 b)).testBit (ct 1 o)) (ct 0 13 - (b + 1)) (b + 1) <;> rfl
    · simp (disch := first | assumption | omega | exact hX _ | exact hY _ _ | exact hZ _ | fail) only [X8_firstFoe_35, X8_firstFoe_65, hc, hi, hnb, sp_pl, sp_ckt, sp_bd_s, sp_bv_s, qn_l, nI_add, qn_sub, pk_mul, qn_le, qn_lt, qn_eq, qn_in, qn_g, nI_clamp, qn_and31, qn_sl, qn_sr, qn_b0, qn_b1, sp_zb0, sp_zb1, if_true, if_false, if_pos, if_neg, reduceIte, not_true_eq_false, not_false_eq_true, decide_true, decide_false, Bool.false_eq_true, Bool.not_true, Bool.not_false, Bool.true_eq_false, eq_self, qn_meq, qn_of, Nat.reduceEqDiff, Nat.reduceLT, Nat.reduceLeDiff, Nat.reduceAdd, Nat.reduceSub, Nat.reduceMul, Nat.reducePow, or_self, or_false, or_true, false_or, true_or, and_true, true_and, and_false, false_and, and_self, Nat.le_refl]
    · simp (disch := first | assumption | omega | exact hX _ | exact hY _ _ | exact hZ _ | fail) only [X8_firstFoe_35, X8_firstFoe_56, hc, hi, hnb, sp_pl, sp_ckt, sp_bd_s, sp_bv_s, qn_l, nI_add, qn_sub, pk_mul, qn_le, qn_lt, qn_eq, qn_in, qn_g, nI_clamp, qn_and31, qn_sl, qn_sr, qn_b0, qn_b1, sp_zb0, sp_zb1, if_true, if_false, if_pos, if_neg, reduceIte, not_true_eq_false, not_false_eq_true, decide_true, decide_false, Bool.false_eq_true, Bool.not_true, Bool.not_false, Bool.true_eq_false, eq_self, qn_meq, qn_of, Nat.reduceEqDiff, Nat.reduceLT, Nat.reduceLeDiff, Nat.reduceAdd, Nat.reduceSub, Nat.reduceMul, Nat.reducePow, or_self, or_false, or_true, false_or, true_or, and_true, true_and, and_false, false_and, and_self, Nat.not_le.mpr hi2, hand]
      cases (r.testBit i && (sc (35 + ct 1 b)).testBit (ct 1 i)) <;> simp
  · have e' : r.testBit b = false := by simpa using e
    simp only [e', if_true, Bool.false_eq_true, if_false, qe]
theorem sq_fight (h : qSC σ t c ct cd sc) {a o : Nat} (ha : a < ct 0 13) (ho : o < ct 0 13) (hne : a ≠ o) (h48 : sc 48 < 1000000) : sp_wp (X8_fight n σ t (nI a) (nI o)) (fun τ => qSC τ t c ct cd (qfig sc a o) ∧ qfp (t + 1) (t + 2) σ τ ∧ ∀ h, h < 6 → τ.2.2.1 (t + 2) h = σ.2.2.1 (t + 2) h + nI ((if h = ct 1 a then 1 else 0) + if h = ct 1 o then 1 else 0)) := by
  have h0 := h
  obtain ⟨ht, hc, hi, ⟨hnb, hns, hpt, hA1, hA2, hA3, hA4, hA5, hA6, hA7, hR1, hR2⟩, hS, ⟨hb10, hs5, hG, hH, hL, hU, hO⟩, hB⟩ := h
  have hX := fun k => Nat.lt_trans (hB k) (by decide : (1048576 : Nat) < 2 ^ 31)
  have hY : ∀ p k, ct p k < 2 ^ 31 := fun p k => Nat.lt_trans (hG p k) (by decide)
  have hc11 := isc_le hi
  have hha := hH a
  have hho := hH o
  have d1 := Nat.lt_of_le_of_lt (Nat.div_le_self (sc a) 2) (hB a)
  have d2 := Nat.lt_of_le_of_lt (Nat.div_le_self (sc o) 2) (hB o)
  simp (disch := first | assumption | omega | exact hX _ | exact hY _ _ | exact hZ _ | fail) only [X8_fight, sp_pl, sp_ckt, sp_bd_s, sp_bv_s, qn_l, nI_add, qn_sub, pk_mul, qn_le, qn_lt, qn_eq, qn_in, qn_g, nI_clamp, qn_and31, qn_sl, qn_sr, qn_b0, qn_b1, sp_zb0, sp_zb1, if_true, if_false, if_pos, if_neg, reduceIte, not_true_eq_false, not_false_eq_true, decide_true, decide_false, Bool.false_eq_true, Bool.not_true, Bool.not_false, Bool.true_eq_false, eq_self, qn_meq, qn_of, Nat.reduceEqDiff, Nat.reduceLT, Nat.reduceLeDiff, Nat.reduceAdd, Nat.reduceSub, Nat.reduceMul, Nat.reducePow, or_self, or_false, or_true, false_or, true_or, and_true, true_and, and_false, false_and, and_self, hS, hc, hi, hA1, sp_sa_eq, sp_sa_np, sp_sa_nj, sp_sa_1, sp_sa_2, pk_div]
  refine wp_some.mpr ⟨?_, ?_, ?_⟩
  · show qSC _ t c ct cd (qu (qu (qu sc a (sc a / 2)) o (sc o / 2)) 48 (sc 48 + 1))
    exact qSC_oth (qSC_set (qSC_set (qSC_set h0 d1) d2) (by omega)) (qfp_trans (a := t + 2) (b := t + 2) (qfp_sa (by omega) (by omega)) (qfp_sa (by omega) (by omega))) (by omega) (by omega)
  · exact qfp_trans (qfp_trans (qfp_trans (qfp_trans (qfp_sa (by omega) (by omega)) (qfp_sa (by omega) (by omega))) (qfp_sa (by omega) (by omega))) (qfp_sa (by omega) (by omega))) (qfp_sa (by omega) (by omega))
  · intro h hh
    by_cases u1 : h = ct 1 o
    · subst u1
      rw [sp_sa_eq, if_pos rfl]
      by_cases u2 : ct 1 o = ct 1 a
      · rw [u2, sp_sa_eq, if_pos rfl, Int32.add_assoc, nI_add]
      · rw [sp_sa_nj u2, sp_sa_np (by omega), sp_sa_np (by omega), sp_sa_np (by omega), if_neg u2]
    · rw [sp_sa_nj u1, if_neg u1]
      by_cases u2 : h = ct 1 a
      · rw [u2, sp_sa_eq, if_pos rfl]
      · rw [sp_sa_nj u2, sp_sa_np (by omega), sp_sa_np (by omega), sp_sa_np (by omega), if_neg u2]
        exact (Int32.add_zero _).symm
theorem sq_fightAll (h : qSC σ t c ct cd sc) (hn : 100 ≤ n) (hF : qF ct sc) (h48 : sc 48 < 100000) : sp_wp (X8_fightAll n σ t) (fun τ => qSC τ t c ct cd (qfa ct sc (ct 0 13)).1 ∧ qfp (t + 1) (t + 2) σ τ ∧ ∀ h, h < 6 → τ.2.2.1 (t + 2) h = σ.2.2.1 (t + 2) h + nI ((qfa ct sc (ct 0 13)).2.2 h)) := by
  have hb10 := h.2.2.2.2.2.1.1
  simp only [X8_fightAll, sp_pl, qn_l]
  have key : X8_fightAll_4 n t n σ (nI 0) (nI 0) = X8_fightAll_51 n t σ (nI (qrd ct sc)) := by
    have h0 := h
    obtain ⟨ht, hc, hi, ⟨hnb, hns, hpt, hA1, hA2, hA3, hA4, hA5, hA6, hA7, hR1, hR2⟩, hS, ⟨hb10, hs5, hG, hH, hL, hU, hO⟩, hB⟩ := h
    have hX := fun k => Nat.lt_trans (hB k) (by decide : (1048576 : Nat) < 2 ^ 31)
    have hY : ∀ p k, ct p k < 2 ^ 31 := fun p k => Nat.lt_trans (hG p k) (by decide)
    refine lp_up (fun f i => X8_fightAll_4 n t f σ (nI (bs (fun b => decide (sc (10 + b) = 0) && decide (ct 0 16 ≤ sc b)) i)) (nI i)) (ct 0 13) _ (fun f => ?_) (fun f i hi2 => ?_) n 0 (by omega) (by omega)
    · simp (disch := first | assumption | omega | exact hX _ | exact hY _ _ | exact hZ _ | fail) only [X8_fightAll_4, hc, hi, hnb, sp_pl, sp_ckt, sp_bd_s, sp_bv_s, qn_l, nI_add, qn_sub, pk_mul, qn_le, qn_lt, qn_eq, qn_in, qn_g, nI_clamp, qn_and31, qn_sl, qn_sr, qn_b0, qn_b1, sp_zb0, sp_zb1, if_true, if_false, if_pos, if_neg, reduceIte, not_true_eq_false, not_false_eq_true, decide_true, decide_false, Bool.false_eq_true, Bool.not_true, Bool.not_false, Bool.true_eq_false, eq_self, qn_meq, qn_of, Nat.reduceEqDiff, Nat.reduceLT, Nat.reduceLeDiff, Nat.reduceAdd, Nat.reduceSub, Nat.reduceMul, Nat.reducePow, or_self, or_false, or_true, false_or, true_or, and_true, true_and, and_false, false_and, and_self, Nat.le_refl]
      rfl
    · simp (disch := first | assumption | omega | exact hX _ | exact hY _ _ | exact hZ _ | fail) only [X8_fightAll_4, X8_fightAll_45, hc, hi, hnb, sp_pl, sp_ckt, sp_bd_s, sp_bv_s, qn_l, nI_add, qn_sub, pk_mul, qn_le, qn_lt, qn_eq, qn_in, qn_g, nI_clamp, qn_and31, qn_sl, qn_sr, qn_b0, qn_b1, sp_zb0, sp_zb1, if_true, if_false, if_pos, if_neg, reduceIte, not_true_eq_false, not_false_eq_true, decide_true, decide_false, Bool.false_eq_true, Bool.not_true, Bool.not_false, Bool.true_eq_false, eq_self, qn_meq, qn_of, Nat.reduceEqDiff, Nat.reduceLT, Nat.reduceLeDiff, Nat.reduceAdd, Nat.reduceSub, Nat.reduceMul, Nat.reducePow, or_self, or_false, or_true, false_or, true_or, and_true, true_and, and_false, false_and, and_self, Nat.not_le.mpr hi2, sq_isOut h0 (show i < 10 by omega), hS, hpt, qn_or]
      by_cases p : sc (10 + i) = 0
      · by_cases z : ct 0 16 ≤ sc i
        · simp (disch := first | assumption | omega | exact hX _ | exact hY _ _ | exact hZ _ | fail) only [p, z, Nat.not_lt.mpr z, sp_pl, sp_ckt, sp_bd_s, sp_bv_s, qn_l, nI_add, qn_sub, pk_mul, qn_le, qn_lt, qn_eq, qn_in, qn_g, nI_clamp, qn_and31, qn_sl, qn_sr, qn_b0, qn_b1, sp_zb0, sp_zb1, if_true, if_false, if_pos, if_neg, reduceIte, not_true_eq_false, not_false_eq_true, decide_true, decide_false, Bool.false_eq_true, Bool.not_true, Bool.not_false, Bool.true_eq_false, eq_self, qn_meq, qn_of, Nat.reduceEqDiff, Nat.reduceLT, Nat.reduceLeDiff, Nat.reduceAdd, Nat.reduceSub, Nat.reduceMul, Nat.reducePow, or_self, or_false, or_true, false_or, true_or, and_true, true_and, and_false, false_and, and_self, bs, Bool.and_true]
        · simp (disch := first | assumption | omega | exact hX _ | exact hY _ _ | exact hZ _ | fail) only [p, z, Nat.not_le.mp z, sp_pl, sp_ckt, sp_bd_s, sp_bv_s, qn_l, nI_add, qn_sub, pk_mul, qn_le, qn_lt, qn_eq, qn_in, qn_g, nI_clamp, qn_and31, qn_sl, qn_sr, qn_b0, qn_b1, sp_zb0, sp_zb1, if_true, if_false, if_pos, if_neg, reduceIte, not_true_eq_false, not_false_eq_true, decide_true, decide_false, Bool.false_eq_true, Bool.not_true, Bool.not_false, Bool.true_eq_false, eq_self, qn_meq, qn_of, Nat.reduceEqDiff, Nat.reduceLT, Nat.reduceLeDiff, Nat.reduceAdd, Nat.reduceSub, Nat.reduceMul, Nat.reducePow, or_self, or_false, or_true, false_or, true_or, and_true, true_and, and_false, false_and, and_self, bs, Bool.and_false]
      · simp (disch := first | assumption | omega | exact hX _ | exact hY _ _ | exact hZ _ | fail) only [p, sp_pl, sp_ckt, sp_bd_s, sp_bv_s, qn_l, nI_add, qn_sub, pk_mul, qn_le, qn_lt, qn_eq, qn_in, qn_g, nI_clamp, qn_and31, qn_sl, qn_sr, qn_b0, qn_b1, sp_zb0, sp_zb1, if_true, if_false, if_pos, if_neg, reduceIte, not_true_eq_false, not_false_eq_true, decide_true, decide_false, Bool.false_eq_true, Bool.not_true, Bool.not_false, Bool.true_eq_false, eq_self, qn_meq, qn_of, Nat.reduceEqDiff, Nat.reduceLT, Nat.reduceLeDiff, Nat.reduceAdd, Nat.reduceSub, Nat.reduceMul, Nat.reducePow, or_self, or_false, or_true, false_or, true_or, and_true, true_and, and_false, false_and, and_self, bs, Bool.false_and]
  rw [key]
  simp only [X8_fightAll_51, sp_pl, qn_l]
  refine lp_inv (fun f i s => X8_fightAll_53 n t f s (nI (qfa ct sc i).2.1) (nI i)) (fun i s => qSC s t c ct cd (qfa ct sc i).1 ∧ qfp (t + 1) (t + 2) σ s ∧ ∀ h, h < 6 → s.2.2.1 (t + 2) h = σ.2.2.1 (t + 2) h + nI ((qfa ct sc i).2.2 h)) (ct 0 13) _ (fun f s hI => ?_) (fun f i s hi2 hI k => ?_) n 0 σ (by omega) (by omega) ⟨h, qfp_refl σ, fun h _ => (Int32.add_zero _).symm⟩
  · have h := hI.1
    have h0 := h
    obtain ⟨ht, hc, hi, ⟨hnb, hns, hpt, hA1, hA2, hA3, hA4, hA5, hA6, hA7, hR1, hR2⟩, hS, ⟨hb10, hs5, hG, hH, hL, hU, hO⟩, hB⟩ := h
    have hX := fun k => Nat.lt_trans (hB k) (by decide : (1048576 : Nat) < 2 ^ 31)
    have hY : ∀ p k, ct p k < 2 ^ 31 := fun p k => Nat.lt_trans (hG p k) (by decide)
    simp (disch := first | assumption | omega | exact hX _ | exact hY _ _ | exact hZ _ | fail) only [X8_fightAll_53, hc, hi, hnb, sp_pl, sp_ckt, sp_bd_s, sp_bv_s, qn_l, nI_add, qn_sub, pk_mul, qn_le, qn_lt, qn_eq, qn_in, qn_g, nI_clamp, qn_and31, qn_sl, qn_sr, qn_b0, qn_b1, sp_zb0, sp_zb1, if_true, if_false, if_pos, if_neg, reduceIte, not_true_eq_false, not_false_eq_true, decide_true, decide_false, Bool.false_eq_true, Bool.not_true, Bool.not_false, Bool.true_eq_false, eq_self, qn_meq, qn_of, Nat.reduceEqDiff, Nat.reduceLT, Nat.reduceLeDiff, Nat.reduceAdd, Nat.reduceSub, Nat.reduceMul, Nat.reducePow, or_self, or_false, or_true, false_or, true_or, and_true, true_and, and_false, false_and, and_self, Nat.le_refl]
    exact wp_some.mpr hI
  · have h := hI.1
    have hr : (qfa ct sc i).2.1 < 1024 := Nat.lt_of_lt_of_le (qfa_rlt i) (Nat.pow_le_pow_right (by decide) hb10 : 2 ^ ct 0 13 ≤ 2 ^ 10)
    have hF2 : qF ct (qfa ct sc i).1 := by
      intro h hh
      rw [qfa_hi hb10 (by omega) (by omega) i (by omega), qfa_hi hb10 (by omega) (by omega) i (by omega)]
      exact hF h hh
    have h48' := qfa_48 (sc := sc) hb10 i (by omega)
    have h0 := h
    obtain ⟨ht, hc, hi, ⟨hnb, hns, hpt, hA1, hA2, hA3, hA4, hA5, hA6, hA7, hR1, hR2⟩, hS, ⟨hb10, hs5, hG, hH, hL, hU, hO⟩, hB⟩ := h
    have hX := fun k => Nat.lt_trans (hB k) (by decide : (1048576 : Nat) < 2 ^ 31)
    have hY : ∀ p k, ct p k < 2 ^ 31 := fun p k => Nat.lt_trans (hG p k) (by decide)
    simp (disch := first | assumption | omega | exact hX _ | exact hY _ _ | exact hZ _ | fail) only [X8_fightAll_53, X8_fightAll_96, hc, hi, hnb, sp_pl, sp_ckt, sp_bd_s, sp_bv_s, qn_l, nI_add, qn_sub, pk_mul, qn_le, qn_lt, qn_eq, qn_in, qn_g, nI_clamp, qn_and31, qn_sl, qn_sr, qn_b0, qn_b1, sp_zb0, sp_zb1, if_true, if_false, if_pos, if_neg, reduceIte, not_true_eq_false, not_false_eq_true, decide_true, decide_false, Bool.false_eq_true, Bool.not_true, Bool.not_false, Bool.true_eq_false, eq_self, qn_meq, qn_of, Nat.reduceEqDiff, Nat.reduceLT, Nat.reduceLeDiff, Nat.reduceAdd, Nat.reduceSub, Nat.reduceMul, Nat.reducePow, or_self, or_false, or_true, false_or, true_or, and_true, true_and, and_false, false_and, and_self, Nat.not_le.mpr hi2, sq_firstFoe h0 hn hF2 hi2 hr]
    cases e : qfoe1 ct (qfa ct sc i).1 (qfa ct sc i).2.1 i with
    | none =>
      simp only [qe, if_true]
      have e2 : qfa ct sc (i + 1) = qfa ct sc i := by rw [qfa, e]
      have := k s (by rw [e2]; exact hI)
      rw [e2] at this
      exact this
    | some o =>
      obtain ⟨a1, a2, a3, a4, a5⟩ := qfoe1_lt e
      have e2 : qfa ct sc (i + 1) = (qfig (qfa ct sc i).1 i o, qd (qd (qfa ct sc i).2.1 (2 ^ i)) (2 ^ o), fun h => ((qfa ct sc i).2.2 h + if h = ct 1 i then 1 else 0) + if h = ct 1 o then 1 else 0) := by rw [qfa, e]
      simp (disch := first | assumption | omega | exact hX _ | exact hY _ _ | exact hZ _ | fail) only [qe, sp_pl, sp_ckt, sp_bd_s, sp_bv_s, qn_l, nI_add, qn_sub, pk_mul, qn_le, qn_lt, qn_eq, qn_in, qn_g, nI_clamp, qn_and31, qn_sl, qn_sr, qn_b0, qn_b1, sp_zb0, sp_zb1, if_true, if_false, if_pos, if_neg, reduceIte, not_true_eq_false, not_false_eq_true, decide_true, decide_false, Bool.false_eq_true, Bool.not_true, Bool.not_false, Bool.true_eq_false, eq_self, qn_meq, qn_of, Nat.reduceEqDiff, Nat.reduceLT, Nat.reduceLeDiff, Nat.reduceAdd, Nat.reduceSub, Nat.reduceMul, Nat.reducePow, or_self, or_false, or_true, false_or, true_or, and_true, true_and, and_false, false_and, and_self]
      refine wp_bv (wp_mono (sq_fight h0 hi2 a2 (by omega) (by omega)) ?_)
      rintro τ ⟨g1, g2, g3⟩
      rw [← Int32.and_assoc, qn_dif, qn_dif]
      have := k τ ⟨by rw [e2]; exact g1, qfp_trans hI.2.1 g2, fun h hh => ?_⟩
      · rw [e2] at this
        exact this
      · rw [e2, g3 h hh, hI.2.2 h hh, Int32.add_assoc, nI_add, ← Nat.add_assoc]
theorem sq_passDay (h : qSC σ t c ct cd sc) (hn : 1000 ≤ n) (hP : qP ct sc) (hD : qcd cd) (hA : ∀ b, b < ct 0 13 → sc b ≤ 99) (h48 : sc 48 < 100000) (h47 : sc 47 < 100000) : sp_wp (X8_passDay n σ t) (fun τ => qSC τ t c ct cd (qday ct cd sc) ∧ qfp (t + 1) (t + 6) σ τ ∧ ∀ h, h < 6 → τ.2.2.1 (t + 2) h = σ.2.2.1 (t + 2) h + nI (qfts ct cd sc h)) := by
  have hb10 := h.2.2.2.2.2.1.1
  have hk : ∀ k, 20 ≤ k → qd3 ct cd sc k = sc k := fun k hk => by
    unfold qd3
    rw [qhic_oth (by omega), qres_lo (by omega), qang_hi (by omega)]
  have hF : qF ct (qd3 ct cd sc) := by
    intro h hh
    rw [hk _ (by omega), hk _ (by omega)]
    exact hP.2 h hh
  simp only [X8_passDay]
  refine wp_bv (wp_mono (sq_changeAngers h hn hP hD hA) ?_)
  rintro σ1 ⟨g1, g2, g3⟩
  refine wp_bv (wp_mono (sq_layToRest g1 (by omega)) ?_)
  rintro σ2 ⟨g4, g5⟩
  refine wp_bv (wp_mono (sq_hiccupAll g4 (by omega)) ?_)
  rintro σ3 ⟨g6, g7⟩
  refine wp_bv (wp_mono (sq_fightAll (sc := qd3 ct cd sc) g6 (by omega) hF (by rw [hk 48 (by omega)]; exact h48)) ?_)
  rintro σ4 ⟨g8, g9, g10⟩
  have e47 : (qfa ct (qd3 ct cd sc) (ct 0 13)).1 47 = sc 47 := by rw [qfa_hi hb10 (by omega) (by omega) _ (Nat.le_refl _), hk 47 (by omega)]
  have hS := g8.2.2.2.2.1
  simp (disch := first | assumption | omega | exact hX _ | exact hY _ _ | exact hZ _ | fail) only [sp_pl, sp_ckt, sp_bd_s, sp_bv_s, qn_l, nI_add, qn_sub, pk_mul, qn_le, qn_lt, qn_eq, qn_in, qn_g, nI_clamp, qn_and31, qn_sl, qn_sr, qn_b0, qn_b1, sp_zb0, sp_zb1, if_true, if_false, if_pos, if_neg, reduceIte, not_true_eq_false, not_false_eq_true, decide_true, decide_false, Bool.false_eq_true, Bool.not_true, Bool.not_false, Bool.true_eq_false, eq_self, qn_meq, qn_of, Nat.reduceEqDiff, Nat.reduceLT, Nat.reduceLeDiff, Nat.reduceAdd, Nat.reduceSub, Nat.reduceMul, Nat.reducePow, or_self, or_false, or_true, false_or, true_or, and_true, true_and, and_false, false_and, and_self, hS]
  refine wp_some.mpr ⟨qSC_set g8 (by omega), ?_, ?_⟩
  · exact qfp_trans (qfp_trans (qfp_trans (qfp_trans g2 (qfp_mono g5 (by omega) (by omega))) (qfp_mono g7 (by omega) (by omega))) (qfp_mono g9 (by omega) (by omega))) (qfp_sa (by omega) (by omega))
  · intro h hh
    rw [sp_sa_np (by omega), g10 h hh, (g7.2.2 (t + 2) (by omega)).2, (g5.2.2 (t + 2) (by omega)).2, g3]
    rfl
end
