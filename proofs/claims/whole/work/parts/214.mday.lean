-- ===== A DAY OF THE REFERENCE =====
theorem qu_same {f : Nat → Nat} {k : Nat} : qu f k (f k) = f := by
  funext j
  unfold qu
  by_cases e : j = k
  · subst e; simp
  · simp [e]
def mfx (μ ν : sp_St) : Prop := mfd μ ν ∧ ν.2.2.1 24 = μ.2.2.1 24
theorem mfx_refl (μ : sp_St) : mfx μ μ := ⟨mfd_refl μ, rfl⟩
theorem mfx_trans {μ ν ξ : sp_St} (h : mfx μ ν) (g : mfx ν ξ) : mfx μ ξ := ⟨mfd_trans h.1 g.1, g.2.trans h.2⟩
theorem mfs_x {μ ν : sp_St} (h : mfs μ ν) : mfx μ ν := ⟨h.1, h.2.1 24 (by omega)⟩
theorem mfl_x {μ ν : sp_St} (h : mfl μ ν) : mfx μ ν := ⟨mfl_fd h, h.2.2 24 (by omega) (by omega) (by omega)⟩
theorem mfx_sa {μ : sp_St} {p i : Nat} {v : Int32} (h1 : 14 ≤ p) (h2 : p ≤ 23) (h3 : p ≠ 20) : mfx μ (sp_sa μ p i v) := by
  refine ⟨mfd_sa h1 (by omega) h3, ?_⟩
  funext j
  rw [sp_sa_np (by omega)]
section
variable {μ : sp_St} {n : Nat} {ct : Nat → Nat → Nat} {cd : List Nat × List Nat} {sc : Nat → Nat} {stk : Nat → List Nat}
theorem mSC_ang {ν : sp_St} {sc' : Nat → Nat} (h : mSC μ ct cd sc stk) (hf : mfd μ ν) (hp : ∀ p, 15 ≤ p → p ≤ 19 → ν.2.2.1 p = μ.2.2.1 p) (h47 : ν.1 0 33 = nI (sc' 47)) (h48 : ν.1 0 34 = nI (sc' 48)) (hA : ∀ b, b < ct 0 13 → ν.2.2.1 14 b = nI (sc' b)) (hk : ∀ k, 10 ≤ k → k ≠ 47 → k ≠ 48 → sc' k = sc k) (hB : ∀ k, sc' k < 1048576) : mSC ν ct cd sc' stk := by
  have h0 := h
  obtain ⟨⟨hns, hnb, hpt, hl4, hl5, hA1, hA2, hA6, hE1, hE2, hl7, hl8⟩, ⟨h47', h48', hAn, hWh, hRo, hMa, hSt, hFe⟩, hQ, ⟨hb10, hs5, hG, hH, hL, hU, hO⟩, hB', hPl⟩ := h
  refine ⟨mC_fd hf h0.1, ⟨h47, h48, hA, ?_, ?_, ?_, ?_, ?_⟩, ?_, h0.2.2.2.1, hB, ?_⟩
  · intro b hb
    rw [hp 15 (by omega) (by omega), hWh b hb]
    unfold sqState
    rw [hk (10 + b) (by omega) (by omega) (by omega)]
  · intro s hs
    rw [hp 16 (by omega) (by omega), hRo s hs, hk (30 + s) (by omega) (by omega) (by omega)]
  · intro s hs
    rw [hp 17 (by omega) (by omega), hMa s hs]
  · intro s hs k hk2
    rw [hp 18 (by omega) (by omega), hSt s hs k hk2]
  · intro x hx
    rw [hp 19 (by omega) (by omega), hFe x hx, hk (35 + x) (by omega) (by omega) (by omega)]
  · intro s hs
    refine ⟨List.Pairwise.imp_of_mem ?_ (hQ s hs).1, fun b => ?_⟩
    · intro x y hx hy hxy
      have h1 := ((hQ s hs).2 x).mp hx
      have h2 := ((hQ s hs).2 y).mp hy
      rw [hk (20 + x) (by omega) (by omega) (by omega), hk (20 + y) (by omega) (by omega) (by omega)]
      exact hxy
    · rw [(hQ s hs).2 b]
      by_cases hb : b < ct 0 13
      · rw [hk (10 + b) (by omega) (by omega) (by omega)]
      · simp [hb]
  · intro b hb
    rw [hk (10 + b) (by omega) (by omega) (by omega)]
    exact hPl b hb
theorem mSC_set {b v : Nat} (h : mSC μ ct cd sc stk) (hb : b < ct 0 13) (hv : v < 1048576) : mSC (sp_sa μ 14 b (nI v)) ct cd (qu sc b v) stk := by
  have hb10 := h.2.2.2.1.1
  refine mSC_ang h (mfd_sa (by omega) (by omega) (by omega)) (fun p h1 h2 => ?_) ?_ ?_ (fun x hx => ?_) (fun k h1 h2 h3 => ?_) (qu_lt h.2.2.2.2.1 hv)
  · funext j; rw [sp_sa_np (by omega)]
  · rw [sp_sa_1, qu_n (by omega)]; exact h.2.1.1
  · rw [sp_sa_1, qu_n (by omega)]; exact h.2.1.2.1
  · by_cases e : x = b
    · subst e; rw [sp_sa_eq, qu_e]
    · rw [sp_sa_nj e, qu_n e]; exact h.2.1.2.2.1 x hx
  · rw [qu_n (by omega)]
theorem rq_change1 (h : mSC μ ct cd sc stk) (hn : 1000 ≤ n) (hA : ∀ b, b < ct 0 13 → sc b ≤ 99) (hch : ∀ b, b < ct 0 13 → μ.2.2.1 23 b = nI (qchg ct cd sc b)) {Q : sp_St → Prop} (hQQ : ∀ ν, mSC ν ct cd (qang ct cd sc (ct 0 13)) stk → mfx μ ν → sp_wp (X12_change_113 n ν) Q) : sp_wp (X12_change_29 n μ) Q := by
  have hb10 := h.2.2.2.1.1
  have hZ : ∀ k, sc k < 2 ^ 31 := fun k => Nat.lt_trans (h.2.2.2.2.1 k) (by decide)
  simp only [X12_change_29, sp_pl, qn_l]
  refine lp_inv (fun f i s => X12_change_31 n f s (nI i)) (fun i s => mSC s ct cd (qang ct cd sc i) stk ∧ mfx μ s ∧ s.2.2.1 23 = μ.2.2.1 23) (ct 0 13) _ (fun f s hI => ?_) (fun f i s hi2 hI k => ?_) n 0 μ (by omega) (by omega) ⟨?_, mfx_refl μ, rfl⟩
  · have h := hI.1
    have h0 := h
    obtain ⟨⟨hns, hnb, hpt, hl4, hl5, hA1, hA2, hA6, hE1, hE2, hl7, hl8⟩, ⟨h47, h48, hAn, hWh, hRo, hMa, hSt, hFe⟩, hQ, ⟨hb10, hs5, hG, hH, hL, hU, hO⟩, hB, hPl⟩ := h
    have hX := fun k => Nat.lt_trans (hB k) (by decide : (1048576 : Nat) < 2 ^ 31)
    have hY : ∀ p k, ct p k < 2 ^ 31 := fun p k => Nat.lt_trans (hG p k) (by decide)
    simp (disch := first | assumption | omega | exact hX _ | exact hY _ _ | exact hZ _ | fail) only [X12_change_31, hnb, sp_pl, sp_ckt, sp_bd_s, sp_bv_s, qn_l, nI_add, qn_sub, pk_mul, qn_le, qn_lt, qn_eq, qn_in, qn_g, nI_clamp, qn_and31, qn_sl, qn_sr, qn_b0, qn_b1, sp_zb0, sp_zb1, if_true, if_false, if_pos, if_neg, reduceIte, not_true_eq_false, not_false_eq_true, decide_true, decide_false, Bool.false_eq_true, Bool.not_true, Bool.not_false, Bool.true_eq_false, eq_self, qn_meq, qn_of, Nat.reduceEqDiff, Nat.reduceLT, Nat.reduceLeDiff, Nat.reduceAdd, Nat.reduceSub, Nat.reduceMul, Nat.reducePow, or_self, or_false, or_true, false_or, true_or, and_true, true_and, and_false, false_and, and_self, Nat.le_refl]
    exact hQQ s hI.1 hI.2.1
  · have h := hI.1
    have hc := hch i hi2
    have hq := qchg_le hb10 cd sc i
    have ha := hA i hi2
    have e1 : qang ct cd sc i (10 + i) = sc (10 + i) := qang_hi (by omega)
    have e2 : qang ct cd sc i i = sc i := qang_hi (by omega)
    have e3 : s.2.2.1 23 i = nI (qchg ct cd sc i) := by rw [hI.2.2]; exact hc
    have e4 : sqState (qang ct cd sc i) i = sqState sc i := by unfold sqState; rw [e1]
    have hw := sqs_lt sc i
    have h0 := h
    obtain ⟨⟨hns, hnb, hpt, hl4, hl5, hA1, hA2, hA6, hE1, hE2, hl7, hl8⟩, ⟨h47, h48, hAn, hWh, hRo, hMa, hSt, hFe⟩, hQ, ⟨hb10, hs5, hG, hH, hL, hU, hO⟩, hB, hPl⟩ := h
    have hX := fun k => Nat.lt_trans (hB k) (by decide : (1048576 : Nat) < 2 ^ 31)
    have hY : ∀ p k, ct p k < 2 ^ 31 := fun p k => Nat.lt_trans (hG p k) (by decide)
    simp (disch := first | assumption | omega | exact hX _ | exact hY _ _ | exact hZ _ | fail) only [X12_change_31, X12_change_74, X12_change_107, hnb, hWh, e4, sp_pl, sp_ckt, sp_bd_s, sp_bv_s, qn_l, nI_add, qn_sub, pk_mul, qn_le, qn_lt, qn_eq, qn_in, qn_g, nI_clamp, qn_and31, qn_sl, qn_sr, qn_b0, qn_b1, sp_zb0, sp_zb1, if_true, if_false, if_pos, if_neg, reduceIte, not_true_eq_false, not_false_eq_true, decide_true, decide_false, Bool.false_eq_true, Bool.not_true, Bool.not_false, Bool.true_eq_false, eq_self, qn_meq, qn_of, Nat.reduceEqDiff, Nat.reduceLT, Nat.reduceLeDiff, Nat.reduceAdd, Nat.reduceSub, Nat.reduceMul, Nat.reducePow, or_self, or_false, or_true, false_or, true_or, and_true, true_and, and_false, false_and, and_self, Nat.not_le.mpr hi2]
    by_cases p0 : sc (10 + i) = 0
    · simp (disch := first | assumption | omega | exact hX _ | exact hY _ _ | exact hZ _ | fail) only [sqs0.mpr p0, sp_pl, sp_ckt, sp_bd_s, sp_bv_s, qn_l, nI_add, qn_sub, pk_mul, qn_le, qn_lt, qn_eq, qn_in, qn_g, nI_clamp, qn_and31, qn_sl, qn_sr, qn_b0, qn_b1, sp_zb0, sp_zb1, if_true, if_false, if_pos, if_neg, reduceIte, not_true_eq_false, not_false_eq_true, decide_true, decide_false, Bool.false_eq_true, Bool.not_true, Bool.not_false, Bool.true_eq_false, eq_self, qn_meq, qn_of, Nat.reduceEqDiff, Nat.reduceLT, Nat.reduceLeDiff, Nat.reduceAdd, Nat.reduceSub, Nat.reduceMul, Nat.reducePow, or_self, or_false, or_true, false_or, true_or, and_true, true_and, and_false, false_and, and_self, hAn, hWh, e2, e3, e4, qn_min]
      refine k _ ⟨?_, mfx_trans hI.2.1 (mfx_sa (by omega) (by omega) (by omega)), ?_⟩
      · rw [qang_s, if_pos p0]
        exact mSC_set h0 hi2 (by omega)
      · funext j; rw [sp_sa_np (by omega), hI.2.2]
    · by_cases p6 : sc (10 + i) = 6
      · simp (disch := first | assumption | omega | exact hX _ | exact hY _ _ | exact hZ _ | fail) only [sqs2.mpr p6, sp_pl, sp_ckt, sp_bd_s, sp_bv_s, qn_l, nI_add, qn_sub, pk_mul, qn_le, qn_lt, qn_eq, qn_in, qn_g, nI_clamp, qn_and31, qn_sl, qn_sr, qn_b0, qn_b1, sp_zb0, sp_zb1, if_true, if_false, if_pos, if_neg, reduceIte, not_true_eq_false, not_false_eq_true, decide_true, decide_false, Bool.false_eq_true, Bool.not_true, Bool.not_false, Bool.true_eq_false, eq_self, qn_meq, qn_of, Nat.reduceEqDiff, Nat.reduceLT, Nat.reduceLeDiff, Nat.reduceAdd, Nat.reduceSub, Nat.reduceMul, Nat.reducePow, or_self, or_false, or_true, false_or, true_or, and_true, true_and, and_false, false_and, and_self]
        refine k _ ⟨?_, hI.2⟩
        rw [qang_s, if_neg p0]
        have : qchg ct cd sc i = 0 := by unfold qchg; rw [if_pos p6]
        rw [this, Nat.sub_zero, ← e2, qu_same]
        exact h0
      · have e5 : sp_max (nI 0) (nI (sc i) - nI (qchg ct cd sc i)) = nI (sc i - qchg ct cd sc i) := by
          by_cases hle : qchg ct cd sc i ≤ sc i
          · rw [pk_sub hle, qn_max (by decide) (by omega), Nat.zero_max]
          · have h5 : nI (sc i) - nI (qchg ct cd sc i) < nI 0 := pk_sneg (by omega) (by omega)
            unfold sp_max
            rw [if_neg (fun x => Int32.lt_irrefl (Int32.lt_trans x h5)), Nat.sub_eq_zero_of_le (by omega)]
        have e6 : (sp_sa s 14 i (nI (sc i - qchg ct cd sc i))).2.2.1 15 i = nI 1 := by
          rw [sp_sa_np (by omega), hWh i hi2, e4, sqs1.mpr (by omega)]
        simp (disch := first | assumption | omega | exact hX _ | exact hY _ _ | exact hZ _ | fail) only [sqs1.mpr (show ¬ (sc (10 + i) = 0 ∨ sc (10 + i) = 6) by omega), sp_pl, sp_ckt, sp_bd_s, sp_bv_s, qn_l, nI_add, qn_sub, pk_mul, qn_le, qn_lt, qn_eq, qn_in, qn_g, nI_clamp, qn_and31, qn_sl, qn_sr, qn_b0, qn_b1, sp_zb0, sp_zb1, if_true, if_false, if_pos, if_neg, reduceIte, not_true_eq_false, not_false_eq_true, decide_true, decide_false, Bool.false_eq_true, Bool.not_true, Bool.not_false, Bool.true_eq_false, eq_self, qn_meq, qn_of, Nat.reduceEqDiff, Nat.reduceLT, Nat.reduceLeDiff, Nat.reduceAdd, Nat.reduceSub, Nat.reduceMul, Nat.reducePow, or_self, or_false, or_true, false_or, true_or, and_true, true_and, and_false, false_and, and_self, hAn, e2, e3, e5, e6]
        refine k _ ⟨?_, mfx_trans hI.2.1 (mfx_sa (by omega) (by omega) (by omega)), ?_⟩
        · rw [qang_s, if_neg p0]
          exact mSC_set h0 hi2 (by omega)
        · funext j; rw [sp_sa_np (by omega), hI.2.2]
  · have : qang ct cd sc 0 = sc := by funext k; exact qang_hi (by omega)
    rw [this]; exact h
theorem rq_change2 (h : mSC μ ct cd sc stk) (hn : 1000 ≤ n) : sp_wp (X12_change_113 n μ) (fun ν => (∃ stk', mSC ν ct cd (qres sc (ct 0 13)) stk') ∧ mfx μ ν) := by
  have hZ : ∀ k, sc k < 2 ^ 31 := fun k => Nat.lt_trans (h.2.2.2.2.1 k) (by decide)
  have hb10 := h.2.2.2.1.1
  simp only [X12_change_113, sp_pl, qn_l]
  refine lp_inv (fun f i s => X12_change_115 n f s (nI i)) (fun i s => (∃ stk', mSC s ct cd (qres sc i) stk') ∧ mfx μ s) (ct 0 13) _ (fun f s hI => ?_) (fun f i s hi2 hI k => ?_) n 0 μ (by omega) (by omega) ⟨⟨stk, ?_⟩, mfx_refl μ⟩
  · obtain ⟨stk', h⟩ := hI.1
    have h0 := h
    obtain ⟨⟨hns, hnb, hpt, hl4, hl5, hA1, hA2, hA6, hE1, hE2, hl7, hl8⟩, ⟨h47, h48, hAn, hWh, hRo, hMa, hSt, hFe⟩, hQ, ⟨hb10, hs5, hG, hH, hL, hU, hO⟩, hB, hPl⟩ := h
    have hX := fun k => Nat.lt_trans (hB k) (by decide : (1048576 : Nat) < 2 ^ 31)
    have hY : ∀ p k, ct p k < 2 ^ 31 := fun p k => Nat.lt_trans (hG p k) (by decide)
    simp (disch := first | assumption | omega | exact hX _ | exact hY _ _ | exact hZ _ | fail) only [X12_change_115, hnb, sp_pl, sp_ckt, sp_bd_s, sp_bv_s, qn_l, nI_add, qn_sub, pk_mul, qn_le, qn_lt, qn_eq, qn_in, qn_g, nI_clamp, qn_and31, qn_sl, qn_sr, qn_b0, qn_b1, sp_zb0, sp_zb1, if_true, if_false, if_pos, if_neg, reduceIte, not_true_eq_false, not_false_eq_true, decide_true, decide_false, Bool.false_eq_true, Bool.not_true, Bool.not_false, Bool.true_eq_false, eq_self, qn_meq, qn_of, Nat.reduceEqDiff, Nat.reduceLT, Nat.reduceLeDiff, Nat.reduceAdd, Nat.reduceSub, Nat.reduceMul, Nat.reducePow, or_self, or_false, or_true, false_or, true_or, and_true, true_and, and_false, false_and, and_self, Nat.le_refl]
    exact wp_some.mpr hI
  · obtain ⟨stk', h⟩ := hI.1
    have e1 : qres sc i (10 + i) = sc (10 + i) := qres_lo (by omega)
    have e2 : qres sc i i = sc i := qres_lo (by omega)
    have e4 : sqState (qres sc i) i = sqState sc i := by unfold sqState; rw [e1]
    have hw := sqs_lt sc i
    have hn1 : 100 ≤ n := by omega
    have h0 := h
    obtain ⟨⟨hns, hnb, hpt, hl4, hl5, hA1, hA2, hA6, hE1, hE2, hl7, hl8⟩, ⟨h47, h48, hAn, hWh, hRo, hMa, hSt, hFe⟩, hQ, ⟨hb10, hs5, hG, hH, hL, hU, hO⟩, hB, hPl⟩ := h
    have hX := fun k => Nat.lt_trans (hB k) (by decide : (1048576 : Nat) < 2 ^ 31)
    have hY : ∀ p k, ct p k < 2 ^ 31 := fun p k => Nat.lt_trans (hG p k) (by decide)
    simp (disch := first | assumption | omega | exact hX _ | exact hY _ _ | exact hZ _ | fail) only [X12_change_115, X12_change_150, hnb, hWh, e4, sp_pl, sp_ckt, sp_bd_s, sp_bv_s, qn_l, nI_add, qn_sub, pk_mul, qn_le, qn_lt, qn_eq, qn_in, qn_g, nI_clamp, qn_and31, qn_sl, qn_sr, qn_b0, qn_b1, sp_zb0, sp_zb1, if_true, if_false, if_pos, if_neg, reduceIte, not_true_eq_false, not_false_eq_true, decide_true, decide_false, Bool.false_eq_true, Bool.not_true, Bool.not_false, Bool.true_eq_false, eq_self, qn_meq, qn_of, Nat.reduceEqDiff, Nat.reduceLT, Nat.reduceLeDiff, Nat.reduceAdd, Nat.reduceSub, Nat.reduceMul, Nat.reducePow, or_self, or_false, or_true, false_or, true_or, and_true, true_and, and_false, false_and, and_self, Nat.not_le.mpr hi2]
    by_cases p : sc (10 + i) = 0 ∨ sc (10 + i) = 6
    · have : ¬ sqState sc i = 1 := fun x => sqs1.mp x p
      simp (disch := first | assumption | omega | exact hX _ | exact hY _ _ | exact hZ _ | fail) only [this, sp_pl, sp_ckt, sp_bd_s, sp_bv_s, qn_l, nI_add, qn_sub, pk_mul, qn_le, qn_lt, qn_eq, qn_in, qn_g, nI_clamp, qn_and31, qn_sl, qn_sr, qn_b0, qn_b1, sp_zb0, sp_zb1, if_true, if_false, if_pos, if_neg, reduceIte, not_true_eq_false, not_false_eq_true, decide_true, decide_false, Bool.false_eq_true, Bool.not_true, Bool.not_false, Bool.true_eq_false, eq_self, qn_meq, qn_of, Nat.reduceEqDiff, Nat.reduceLT, Nat.reduceLeDiff, Nat.reduceAdd, Nat.reduceSub, Nat.reduceMul, Nat.reducePow, or_self, or_false, or_true, false_or, true_or, and_true, true_and, and_false, false_and, and_self]
      refine k _ ⟨⟨stk', ?_⟩, hI.2⟩
      rw [qres_n (Or.inl p)]
      exact h0
    · simp (disch := first | assumption | omega | exact hX _ | exact hY _ _ | exact hZ _ | fail) only [sqs1.mpr p, sp_pl, sp_ckt, sp_bd_s, sp_bv_s, qn_l, nI_add, qn_sub, pk_mul, qn_le, qn_lt, qn_eq, qn_in, qn_g, nI_clamp, qn_and31, qn_sl, qn_sr, qn_b0, qn_b1, sp_zb0, sp_zb1, if_true, if_false, if_pos, if_neg, reduceIte, not_true_eq_false, not_false_eq_true, decide_true, decide_false, Bool.false_eq_true, Bool.not_true, Bool.not_false, Bool.true_eq_false, eq_self, qn_meq, qn_of, Nat.reduceEqDiff, Nat.reduceLT, Nat.reduceLeDiff, Nat.reduceAdd, Nat.reduceSub, Nat.reduceMul, Nat.reducePow, or_self, or_false, or_true, false_or, true_or, and_true, true_and, and_false, false_and, and_self, hAn, e2]
      by_cases z : sc i = 0
      · simp (disch := first | assumption | omega | exact hX _ | exact hY _ _ | exact hZ _ | fail) only [z, sp_pl, sp_ckt, sp_bd_s, sp_bv_s, qn_l, nI_add, qn_sub, pk_mul, qn_le, qn_lt, qn_eq, qn_in, qn_g, nI_clamp, qn_and31, qn_sl, qn_sr, qn_b0, qn_b1, sp_zb0, sp_zb1, if_true, if_false, if_pos, if_neg, reduceIte, not_true_eq_false, not_false_eq_true, decide_true, decide_false, Bool.false_eq_true, Bool.not_true, Bool.not_false, Bool.true_eq_false, eq_self, qn_meq, qn_of, Nat.reduceEqDiff, Nat.reduceLT, Nat.reduceLeDiff, Nat.reduceAdd, Nat.reduceSub, Nat.reduceMul, Nat.reducePow, or_self, or_false, or_true, false_or, true_or, and_true, true_and, and_false, false_and, and_self]
        refine wp_bv (wp_mono (rq_takeOut h0 hn1 hi2 (by rw [e1]; exact p) (Or.inr ⟨rfl, rfl⟩)) ?_)
        rintro τ ⟨g1, g2⟩
        refine k _ ⟨⟨qrem stk' i, ?_⟩, mfx_trans hI.2 (mfl_x g2)⟩
        rw [qres_y p z]
        exact g1
      · simp (disch := first | assumption | omega | exact hX _ | exact hY _ _ | exact hZ _ | fail) only [z, sp_pl, sp_ckt, sp_bd_s, sp_bv_s, qn_l, nI_add, qn_sub, pk_mul, qn_le, qn_lt, qn_eq, qn_in, qn_g, nI_clamp, qn_and31, qn_sl, qn_sr, qn_b0, qn_b1, sp_zb0, sp_zb1, if_true, if_false, if_pos, if_neg, reduceIte, not_true_eq_false, not_false_eq_true, decide_true, decide_false, Bool.false_eq_true, Bool.not_true, Bool.not_false, Bool.true_eq_false, eq_self, qn_meq, qn_of, Nat.reduceEqDiff, Nat.reduceLT, Nat.reduceLeDiff, Nat.reduceAdd, Nat.reduceSub, Nat.reduceMul, Nat.reducePow, or_self, or_false, or_true, false_or, true_or, and_true, true_and, and_false, false_and, and_self]
        refine k _ ⟨⟨stk', ?_⟩, hI.2⟩
        rw [qres_n (Or.inr z)]
        exact h0
  · have : qres sc 0 = sc := by funext k; exact qres_lo (by omega)
    rw [this]; exact h
theorem rq_change (h : mSC μ ct cd sc stk) (hn : 1000 ≤ n) (hD : qcd cd) (hA : ∀ b, b < ct 0 13 → sc b ≤ 99) : sp_wp (X12_change n μ) (fun ν => (∃ stk', mSC ν ct cd (qres (qang ct cd sc (ct 0 13)) (ct 0 13)) stk') ∧ mfx μ ν) := by
  have hb10 := h.2.2.2.1.1
  simp only [X12_change, sp_pl, qn_l]
  refine lp_inv (fun f i s => X12_change_2 n f s (nI i)) (fun i s => mSC s ct cd sc stk ∧ mfx μ s ∧ ∀ b, b < i → s.2.2.1 23 b = nI (qchg ct cd sc b)) (ct 0 13) _ (fun f s hI => ?_) (fun f i s hi2 hI k => ?_) n 0 μ (by omega) (by omega) ⟨h, mfx_refl μ, fun b hb => by omega⟩
  · have h := hI.1
    have h0 := h
    obtain ⟨⟨hns, hnb, hpt, hl4, hl5, hA1, hA2, hA6, hE1, hE2, hl7, hl8⟩, ⟨h47, h48, hAn, hWh, hRo, hMa, hSt, hFe⟩, hQ, ⟨hb10, hs5, hG, hH, hL, hU, hO⟩, hB, hPl⟩ := h
    have hX := fun k => Nat.lt_trans (hB k) (by decide : (1048576 : Nat) < 2 ^ 31)
    have hY : ∀ p k, ct p k < 2 ^ 31 := fun p k => Nat.lt_trans (hG p k) (by decide)
    simp (disch := first | assumption | omega | exact hX _ | exact hY _ _ | exact hZ _ | fail) only [X12_change_2, hnb, sp_pl, sp_ckt, sp_bd_s, sp_bv_s, qn_l, nI_add, qn_sub, pk_mul, qn_le, qn_lt, qn_eq, qn_in, qn_g, nI_clamp, qn_and31, qn_sl, qn_sr, qn_b0, qn_b1, sp_zb0, sp_zb1, if_true, if_false, if_pos, if_neg, reduceIte, not_true_eq_false, not_false_eq_true, decide_true, decide_false, Bool.false_eq_true, Bool.not_true, Bool.not_false, Bool.true_eq_false, eq_self, qn_meq, qn_of, Nat.reduceEqDiff, Nat.reduceLT, Nat.reduceLeDiff, Nat.reduceAdd, Nat.reduceSub, Nat.reduceMul, Nat.reducePow, or_self, or_false, or_true, false_or, true_or, and_true, true_and, and_false, false_and, and_self, Nat.le_refl]
    refine rq_change1 h0 hn hA hI.2.2 (fun ν g1 g2 => ?_)
    refine wp_mono (rq_change2 g1 hn) ?_
    rintro τ ⟨g3, g4⟩
    exact ⟨g3, mfx_trans hI.2.1 (mfx_trans g2 g4)⟩
  · have h := hI.1
    have h0 := h
    obtain ⟨⟨hns, hnb, hpt, hl4, hl5, hA1, hA2, hA6, hE1, hE2, hl7, hl8⟩, ⟨h47, h48, hAn, hWh, hRo, hMa, hSt, hFe⟩, hQ, ⟨hb10, hs5, hG, hH, hL, hU, hO⟩, hB, hPl⟩ := h
    have hX := fun k => Nat.lt_trans (hB k) (by decide : (1048576 : Nat) < 2 ^ 31)
    have hY : ∀ p k, ct p k < 2 ^ 31 := fun p k => Nat.lt_trans (hG p k) (by decide)
    simp (disch := first | assumption | omega | exact hX _ | exact hY _ _ | exact hZ _ | fail) only [X12_change_2, hnb, sp_pl, sp_ckt, sp_bd_s, sp_bv_s, qn_l, nI_add, qn_sub, pk_mul, qn_le, qn_lt, qn_eq, qn_in, qn_g, nI_clamp, qn_and31, qn_sl, qn_sr, qn_b0, qn_b1, sp_zb0, sp_zb1, if_true, if_false, if_pos, if_neg, reduceIte, not_true_eq_false, not_false_eq_true, decide_true, decide_false, Bool.false_eq_true, Bool.not_true, Bool.not_false, Bool.true_eq_false, eq_self, qn_meq, qn_of, Nat.reduceEqDiff, Nat.reduceLT, Nat.reduceLeDiff, Nat.reduceAdd, Nat.reduceSub, Nat.reduceMul, Nat.reducePow, or_self, or_false, or_true, false_or, true_or, and_true, true_and, and_false, false_and, and_self, Nat.not_le.mpr hi2]
    refine wp_bd (wp_mono (rq_changeOf h0 hn hD hi2) ?_)
    rintro ⟨τ, r⟩ ⟨g1, g2⟩
    dsimp only at g1 g2 ⊢
    subst g1
    try simp (disch := first | assumption | omega | exact hX _ | exact hY _ _ | exact hZ _ | fail) only [sp_pl, sp_ckt, sp_bd_s, sp_bv_s, qn_l, nI_add, qn_sub, pk_mul, qn_le, qn_lt, qn_eq, qn_in, qn_g, nI_clamp, qn_and31, qn_sl, qn_sr, qn_b0, qn_b1, sp_zb0, sp_zb1, if_true, if_false, if_pos, if_neg, reduceIte, not_true_eq_false, not_false_eq_true, decide_true, decide_false, Bool.false_eq_true, Bool.not_true, Bool.not_false, Bool.true_eq_false, eq_self, qn_meq, qn_of, Nat.reduceEqDiff, Nat.reduceLT, Nat.reduceLeDiff, Nat.reduceAdd, Nat.reduceSub, Nat.reduceMul, Nat.reducePow, or_self, or_false, or_true, false_or, true_or, and_true, true_and, and_false, false_and, and_self]
    have h3 := mSC_fs h0 g2
    refine k _ ⟨mSC_ang h3 (mfd_sa (by omega) (by omega) (by omega)) (fun p h1 h2 => by funext j; rw [sp_sa_np (by omega)]) h3.2.1.1 h3.2.1.2.1 (fun b hb => by rw [sp_sa_np (by omega)]; exact h3.2.1.2.2.1 b hb) (fun _ _ _ _ => rfl) h3.2.2.2.2.1, mfx_trans hI.2.1 (mfx_trans (mfs_x g2) (mfx_sa (by omega) (by omega) (by omega))), fun b hb => ?_⟩
    by_cases e : b = i
    · subst e; rw [sp_sa_eq]
    · rw [sp_sa_nj e, g2.2.1 23 (by omega)]
      exact hI.2.2 b (by omega)
end
