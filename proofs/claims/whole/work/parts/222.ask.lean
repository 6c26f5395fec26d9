-- ===== THE CALLS: plain questions =====
theorem qn_subm {a b : Nat} (ha : a < 2 ^ 20) (hb : b < 2 ^ 20) : sp_max (nI 0) (nI a - nI b) = nI (a - b) := by
  by_cases hle : b ≤ a
  · rw [pk_sub hle, qn_max (by decide) (by omega), Nat.zero_max]
  · have h5 : nI a - nI b < nI 0 := pk_sneg (by omega) (by omega)
    unfold sp_max
    rw [if_neg (fun x => Int32.lt_irrefl (Int32.lt_trans x h5)), Nat.sub_eq_zero_of_le (by omega)]
section
variable {n j c : Nat} {σ μ : sp_St} {ct : Nat → Nat → Nat} {cd : List Nat × List Nat} {sc : Nat → Nat} {stk : Nat → List Nat}
theorem sq_between (h : qSC σ 23 c ct cd sc) {a o : Nat} (ha : a < 6) (ho : o < 6) : X6_between n σ (nI a) (nI o) = some (σ, if (sc (35 + a)).testBit o then nI 1 else nI 0) := by
  have h0 := h
  obtain ⟨ht, hc, hi, ⟨hnb, hns, hpt, hA1, hA2, hA3, hA4, hA5, hA6, hA7, hR1, hR2⟩, hS, ⟨hb10, hs5, hG, hH, hL, hU, hO⟩, hB⟩ := h
  have hX := fun k => Nat.lt_trans (hB k) (by decide : (1048576 : Nat) < 2 ^ 31)
  have hY : ∀ p k, ct p k < 2 ^ 31 := fun p k => Nat.lt_trans (hG p k) (by decide)
  have h1 : σ.2.2.1 24 (35 + a) = nI (sc (35 + a)) := hS _ (by omega)
  simp (disch := first | assumption | omega | exact hX _ | exact hY _ _ | exact hZ _ | fail) only [X6_between, sp_pl, sp_ckt, sp_bd_s, sp_bv_s, qn_l, nI_add, qn_sub, pk_mul, qn_le, qn_lt, qn_eq, qn_in, qn_g, nI_clamp, qn_and31, qn_sl, qn_sr, qn_b0, qn_b1, sp_zb0, sp_zb1, if_true, if_false, if_pos, if_neg, reduceIte, not_true_eq_false, not_false_eq_true, decide_true, decide_false, Bool.false_eq_true, Bool.not_true, Bool.not_false, Bool.true_eq_false, eq_self, qn_meq, qn_of, Nat.reduceEqDiff, Nat.reduceLT, Nat.reduceLeDiff, Nat.reduceAdd, Nat.reduceSub, Nat.reduceMul, Nat.reducePow, or_self, or_false, or_true, false_or, true_or, and_true, true_and, and_false, false_and, and_self, h1]
  cases (sc (35 + a)).testBit o <;> simp (disch := first | assumption | omega | exact hX _ | exact hY _ _ | exact hZ _ | fail) only [sp_pl, sp_ckt, sp_bd_s, sp_bv_s, qn_l, nI_add, qn_sub, pk_mul, qn_le, qn_lt, qn_eq, qn_in, qn_g, nI_clamp, qn_and31, qn_sl, qn_sr, qn_b0, qn_b1, sp_zb0, sp_zb1, if_true, if_false, if_pos, if_neg, reduceIte, not_true_eq_false, not_false_eq_true, decide_true, decide_false, Bool.false_eq_true, Bool.not_true, Bool.not_false, Bool.true_eq_false, eq_self, qn_meq, qn_of, Nat.reduceEqDiff, Nat.reduceLT, Nat.reduceLeDiff, Nat.reduceAdd, Nat.reduceSub, Nat.reduceMul, Nat.reducePow, or_self, or_false, or_true, false_or, true_or, and_true, true_and, and_false, false_and, and_self]
def qfm (sc : Nat → Nat) (i : Nat) : Nat := qs (fun h => qc (fun k => (sc (35 + h)).testBit k) 10) i
theorem qfm_le (sc : Nat → Nat) (i : Nat) : qfm sc i ≤ i * 10 := qs_le fun _ _ => qc_le _ _
theorem sq_howMany (h : qSC σ 23 c ct cd sc) (hn : 100 ≤ n) (hf : ∀ h, h < 6 → sc (35 + h) < 64) : X6_howMany n σ = some (σ, nI (qfm sc 6) / 2) := by
  rw [X6_howMany, sp_pl, sp_pl]
  refine lp_up (fun f i => X6_howMany_4 n f σ (nI (qfm sc i)) (nI i)) 6 _ (fun f => ?_) (fun f i hi => ?_) n 0 (by omega) (by omega)
  · rw [X6_howMany_4, if_pos (show (6 : Int32) ≤ nI 6 by decide), X6_howMany_31]
    rfl
  · have e : (35 : Int32) + nI i = nI (35 + i) := nI_add 35 i
    have h1 : sp_g σ 24 (nI (35 + i)) = nI (sc (35 + i)) := by rw [qn_g (by omega)]; exact h.2.2.2.2.1 (35 + i) (by omega)
    have h2 := hf i hi
    rw [X6_howMany_4, if_neg (show ¬ (6 : Int32) ≤ nI i from nI_ge (b := 6) hi (by omega)), e, qn_in (by omega) (by omega), sp_ckt, h1, bc_is, bc_10 (by omega), sp_bd_s, sp_pl, sp_pl, nI_add, nI_1]
    rfl
theorem rq_feudMany (h : mSC μ ct cd sc stk) (hn : 100 ≤ n) (hf : ∀ h, h < 6 → sc (35 + h) < 64) : X12_feudMany n μ = some (μ, nI (qfm sc 6) / 2) := by
  rw [X12_feudMany, sp_pl, sp_pl]
  refine lp_up (fun f i => X12_feudMany_4 n f μ (nI (qfm sc i)) (nI i)) 6 _ (fun f => ?_) (fun f i hi => ?_) n 0 (by omega) (by omega)
  · rw [X12_feudMany_4, if_pos (show (6 : Int32) ≤ nI 6 by decide), X12_feudMany_28]
    rfl
  · have h1 : sp_g μ 19 (nI i) = nI (sc (35 + i)) := by rw [qn_g (by omega)]; exact h.2.1.2.2.2.2.2.2.2 i hi
    have h2 := hf i hi
    rw [X12_feudMany_4, if_neg (show ¬ (6 : Int32) ≤ nI i from nI_ge (b := 6) hi (by omega)), qn_in (by omega) (by omega), sp_ckt, h1, rq_bitsOf (by omega) (by omega), sp_bd_s, sp_pl, sp_pl, nI_add, nI_1]
    rfl
theorem op_feud (hn : 1000 ≤ n) (h : Inv j σ μ) (a1 a2 : Int32) : agr j kd1 (X11_feud n σ a1 a2) (X12_feud n μ a1 a2) := by
  obtain ⟨c, ct, cd, sc, stk, hI, h3, hS, hM, hG, hD, hc⟩ := Inv_now h
  rw [X12_feud, sp_pl, X11_feud]
  generalize sp_si μ 0 3 0 = μ1 at *
  rcases h_cases (n := n) (σ := σ) (μ := μ1) a1 with ⟨a, ha, rfl⟩ | ⟨e1, e2⟩
  · rw [nh_ok ha, sp_bx_n, ih_ok ha, sp_bd_s, if_neg n10]
    rcases h_cases (n := n) (σ := σ) (μ := μ1) a2 with ⟨o, ho, rfl⟩ | ⟨e1, e2⟩
    · have h1 : sp_g μ1 19 (nI a) = nI (sc (35 + a)) := by rw [qn_g (by omega)]; exact hM.2.1.2.2.2.2.2.2.2 a ha
      have h2 := hG.1.2.2.2.2.2.1 a ha
      rw [nh_ok ho, sp_bx_n, ih_ok ho, sp_bd_s, if_neg n10, sq_between hS ha ho, sp_bd_s, qn_in (by omega) (by omega), sp_ckt, h1, rq_isOf (by omega) (by omega), sp_bd_s]
      cases (sc (35 + a)).testBit o
      · exact agr_ret (υ := μ1) (v := nI 0) rfl rfl hI h3
      · exact agr_ret (υ := μ1) (v := nI 1) rfl rfl hI h3
    · rw [e1, sp_bx_s, e2, sp_bd_s, if_pos n00]
      exact agr_thr (υ := sp_si μ1 0 3 1) (w := 0) rfl rfl (Inv_code hI) sp_si_eq rfl (by decide)
  · rw [e1, sp_bx_s, e2, sp_bd_s, if_pos n00]
    exact agr_thr (υ := sp_si μ1 0 3 1) (w := 0) rfl rfl (Inv_code hI) sp_si_eq rfl (by decide)
theorem op_foes (hn : 1000 ≤ n) (h : Inv j σ μ) (a1 a2 : Int32) : agr j kd1 (X11_foes n σ a1 a2) (X12_foes n μ a1 a2) := by
  obtain ⟨c, ct, cd, sc, stk, hI, h3, hS, hM, hG, hD, hc⟩ := Inv_now h
  rw [X12_foes, sp_pl, X11_foes]
  generalize sp_si μ 0 3 0 = μ1 at *
  rcases h_cases (n := n) (σ := σ) (μ := μ1) a1 with ⟨a, ha, rfl⟩ | ⟨e1, e2⟩
  · rw [nh_ok ha, sp_bx_n, ih_ok ha, sp_bd_s, if_neg n10]
    rcases h_cases (n := n) (σ := σ) (μ := μ1) a2 with ⟨o, ho, rfl⟩ | ⟨e1, e2⟩
    · have h1 : ∀ a, a < 6 → sp_g μ1 19 (nI a) = nI (sc (35 + a)) := fun a ha => by rw [qn_g (by omega)]; exact hM.2.1.2.2.2.2.2.2.2 a ha
      have h2 : ∀ a, a < 6 → sp_g σ 24 (35 + nI a) = nI (sc (35 + a)) := fun a ha => by
        rw [show (35 : Int32) + nI a = nI (35 + a) from nI_add 35 a, qn_g (by omega)]
        exact hS.2.2.2.2.1 (35 + a) (by omega)
      have h4 : ∀ a, a < 6 → sp_in ((35 : Int32) + nI a) 50 = true := fun a ha => by
        rw [show (35 : Int32) + nI a = nI (35 + a) from nI_add 35 a]
        exact qn_in (by omega) (by omega)
      rw [nh_ok ho, sp_bx_n, ih_ok ho, sp_bd_s, if_neg n10, h4 a ha, sp_ckt, h4 o ho, sp_ckt, h2 a ha, h2 o ho, qn_in (by omega) (by omega), sp_ckt, qn_in (by omega) (by omega), sp_ckt, X12_foes_40, h1 a ha, h1 o ho]
      exact agr_ret (υ := μ1) rfl rfl hI h3
    · rw [e1, sp_bx_s, e2, sp_bd_s, if_pos n00]
      exact agr_thr (υ := sp_si μ1 0 3 1) (w := 0) rfl rfl (Inv_code hI) sp_si_eq rfl (by decide)
  · rw [e1, sp_bx_s, e2, sp_bd_s, if_pos n00]
    exact agr_thr (υ := sp_si μ1 0 3 1) (w := 0) rfl rfl (Inv_code hI) sp_si_eq rfl (by decide)
theorem op_throat (hn : 1000 ≤ n) (h : Inv j σ μ) (a1 a2 : Int32) : agr j kd1 (X11_throat n σ a1 a2) (X12_throat n μ a1 a2) := by
  obtain ⟨c, ct, cd, sc, stk, hI, h3, hS, hM, hG, hD, hc⟩ := Inv_now h
  have hn1 : 100 ≤ n := by omega
  have hb10 := hS.2.2.2.2.2.1.1
  have hs5 := hS.2.2.2.2.2.1.2.1
  rw [X12_throat, sp_pl, X11_throat]
  generalize sp_si μ 0 3 0 = μ1 at *
  rcases s_cases (n := n) hS hc hM a1 with ⟨s, hs, rfl⟩ | ⟨e1, e2⟩
  · rw [ns_ok hS hc hs, sp_bx_n, it_ok hM hs, sp_bd_s, if_neg n10]
    have w5 : sp_in (nI s) 5 = true := qn_in (by omega) (by omega)
    have w10 : sp_in (nI s) 10 = true := qn_in (by omega) (by omega)
    have hu := hG.1.2.2.2.1 s hs
    by_cases x0 : a2 = 0
    · rw [if_pos x0, if_pos x0, show (30 : Int32) + nI s = nI (30 + s) from nI_add 30 s, qn_in (by omega) (by omega), sp_ckt, w5, sp_ckt, qn_g (by omega), qn_g (by omega)]
      exact agr_ret (υ := μ1) rfl (by rw [hM.2.1.2.2.2.2.1 s hs, hS.2.2.2.2.1 (30 + s) (by omega)]) hI h3
    rw [if_neg x0, if_neg x0]
    by_cases x1 : a2 = 1
    · rw [if_pos x1, if_pos x1, sp_pl, hc, hS.2.2.1, sp_ckt, w5, sp_ckt, w10, sp_ckt, qn_g (by omega), qn_g (by omega)]
      exact agr_ret (υ := μ1) rfl (by rw [hM.1.2.2.2.2.2.2.2.1 s hs, hS.2.2.2.1.2.2.2.2.2.2.2.2.1 s hs]) hI h3
    rw [if_neg x1, if_neg x1]
    by_cases x2 : a2 = 2
    · rw [if_pos x2, if_pos x2, sq_leftN hS hn1 (by omega) hu, sp_bd_s, rq_leftOf hM hn1 hs hu, sp_bd_s]
      exact agr_ret (υ := μ1) rfl rfl hI h3
    rw [if_neg x2, if_neg x2]
    by_cases x3 : a2 = 3
    · rw [if_pos x3, if_pos x3, nI_1, sq_bladesAt hS hn1 (by omega), sp_bd_s, bc_bs n σ _ hb10, sp_bd_s, w5, sp_ckt, qn_g (by omega)]
      exact agr_ret (υ := μ1) rfl (by rw [hM.2.1.2.2.2.2.2.1 s hs, stk_len hG.2.1 hs]) hI h3
    rw [if_neg x3, if_neg x3]
    by_cases x4 : a2 = 4
    · rw [if_pos x4, if_pos x4, sq_top hS hn1 (by omega), sp_bd_s, rq_topOf hM hs, sp_bd_s]
      exact agr_ret (υ := μ1) rfl rfl hI h3
    rw [if_neg x4, if_neg x4, rq_failI, sp_bd_s]
    exact agr_thr rfl rfl (Inv_code hI) sp_si_eq rfl (by decide)
  · rw [e1, sp_bx_s, e2, sp_bd_s, if_pos n00, rq_failI, sp_bd_s]
    exact agr_thr rfl rfl (Inv_code hI) sp_si_eq rfl (by decide)
theorem op_toDraw (hn : 1000 ≤ n) (h : Inv j σ μ) (a1 : Int32) : agr j kd1 (X11_toDraw n σ a1) (X12_toDraw n μ a1) := by
  obtain ⟨c, ct, cd, sc, stk, hI, h3, hS, hM, hG, hD, hc⟩ := Inv_now h
  have hn1 : 100 ≤ n := by omega
  have hb10 := hS.2.2.2.2.2.1.1
  rw [X12_toDraw, sp_pl, X11_toDraw]
  generalize sp_si μ 0 3 0 = μ1 at *
  rcases b_cases (n := n) hS hc hM a1 with ⟨b, hb, rfl⟩ | ⟨e1, e2⟩
  · have g15 : sp_g μ1 15 (nI b) = nI (sqState sc b) := by rw [qn_g (by omega)]; exact hM.2.1.2.2.2.1 b hb
    rw [nb_ok hS hc hb, sp_bx_n, ib_ok hM hb, sp_bd_s, if_neg n10, sq_isIn hS (by omega), sp_bd_s, qn_in (by omega) (by omega), sp_ckt, g15]
    by_cases p : sc (10 + b) = 0 ∨ sc (10 + b) = 6
    · have hw := sqs_lt sc b
      have : ¬ sqState sc b = 1 := fun x => sqs1.mp x p
      rw [if_pos p, if_pos n00, if_neg (show ¬ nI (sqState sc b) = 1 from by show ¬ nI (sqState sc b) = nI 1; rw [qn_eq (by omega) (by omega)]; exact this)]
      exact agr_ret (υ := μ1) (v := 0) rfl rfl hI h3
    · rw [if_neg p, if_neg n10, sqs1.mpr p, if_pos (show nI 1 = 1 from rfl), sq_bladesAbove hS hn1 (by omega), sp_bd_s, rq_aboveSet hM hn1 hb, sp_bd_s, if_neg p]
      exact agr_ret (υ := μ1) rfl rfl hI h3
  · rw [e1, sp_bx_s, e2, sp_bd_s, if_pos n00, rq_failI, sp_bd_s]
    exact agr_thr rfl rfl (Inv_code hI) sp_si_eq rfl (by decide)
theorem op_above (hn : 1000 ≤ n) (h : Inv j σ μ) (a1 : Int32) : agr j kd1 (X11_above n σ a1) (X12_above n μ a1) := by
  obtain ⟨c, ct, cd, sc, stk, hI, h3, hS, hM, hG, hD, hc⟩ := Inv_now h
  have hn1 : 100 ≤ n := by omega
  have hb10 := hS.2.2.2.2.2.1.1
  rw [X12_above, sp_pl, X11_above]
  generalize sp_si μ 0 3 0 = μ1 at *
  rcases b_cases (n := n) hS hc hM a1 with ⟨b, hb, rfl⟩ | ⟨e1, e2⟩
  · have g15 : sp_g μ1 15 (nI b) = nI (sqState sc b) := by rw [qn_g (by omega)]; exact hM.2.1.2.2.2.1 b hb
    rw [nb_ok hS hc hb, sp_bx_n, ib_ok hM hb, sp_bd_s, if_neg n10, sq_isIn hS (by omega), sp_bd_s, qn_in (by omega) (by omega), sp_ckt, g15]
    by_cases p : sc (10 + b) = 0 ∨ sc (10 + b) = 6
    · have hw := sqs_lt sc b
      have : ¬ sqState sc b = 1 := fun x => sqs1.mp x p
      rw [if_pos p, if_pos n00, if_neg (show ¬ nI (sqState sc b) = 1 from by show ¬ nI (sqState sc b) = nI 1; rw [qn_eq (by omega) (by omega)]; exact this)]
      exact agr_ret (υ := μ1) (v := -1) rfl rfl hI h3
    · rw [if_neg p, if_neg n10, sqs1.mpr p, if_pos (show nI 1 = 1 from rfl), sq_bladesAbove hS hn1 (by omega), sp_bd_s, rq_aboveSet hM hn1 hb, sp_bd_s, if_neg p, bc_bs n σ _ hb10, sp_bd_s, rq_bits_bs (by omega) _ hb10, sp_bd_s]
      exact agr_ret (υ := μ1) rfl rfl hI h3
  · rw [e1, sp_bx_s, e2, sp_bd_s, if_pos n00, rq_failI, sp_bd_s]
    exact agr_thr rfl rfl (Inv_code hI) sp_si_eq rfl (by decide)
theorem op_hiccup (hn : 1000 ≤ n) (h : Inv j σ μ) (a1 : Int32) : agr j kd1 (X11_hiccup n σ a1) (X12_hiccup n μ a1) := by
  obtain ⟨c, ct, cd, sc, stk, hI, h3, hS, hM, hG, hD, hc⟩ := Inv_now h
  have hs5 := hS.2.2.2.2.2.1.2.1
  rw [X12_hiccup, sp_pl, X11_hiccup]
  generalize sp_si μ 0 3 0 = μ1 at *
  rcases s_cases (n := n) hS hc hM a1 with ⟨s, hs, rfl⟩ | ⟨e1, e2⟩
  · have w5 : sp_in (nI s) 5 = true := qn_in (by omega) (by omega)
    have w10 : sp_in (nI s) 10 = true := qn_in (by omega) (by omega)
    have hu := hS.2.2.2.2.2.1.2.2.2.2.2.1 s
    have g1 : sp_g σ (c + 6) (nI s) = nI (ct 6 s) := by rw [qn_g (by omega)]; exact hS.2.2.2.1.2.2.2.2.2.2.2.2.1 s hs
    have g2 : sp_g μ1 6 (nI s) = nI (ct 6 s) := by rw [qn_g (by omega)]; exact hM.1.2.2.2.2.2.2.2.1 s hs
    have g3 : sp_g σ 24 (47 : Int32) = nI (sc 47) := hS.2.2.2.2.1 47 (by omega)
    rw [ns_ok hS hc hs, sp_bx_n, it_ok hM hs, sp_bd_s, if_neg n10, sp_pl, hc, hS.2.2.1, sp_ckt, w5, sp_ckt, sp_pl, w10, sp_ckt, g1, g2, g3, hM.2.1.1]
    by_cases p : ct 6 s = 0
    · rw [p, if_neg (show ¬ (0 : Int32) < nI 0 by decide), if_pos n00]
      exact agr_ret (υ := μ1) (v := -1) rfl rfl hI h3
    · have c2 : ¬ nI (ct 6 s) = 0 := by
        show ¬ nI (ct 6 s) = nI 0
        rw [qn_eq (by omega) (by omega)]
        exact p
      have c1 : (0 : Int32) < nI (ct 6 s) := (nI_ltI (a := 0) (b := ct 6 s) (by omega) (by omega)).mpr (by omega)
      have c3 : (!decide (nI (ct 6 s) = 0)) = true := by simp [c2]
      rw [if_pos c1, if_neg c2, c3, sp_ckt, sp_ckt, sp_ckt, sp_ckt]
      exact agr_ret (υ := μ1) rfl rfl hI h3
  · rw [e1, sp_bx_s, e2, sp_bd_s, if_pos n00, rq_failI, sp_bd_s]
    exact agr_thr rfl rfl (Inv_code hI) sp_si_eq rfl (by decide)
theorem op_grudge (hn : 1000 ≤ n) (h : Inv j σ μ) (a1 : Int32) : agr j kd1 (X11_grudge n σ a1) (X12_grudge n μ a1) := by
  obtain ⟨c, ct, cd, sc, stk, hI, h3, hS, hM, hG, hD, hc⟩ := Inv_now h
  have hb10 := hS.2.2.2.2.2.1.1
  rw [X12_grudge, sp_pl, X11_grudge]
  generalize sp_si μ 0 3 0 = μ1 at *
  rcases h_cases (n := n) (σ := σ) (μ := μ1) a1 with ⟨a, ha, rfl⟩ | ⟨e1, e2⟩
  · have k1 : X11_grudge_9 n n σ (nI a) 0 0 = some (σ, Sum.inl (nI (qs (fun b => if ct 1 b = a then sc b else 0) (ct 0 13)))) := by
      refine lp_up (fun f i => X11_grudge_9 n f σ (nI a) (nI (qs (fun b => if ct 1 b = a then sc b else 0) i)) (nI i)) (ct 0 13) _ (fun f => ?_) (fun f i hi => ?_) n 0 (by omega) (by omega)
      · rw [X11_grudge_9, sp_pl, hc, hS.2.2.1, sp_ckt, hS.2.2.2.1.1, if_pos (Int32.le_refl _), X11_grudge_54]
      · have g1 : sp_g σ (c + 1) (nI i) = nI (ct 1 i) := by rw [qn_g (by omega)]; exact hS.2.2.2.1.2.2.2.1 i hi
        have g2 : sp_g σ 24 (nI i) = nI (sc i) := by rw [qn_g (by omega)]; exact hS.2.2.2.2.1 i (by omega)
        have hh := hS.2.2.2.2.2.1.2.2.2.1 i
        rw [X11_grudge_9, sp_pl, hc, hS.2.2.1, sp_ckt, hS.2.2.2.1.1, if_neg (nI_ge hi (by omega)), qn_in (by omega) (by omega), sp_ckt, g1, qs_s]
        by_cases p : ct 1 i = a
        · rw [if_pos (by rw [p]), qn_in (by omega) (by omega), sp_ckt, g2, sp_pl, X11_grudge_48, sp_pl, nI_add, nI_1, if_pos p]
        · rw [if_neg (show ¬ nI (ct 1 i) = nI a by rw [qn_eq (by omega) (by omega)]; exact p), X11_grudge_48, sp_pl, nI_1, if_neg p]
          rfl
    have k2 : X12_grudge_22 n n μ1 (nI a) 0 0 = some (μ1, nI (qs (fun b => if ct 1 b = a then sc b else 0) (ct 0 13))) := by
      have w3 : sp_g μ1 3 (2 : Int32) = nI (ct 0 13) := hM.1.2.1
      refine lp_up (fun f i => X12_grudge_22 n f μ1 (nI a) (nI (qs (fun b => if ct 1 b = a then sc b else 0) i)) (nI i)) (ct 0 13) _ (fun f => ?_) (fun f i hi => ?_) n 0 (by omega) (by omega)
      · rw [X12_grudge_22, w3, if_pos (Int32.le_refl _), X12_grudge_61]
      · have g1 : sp_g μ1 7 (nI i) = nI (ct 1 i) := by rw [qn_g (by omega)]; exact hM.1.2.2.2.2.2.1 i hi
        have g2 : sp_g μ1 14 (nI i) = nI (sc i) := by rw [qn_g (by omega)]; exact hM.2.1.2.2.1 i hi
        have hh := hS.2.2.2.2.2.1.2.2.2.1 i
        rw [X12_grudge_22, w3, if_neg (nI_ge hi (by omega)), qn_in (by omega) (by omega), sp_ckt, g1, qs_s]
        by_cases p : ct 1 i = a
        · rw [if_pos (by rw [p]), qn_in (by omega) (by omega), sp_ckt, g2, X12_grudge_53, sp_pl, sp_pl, nI_add, nI_1, if_pos p]
        · rw [if_neg (show ¬ nI (ct 1 i) = nI a by rw [qn_eq (by omega) (by omega)]; exact p), X12_grudge_53, sp_pl, sp_pl, nI_1, if_neg p, show nI (qs (fun b => if ct 1 b = a then sc b else 0) i) + 0 = nI (qs (fun b => if ct 1 b = a then sc b else 0) i) from Int32.add_zero _]
          rfl
    rw [nh_ok ha, sp_bx_n, ih_ok ha, sp_bd_s, if_neg n10, sp_pl, sp_pl, sp_pl, sp_pl, k1, k2]
    exact agr_ret (υ := μ1) rfl rfl hI h3
  · rw [e1, sp_bx_s, e2, sp_bd_s, if_pos n00, rq_failI, sp_bd_s]
    exact agr_thr rfl rfl (Inv_code hI) sp_si_eq rfl (by decide)
end
