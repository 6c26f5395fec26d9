-- ===== A DAY OF THE REFERENCE: fights =====
section
variable {μ : sp_St} {n : Nat} {ct : Nat → Nat → Nat} {cd : List Nat × List Nat} {sc : Nat → Nat} {stk : Nat → List Nat}
def qangry (ct : Nat → Nat → Nat) (sc : Nat → Nat) (hd b : Nat) : Bool := decide (sc (10 + b) = 0) && decide (ct 0 16 ≤ sc b) && !(hd.testBit b)
theorem rq_isAngry (h : mSC μ ct cd sc stk) {b hd : Nat} (hb : b < ct 0 13) (hh : hd < 2 ^ 31) : X12_isAngry n μ (nI b) (nI hd) = some (μ, if qangry ct sc hd b then nI 1 else nI 0) := by
  have h0 := h
  have h0 := h
  obtain ⟨⟨hns, hnb, hpt, hl4, hl5, hA1, hA2, hA6, hE1, hE2, hl7, hl8⟩, ⟨h47, h48, hAn, hWh, hRo, hMa, hSt, hFe⟩, hQ, ⟨hb10, hs5, hG, hH, hL, hU, hO⟩, hB, hPl⟩ := h
  have hX := fun k => Nat.lt_trans (hB k) (by decide : (1048576 : Nat) < 2 ^ 31)
  have hY : ∀ p k, ct p k < 2 ^ 31 := fun p k => Nat.lt_trans (hG p k) (by decide)
  have hw := sqs_lt sc b
  unfold qangry
  simp (disch := first | assumption | omega | exact hX _ | exact hY _ _ | exact hZ _ | fail) only [X12_isAngry, X12_isAngry_36, X12_isAngry_37, hWh, sp_pl, sp_ckt, sp_bd_s, sp_bv_s, qn_l, nI_add, qn_sub, pk_mul, qn_le, qn_lt, qn_eq, qn_in, qn_g, nI_clamp, qn_and31, qn_sl, qn_sr, qn_b0, qn_b1, sp_zb0, sp_zb1, if_true, if_false, if_pos, if_neg, reduceIte, not_true_eq_false, not_false_eq_true, decide_true, decide_false, Bool.false_eq_true, Bool.not_true, Bool.not_false, Bool.true_eq_false, eq_self, qn_meq, qn_of, Nat.reduceEqDiff, Nat.reduceLT, Nat.reduceLeDiff, Nat.reduceAdd, Nat.reduceSub, Nat.reduceMul, Nat.reducePow, or_self, or_false, or_true, false_or, true_or, and_true, true_and, and_false, false_and, and_self]
  by_cases e0 : sc (10 + b) = 0
  · simp (disch := first | assumption | omega | exact hX _ | exact hY _ _ | exact hZ _ | fail) only [sqs0.mpr e0, e0, sp_pl, sp_ckt, sp_bd_s, sp_bv_s, qn_l, nI_add, qn_sub, pk_mul, qn_le, qn_lt, qn_eq, qn_in, qn_g, nI_clamp, qn_and31, qn_sl, qn_sr, qn_b0, qn_b1, sp_zb0, sp_zb1, if_true, if_false, if_pos, if_neg, reduceIte, not_true_eq_false, not_false_eq_true, decide_true, decide_false, Bool.false_eq_true, Bool.not_true, Bool.not_false, Bool.true_eq_false, eq_self, qn_meq, qn_of, Nat.reduceEqDiff, Nat.reduceLT, Nat.reduceLeDiff, Nat.reduceAdd, Nat.reduceSub, Nat.reduceMul, Nat.reducePow, or_self, or_false, or_true, false_or, true_or, and_true, true_and, and_false, false_and, and_self, hAn, hpt]
    by_cases e1 : ct 0 16 ≤ sc b
    · simp (disch := first | assumption | omega | exact hX _ | exact hY _ _ | exact hZ _ | fail) only [Nat.not_lt.mpr e1, e1, sp_pl, sp_ckt, sp_bd_s, sp_bv_s, qn_l, nI_add, qn_sub, pk_mul, qn_le, qn_lt, qn_eq, qn_in, qn_g, nI_clamp, qn_and31, qn_sl, qn_sr, qn_b0, qn_b1, sp_zb0, sp_zb1, if_true, if_false, if_pos, if_neg, reduceIte, not_true_eq_false, not_false_eq_true, decide_true, decide_false, Bool.false_eq_true, Bool.not_true, Bool.not_false, Bool.true_eq_false, eq_self, qn_meq, qn_of, Nat.reduceEqDiff, Nat.reduceLT, Nat.reduceLeDiff, Nat.reduceAdd, Nat.reduceSub, Nat.reduceMul, Nat.reducePow, or_self, or_false, or_true, false_or, true_or, and_true, true_and, and_false, false_and, and_self, rq_isOf hh (show b < 32 by omega)]
      cases hd.testBit b <;> simp (disch := first | assumption | omega | exact hX _ | exact hY _ _ | exact hZ _ | fail) only [sp_pl, sp_ckt, sp_bd_s, sp_bv_s, qn_l, nI_add, qn_sub, pk_mul, qn_le, qn_lt, qn_eq, qn_in, qn_g, nI_clamp, qn_and31, qn_sl, qn_sr, qn_b0, qn_b1, sp_zb0, sp_zb1, if_true, if_false, if_pos, if_neg, reduceIte, not_true_eq_false, not_false_eq_true, decide_true, decide_false, Bool.false_eq_true, Bool.not_true, Bool.not_false, Bool.true_eq_false, eq_self, qn_meq, qn_of, Nat.reduceEqDiff, Nat.reduceLT, Nat.reduceLeDiff, Nat.reduceAdd, Nat.reduceSub, Nat.reduceMul, Nat.reducePow, or_self, or_false, or_true, false_or, true_or, and_true, true_and, and_false, false_and, and_self, Bool.and_self, Bool.and_true, Bool.and_false, Bool.not_true, Bool.not_false]
    · simp (disch := first | assumption | omega | exact hX _ | exact hY _ _ | exact hZ _ | fail) only [Nat.not_le.mp e1, e1, sp_pl, sp_ckt, sp_bd_s, sp_bv_s, qn_l, nI_add, qn_sub, pk_mul, qn_le, qn_lt, qn_eq, qn_in, qn_g, nI_clamp, qn_and31, qn_sl, qn_sr, qn_b0, qn_b1, sp_zb0, sp_zb1, if_true, if_false, if_pos, if_neg, reduceIte, not_true_eq_false, not_false_eq_true, decide_true, decide_false, Bool.false_eq_true, Bool.not_true, Bool.not_false, Bool.true_eq_false, eq_self, qn_meq, qn_of, Nat.reduceEqDiff, Nat.reduceLT, Nat.reduceLeDiff, Nat.reduceAdd, Nat.reduceSub, Nat.reduceMul, Nat.reducePow, or_self, or_false, or_true, false_or, true_or, and_true, true_and, and_false, false_and, and_self, Bool.and_false, Bool.false_and]
  · have : ¬ sqState sc b = 0 := fun x => e0 (sqs0.mp x)
    simp (disch := first | assumption | omega | exact hX _ | exact hY _ _ | exact hZ _ | fail) only [this, e0, sp_pl, sp_ckt, sp_bd_s, sp_bv_s, qn_l, nI_add, qn_sub, pk_mul, qn_le, qn_lt, qn_eq, qn_in, qn_g, nI_clamp, qn_and31, qn_sl, qn_sr, qn_b0, qn_b1, sp_zb0, sp_zb1, if_true, if_false, if_pos, if_neg, reduceIte, not_true_eq_false, not_false_eq_true, decide_true, decide_false, Bool.false_eq_true, Bool.not_true, Bool.not_false, Bool.true_eq_false, eq_self, qn_meq, qn_of, Nat.reduceEqDiff, Nat.reduceLT, Nat.reduceLeDiff, Nat.reduceAdd, Nat.reduceSub, Nat.reduceMul, Nat.reducePow, or_self, or_false, or_true, false_or, true_or, and_true, true_and, and_false, false_and, and_self, Bool.false_and]
theorem rq_fight0 {k4 : sp_St → Int32 → Int32 → Option sp_St} (h : mSC μ ct cd sc stk) {a hd : Nat} (ha : a < ct 0 13) (hh : hd < 2 ^ 31) (hna : qangry ct sc hd a = false) : ∀ f i, i ≤ ct 0 13 → ct 0 13 - i < f → X12_fight_18 n k4 f μ (nI hd) (nI a) (nI i) = k4 μ (nI hd) (nI (a + 1)) := by
  have h0 := h
  have h0 := h
  obtain ⟨⟨hns, hnb, hpt, hl4, hl5, hA1, hA2, hA6, hE1, hE2, hl7, hl8⟩, ⟨h47, h48, hAn, hWh, hRo, hMa, hSt, hFe⟩, hQ, ⟨hb10, hs5, hG, hH, hL, hU, hO⟩, hB, hPl⟩ := h
  have hX := fun k => Nat.lt_trans (hB k) (by decide : (1048576 : Nat) < 2 ^ 31)
  have hY : ∀ p k, ct p k < 2 ^ 31 := fun p k => Nat.lt_trans (hG p k) (by decide)
  have w3 : sp_g μ 3 (2 : Int32) = nI (ct 0 13) := hnb
  refine lp_up (fun f i => X12_fight_18 n k4 f μ (nI hd) (nI a) (nI i)) (ct 0 13) _ (fun f => ?_) (fun f i hi2 => ?_)
  · rw [X12_fight_18, w3, if_pos (Int32.le_refl _), X12_fight_134, sp_pl, nI_1]
  · rw [X12_fight_18, w3, if_neg (nI_ge hi2 (by omega)), rq_isAngry h0 ha hh, hna, sp_bd_s, if_pos (show (if false = true then nI 1 else nI 0) = 0 from rfl), X12_fight_128, sp_pl, nI_1]
theorem rq_fstate (h : mSC μ ct cd sc stk) {a o : Nat} (ha : a < ct 0 13) (ho : o < ct 0 13) (hne : a ≠ o) (h48 : sc 48 < 1000000) {x y : Int32} {p q : Nat} : mSC (sp_sa (sp_sa (sp_si (sp_sa (sp_sa μ 14 a (nI (sc a / 2))) 14 o (nI (sc o / 2))) 0 34 (nI (sc 48 + 1))) 24 p x) 24 q y) ct cd (qfig sc a o) stk := by
  have hb10 := h.2.2.2.1.1
  have hB := h.2.2.2.2.1
  have d1 := Nat.lt_of_le_of_lt (Nat.div_le_self (sc a) 2) (hB a)
  have d2 := Nat.lt_of_le_of_lt (Nat.div_le_self (sc o) 2) (hB o)
  unfold qfig
  refine mSC_ang h (mfd_trans (mfd_trans (mfd_trans (mfd_trans (mfd_sa (by omega) (by omega) (by omega)) (mfd_sa (by omega) (by omega) (by omega))) (mfd_si (by omega))) (mfd_sa (by omega) (by omega) (by omega))) (mfd_sa (by omega) (by omega) (by omega))) (fun p h1 h2 => ?_) ?_ ?_ (fun b hb => ?_) (fun k h1 h2 h3 => ?_) (qu_lt (qu_lt (qu_lt hB d1) d2) (by omega))
  · funext j
    rw [sp_sa_np (by omega), sp_sa_np (by omega)]
    show (sp_sa (sp_sa μ 14 a (nI (sc a / 2))) 14 o (nI (sc o / 2))).2.2.1 p j = _
    rw [sp_sa_np (by omega), sp_sa_np (by omega)]
  · rw [sp_sa_1, sp_sa_1, sp_si_ne (by decide), sp_sa_1, sp_sa_1, qu_n (by omega), qu_n (by omega), qu_n (by omega)]
    exact h.2.1.1
  · rw [sp_sa_1, sp_sa_1, sp_si_eq, qu_e]
  · rw [sp_sa_np (by omega), sp_sa_np (by omega), qu_n (by omega)]
    show (sp_sa (sp_sa μ 14 a (nI (sc a / 2))) 14 o (nI (sc o / 2))).2.2.1 14 b = _
    by_cases e1 : b = o
    · subst e1; rw [sp_sa_eq, qu_e]
    · rw [sp_sa_nj e1, qu_n e1]
      by_cases e2 : b = a
      · subst e2; rw [sp_sa_eq, qu_e]
      · rw [sp_sa_nj e2, qu_n e2]
        exact h.2.1.2.2.1 b hb
  · rw [qu_n h3, qu_n (by omega), qu_n (by omega)]
theorem tb_or2 (hd a o k : Nat) : (hd ||| (2 ^ a ||| 2 ^ o)).testBit k = (hd.testBit k || decide (a = k) || decide (o = k)) := by
  rw [Nat.testBit_or, Nat.testBit_or, Nat.testBit_two_pow, Nat.testBit_two_pow, Bool.or_assoc]
theorem or_lt10 {hd a o : Nat} (h : hd < 1024) (ha : a < 10) (ho : o < 10) : hd ||| (2 ^ a ||| 2 ^ o) < 1024 := by
  have h1 : 2 ^ a < 2 ^ 10 := Nat.pow_lt_pow_right (by decide) ha
  have h2 : 2 ^ o < 2 ^ 10 := Nat.pow_lt_pow_right (by decide) ho
  exact Nat.or_lt_two_pow (n := 10) h (Nat.or_lt_two_pow h1 h2)
def mfstate (μ : sp_St) (ct : Nat → Nat → Nat) (sc : Nat → Nat) (a o : Nat) : sp_St := sp_sa (sp_sa (sp_si (sp_sa (sp_sa μ 14 a (nI (sc a / 2))) 14 o (nI (sc o / 2))) 0 34 (nI (sc 48 + 1))) 24 (ct 1 a) (μ.2.2.1 24 (ct 1 a) + nI 1)) 24 (ct 1 o) ((if ct 1 o = ct 1 a then μ.2.2.1 24 (ct 1 a) + nI 1 else μ.2.2.1 24 (ct 1 o)) + nI 1)
theorem rq_fight1 {k4 : sp_St → Int32 → Int32 → Option sp_St} (h : mSC μ ct cd sc stk) {a hd : Nat} (ha : a < ct 0 13) (hh : hd < 1024) (h48' : sc 48 < 1000000) (hna : qangry ct sc hd a = true) : ∀ f i, a < i → i ≤ ct 0 13 → ct 0 13 - i < f → X12_fight_18 n k4 f μ (nI hd) (nI a) (nI i) = match qf (fun o => qangry ct sc hd o && (sc (35 + ct 1 a)).testBit (ct 1 o)) (ct 0 13 - i) i with
    | some o => k4 (mfstate μ ct sc a o) (nI (hd ||| (2 ^ a ||| 2 ^ o))) (nI (a + 1))
    | none => k4 μ (nI hd) (nI (a + 1)) := by
  have h0 := h
  have h0 := h
  obtain ⟨⟨hns, hnb, hpt, hl4, hl5, hA1, hA2, hA6, hE1, hE2, hl7, hl8⟩, ⟨h47, h48, hAn, hWh, hRo, hMa, hSt, hFe⟩, hQ, ⟨hb10, hs5, hG, hH, hL, hU, hO⟩, hB, hPl⟩ := h
  have hX := fun k => Nat.lt_trans (hB k) (by decide : (1048576 : Nat) < 2 ^ 31)
  have hY : ∀ p k, ct p k < 2 ^ 31 := fun p k => Nat.lt_trans (hG p k) (by decide)
  have hha := hH a
  have hh2 : hd < 2 ^ 31 := by omega
  have d1 := Nat.lt_of_le_of_lt (Nat.div_le_self (sc a) 2) (hB a)
  have w3 : sp_g μ 3 (2 : Int32) = nI (ct 0 13) := hnb
  have t1 : (if true = true then nI 1 else nI 0) = nI 1 := rfl
  have t0 : (if false = true then nI 1 else nI 0) = nI 0 := rfl
  have n1 : ¬ nI 1 = 0 := by decide
  have wa : sp_in (nI a) 10 = true := qn_in (by omega) (by omega)
  have wa2 : sp_in (nI a) 20 = true := qn_in (by omega) (by omega)
  have ca : (nI a).toNatClampNeg = a := nI_clamp (by omega)
  have w2 : (!decide ((2 : Int32) = 0)) = true := by decide
  have g1 : sp_g μ 14 (nI a) = nI (sc a) := by rw [qn_g (by omega)]; exact hAn a ha
  have g2 : nI (sc a) / 2 = nI (sc a / 2) := pk_div (d := 2) (hX a) (by decide) (by decide)
  have wh : sp_in (nI (ct 1 a)) 6 = true := qn_in hha (by omega)
  have ch : (nI (ct 1 a)).toNatClampNeg = ct 1 a := nI_clamp (by omega)
  have sa : (1 : Int32) <<< (nI a &&& 31) = nI (2 ^ a) := qn_sh1 (by omega)
  intro f
  induction f with
  | zero => intro i _ _ hf; omega
  | succ f ih =>
    intro i hai hi hf
    by_cases e : i = ct 0 13
    · subst e
      rw [Nat.sub_self, X12_fight_18, w3, if_pos (Int32.le_refl _), X12_fight_134, sp_pl, nI_1]
      rfl
    · have hi2 : i < ct 0 13 := by omega
      rw [show ct 0 13 - i = (ct 0 13 - (i + 1)) + 1 by omega]
      unfold qf
      rw [X12_fight_18, w3, if_neg (nI_ge hi2 (by omega)), rq_isAngry h0 ha hh2, hna, t1, sp_bd_s, if_neg n1, rq_isAngry h0 hi2 hh2]
      by_cases e1 : qangry ct sc hd i = true
      · rw [e1, t1, sp_bd_s, if_neg n1, rq_isFeud h0 ha hi2, Bool.true_and]
        by_cases e2 : (sc (35 + ct 1 a)).testBit (ct 1 i) = true
        · have hhi := hH i
          have d2 := Nat.lt_of_le_of_lt (Nat.div_le_self (sc i) 2) (hB i)
          have wi : sp_in (nI i) 10 = true := qn_in (by omega) (by omega)
          have wi2 : sp_in (nI i) 20 = true := qn_in (by omega) (by omega)
          have ci : (nI i).toNatClampNeg = i := nI_clamp (by omega)
          have g3 : sp_g (sp_sa μ 14 a (nI (sc a / 2))) 14 (nI i) = nI (sc i) := by rw [qn_g (by omega), sp_sa_nj (by omega)]; exact hAn i hi2
          have g4 : nI (sc i) / 2 = nI (sc i / 2) := pk_div (d := 2) (hX i) (by decide) (by decide)
          have si : (1 : Int32) <<< (nI i &&& 31) = nI (2 ^ i) := qn_sh1 (by omega)
          have whi : sp_in (nI (ct 1 i)) 6 = true := qn_in hhi (by omega)
          have chi : (nI (ct 1 i)).toNatClampNeg = ct 1 i := nI_clamp (by omega)
          have g5 : (sp_sa (sp_sa μ 14 a (nI (sc a / 2))) 14 i (nI (sc i / 2))).1 0 34 + 1 = nI (sc 48 + 1) := by
            rw [sp_sa_1, sp_sa_1, h48, nI_1]
          obtain ⟨s3, es3⟩ : ∃ x, x = sp_si (sp_sa (sp_sa μ 14 a (nI (sc a / 2))) 14 i (nI (sc i / 2))) 0 34 (nI (sc 48 + 1)) := ⟨_, rfl⟩
          have q3 : ∀ p j, p ≠ 14 → s3.2.2.1 p j = μ.2.2.1 p j := fun p j hp => by
            rw [es3]
            show (sp_sa (sp_sa μ 14 a (nI (sc a / 2))) 14 i (nI (sc i / 2))).2.2.1 p j = _
            rw [sp_sa_np hp, sp_sa_np hp]
          have g6 : sp_g s3 7 (nI a) = nI (ct 1 a) := by rw [qn_g (by omega), q3 7 a (by omega)]; exact hA1 a ha
          have g7 : sp_g s3 24 (nI (ct 1 a)) = μ.2.2.1 24 (ct 1 a) := by rw [qn_g (by omega), q3 _ _ (by omega)]
          have g8 : ∀ y, sp_g (sp_sa s3 24 (ct 1 a) y) 7 (nI i) = nI (ct 1 i) := fun y => by rw [qn_g (by omega), sp_sa_np (by omega), q3 7 i (by omega)]; exact hA1 i hi2
          have g9 : sp_g (sp_sa s3 24 (ct 1 a) (μ.2.2.1 24 (ct 1 a) + 1)) 24 (nI (ct 1 i)) = if ct 1 i = ct 1 a then μ.2.2.1 24 (ct 1 a) + nI 1 else μ.2.2.1 24 (ct 1 i) := by
            rw [qn_g (by omega), sp_sa_g]
            by_cases e3 : ct 1 i = ct 1 a
            · rw [if_pos ⟨rfl, e3⟩, if_pos e3]; rfl
            · rw [if_neg (fun x => e3 x.2), if_neg e3, q3 _ _ (by omega)]
          rw [e2, t1, sp_bd_s, if_neg n1, wa, sp_ckt, w2, sp_ckt, sp_ckt, sp_pl, wi, sp_ckt, sp_ckt, sp_ckt, sp_pl, sp_pl, ca, ci, g1, g2, g3, g4, sa, si, g5, sp_pl, ← es3, wa2, sp_ckt, g6, wh, sp_ckt, sp_ckt, sp_pl, g7, ch, wi2, sp_ckt, g8, whi, sp_ckt, sp_ckt, sp_pl, g9, chi, X12_fight_128, sp_pl, qn_or, qn_or, nI_1]
          have hfin : sp_sa (sp_sa s3 24 (ct 1 a) (μ.2.2.1 24 (ct 1 a) + 1)) 24 (ct 1 i) ((if ct 1 i = ct 1 a then μ.2.2.1 24 (ct 1 a) + nI 1 else μ.2.2.1 24 (ct 1 i)) + 1) = mfstate μ ct sc a i := by rw [es3]; rfl
          rw [hfin, rq_fight0 (μ := mfstate μ ct sc a i) (sc := qfig sc a i) (stk := stk) (cd := cd) (k4 := k4) (n := n) (a := a) (hd := hd ||| (2 ^ a ||| 2 ^ i)) (rq_fstate h0 ha hi2 (by omega) h48') ha (Nat.lt_trans (or_lt10 hh (by omega) (by omega)) (by decide)) (by unfold qangry; rw [tb_or2]; simp) f (i + 1) (by omega) (by omega)]
          simp only [if_true]
        · have e2' : (sc (35 + ct 1 a)).testBit (ct 1 i) = false := by simpa using e2
          rw [e2', t0, sp_bd_s, if_pos (show nI 0 = 0 from rfl), X12_fight_128, sp_pl, nI_1]
          simp only [Bool.false_eq_true, if_false]
          exact ih (i + 1) (by omega) (by omega) (by omega)
      · have e1' : qangry ct sc hd i = false := by simpa using e1
        rw [e1', t0, sp_bd_s, if_pos (show nI 0 = 0 from rfl), X12_fight_128, sp_pl, nI_1, Bool.false_and]
        simp only [Bool.false_eq_true, if_false]
        exact ih (i + 1) (by omega) (by omega) (by omega)
end
