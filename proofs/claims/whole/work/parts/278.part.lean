-- ===== expressions: parts, products, sums, tests =====
section
variable {T : Nat → Nat} {n N c a r e b kd v w : Nat} {σ0 μ0 σ μ : sp_St} {L : List Nat}
def vnC : Option Nat → Int32
  | none => 0
  | some k => -nI (k + 1)
theorem cq_vn (hn : 1000 ≤ n) (h : TK T N σ μ e b kd v) (hr : r ≤ 1) (h213 : σ.1 21 3 = nI (1 - r)) : X7_valueNamed n σ = some (σ, vnC (qf (fun k => wdB T e b kd k) (6 - 2 * r) 0)) := by
  have W := fun s (hs : s < 16) => cq_word (n := n) hn h (s := s) hs
  have r01 : r = 0 ∨ r = 1 := by omega
  have t0 : ¬ bI true = 0 := by decide
  have f0 : bI false = 0 := by decide
  have i1 : ¬ nI (1 - 0) = 0 := by decide
  have i0 : nI (1 - 1) = 0 := by decide
  rw [X7_valueNamed, W 0 (by omega), sp_bd_s]
  cases w0 : wdB T e b kd 0 with
  | true =>
    rw [if_neg t0]
    rcases r01 with rfl | rfl <;> (simp only [qf, w0, if_true, Nat.mul_zero, Nat.sub_zero, Nat.mul_one, Nat.reduceSub]; rfl)
  | false =>
    rw [if_pos f0, W 1 (by omega), sp_bd_s]
    cases w1 : wdB T e b kd 1 with
    | true =>
      rw [if_neg t0]
      rcases r01 with rfl | rfl <;> (simp only [qf, w0, w1, if_true, if_false, Bool.false_eq_true, Nat.mul_zero, Nat.sub_zero, Nat.mul_one, Nat.reduceSub, Nat.reduceAdd]; rfl)
    | false =>
      rw [if_pos f0, W 2 (by omega), sp_bd_s]
      cases w2 : wdB T e b kd 2 with
      | true =>
        rw [if_neg t0]
        rcases r01 with rfl | rfl <;> (simp only [qf, w0, w1, w2, if_true, if_false, Bool.false_eq_true, Nat.mul_zero, Nat.sub_zero, Nat.mul_one, Nat.reduceSub, Nat.reduceAdd]; rfl)
      | false =>
        rw [if_pos f0, W 3 (by omega), sp_bd_s]
        cases w3 : wdB T e b kd 3 with
        | true =>
          rw [if_neg t0]
          rcases r01 with rfl | rfl <;> (simp only [qf, w0, w1, w2, w3, if_true, if_false, Bool.false_eq_true, Nat.mul_zero, Nat.sub_zero, Nat.mul_one, Nat.reduceSub, Nat.reduceAdd]; rfl)
        | false =>
          rw [if_pos f0, h213]
          rcases r01 with rfl | rfl
          · rw [if_neg i1, W 4 (by omega), sp_bd_s]
            cases w4 : wdB T e b kd 4 with
            | true =>
              rw [if_neg t0]
              simp only [qf, w0, w1, w2, w3, w4, if_true, if_false, Bool.false_eq_true, Nat.mul_zero, Nat.sub_zero, Nat.mul_one, Nat.reduceSub, Nat.reduceAdd]; rfl
            | false =>
              rw [if_pos f0, X7_valueNamed_81, h213, if_neg i1, W 5 (by omega), sp_bd_s]
              cases w5 : wdB T e b kd 5 with
              | true =>
                rw [if_neg t0]
                simp only [qf, w0, w1, w2, w3, w4, w5, if_true, if_false, Bool.false_eq_true, Nat.mul_zero, Nat.sub_zero, Nat.mul_one, Nat.reduceSub, Nat.reduceAdd]; rfl
              | false =>
                rw [if_pos f0, X7_valueNamed_103]
                simp only [qf, w0, w1, w2, w3, w4, w5, if_true, if_false, Bool.false_eq_true, Nat.mul_zero, Nat.sub_zero, Nat.mul_one, Nat.reduceSub, Nat.reduceAdd]; rfl
          · rw [if_pos i0, X7_valueNamed_81, h213, if_pos i0, X7_valueNamed_103]
            simp only [qf, w0, w1, w2, w3, if_true, if_false, Bool.false_eq_true, Nat.mul_zero, Nat.sub_zero, Nat.mul_one, Nat.reduceSub, Nat.reduceAdd]; rfl
theorem shM_v : ∀ r, r ≤ 1 → ∀ k, k < 6 - 2 * r → shM.2.2.2 (1 + r) k = k := by decide +kernel
theorem rq_which (hn : 1000 ≤ n) (h : TK T N σ μ e b kd v) (h0 : μ.1 0 22 = 0) (hr : r ≤ 1) : X12_which n μ (1 + r) (sp_vl (1 + r)) = some (μ, match qf (fun k => wdB T e b kd k) (6 - 2 * r) 0 with
    | some k => nI k
    | none => -1) := by
  have hv : sp_vl (1 + r) = 6 - 2 * r := by
    have r01 : r = 0 ∨ r = 1 := by omega
    rcases r01 with rfl | rfl <;> rfl
  rw [hv, X12_which, sp_pl]
  have := lp_find (fun f i => X12_which_2 n (1 + r) (6 - 2 * r) f μ (nI i)) (6 - 2 * r) (fun k => wdB T e b kd k) (some (μ, -1)) (fun j => some (μ, nI j)) (fun f => by
      show X12_which_2 n (1 + r) (6 - 2 * r) (f + 1) μ (nI (6 - 2 * r)) = _
      rw [X12_which_2, if_pos (by rw [qn_of, qn_le (by omega) (by omega)]; omega)]; rfl) (fun f i hi => by
      show X12_which_2 n (1 + r) (6 - 2 * r) (f + 1) μ (nI i) = if wdB T e b kd i = true then some (μ, nI i) else X12_which_2 n (1 + r) (6 - 2 * r) f μ (nI (i + 1))
      rw [X12_which_2, if_neg (by rw [qn_of, qn_le (by omega) (by omega)]; omega), qn_in hi (by omega), sp_ckt, sp_pl, nI_clamp (by omega), shM_v r hr i hi, decide_eq_true (show i < 16 by omega), sp_ckt, rq_word hn h h0 (by omega), sp_bd_s]
      cases wdB T e b kd i with
      | true => rw [if_neg (show ¬ bI true = 0 by decide), if_pos rfl]; rfl
      | false => rw [if_pos (show bI false = 0 by decide), if_neg (by decide), sp_pl, show nI i + 1 = nI (i + 1) from nI_add i 1]) n 0 (by omega) (by omega)
  have this2 : X12_which_2 n (1 + r) (6 - 2 * r) n μ 0 = _ := this
  rw [this2, Nat.sub_zero]
  cases qf (fun k => wdB T e b kd k) (6 - 2 * r) 0 <;> rfl
theorem enc_v : ∀ k, k < 6 → encC (10000 + k) = -nI (k + 1) ∧ encM (10000 + k) = -nI (k + 1) ∧ (-1 : Int32) - nI k = -nI (k + 1) ∧ ¬ (-nI (k + 1) = 0) ∧ ¬ (nI k = -1) := by decide +kernel
theorem rq_mkOk (hn : 1 ≤ n) (h : TK T N σ μ e b kd v) (h0 : μ.1 0 22 = 0) {x : Nat} (hx : 3 < x) (hx2 : x < 256) (hk : kd = x) : X12_mark n μ (nI x) = X12_stepOn n μ := by
  rw [X12_mark, if_pos h0, rq_mk h h0 hx hx2, sp_bd_s, decide_eq_true hk, if_neg (show ¬ bI true = 0 by decide), X12_mark_20, if_pos h0]
  cases X12_stepOn n μ <;> rfl
theorem rq_mkNo (h : TK T N σ μ e b kd v) (h0 : μ.1 0 22 = 0) {x : Nat} (hx : 3 < x) (hx2 : x < 256) (hk : kd ≠ x) : X12_mark n μ (nI x) = some (mFl μ 1) := by
  rw [X12_mark, if_pos h0, rq_mk h h0 hx hx2, sp_bd_s, decide_eq_false hk, if_pos (show bI false = 0 by decide), show X12_amiss n μ 1 = some (mFl μ 1) from rq_amiss 1 h0, sp_bv_s, X12_mark_20, if_neg (mFl_bad (by omega) (by omega))]
  rfl
theorem rq_markB (h0 : μ.1 0 22 ≠ 0) {x : Int32} : X12_mark n μ x = some μ := by
  rw [X12_mark, if_neg h0, X12_mark_20, if_neg h0]; rfl
theorem rq_partB {km : sp_St → Int32 → Option sp_St} (h0 : μ.1 0 22 ≠ 0) {x : Int32} : X12_readPart n km μ x = some μ := by rw [X12_readPart, if_neg h0]
theorem pp_part (hn : 1000 ≤ n) {kc : sp_St → Int32 → Option (sp_St × Int32)} {km : sp_St → Int32 → Option sp_St} {d : Nat} (hw : 1 ≤ w) (hK : PP T N c a r σ0 μ0 w (fun σ => kc σ (nI (d + 1))) (fun μ => km μ (nI (d + 1)))) (hB : ∀ (μ : sp_St) x, μ.1 0 22 ≠ 0 → km μ x = some μ) : PP T N c a r σ0 μ0 w (fun σ => X7_part n kc σ (nI d)) (fun μ => X12_readPart n km μ (nI d)) := by
  intro σ μ e b kd v L hE
  show OUT T N c a r σ0 μ0 w b L (X7_part n kc σ (nI d)) (X12_readPart n km μ (nI d))
  have hle := es_le hE
  have hE' := hE
  obtain ⟨hT, hC, hM, hab⟩ := hE'
  have h0 := hM.1
  have hr := hM.2.2.2.1
  have h4 := hT.2.2.2.2.2.1
  have h18 := hT.2.2.2.2.2.2.1
  have hkd := hT.2.2.2.2.2.2.2.1
  have hm4 : mkd kd ≤ 4 := by unfold mkd; split <;> (try split) <;> omega
  rw [X7_part, X12_readPart, if_pos h0, h4, h18]
  by_cases k40 : kd = 40
  · -- a parenthesis
    have g1 : ¬ nI (mkd kd) = 2 := by rw [k40]; decide
    have g2 : ¬ nI (mkd kd) = 1 := by rw [k40]; decide
    obtain ⟨τ, υ, e1, b1, kd1, v1, n1, n2, n3, n4⟩ := es_nx hn hE (by omega)
    rw [if_pos (show nI kd = 40 by rw [k40]; rfl), if_neg g1, if_neg g2, n1, sp_bv_s, show X12_mark n μ 40 = X12_stepOn n μ from rq_mkOk (x := 40) (by omega) hT h0 (by omega) (by omega) k40, n2, sp_bv_s, show nI d + 1 = nI (d + 1) from nI_add d 1]
    rcases hK τ υ e1 b1 kd1 v1 L n3 with ⟨τ2, υ2, e2, b2, kd2, v2, D2, p1, p2, p3, p4, p5, p6⟩ | ⟨τ2, υ2, p1, p2, p3⟩
    · have p1' : kc τ (nI (d + 1)) = some (τ2, 1) := p1
      have p2' : km υ (nI (d + 1)) = some υ2 := p2
      have h02 := p3.2.2.1.1
      rw [p1', sp_bd_s, p2', sp_bv_s, if_neg (by decide)]
      rw [X7_passSign, p3.1.2.2.2.2.2.1]
      by_cases k41 : kd2 = 41
      · obtain ⟨τ3, υ3, e3, b3, kd3, v3, q1, q2, q3, q4⟩ := es_nx hn p3 (by omega)
        rw [if_pos (show nI kd2 = 41 by rw [k41]; rfl), q1, sp_bv_s, sp_bd_s, if_neg (by decide), show X12_mark n υ2 41 = X12_stepOn n υ2 from rq_mkOk (x := 41) (by omega) p3.1 h02 (by omega) (by omega) k41, q2, sp_bv_s]
        exact Or.inl ⟨τ3, υ3, e3, b3, kd3, v3, D2, rfl, rfl, q3, by omega, p5, p6⟩
      · rw [if_neg (show ¬ nI kd2 = 41 by show ¬ nI kd2 = nI 41; rw [qn_eq (by have := p3.1.2.2.2.2.2.2.2.1; omega) (by omega)]; exact k41), show X12_mark n υ2 41 = some (mFl υ2 1) from rq_mkNo (x := 41) p3.1 h02 (by omega) (by omega) k41, sp_bv_s]
        exact Or.inr ⟨cFl τ2 1, mFl υ2 1, rfl, rfl, es_fl p3 (by omega) (by omega)⟩
    · have p1' : kc τ (nI (d + 1)) = some (τ2, 0) := p1
      have p2' : km υ (nI (d + 1)) = some υ2 := p2
      rw [p1', sp_bd_s, p2', sp_bv_s, if_pos rfl, rq_markB p3.1, sp_bv_s]
      exact Or.inr ⟨τ2, υ2, rfl, rfl, p3⟩
  · rw [if_neg (show ¬ nI kd = 40 by show ¬ nI kd = nI 40; rw [qn_eq (by omega) (by omega)]; exact k40)]
    by_cases k1 : kd = 1
    · -- a word
      subst k1
      rw [if_pos (show nI 1 = 1 from rfl), sp_pl, if_neg (by decide), if_neg (show ¬ nI (mkd 1) = 2 by decide), if_pos (show nI (mkd 1) = 1 from rfl), sp_pl, hM.2.2.1, show sp_isv (1 + r) = true by (have r01 : r = 0 ∨ r = 1 := by omega); rcases r01 with rfl | rfl <;> rfl, sp_ckt, rq_which hn hT h0 hr, sp_bd_s, X7_part_78, if_neg (by decide), cq_vn hn hT hr hC.2.2.1, sp_bd_s, X7_part_96, if_neg (by decide)]
      cases hq : qf (fun k => wdB T e b 1 k) (6 - 2 * r) 0 with
      | none =>
        show OUT T N c a r σ0 μ0 w b L (if vnC none = 0 then _ else _) (if (-1 : Int32) = -1 then _ else _)
        rw [if_pos (show vnC none = 0 from rfl), if_pos rfl, show X12_amiss n μ 3 = some (mFl μ 3) from rq_amiss 3 h0, sp_bv_s, X12_readPart_56, rq_layB (mFl_bad (by omega) (by omega)), sp_bv_s, if_neg (mFl_bad (by omega) (by omega)), X12_readPart_74]
        exact Or.inr ⟨cFl σ 3, mFl μ 3, rfl, rfl, es_fl hE (by omega) (by omega)⟩
      | some k =>
        have hk6 := (qf_some hq).2.1
        obtain ⟨z1, z2, z3, z4, z5⟩ := enc_v k (by omega)
        show OUT T N c a r σ0 μ0 w b L (if -nI (k + 1) = 0 then _ else _) (if nI k = -1 then _ else _)
        rw [if_neg z4, if_neg z5, X7_part_111, sp_pl, hC.1, hC.2.1, sp_ckt, X12_readPart_56, z3, ← z2]
        show OUT T N c a r σ0 μ0 w b L (sp_bv (X2_addCode n σ c (-nI (k + 1))) _) _
        rw [← z1]
        have hbe := hle.2.2.2 (by omega)
        obtain ⟨τ, c1, c2, c3, c4⟩ := c_add (n := n) hC (by omega) (10000 + k)
        obtain ⟨υ, m1, m2, m3, m4⟩ := m_add (n := n) hM (by omega) (10000 + k)
        have hT2 := TK_f hT c3 c4 (fun j _ => m3 j) m4
        obtain ⟨τ2, υ2, e', b', kd', v', n1, n2, n3, n4, n5, n6⟩ := tk_nx hn hT2.1
        rw [c1, sp_bv_s, n1, sp_bv_s, m1, sp_bv_s, if_pos m2.1, n2, sp_bv_s, X12_readPart_74]
        refine Or.inl ⟨τ2, υ2, e', b', kd', v', [10000 + k], rfl, rfl, ⟨n3, cX_T c2 n5, mX_T m2 n6, ?_⟩, ?_, by simp, seg_mono (seg_one (by omega)) hw⟩
        · simp; omega
        · simp; omega
    · rw [if_neg (show ¬ nI kd = 1 by show ¬ nI kd = nI 1; rw [qn_eq (by omega) (by omega)]; exact k1), sp_pl, if_pos rfl]
      by_cases kn : kd = 2 ∧ 0 ≤ v ∧ v ≤ 9999
      · -- a number
        obtain ⟨z1, z2, z3⟩ := nu_ok (n := n) hT h0 (lo := 0) (hi := 9999) (by omega) kn.1 kn.2.1 kn.2.2
        have z1' : X7_isNumber n σ 0 9999 = some (σ, 1) := z1
        have z2' : X12_numberNow n μ 0 9999 = some (μ, nI v) := z2
        rw [z1', sp_bd_s, if_neg (by decide), if_pos (show nI (mkd kd) = 2 by rw [kn.1]; rfl), X7_part_78, if_pos rfl, X7_part_96, if_pos rfl, z3, X7_part_111, sp_pl, hC.1, hC.2.1, sp_ckt, X12_readNumber, z2', sp_bd_s, if_pos h0, ← encC_n (show v < 10000 by omega)]
        have hbe := hle.2.2.2 (by omega)
        obtain ⟨τ, c1, c2, c3, c4⟩ := c_add (n := n) hC (by omega) v
        have hT2 := TK_f (υ := μ) hT c3 c4 (fun j _ => rfl) (fun _ => rfl)
        obtain ⟨τ2, υ2, e', b', kd', v', n1, n2, n3, n4, n5, n6⟩ := tk_nx hn hT2.1
        obtain ⟨υ, m1, m2, m3, m4⟩ := m_add (n := n) (mX_T hM n6) (by omega) v
        rw [c1, sp_bv_s, n1, sp_bv_s, n2, sp_bv_s, X12_readNumber_18, sp_bd_s, encC_n (show v < 10000 by omega), ← encM_n (show v < 10000 by omega), m1, sp_bv_s]
        refine Or.inl ⟨τ2, υ, e', b', kd', v', [v], rfl, rfl, ⟨TK_f n3 (fun _ => rfl) (fun _ => rfl) (fun j _ => m3 j) m4, cX_T c2 n5, m2, ?_⟩, ?_, by simp, seg_mono (seg_one (by omega)) hw⟩
        · simp; omega
        · simp; omega
      · -- no part
        have nn := nu_no (n := n) hT h0 (lo := 0) (hi := 9999) (by omega) (by omega) kn
        by_cases k2 : kd = 2
        · obtain ⟨f, f1, f2, f3, f4⟩ := nn
          have f3' : X7_isNumber n σ 0 9999 = some (cFl σ f, 0) := f3
          have f4' : X12_numberNow n μ 0 9999 = some (mFl μ f, 0) := f4
          rw [f3', sp_bd_s, if_pos rfl, if_pos (show nI (mkd kd) = 2 by rw [k2]; rfl), X12_readNumber, f4', sp_bd_s, if_neg (mFl_bad f1 f2), X12_readNumber_18, sp_bd_s, rq_layB (mFl_bad f1 f2), sp_bv_s]
          exact Or.inr ⟨cFl σ f, mFl μ f, rfl, rfl, es_fl hE f1 f2⟩
        · have m2 : mkd kd ≠ 2 := by unfold mkd; split <;> (try split) <;> omega
          have m1 : mkd kd ≠ 1 := by unfold mkd; split <;> (try split) <;> omega
          have f3 : X7_isNumber n σ 0 9999 = some (cFl σ 1, 0) := by
            rw [X7_isNumber, h4, if_neg (show ¬ nI kd = 2 by show ¬ nI kd = nI 2; rw [qn_eq (by omega) (by omega)]; exact k2)]; rfl
          rw [f3, sp_bd_s, if_pos rfl, if_neg (show ¬ nI (mkd kd) = 2 by show ¬ nI (mkd kd) = nI 2; rw [qn_eq (by omega) (by omega)]; exact m2), if_neg (show ¬ nI (mkd kd) = 1 by show ¬ nI (mkd kd) = nI 1; rw [qn_eq (by omega) (by omega)]; exact m1), show X12_mark n μ 40 = some (mFl μ 1) from rq_mkNo (x := 40) hT h0 (by omega) (by omega) k40, sp_bv_s, hB _ _ (mFl_bad (by omega) (by omega)), sp_bv_s, rq_markB (mFl_bad (by omega) (by omega)), sp_bv_s]
          exact Or.inr ⟨cFl σ 1, mFl μ 1, rfl, rfl, es_fl hE (by omega) (by omega)⟩
end
