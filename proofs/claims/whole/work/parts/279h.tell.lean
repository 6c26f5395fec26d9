-- ===== lines, one behind the other =====
/-- a whole line's outcome -/
def LnX (T : Nat → Nat) (N c : Nat) (σ0 μ0 : sp_St) (b : Nat) (X : Option (sp_St × Int32)) (Y : Option (sp_St × Int32)) : Prop := (∃ τ υ e' b' kd' v' ct' cd' pt', X = some (τ, 1) ∧ Y = some (υ, nI (fl cd' pt')) ∧ LnS T N c σ0 μ0 τ υ e' b' kd' v' ct' cd' pt' ∧ b < b') ∨ ∃ τ υ w, X = some (τ, 0) ∧ Y = some (υ, w) ∧ BL c σ0 μ0 τ υ
section
variable {T : Nat → Nat} {n N c e b kd v pt kk : Nat} {σ0 μ0 σ μ τ υ : sp_St} {ct : Nat → Nat → Nat} {cd : List Nat × List Nat}
theorem ln_end (hn : 1000 ≤ n) {dn : Nat} {z1 z2 : Int32} {X : Option (sp_St × Int32)} {Y : Option sp_St} (h : LnO T N c σ0 μ0 b dn X Y) (hz : z1 ||| z2 = nI dn) : LnX T N c σ0 μ0 b (sp_bd X fun σ v => X7_line_126 n σ v) (sp_bv Y fun μ => X12_readLine_165 n μ z1 z2) := by
  rcases h with ⟨τ, υ, e1, b1, kd1, v1, ct1, cd1, pt1, p1, p2, p3, p4, p5⟩ | ⟨τ, υ, p1, p2, p3⟩
  · obtain ⟨hT, ⟨kk, hkk, hC⟩, hM, hG, hpt⟩ := p3
    have hk := hT.2.2.2.2.2.2.2.1
    rw [p1, sp_bd_s, X7_line_126, if_neg (show ¬ (1 : Int32) = 0 by decide), X7_passSign, hT.2.2.2.2.2.1, p2, sp_bv_s, X12_readLine_165, hz]
    by_cases k59 : kd1 = 59
    · obtain ⟨τ3, υ3, e3, b3, kd3, v3, m1, m2, T3, m4, m5, m6⟩ := tk_nx hn hT.1
      rw [if_pos (show nI kd1 = 59 by rw [k59]; rfl), m1, sp_bv_s, sp_bd_s, if_neg (show ¬ (1 : Int32) = 0 by decide), show X12_mark n υ 59 = X12_stepOn n υ from rq_mkOk (x := 59) (by omega) hT hM.1 (by omega) (by omega) k59, m2, sp_bv_s, ← p5]
      have := hT.2.1
      exact Or.inl ⟨τ3, υ3, e3, b3, kd3, v3, ct1, cd1, pt1, rfl, rfl, ⟨T3, ⟨kk, by omega, cL_T hC m5⟩, mL_T hM m6, hG, hpt⟩, by omega⟩
    · rw [if_neg (show ¬ nI kd1 = 59 from mk_ne hk (by decide) k59), show X7_fail n τ 1 = some (cFl τ 1, 0) from rfl, sp_bd_s, show X12_mark n υ 59 = some (mFl υ 1) from rq_mkNo (x := 59) hT hM.1 (by omega) (by omega) k59, sp_bv_s]
      exact Or.inr ⟨cFl τ 1, mFl υ 1, nI dn, rfl, rfl, bl_fl hT hC.2.2.2.2.2.2.2.2 hM.2.2 (by omega) (by omega)⟩
  · rw [p1, sp_bd_s, X7_line_126, if_pos (show (0 : Int32) = 0 from rfl), p2, sp_bv_s, X12_readLine_165, rq_markB p3.1, sp_bv_s]
    exact Or.inr ⟨τ, υ, z1 ||| z2, rfl, rfl, p3⟩
theorem fl_0 (h : pt ≤ 1) : ((nI 1 &&& nI (fl cd pt) = 0) = (pt = 0)) ∧ ((nI 2 &&& nI (fl cd pt) = 0) = (cd.1.length = 0)) ∧ ((nI 4 &&& nI (fl cd pt) = 0) = (cd.2.length = 0)) := by
  have h01 : pt = 0 ∨ pt = 1 := by omega
  unfold fl
  by_cases c1 : cd.1.length = 0 <;> by_cases c2 : cd.2.length = 0 <;> rcases h01 with rfl | rfl <;> simp only [c1, c2, if_true, if_false, eq_self] <;> decide
theorem fl_or (h : pt ≤ 1) : (pt = 0 → nI (fl cd pt) ||| nI 1 = nI (fl cd pt + 1)) ∧ (cd.1.length = 0 → nI (fl cd pt) ||| nI 2 = nI (fl cd pt + 2)) ∧ (cd.2.length = 0 → nI (fl cd pt) ||| nI 4 = nI (fl cd pt + 4)) ∧ nI (fl cd pt) ||| 0 = nI (fl cd pt) := by
  have h01 : pt = 0 ∨ pt = 1 := by omega
  unfold fl
  by_cases c1 : cd.1.length = 0 <;> by_cases c2 : cd.2.length = 0 <;> rcases h01 with rfl | rfl <;> simp only [c1, c2, if_true, if_false] <;> decide
theorem ln_line (hn : 1000 ≤ n) (h : LnS T N c σ0 μ0 σ μ e b kd v ct cd pt) (hk : kd ≠ 0) : LnX T N c σ0 μ0 b (X7_line n σ) (X12_readLine n μ (nI (fl cd pt))) := by
  have h' := h
  obtain ⟨hT, ⟨kk, hkk, hC⟩, hM, hG, hpt⟩ := h'
  have W := fun s (hs : s < 16) => cq_word (n := n) hn hT (s := s) hs
  have V := fun s (hs : s < 16) => rq_word (n := n) hn hT hM.1 (s := s) hs
  have t0 : ¬ bI true = 0 := by decide
  have f0 : bI false = 0 := by decide
  obtain ⟨F1, F2, F3⟩ := fl_0 (cd := cd) hpt
  obtain ⟨O1, O2, O3, O4⟩ := fl_or (cd := cd) hpt
  have hb5 := mFl_bad (μ := μ) (f := 5) (by omega) (by omega)
  have hB5 : BL c σ0 μ0 (cFl σ 5) (mFl μ 5) := bl_fl hT hC.2.2.2.2.2.2.2.2 hM.2.2 (by omega) (by omega)
  rw [X7_line, X12_readLine, W 12 (by omega), sp_bd_s, V 9 (by omega), sp_bd_s]
  -- the reference's tests of the three that come once, where the word is another one
  have R0 : wdB T e b kd 9 = false → wdB T e b kd 10 = false → wdB T e b kd 11 = false → (if bI (wdB T e b kd 9) = 0 then sp_bd (X12_is n μ 10) fun σ5 v6 => if v6 = 0 then sp_bd (X12_is n σ5 11) fun σ8 v9 => if v9 = 0 then X12_readLine_43 n σ8 (nI (fl cd pt)) 0 else X12_readLine_43 n σ8 (nI (fl cd pt)) 4 else X12_readLine_43 n σ5 (nI (fl cd pt)) 2 else X12_readLine_43 n μ (nI (fl cd pt)) 1) = X12_readLine_55 n μ (nI (fl cd pt)) 0 := fun h9 h10 h11 => by
    rw [h9, if_pos f0, V 10 (by omega), sp_bd_s, h10, if_pos f0, V 11 (by omega), sp_bd_s, h11, if_pos f0, X12_readLine_43, if_pos (show (0 : Int32) &&& nI (fl cd pt) = 0 by rw [Int32.and_comm]; simp)]
  cases w12 : wdB T e b kd 12 with
  | true =>
    rw [if_neg t0, R0 (wdB_x (s := 12) (by omega) (by omega) (by omega) w12) (wdB_x (s := 12) (by omega) (by omega) (by omega) w12) (wdB_x (s := 12) (by omega) (by omega) (by omega) w12), X12_readLine_55, if_pos (show (0 : Int32) ≤ 0 by decide), V 12 (by omega), sp_bd_s, w12, if_neg t0]
    exact ln_end hn (ln_feud hn h hk) O4
  | false =>
    rw [if_pos f0, W 13 (by omega), sp_bd_s]
    cases w13 : wdB T e b kd 13 with
    | true =>
      rw [if_neg t0, R0 (wdB_x (s := 13) (by omega) (by omega) (by omega) w13) (wdB_x (s := 13) (by omega) (by omega) (by omega) w13) (wdB_x (s := 13) (by omega) (by omega) (by omega) w13), X12_readLine_55, if_pos (show (0 : Int32) ≤ 0 by decide), V 12 (by omega), sp_bd_s, w12, if_pos f0, V 13 (by omega), sp_bd_s, w13, if_neg t0]
      exact ln_end hn (ln_swallow hn h hk) O4
    | false =>
      rw [if_pos f0, W 14 (by omega), sp_bd_s]
      cases w14 : wdB T e b kd 14 with
      | true =>
        rw [if_neg t0, R0 (wdB_x (s := 14) (by omega) (by omega) (by omega) w14) (wdB_x (s := 14) (by omega) (by omega) (by omega) w14) (wdB_x (s := 14) (by omega) (by omega) (by omega) w14), X12_readLine_55, if_pos (show (0 : Int32) ≤ 0 by decide), V 12 (by omega), sp_bd_s, w12, if_pos f0, V 13 (by omega), sp_bd_s, w13, if_pos f0, V 14 (by omega), sp_bd_s, w14, if_neg t0]
        exact ln_end hn (ln_blade hn h hk) O4
      | false =>
        rw [if_pos f0, W 9 (by omega), sp_bd_s]
        cases w9 : wdB T e b kd 9 with
        | true =>
          rw [if_neg t0, if_neg t0, X12_readLine_43]
          by_cases hp : pt = 0
          · subst hp
            rw [if_pos (show (1 : Int32) &&& nI (fl cd 0) = 0 from F1.mpr rfl), X12_readLine_55, if_neg (show ¬ (1 : Int32) ≤ 0 by decide), if_pos hM.1]
            have := ln_end hn (ln_pat hn h hk) (O1 rfl)
            have e1 : (sp_bv (X12_stepOn n μ) fun σ19 => X12_readLine_70 n σ19 (nI (fl cd 0)) 1) = sp_bv (sp_bv (X12_stepOn n μ) fun μ1 => sp_bd (X12_readNumber n μ1 1 99) fun σ7 v8 => some (sp_sa σ7 3 9 v8)) fun μ => X12_readLine_165 n μ (nI (fl cd 0)) (nI 1) := by
              cases X12_stepOn n μ with
              | none => rfl
              | some y =>
                rw [sp_bv_s, sp_bv_s, X12_readLine_70, if_pos rfl]
                cases X12_readNumber n y 1 99 with
                | none => rfl
                | some z => rfl
            rw [e1]
            exact this
          · have hp1 : pt = 1 := by omega
            subst hp1
            rw [if_neg (show ¬ (1 : Int32) &&& nI (fl cd 1) = 0 from fun hh => absurd (F1.mp hh) (by omega)), show X12_amiss n μ 5 = some (mFl μ 5) from rq_amiss 5 hM.1, sp_bv_s, X12_readLine_55, if_neg (show ¬ (1 : Int32) ≤ 0 by decide), if_neg hb5, X12_readLine_70, if_pos (show (1 : Int32) = 1 from rfl), rq_rnB hb5, sp_bd_s, sp_pl, X12_readLine_165, rq_markB (show (sp_sa (mFl μ 5) 3 (Int32.toNatClampNeg 9) 0).1 0 22 ≠ 0 from hb5), sp_bv_s]
            have e1 : X7_patienceLine n σ = some (cFl σ 5, 0) := by
              rw [X7_patienceLine, sp_pl, hC.1, hC.2.1, sp_ckt, hC.2.2.2.2.1, if_neg (show ¬ nI 1 = 0 by decide)]; rfl
            rw [e1, sp_bd_s, X7_line_126, if_pos (show (0 : Int32) = 0 from rfl)]
            exact Or.inr ⟨_, _, _, rfl, rfl, bl_sa (i := 9) hB5 ⟨by omega, by omega, by decide⟩⟩
        | false =>
          rw [if_pos f0, if_pos f0, W 10 (by omega), sp_bd_s, V 10 (by omega), sp_bd_s]
          cases w10 : wdB T e b kd 10 with
          | true =>
            rw [if_neg t0, if_neg t0, X12_readLine_43]
            by_cases hp : cd.1.length = 0
            · rw [if_pos (show (2 : Int32) &&& nI (fl cd pt) = 0 from F2.mpr hp), X12_readLine_55, if_neg (show ¬ (2 : Int32) ≤ 0 by decide), if_pos hM.1]
              have := ln_end hn (ln_cool hn h hk hp) (O2 hp)
              have e1 : (sp_bv (X12_stepOn n μ) fun σ19 => X12_readLine_70 n σ19 (nI (fl cd pt)) 2) = sp_bv (sp_bv (X12_stepOn n μ) fun μ1 => X12_sayRule n μ1 0) fun μ => X12_readLine_165 n μ (nI (fl cd pt)) (nI 2) := by
                cases X12_stepOn n μ with
                | none => rfl
                | some y => rw [sp_bv_s, sp_bv_s, X12_readLine_70, if_neg (show ¬ (2 : Int32) = 1 by decide), if_neg (show ¬ (2 : Int32) = 4 by decide), sp_pl]; rfl
              rw [e1]
              exact this
            · rw [if_neg (show ¬ (2 : Int32) &&& nI (fl cd pt) = 0 from fun hh => hp (F2.mp hh)), show X12_amiss n μ 5 = some (mFl μ 5) from rq_amiss 5 hM.1, sp_bv_s, X12_readLine_55, if_neg (show ¬ (2 : Int32) ≤ 0 by decide), if_neg hb5, X12_readLine_70, if_neg (show ¬ (2 : Int32) = 1 by decide), if_neg (show ¬ (2 : Int32) = 4 by decide), sp_pl, X12_sayRule, show sp_zb 0 = true from rfl, sp_ckt, sp_pl, if_pos (show (0 : Int32) = 0 from rfl), X12_sayRule_21, sp_pl, X12_readExpression, rq_exprB (show (sp_sr (sp_si (mFl μ 5) 0 25 0) 0 2 1).1 0 22 ≠ 0 from by show (sp_si (mFl μ 5) 0 25 0).1 0 22 ≠ 0; rw [sp_si_ne (by omega)]; exact hb5), sp_bv_s, sp_bv_s, X12_readLine_165, rq_markB (show (sp_sr (sp_si (mFl μ 5) 0 25 0) 0 2 1).1 0 22 ≠ 0 from by show (sp_si (mFl μ 5) 0 25 0).1 0 22 ≠ 0; rw [sp_si_ne (by omega)]; exact hb5), sp_bv_s]
              have e1 : X7_coolsLine n σ = some (cFl σ 5, 0) := by
                obtain ⟨z, y1, y2, y3, y4⟩ := hC.2.2.1.2.2.2.2.2.2.2.2.2.2.1
                rw [X7_coolsLine, sp_pl, hC.1, hC.2.1, sp_ckt, X2_coolsTold, y1, y2, if_neg (by rw [qn_le (by omega) (by omega)]; omega), sp_pl, show sp_zb 1 = true from rfl, sp_ckt, sp_bd_s, if_neg (show ¬ (1 : Int32) = 0 by decide)]; rfl
              rw [e1, sp_bd_s, X7_line_126, if_pos (show (0 : Int32) = 0 from rfl)]
              refine Or.inr ⟨_, _, _, rfl, rfl, ?_, ?_, ?_, hB5.2.2.2.1, mfL_tr hB5.2.2.2.2 (mfL_tr (mfL_si (i := 25) (v := 0) (by omega)) mfL_sr)⟩
              · show (sp_si (mFl μ 5) 0 25 0).1 0 22 ≠ 0
                rw [sp_si_ne (by omega)]; exact hb5
              · show _ = (sp_si (mFl μ 5) 0 25 0).1 0 22
                rw [sp_si_ne (by omega)]; exact hB5.2.1
              · show _ = (sp_si (mFl μ 5) 0 25 0).1 0 23
                rw [sp_si_ne (by omega)]; exact hB5.2.2.1
          | false =>
            rw [if_pos f0, if_pos f0, W 11 (by omega), sp_bd_s, V 11 (by omega), sp_bd_s]
            cases w11 : wdB T e b kd 11 with
            | true =>
              rw [if_neg t0, if_neg t0, X12_readLine_43]
              by_cases hp : cd.2.length = 0
              · rw [if_pos (show (4 : Int32) &&& nI (fl cd pt) = 0 from F3.mpr hp), X12_readLine_55, if_neg (show ¬ (4 : Int32) ≤ 0 by decide), if_pos hM.1]
                have := ln_end hn (ln_rise hn h hk hp) (O3 hp)
                have e1 : (sp_bv (X12_stepOn n μ) fun σ19 => X12_readLine_70 n σ19 (nI (fl cd pt)) 4) = sp_bv (sp_bv (X12_stepOn n μ) fun μ1 => X12_sayRule n μ1 1) fun μ => X12_readLine_165 n μ (nI (fl cd pt)) (nI 4) := by
                  cases X12_stepOn n μ with
                  | none => rfl
                  | some y => rw [sp_bv_s, sp_bv_s, X12_readLine_70, if_neg (show ¬ (4 : Int32) = 1 by decide), if_pos (show (4 : Int32) = 4 from rfl), sp_pl]; rfl
                rw [e1]
                exact this
              · rw [if_neg (show ¬ (4 : Int32) &&& nI (fl cd pt) = 0 from fun hh => hp (F3.mp hh)), show X12_amiss n μ 5 = some (mFl μ 5) from rq_amiss 5 hM.1, sp_bv_s, X12_readLine_55, if_neg (show ¬ (4 : Int32) ≤ 0 by decide), if_neg hb5, X12_readLine_70, if_neg (show ¬ (4 : Int32) = 1 by decide), if_pos (show (4 : Int32) = 4 from rfl), sp_pl, X12_sayRule, show sp_zb 1 = true from rfl, sp_ckt, sp_pl, if_neg (show ¬ (1 : Int32) = 0 by decide), X12_sayRule_21, sp_pl, X12_readExpression, rq_exprB (show (sp_sr (sp_si (mFl μ 5) 0 25 1) 0 2 2).1 0 22 ≠ 0 from by show (sp_si (mFl μ 5) 0 25 1).1 0 22 ≠ 0; rw [sp_si_ne (by omega)]; exact hb5), sp_bv_s, sp_bv_s, X12_readLine_165, rq_markB (show (sp_sr (sp_si (mFl μ 5) 0 25 1) 0 2 2).1 0 22 ≠ 0 from by show (sp_si (mFl μ 5) 0 25 1).1 0 22 ≠ 0; rw [sp_si_ne (by omega)]; exact hb5), sp_bv_s]
                have e1 : X7_risesLine n σ = some (cFl σ 5, 0) := by
                  obtain ⟨z, y1, y2, y3, y4⟩ := hC.2.2.1.2.2.2.2.2.2.2.2.2.2.2
                  rw [X7_risesLine, sp_pl, hC.1, hC.2.1, sp_ckt, X2_risesTold, y1, y2, if_neg (by rw [qn_le (by omega) (by omega)]; omega), sp_pl, show sp_zb 1 = true from rfl, sp_ckt, sp_bd_s, if_neg (show ¬ (1 : Int32) = 0 by decide)]; rfl
                rw [e1, sp_bd_s, X7_line_126, if_pos (show (0 : Int32) = 0 from rfl)]
                refine Or.inr ⟨_, _, _, rfl, rfl, ?_, ?_, ?_, hB5.2.2.2.1, mfL_tr hB5.2.2.2.2 (mfL_tr (mfL_si (i := 25) (v := 1) (by omega)) mfL_sr)⟩
                · show (sp_si (mFl μ 5) 0 25 1).1 0 22 ≠ 0
                  rw [sp_si_ne (by omega)]; exact hb5
                · show _ = (sp_si (mFl μ 5) 0 25 1).1 0 22
                  rw [sp_si_ne (by omega)]; exact hB5.2.1
                · show _ = (sp_si (mFl μ 5) 0 25 1).1 0 23
                  rw [sp_si_ne (by omega)]; exact hB5.2.2.1
            | false =>
              have hb1 := mFl_bad (μ := μ) (f := 1) (by omega) (by omega)
              rw [if_pos f0, if_pos f0, X12_readLine_43, if_pos (show (0 : Int32) &&& nI (fl cd pt) = 0 by rw [Int32.and_comm]; simp), X12_readLine_55, if_pos (show (0 : Int32) ≤ 0 by decide), V 12 (by omega), sp_bd_s, w12, if_pos f0, V 13 (by omega), sp_bd_s, w13, if_pos f0, V 14 (by omega), sp_bd_s, w14, if_pos f0, show X12_amiss n μ 1 = some (mFl μ 1) from rq_amiss 1 hM.1, sp_bv_s, X12_readLine_165, rq_markB hb1, sp_bv_s, show X7_fail n σ 1 = some (cFl σ 1, 0) from rfl, sp_bd_s, X7_line_126, if_pos (show (0 : Int32) = 0 from rfl)]
              exact Or.inr ⟨_, _, _, rfl, rfl, bl_fl hT hC.2.2.2.2.2.2.2.2 hM.2.2 (by omega) (by omega)⟩
end
