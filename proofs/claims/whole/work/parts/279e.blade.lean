-- ===== lines: a blade =====
section
variable {T : Nat → Nat} {n N c e b kd v pt kk : Nat} {σ0 μ0 σ μ τ υ : sp_St} {ct : Nat → Nat → Nat} {cd : List Nat × List Nat}
theorem ctB_13 {h l x : Nat} : ctB ct h l x 0 13 = ct 0 13 + 1 := by simp [ctB]
theorem ctB_0 {h l x k : Nat} (hk : k ≠ 13) : ctB ct h l x 0 k = ct 0 k := by simp [ctB, hk]
theorem ctB_1 {h l x : Nat} (k : Nat) : ctB ct h l x 1 k = if k = ct 0 13 then h else ct 1 k := by simp [ctB]
theorem ctB_2 {h l x : Nat} (k : Nat) : ctB ct h l x 2 k = if k = ct 0 13 then l else ct 2 k := by simp [ctB]
theorem ctB_3 {h l x : Nat} (k : Nat) : ctB ct h l x 3 k = if k = ct 0 13 then x else ct 3 k := by simp [ctB]
theorem ctB_4 {h l x : Nat} (k : Nat) : ctB ct h l x 4 k = if k = h then ct 4 h ||| 2 ^ ct 0 13 else ct 4 k := by simp [ctB]
theorem ctB_p {h l x p k : Nat} (hp : 5 ≤ p) : ctB ct h l x p k = ct p k := by
  unfold ctB
  rw [if_neg (by omega), if_neg (by omega), if_neg (by omega), if_neg (by omega), if_neg (by omega)]
theorem cl_bl {h l x : Nat} (h6 : h < 6) (H : cLs c σ0 σ ct cd pt kk) (h1 : σ.2.2.1 (c + 1) (ct 0 13) = nI h) (h2 : σ.2.2.1 (c + 2) (ct 0 13) = nI l) (h3 : σ.2.2.1 (c + 3) (ct 0 13) = nI x) : cLs c σ0 (sp_si (sp_sa σ (c + 4) h (nI (ct 4 h ||| 2 ^ ct 0 13))) c 13 (nI (ct 0 13 + 1))) (ctB ct h l x) cd pt kk := by
  obtain ⟨g1, g2, ⟨a1, a2, a3, a4, a5, a6, a7, a8, a9, a10, a11, a12⟩, g4, g5, g6, g7, g8, g9⟩ := H
  have R : ∀ p i, (sp_si (sp_sa σ (c + 4) h (nI (ct 4 h ||| 2 ^ ct 0 13))) c 13 (nI (ct 0 13 + 1))).2.2.1 p i = (sp_sa σ (c + 4) h (nI (ct 4 h ||| 2 ^ ct 0 13))).2.2.1 p i := fun _ _ => rfl
  refine ⟨g1, g2, ⟨by rw [ctB_13]; exact sp_si_eq, ?_, ?_, fun k hk => ?_, fun k hk => ?_, fun k hk => ?_, fun k hk => ?_, fun k hk => ?_, fun k hk => ?_, fun k hk => ?_, ?_, ?_⟩, ?_, ?_, ?_, ?_, ?_, cfL_tr g9 (cfL_tr (cfL_sa (p := c + 4) (i := h) (v := nI (ct 4 h ||| 2 ^ ct 0 13)) (by omega)) (cfL_si (by omega)))⟩
  · rw [ctB_0 (by omega), sp_si_ne (by omega)]; exact a2
  · rw [ctB_0 (by omega), sp_si_ne (by omega)]; exact a3
  · rw [ctB_13] at hk; rw [R, sp_sa_np (by omega), ctB_1]
    by_cases hh : k = ct 0 13
    · rw [if_pos hh, hh]; exact h1
    · rw [if_neg hh]; exact a4 k (by omega)
  · rw [ctB_13] at hk; rw [R, sp_sa_np (by omega), ctB_2]
    by_cases hh : k = ct 0 13
    · rw [if_pos hh, hh]; exact h2
    · rw [if_neg hh]; exact a5 k (by omega)
  · rw [ctB_13] at hk; rw [R, sp_sa_np (by omega), ctB_3]
    by_cases hh : k = ct 0 13
    · rw [if_pos hh, hh]; exact h3
    · rw [if_neg hh]; exact a6 k (by omega)
  · rw [R, ctB_4]
    by_cases hh : k = h
    · rw [if_pos hh, hh]; exact sp_sa_eq
    · rw [if_neg hh, sp_sa_nj hh]; exact a7 k hk
  · rw [ctB_0 (by omega)] at hk; rw [R, sp_sa_np (by omega), ctB_p (by omega)]; exact a8 k hk
  · rw [ctB_0 (by omega)] at hk; rw [R, sp_sa_np (by omega), ctB_p (by omega)]; exact a9 k hk
  · rw [R, sp_sa_np (by omega), ctB_p (by omega)]; exact a10 k hk
  · obtain ⟨z, z1, z2, z3, z4⟩ := a11
    exact ⟨z, by rw [sp_si_ne (by omega)]; exact z1, by rw [sp_si_ne (by omega)]; exact z2, z3, fun k hk => by rw [R, sp_sa_np (by omega)]; exact z4 k hk⟩
  · obtain ⟨z, z1, z2, z3, z4⟩ := a12
    exact ⟨z, by rw [sp_si_ne (by omega)]; exact z1, by rw [sp_si_ne (by omega)]; exact z2, z3, fun k hk => by rw [R, sp_sa_np (by omega)]; exact z4 k hk⟩
  · rw [ctB_0 (by omega), sp_si_ne (by omega)]; exact g4
  · rw [sp_si_ne (by omega)]; exact g5
  · rw [sp_si_ne (by omega)]; exact g6
  · rw [sp_si_ne (by omega)]; exact g7
  · rw [sp_si_ne (by omega)]; exact g8
theorem ml_bl {h l x : Nat} (H : mLs μ0 μ ct cd) (h1 : μ.2.2.1 7 (10 + ct 0 13) = nI h) (h2 : μ.2.2.1 8 (10 + ct 0 13) = nI l) (h3 : μ.2.2.1 9 (10 + ct 0 13) = nI x) : mLs μ0 (sp_sa μ 3 8 (nI (ct 0 13 + 1))) (ctB ct h l x) cd := by
  obtain ⟨g1, ⟨a1, a2, a3, a4, a5, a6, a7, a8, a9, a10, a11, a12, a13, a14⟩, g3⟩ := H
  refine ⟨g1, ⟨?_, ?_, by rw [ctB_13]; exact sp_sa_eq, ?_, ?_, ?_, fun k hk => ?_, fun k hk => ?_, fun k hk => ?_, fun k hk => ?_, fun k hk => ?_, fun k hk => ?_, fun k hk => ?_, fun k hk => ?_⟩, mfL_tr g3 (mfL_sa ⟨by omega, by omega, by decide⟩)⟩
  · rw [ctB_0 (by omega), sp_sa_nj (by omega)]; exact a1
  · rw [ctB_0 (by omega), sp_sa_nj (by omega)]; exact a2
  · rw [ctB_0 (by omega), sp_sa_nj (by omega)]; exact a4
  · rw [sp_sa_nj (by omega)]; exact a5
  · rw [sp_sa_nj (by omega)]; exact a6
  · rw [ctB_13] at hk; rw [sp_sa_np (by omega), ctB_1]
    by_cases hh : k = ct 0 13
    · rw [if_pos hh, hh]; exact h1
    · rw [if_neg hh]; exact a7 k (by omega)
  · rw [ctB_13] at hk; rw [sp_sa_np (by omega), ctB_2]
    by_cases hh : k = ct 0 13
    · rw [if_pos hh, hh]; exact h2
    · rw [if_neg hh]; exact a8 k (by omega)
  · rw [ctB_13] at hk; rw [sp_sa_np (by omega), ctB_3]
    by_cases hh : k = ct 0 13
    · rw [if_pos hh, hh]; exact h3
    · rw [if_neg hh]; exact a9 k (by omega)
  · rw [ctB_0 (by omega)] at hk; rw [sp_sa_np (by omega), ctB_p (by omega)]; exact a10 k hk
  · rw [ctB_0 (by omega)] at hk; rw [sp_sa_np (by omega), ctB_p (by omega)]; exact a11 k hk
  · rw [sp_sa_np (by omega), ctB_p (by omega)]; exact a12 k hk
  · rw [sp_sa_np (by omega)]; exact a13 k hk
  · rw [sp_sa_np (by omega)]; exact a14 k hk
theorem g_bl {h l x : Nat} (H : gL ct cd) (hb : ct 0 13 < 10) (h6 : h < 6) (hl : 1 ≤ l ∧ l ≤ 40) (hx : x ≤ 99) : gL (ctB ct h l x) cd := by
  obtain ⟨⟨k1, k2, k3, k4, k5, k6, k7⟩, g2, g3, g4, g5, g6, g7, g8, g9⟩ := H
  have hbs : ∀ o, o < 6 → ctB ct h l x 4 o = bs (fun b => decide (ctB ct h l x 1 b = o)) (ct 0 13 + 1) := fun o ho => by
    have e1 : bs (fun b => decide (ctB ct h l x 1 b = o)) (ct 0 13) = ct 4 o := by
      rw [k7 o ho]
      exact bs_cong fun k hk => by rw [ctB_1, if_neg (by omega)]
    rw [bs_s, e1, ctB_1, if_pos rfl, ctB_4]
    by_cases hh : o = h
    · subst hh; rw [if_pos rfl, if_pos (by simp)]
    · rw [if_neg hh, if_neg (by simp; omega)]
  have q4 : ct 4 h ||| 2 ^ ct 0 13 < 1024 := by
    have e1 := hbs h h6
    rw [ctB_4, if_pos rfl] at e1
    rw [e1]
    exact Nat.lt_of_lt_of_le (bs_lt _ _) (Nat.pow_le_pow_right (n := 2) (by decide) (show ct 0 13 + 1 ≤ 10 by omega))
  refine ⟨⟨by rw [ctB_13]; omega, by rw [ctB_0 (by omega)]; exact k2, fun p k => ?_, fun k => ?_, fun k => ?_, fun s => by rw [ctB_p (by omega)]; exact k6 s, fun o ho => by rw [ctB_13]; exact hbs o ho⟩, fun k => ?_, fun s => by rw [ctB_p (by omega)]; exact g3 s, fun o => by rw [ctB_p (by omega)]; exact g4 o, fun o k => by rw [ctB_p (by omega), ctB_p (by omega)]; exact g5 o k, fun o => by rw [ctB_p (by omega)]; exact g6 o, by rw [ctB_0 (by omega)]; exact g7, by rw [ctB_0 (by omega)]; exact g8, g9⟩
  · have := k3 p k
    unfold ctB
    split
    · omega
    · split
      · omega
      · split
        · omega
        · split
          · omega
          · split <;> omega
  · rw [ctB_1]; split
    · exact h6
    · exact k4 k
  · rw [ctB_2]; split
    · exact hl
    · exact k5 k
  · rw [ctB_3]; split
    · exact hx
    · exact g2 k
theorem ln_blade (hn : 1000 ≤ n) (h : LnS T N c σ0 μ0 σ μ e b kd v ct cd pt) (hk : kd ≠ 0) : LnO T N c σ0 μ0 b (fl cd pt) (X7_bladeLine n σ) (X12_sayBlade n μ) := by
  obtain ⟨hT, ⟨kk, hkk, hC⟩, hM, hG, hpt⟩ := h
  have hbe := tk_b hT hk
  have hc2 := isc_ge hC.2.1
  have hc11 := isc_le hC.2.1
  have h13 := hC.2.2.1.1
  have h38 := hM.2.1.2.2.1
  have hb10 := hG.1.1
  rw [X7_bladeLine, sp_pl, hC.1, hC.2.1, sp_ckt, sp_pl, h13, X12_sayBlade]
  by_cases h5 : ct 0 13 = 10
  · rw [if_neg (show ¬ nI (ct 0 13) < 10 by show ¬ nI (ct 0 13) < nI 10; rw [qn_lt (by omega) (by omega)]; omega), show X12_another n μ 2 10 = some (mFl μ 2, 0) from rq_anNo (k := 2) (m := 10) hM.1 (by omega) (by omega) (by rw [← h5]; exact h38), sp_bd_s, if_pos (show (0 : Int32) = 0 from rfl)]
    exact Or.inr ⟨cFl σ 2, mFl μ 2, rfl, rfl, bl_fl hT hC.2.2.2.2.2.2.2.2 hM.2.2 (by omega) (by omega)⟩
  · obtain ⟨τ1, υ1, e1, b1, kd1, v1, n1, n2, T1, n4, n5, n6⟩ := tk_nx hn hT.1
    have C1 := cL_T hC n5
    have M1 := mL_T hM n6
    have g38 := M1.2.1.2.2.1
    rw [if_pos (show nI (ct 0 13) < 10 by show nI (ct 0 13) < nI 10; rw [qn_lt (by omega) (by omega)]; omega), n1, sp_bv_s, show X12_another n μ 2 10 = _ from rq_anOk (k := 2) (m := 10) hM.1 (by omega) (by omega) h38 (by omega) h5, n2, sp_bv_s, sp_bd_s, if_neg (show ¬ (1 : Int32) = 0 by decide), sp_pl, show sp_g υ1 3 8 = nI (ct 0 13) from g38, show (10 : Int32) + nI (ct 0 13) = nI (10 + ct 0 13) from nI_add 10 _, qn_in (show ct 0 13 < 10 by omega) (by omega), qn_in (show 10 + ct 0 13 < 20 by omega) (by omega), nI_clamp (show ct 0 13 < 2 ^ 31 by omega), nI_clamp (show 10 + ct 0 13 < 2 ^ 31 by omega)]
    rcases nu_step (n := n) T1 M1.1 (lo := 0) (hi := 5) (by omega) (by omega) with ⟨k1, k2, k3, z1, z2, z3, z4⟩ | ⟨f, f1, f2, z1, z2, z3⟩
    · have z1' : X7_isNumber n τ1 0 5 = some (τ1, 1) := z1
      have z3' : X12_readNumber n υ1 0 5 = sp_bv (X12_stepOn n υ1) fun υ => some (υ, nI v1) := z3
      obtain ⟨τ2, υ2, e2, b2, kd2, v2, m1, m2, T2, m4, m5, m6⟩ := tk_nx hn T1.1
      have C2 := cL_T C1 m5
      have M2 := mL_sa (x := nI v1) (mL_T M1 m6) (p := 7) (i := 10 + ct 0 13) (by omega)
      have y2 : (sp_sa υ2 7 (10 + ct 0 13) (nI v1)).2.2.1 7 (10 + ct 0 13) = nI v1 := sp_sa_eq
      have T2' := tk_msa (p := 7) (i := 10 + ct 0 13) (x := nI v1) T2 (by omega)
      rw [z1', sp_bd_s, if_neg (show ¬ (1 : Int32) = 0 by decide), sp_pl, z4, m1, sp_bv_s, z3', m2, sp_bv_s, sp_bd_s, sp_ckt, sp_pl, qn_in (show v1 < 6 by omega) (by omega), nI_clamp (show v1 < 2 ^ 31 by omega)]
      generalize sp_sa υ2 7 (10 + ct 0 13) (nI v1) = υ3 at *
      rcases nu_step (n := n) T2' M2.1 (lo := 1) (hi := 40) (by omega) (by omega) with ⟨j1, j2, j3, w1, w2, w3, w4⟩ | ⟨f, f1, f2, w1, w2, w3⟩
      · have w1' : X7_isNumber n τ2 1 40 = some (τ2, 1) := w1
        have w3' : X12_readNumber n υ3 1 40 = sp_bv (X12_stepOn n υ3) fun υ => some (υ, nI v2) := w3
        have T3 := tk_csa (p := c + 2) (i := ct 0 13) (x := nI v2) T2' (by omega)
        obtain ⟨τ4, υ4, e4, b4, kd4, v4, o1, o2, T4, o4, o5, o6⟩ := tk_nx hn T3.1
        have C4 := cL_T (cL_sa (x := nI v2) C2 (p := c + 2) (i := ct 0 13) (by omega)) o5
        have x4 : τ4.2.2.1 (c + 2) (ct 0 13) = nI v2 := by rw [o5.1]; exact sp_sa_eq
        have M4 := mL_sa (x := nI v2) (mL_T M2 o6) (p := 8) (i := 10 + ct 0 13) (by omega)
        have y4 : (sp_sa υ4 8 (10 + ct 0 13) (nI v2)).2.2.1 7 (10 + ct 0 13) = nI v1 := by rw [sp_sa_np (by omega), o6.1]; exact y2
        have y5 : (sp_sa υ4 8 (10 + ct 0 13) (nI v2)).2.2.1 8 (10 + ct 0 13) = nI v2 := sp_sa_eq
        have T4' := tk_msa (p := 8) (i := 10 + ct 0 13) (x := nI v2) T4 (by omega)
        rw [w1', sp_bd_s, if_neg (show ¬ (1 : Int32) = 0 by decide), sp_pl, C2.1, C2.2.1, sp_ckt, sp_ckt, sp_pl, w4, o1, sp_bv_s, w3', o2, sp_bv_s, sp_bd_s, sp_ckt, sp_pl]
        generalize sp_sa υ4 8 (10 + ct 0 13) (nI v2) = υ5 at *
        rcases nu_step (n := n) T4' M4.1 (lo := 0) (hi := 99) (by omega) (by omega) with ⟨i1, i2, i3, s1, s2, s3, s4⟩ | ⟨f, f1, f2, s1, s2, s3⟩
        · have s1' : X7_isNumber n τ4 0 99 = some (τ4, 1) := s1
          have s3' : X12_readNumber n υ5 0 99 = sp_bv (X12_stepOn n υ5) fun υ => some (υ, nI v4) := s3
          rw [s1', sp_bd_s, if_neg (show ¬ (1 : Int32) = 0 by decide), sp_pl, C4.1, C4.2.1, sp_ckt, sp_ckt, sp_pl, s4]
          have C5 := cL_sa (x := nI v4) C4 (p := c + 3) (i := ct 0 13) (by omega)
          have x5 : (sp_sa τ4 (c + 3) (ct 0 13) (nI v4)).2.2.1 (c + 2) (ct 0 13) = nI v2 := by rw [sp_sa_np (by omega)]; exact x4
          have x5' : (sp_sa τ4 (c + 3) (ct 0 13) (nI v4)).2.2.1 (c + 3) (ct 0 13) = nI v4 := sp_sa_eq
          have T5 := tk_csa (p := c + 3) (i := ct 0 13) (x := nI v4) T4' (by omega)
          generalize sp_sa τ4 (c + 3) (ct 0 13) (nI v4) = τ5 at *
          rw [sp_pl, C5.1, C5.2.1, sp_ckt, sp_ckt, sp_pl]
          have C6 := cL_sa (x := nI v1) C5 (p := c + 1) (i := ct 0 13) (by omega)
          have x6 : (sp_sa τ5 (c + 1) (ct 0 13) (nI v1)).2.2.1 (c + 2) (ct 0 13) = nI v2 := by rw [sp_sa_np (by omega)]; exact x5
          have x6' : (sp_sa τ5 (c + 1) (ct 0 13) (nI v1)).2.2.1 (c + 3) (ct 0 13) = nI v4 := by rw [sp_sa_np (by omega)]; exact x5'
          have x6'' : (sp_sa τ5 (c + 1) (ct 0 13) (nI v1)).2.2.1 (c + 1) (ct 0 13) = nI v1 := sp_sa_eq
          have T6 := tk_csa (p := c + 1) (i := ct 0 13) (x := nI v1) T5 (by omega)
          generalize sp_sa τ5 (c + 1) (ct 0 13) (nI v1) = τ6 at *
          have e46 := C6.2.2.1.2.2.2.2.2.2.1 v1 (by omega)
          have hb4 := hG.1.2.2.1 4 v1
          rw [sp_pl, C6.1, C6.2.1, sp_ckt, sp_ckt, sp_ckt, sp_pl, qn_g (show v1 < 2 ^ 31 by omega), e46, show (1 : Int32) <<< (nI (ct 0 13) &&& 31) = nI (2 ^ ct 0 13) from qn_sh1 (by omega), qn_or]
          have C7 := cl_bl (h := v1) (l := v2) (x := v4) (by omega) C6 x6'' x6 x6'
          have T7 := tk_csi (p := c) (i := 13) (x := nI (ct 0 13 + 1)) (tk_csa (p := c + 4) (i := v1) (x := nI (ct 4 v1 ||| 2 ^ ct 0 13)) T6 (by omega)) (by omega)
          have c7 : (sp_sa τ6 (c + 4) v1 (nI (ct 4 v1 ||| 2 ^ ct 0 13))).2.1 21 1 = c := C6.1
          have d7 : (sp_sa τ6 (c + 4) v1 (nI (ct 4 v1 ||| 2 ^ ct 0 13))).1 c 13 = nI (ct 0 13) := C6.2.2.1.1
          rw [sp_pl, c7, C6.2.1, sp_ckt, sp_pl, d7, show nI (ct 0 13) + 1 = nI (ct 0 13 + 1) from nI_add _ 1]
          obtain ⟨τ8, υ8, e8, b8, kd8, v8, q1, q2, T8, q4, q5, q6⟩ := tk_nx hn T7.1
          have M8 := ml_bl (h := v1) (l := v2) (x := v4) (mL_sa (x := nI v4) (mL_T M4 q6) (p := 9) (i := 10 + ct 0 13) (by omega)) (by rw [sp_sa_np (by omega), q6.1]; exact y4) (by rw [sp_sa_np (by omega), q6.1]; exact y5) sp_sa_eq
          have g38' : (sp_sa υ8 9 (10 + ct 0 13) (nI v4)).2.2.1 3 8 = nI (ct 0 13) := by rw [sp_sa_np (by omega), q6.1]; exact M4.2.1.2.2.1
          rw [q1, sp_bv_s, s3', q2, sp_bv_s, sp_bd_s, sp_ckt, sp_pl, sp_pl]
          show LnO T N c σ0 μ0 b (fl cd pt) _ (some (sp_sa (sp_sa υ8 9 (10 + ct 0 13) (nI v4)) 3 8 ((sp_sa υ8 9 (10 + ct 0 13) (nI v4)).2.2.1 3 8 + 1)))
          rw [g38', show nI (ct 0 13) + 1 = nI (ct 0 13 + 1) from nI_add _ 1]
          refine Or.inl ⟨τ8, _, e8, b8, kd8, v8, ctB ct v1 v2 v4, cd, pt, rfl, rfl, ⟨tk_msa (tk_msa T8 (by omega)) (by omega), ⟨kk, ?_, cL_T C7 q5⟩, M8, g_bl hG (by omega) (by omega) ⟨j2, j3⟩ i3, hpt⟩, ?_, rfl⟩
          · have := T1.2.1; have := T2.2.1; have := T4.2.1; omega
          · have := T1.2.1; have := T2.2.1; have := T4.2.1; omega
        · have s1' : X7_isNumber n τ4 0 99 = some (cFl τ4 f, 0) := s1
          have s3' : X12_readNumber n υ5 0 99 = some (mFl υ5 f, 0) := s3
          rw [s1', sp_bd_s, if_pos (show (0 : Int32) = 0 from rfl), s3', sp_bd_s, sp_ckt, sp_pl, sp_pl]
          exact Or.inr ⟨_, _, rfl, rfl, bl_sa (bl_sa (bl_fl T4' C4.2.2.2.2.2.2.2.2 M4.2.2 f1 f2) ⟨by omega, by omega, by show 10 ≤ _; omega⟩) ⟨by omega, by omega, by decide⟩⟩
      · have w1' : X7_isNumber n τ2 1 40 = some (cFl τ2 f, 0) := w1
        have w3' : X12_readNumber n υ3 1 40 = some (mFl υ3 f, 0) := w3
        rw [w1', sp_bd_s, if_pos (show (0 : Int32) = 0 from rfl), w3', sp_bd_s, sp_ckt, sp_pl, rq_rnB (show (sp_sa (mFl υ3 f) 8 (10 + ct 0 13) 0).1 0 22 ≠ 0 from mFl_bad (μ := υ3) f1 f2), sp_bd_s, sp_ckt, sp_pl, sp_pl]
        exact Or.inr ⟨_, _, rfl, rfl, bl_sa (bl_sa (bl_sa (bl_fl T2' C2.2.2.2.2.2.2.2.2 M2.2.2 f1 f2) ⟨by omega, by omega, by show 10 ≤ _; omega⟩) ⟨by omega, by omega, by show 10 ≤ _; omega⟩) ⟨by omega, by omega, by decide⟩⟩
    · have z1' : X7_isNumber n τ1 0 5 = some (cFl τ1 f, 0) := z1
      have z3' : X12_readNumber n υ1 0 5 = some (mFl υ1 f, 0) := z3
      rw [z1', sp_bd_s, if_pos (show (0 : Int32) = 0 from rfl), z3', sp_bd_s, sp_ckt, sp_pl, rq_rnB (show (sp_sa (mFl υ1 f) 7 (10 + ct 0 13) 0).1 0 22 ≠ 0 from mFl_bad (μ := υ1) f1 f2), sp_bd_s, sp_ckt, sp_pl, rq_rnB (show (sp_sa (sp_sa (mFl υ1 f) 7 (10 + ct 0 13) 0) 8 (10 + ct 0 13) 0).1 0 22 ≠ 0 from mFl_bad (μ := υ1) f1 f2), sp_bd_s, sp_ckt, sp_pl, sp_pl]
      exact Or.inr ⟨_, _, rfl, rfl, bl_sa (bl_sa (bl_sa (bl_sa (bl_fl T1 C1.2.2.2.2.2.2.2.2 M1.2.2 f1 f2) ⟨by omega, by omega, by show 10 ≤ _; omega⟩) ⟨by omega, by omega, by show 10 ≤ _; omega⟩) ⟨by omega, by omega, by show 10 ≤ _; omega⟩) ⟨by omega, by omega, by decide⟩⟩
end
