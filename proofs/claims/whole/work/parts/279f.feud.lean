-- ===== lines: a feud, the patience =====
section
variable {T : Nat → Nat} {n N c e b kd v pt kk : Nat} {σ0 μ0 σ μ τ υ : sp_St} {ct : Nat → Nat → Nat} {cd : List Nat × List Nat}
theorem ctF_15 {x y : Nat} : ctF ct x y 0 15 = ct 0 15 + 1 := by simp [ctF]
theorem ctF_0 {x y k : Nat} (hk : k ≠ 15) : ctF ct x y 0 k = ct 0 k := by simp [ctF, hk]
theorem ctF_p {x y p k : Nat} (h0 : p ≠ 0) (h7 : p ≠ 7) : ctF ct x y p k = ct p k := by simp [ctF, h0, h7]
theorem ctF_7 {x y : Nat} (k : Nat) : ctF ct x y 7 k = if k = x then ct 7 x ||| 2 ^ y else if k = y then ct 7 y ||| 2 ^ x else ct 7 k := by simp [ctF]
theorem ctF_t {x y : Nat} (hxy : x ≠ y) (k o : Nat) : (ctF ct x y 7 k).testBit o = ((ct 7 k).testBit o || (decide (k = x ∧ o = y) || decide (k = y ∧ o = x))) := by
  rw [ctF_7]
  by_cases h1 : k = x
  · subst h1
    have : ¬ (k = y ∧ o = k) := fun h => hxy h.1
    rw [if_pos rfl, Nat.testBit_or, Nat.testBit_two_pow, decide_eq_false this, Bool.or_false]
    congr 1
    exact decide_eq_decide.mpr ⟨fun h => ⟨rfl, h.symm⟩, fun h => h.2.symm⟩
  · rw [if_neg h1]
    by_cases h2 : k = y
    · subst h2
      have : ¬ (k = x ∧ o = k) := fun h => h1 h.1
      rw [if_pos rfl, Nat.testBit_or, Nat.testBit_two_pow, decide_eq_false (show ¬ (k = x ∧ o = k) from this), Bool.false_or]
      congr 1
      exact decide_eq_decide.mpr ⟨fun h => ⟨rfl, h.symm⟩, fun h => h.2.symm⟩
    · rw [if_neg h2]
      simp [h1, h2]
theorem cl_fe {x y : Nat} (hx : x < 6) (hy : y < 6) (hxy : x ≠ y) (H : cLs c σ0 σ ct cd pt kk) : cLs c σ0 (sp_si (sp_sa (sp_sa σ (c + 7) x (nI (ct 7 x ||| 2 ^ y))) (c + 7) y (nI (ct 7 y ||| 2 ^ x))) c 15 (nI (ct 0 15 + 1))) (ctF ct x y) cd pt kk := by
  obtain ⟨g1, g2, ⟨a1, a2, a3, a4, a5, a6, a7, a8, a9, a10, a11, a12⟩, g4, g5, g6, g7, g8, g9⟩ := H
  have R : ∀ p i, p ≠ c + 7 → (sp_si (sp_sa (sp_sa σ (c + 7) x (nI (ct 7 x ||| 2 ^ y))) (c + 7) y (nI (ct 7 y ||| 2 ^ x))) c 15 (nI (ct 0 15 + 1))).2.2.1 p i = σ.2.2.1 p i := fun p i hp => by
    show (sp_sa (sp_sa σ (c + 7) x (nI (ct 7 x ||| 2 ^ y))) (c + 7) y (nI (ct 7 y ||| 2 ^ x))).2.2.1 p i = _
    rw [sp_sa_np hp, sp_sa_np hp]
  refine ⟨g1, g2, ⟨?_, ?_, ?_, fun k hk => ?_, fun k hk => ?_, fun k hk => ?_, fun k hk => ?_, fun k hk => ?_, fun k hk => ?_, fun k hk => ?_, ?_, ?_⟩, by rw [ctF_15]; exact sp_si_eq, ?_, ?_, ?_, ?_, cfL_tr g9 (cfL_tr (cfL_tr (cfL_sa (p := c + 7) (i := x) (v := nI (ct 7 x ||| 2 ^ y)) (by omega)) (cfL_sa (p := c + 7) (i := y) (v := nI (ct 7 y ||| 2 ^ x)) (by omega))) (cfL_si (by omega)))⟩
  · rw [ctF_0 (by omega), sp_si_ne (by omega)]; exact a1
  · rw [ctF_0 (by omega), sp_si_ne (by omega)]; exact a2
  · rw [ctF_0 (by omega), sp_si_ne (by omega)]; exact a3
  · rw [ctF_0 (by omega)] at hk; rw [R _ _ (by omega), ctF_p (by omega) (by omega)]; exact a4 k hk
  · rw [ctF_0 (by omega)] at hk; rw [R _ _ (by omega), ctF_p (by omega) (by omega)]; exact a5 k hk
  · rw [ctF_0 (by omega)] at hk; rw [R _ _ (by omega), ctF_p (by omega) (by omega)]; exact a6 k hk
  · rw [R _ _ (by omega), ctF_p (by omega) (by omega)]; exact a7 k hk
  · rw [ctF_0 (by omega)] at hk; rw [R _ _ (by omega), ctF_p (by omega) (by omega)]; exact a8 k hk
  · rw [ctF_0 (by omega)] at hk; rw [R _ _ (by omega), ctF_p (by omega) (by omega)]; exact a9 k hk
  · show (sp_sa (sp_sa σ (c + 7) x (nI (ct 7 x ||| 2 ^ y))) (c + 7) y (nI (ct 7 y ||| 2 ^ x))).2.2.1 (c + 7) k = _
    rw [ctF_7]
    by_cases h1 : k = x
    · rw [if_pos h1, h1, sp_sa_nj hxy]; exact sp_sa_eq
    · rw [if_neg h1]
      by_cases h2 : k = y
      · rw [if_pos h2, h2]; exact sp_sa_eq
      · rw [if_neg h2, sp_sa_nj h2, sp_sa_nj h1]; exact a10 k hk
  · obtain ⟨z, z1, z2, z3, z4⟩ := a11
    exact ⟨z, by rw [sp_si_ne (by omega)]; exact z1, by rw [sp_si_ne (by omega)]; exact z2, z3, fun k hk => by rw [R _ _ (by omega)]; exact z4 k hk⟩
  · obtain ⟨z, z1, z2, z3, z4⟩ := a12
    exact ⟨z, by rw [sp_si_ne (by omega)]; exact z1, by rw [sp_si_ne (by omega)]; exact z2, z3, fun k hk => by rw [R _ _ (by omega)]; exact z4 k hk⟩
  · rw [sp_si_ne (by omega)]; exact g5
  · rw [sp_si_ne (by omega)]; exact g6
  · rw [sp_si_ne (by omega)]; exact g7
  · rw [sp_si_ne (by omega)]; exact g8
theorem ml_fe {x y : Nat} (hx : x < 6) (hy : y < 6) (hxy : x ≠ y) (H : mLs μ0 μ ct cd) : mLs μ0 (sp_sa (sp_sa (sp_sa μ 4 (6 + x) (nI (ct 7 x ||| 2 ^ y))) 4 (6 + y) (nI (ct 7 y ||| 2 ^ x))) 3 6 (nI (ct 0 15 + 1))) (ctF ct x y) cd := by
  obtain ⟨g1, ⟨a1, a2, a3, a4, a5, a6, a7, a8, a9, a10, a11, a12, a13, a14⟩, g3⟩ := H
  have R : ∀ p i, p ≠ 4 → ¬ (p = 3 ∧ i = 6) → (sp_sa (sp_sa (sp_sa μ 4 (6 + x) (nI (ct 7 x ||| 2 ^ y))) 4 (6 + y) (nI (ct 7 y ||| 2 ^ x))) 3 6 (nI (ct 0 15 + 1))).2.2.1 p i = μ.2.2.1 p i := fun p i hp hi => by
    rw [sp_sa_g, if_neg hi, sp_sa_np hp, sp_sa_np hp]
  refine ⟨g1, ⟨by rw [ctF_15]; exact sp_sa_eq, ?_, ?_, ?_, ?_, ?_, fun k hk => ?_, fun k hk => ?_, fun k hk => ?_, fun k hk => ?_, fun k hk => ?_, fun k hk => ?_, fun k hk => ?_, fun k hk => ?_⟩, mfL_tr g3 (mfL_tr (mfL_tr (mfL_sa (p := 4) (i := 6 + x) (v := nI (ct 7 x ||| 2 ^ y)) ⟨by omega, by omega, by show 6 ≤ _; omega⟩) (mfL_sa (p := 4) (i := 6 + y) (v := nI (ct 7 y ||| 2 ^ x)) ⟨by omega, by omega, by show 6 ≤ _; omega⟩)) (mfL_sa ⟨by omega, by omega, by decide⟩))⟩
  · rw [ctF_0 (by omega), R _ _ (by omega) (by omega)]; exact a2
  · rw [ctF_0 (by omega), R _ _ (by omega) (by omega)]; exact a3
  · rw [ctF_0 (by omega), R _ _ (by omega) (by omega)]; exact a4
  · rw [R _ _ (by omega) (by omega)]; exact a5
  · rw [R _ _ (by omega) (by omega)]; exact a6
  · rw [ctF_0 (by omega)] at hk; rw [R _ _ (by omega) (by omega), ctF_p (by omega) (by omega)]; exact a7 k hk
  · rw [ctF_0 (by omega)] at hk; rw [R _ _ (by omega) (by omega), ctF_p (by omega) (by omega)]; exact a8 k hk
  · rw [ctF_0 (by omega)] at hk; rw [R _ _ (by omega) (by omega), ctF_p (by omega) (by omega)]; exact a9 k hk
  · rw [ctF_0 (by omega)] at hk; rw [R _ _ (by omega) (by omega), ctF_p (by omega) (by omega)]; exact a10 k hk
  · rw [ctF_0 (by omega)] at hk; rw [R _ _ (by omega) (by omega), ctF_p (by omega) (by omega)]; exact a11 k hk
  · rw [sp_sa_np (by omega), ctF_7]
    by_cases h1 : k = x
    · rw [if_pos h1, h1, sp_sa_nj (by omega)]; exact sp_sa_eq
    · rw [if_neg h1]
      by_cases h2 : k = y
      · rw [if_pos h2, h2]; exact sp_sa_eq
      · rw [if_neg h2, sp_sa_nj (by omega), sp_sa_nj (by omega)]; exact a12 k hk
  · rw [R _ _ (by omega) (by omega)]; exact a13 k hk
  · rw [R _ _ (by omega) (by omega)]; exact a14 k hk
theorem or_lt64 {a o : Nat} (ha : a < 64) (ho : o < 6) : a ||| 2 ^ o < 64 := Nat.or_lt_two_pow (n := 6) ha (Nat.pow_lt_pow_right (by decide) ho)
theorem g_fe {x y : Nat} (H : gL ct cd) (hf : ct 0 15 < 9) (hx : x < 6) (hy : y < 6) (hxy : x ≠ y) : gL (ctF ct x y) cd := by
  obtain ⟨⟨k1, k2, k3, k4, k5, k6, k7⟩, g2, g3, g4, g5, g6, g7, g8, g9⟩ := H
  have l7 : ∀ h, h < 6 → ctF ct x y 7 h < 64 := fun h hh => by
    rw [ctF_7]
    split
    · exact or_lt64 (g4 x hx) hy
    · split
      · exact or_lt64 (g4 y hy) hx
      · exact g4 h hh
  refine ⟨⟨by rw [ctF_0 (by omega)]; exact k1, by rw [ctF_0 (by omega)]; exact k2, fun p k => ?_, fun k => by rw [ctF_p (by omega) (by omega)]; exact k4 k, fun k => by rw [ctF_p (by omega) (by omega)]; exact k5 k, fun s => by rw [ctF_p (by omega) (by omega)]; exact k6 s, fun o ho => ?_⟩, fun k => by rw [ctF_p (by omega) (by omega)]; exact g2 k, fun s => by rw [ctF_p (by omega) (by omega)]; exact g3 s, l7, fun h o hh ho => ?_, fun h hh => ?_, by rw [ctF_0 (by omega)]; exact g7, by rw [ctF_15]; omega, g9⟩
  · have := k3 p k
    have h1 := or_lt64 (g4 x hx) hy
    have h2 := or_lt64 (g4 y hy) hx
    unfold ctF
    split
    · omega
    · split
      · omega
      · split <;> omega
  · rw [ctF_p (by omega) (by omega), ctF_0 (by omega), k7 o ho]
    exact bs_cong fun k _ => by rw [ctF_p (by omega) (by omega)]
  · rw [ctF_t hxy, ctF_t hxy, g5 h o hh ho, Bool.or_comm (decide (h = x ∧ o = y)), show decide (h = y ∧ o = x) = decide (o = x ∧ h = y) by simp [and_comm], show decide (h = x ∧ o = y) = decide (o = y ∧ h = x) by simp [and_comm]]
  · rw [ctF_t hxy, g6 h hh]
    simp; omega
theorem ln_feud (hn : 1000 ≤ n) (h : LnS T N c σ0 μ0 σ μ e b kd v ct cd pt) (hk : kd ≠ 0) : LnO T N c σ0 μ0 b (fl cd pt) (X7_feudLine n σ) (X12_sayFeud n μ) := by
  obtain ⟨hT, ⟨kk, hkk, hC⟩, hM, hG, hpt⟩ := h
  have hbe := tk_b hT hk
  have hc2 := isc_ge hC.2.1
  have hc11 := isc_le hC.2.1
  have h15 := hC.2.2.2.1
  have h36 := hM.2.1.1
  have hf9 := hG.2.2.2.2.2.2.2.1
  rw [X7_feudLine, sp_pl, hC.1, hC.2.1, sp_ckt, h15, X12_sayFeud]
  by_cases h5 : ct 0 15 = 9
  · rw [if_neg (show ¬ nI (ct 0 15) < 9 by show ¬ nI (ct 0 15) < nI 9; rw [qn_lt (by omega) (by omega)]; omega), show X12_another n μ 0 9 = some (mFl μ 2, 0) from rq_anNo (k := 0) (m := 9) hM.1 (by omega) (by omega) (by rw [← h5]; exact h36), sp_bd_s, if_pos (show (0 : Int32) = 0 from rfl)]
    exact Or.inr ⟨cFl σ 2, mFl μ 2, rfl, rfl, bl_fl hT hC.2.2.2.2.2.2.2.2 hM.2.2 (by omega) (by omega)⟩
  · obtain ⟨τ1, υ1, e1, b1, kd1, v1, n1, n2, T1, n4, n5, n6⟩ := tk_nx hn hT.1
    have C1 := cL_T hC n5
    have M1 := mL_T hM n6
    rw [if_pos (show nI (ct 0 15) < 9 by show nI (ct 0 15) < nI 9; rw [qn_lt (by omega) (by omega)]; omega), n1, sp_bv_s, show X12_another n μ 0 9 = _ from rq_anOk (k := 0) (m := 9) hM.1 (by omega) (by omega) h36 (by omega) h5, n2, sp_bv_s, sp_bd_s, if_neg (show ¬ (1 : Int32) = 0 by decide)]
    rcases nu_step (n := n) T1 M1.1 (lo := 0) (hi := 5) (by omega) (by omega) with ⟨k1, k2, k3, z1, z2, z3, z4⟩ | ⟨f, f1, f2, z1, z2, z3⟩
    · have z1' : X7_isNumber n τ1 0 5 = some (τ1, 1) := z1
      have z3' : X12_readNumber n υ1 0 5 = sp_bv (X12_stepOn n υ1) fun υ => some (υ, nI v1) := z3
      obtain ⟨τ2, υ2, e2, b2, kd2, v2, m1, m2, T2, m4, m5, m6⟩ := tk_nx hn T1.1
      have C2 := cL_T C1 m5
      have M2 := mL_T M1 m6
      rw [z1', sp_bd_s, if_neg (show ¬ (1 : Int32) = 0 by decide), sp_pl, z4, m1, sp_bv_s, z3', m2, sp_bv_s, sp_bd_s]
      rcases nu_step (n := n) T2 M2.1 (lo := 0) (hi := 5) (by omega) (by omega) with ⟨j1, j2, j3, w1, w2, w3, w4⟩ | ⟨f, f1, f2, w1, w2, w3⟩
      · have w1' : X7_isNumber n τ2 0 5 = some (τ2, 1) := w1
        have w2' : X12_numberNow n υ2 0 5 = some (υ2, nI v2) := w2
        rw [w1', sp_bd_s, if_neg (show ¬ (1 : Int32) = 0 by decide), sp_pl, w4, w2', sp_bd_s, if_pos M2.1]
        have F4 : X12_sayFeud_53 n υ2 (nI v1) (nI v2) = some (mFl υ2 4) := by
          rw [X12_sayFeud_53, show X12_amiss n υ2 4 = some (mFl υ2 4) from rq_amiss 4 M2.1, sp_bv_s, X12_sayFeud_58, if_neg (mFl_bad (by omega) (by omega))]
        by_cases hxy : v1 = v2
        · subst hxy
          rw [if_pos rfl, if_pos rfl, F4]
          exact Or.inr ⟨cFl τ2 4, mFl υ2 4, rfl, rfl, bl_fl T2 C2.2.2.2.2.2.2.2.2 M2.2.2 (by omega) (by omega)⟩
        · have hne : ¬ nI v1 = nI v2 := by rw [qn_eq (by omega) (by omega)]; exact hxy
          have e7 := C2.2.2.1.2.2.2.2.2.2.2.2.2.1 v1 (by omega)
          have e7' := C2.2.2.1.2.2.2.2.2.2.2.2.2.1 v2 (by omega)
          have m7 := M2.2.1.2.2.2.2.2.2.2.2.2.2.2.1 v1 (by omega)
          have l1 := hG.2.2.2.1 v1 (by omega)
          have l2 := hG.2.2.2.1 v2 (by omega)
          rw [if_neg hne, if_neg hne, sp_pl, C2.1, C2.2.1, sp_ckt, qn_in (show v1 < 6 by omega) (by omega), sp_ckt, sp_ckt, sp_ckt, qn_g (show v1 < 2 ^ 31 by omega), e7, show (6 : Int32) + nI v1 = nI (6 + v1) from nI_add 6 _, qn_in (show 6 + v1 < 12 by omega) (by omega), sp_ckt, qn_g (show 6 + v1 < 2 ^ 31 by omega), m7, rq_isOf (show ct 7 v1 < 2 ^ 31 by omega) (show v2 < 32 by omega), sp_bd_s]
          have eb : ((nI (ct 7 v1) >>> (nI v2 &&& 31)) &&& 1 = 0) = ((ct 7 v1).testBit v2 = false) := qn_bit0 (by omega) (by omega)
          cases ht : (ct 7 v1).testBit v2 with
          | true =>
            rw [if_neg (show ¬ ((nI (ct 7 v1) >>> (nI v2 &&& 31)) &&& 1 = 0) by rw [eb, ht]; decide), if_pos rfl, if_neg (show ¬ nI 1 = 0 by decide), F4]
            exact Or.inr ⟨cFl τ2 4, mFl υ2 4, rfl, rfl, bl_fl T2 C2.2.2.2.2.2.2.2.2 M2.2.2 (by omega) (by omega)⟩
          | false =>
            rw [if_pos (show (nI (ct 7 v1) >>> (nI v2 &&& 31)) &&& 1 = 0 by rw [eb, ht]), if_neg (show ¬ false = true by decide), if_pos (show nI 0 = 0 from rfl), sp_pl, nI_clamp (show v1 < 2 ^ 31 by omega), show (1 : Int32) <<< (nI v2 &&& 31) = nI (2 ^ v2) from qn_sh1 (by omega), qn_or]
            have c3 : (sp_sa τ2 (c + 7) v1 (nI (ct 7 v1 ||| 2 ^ v2))).2.1 21 1 = c := C2.1
            have e3 : (sp_sa τ2 (c + 7) v1 (nI (ct 7 v1 ||| 2 ^ v2))).2.2.1 (c + 7) v2 = nI (ct 7 v2) := by rw [sp_sa_nj (by omega)]; exact e7'
            rw [sp_pl, c3, C2.2.1, sp_ckt, qn_in (show v2 < 6 by omega) (by omega), sp_ckt, sp_ckt, sp_pl, nI_clamp (show v2 < 2 ^ 31 by omega), qn_g (show v2 < 2 ^ 31 by omega), e3, show (1 : Int32) <<< (nI v1 &&& 31) = nI (2 ^ v1) from qn_sh1 (by omega), qn_or]
            have c4 : (sp_sa (sp_sa τ2 (c + 7) v1 (nI (ct 7 v1 ||| 2 ^ v2))) (c + 7) v2 (nI (ct 7 v2 ||| 2 ^ v1))).2.1 21 1 = c := C2.1
            have d4 : (sp_sa (sp_sa τ2 (c + 7) v1 (nI (ct 7 v1 ||| 2 ^ v2))) (c + 7) v2 (nI (ct 7 v2 ||| 2 ^ v1))).1 c 15 = nI (ct 0 15) := C2.2.2.2.1
            rw [sp_pl, c4, C2.2.1, sp_ckt, sp_pl, d4, show nI (ct 0 15) + 1 = nI (ct 0 15 + 1) from nI_add _ 1]
            have C5 := cl_fe (x := v1) (y := v2) (by omega) (by omega) hxy C2
            have T5 := tk_csi (p := c) (i := 15) (x := nI (ct 0 15 + 1)) (tk_csa (p := c + 7) (i := v2) (x := nI (ct 7 v2 ||| 2 ^ v1)) (tk_csa (p := c + 7) (i := v1) (x := nI (ct 7 v1 ||| 2 ^ v2)) T2 (by omega)) (by omega)) (by omega)
            obtain ⟨τ8, υ8, e8, b8, kd8, v8, q1, q2, T8, q4, q5, q6⟩ := tk_nx hn T5.1
            have M8 := mL_T M2 q6
            have r7 := M8.2.1.2.2.2.2.2.2.2.2.2.2.2.1 v1 (by omega)
            have r7' : (sp_sa υ8 4 (6 + v1) (nI (ct 7 v1 ||| 2 ^ v2))).2.2.1 4 (6 + v2) = nI (ct 7 v2) := by rw [sp_sa_nj (by omega)]; exact M8.2.1.2.2.2.2.2.2.2.2.2.2.2.1 v2 (by omega)
            have r36 : (sp_sa (sp_sa υ8 4 (6 + v1) (nI (ct 7 v1 ||| 2 ^ v2))) 4 (6 + v2) (nI (ct 7 v2 ||| 2 ^ v1))).2.2.1 3 6 = nI (ct 0 15) := by rw [sp_sa_np (by omega), sp_sa_np (by omega)]; exact M8.2.1.1
            have M9 := ml_fe (x := v1) (y := v2) (by omega) (by omega) hxy M8
            have E58 : X12_sayFeud_58 n υ2 (nI v1) (nI v2) = some (sp_sa (sp_sa (sp_sa υ8 4 (6 + v1) (nI (ct 7 v1 ||| 2 ^ v2))) 4 (6 + v2) (nI (ct 7 v2 ||| 2 ^ v1))) 3 6 (nI (ct 0 15 + 1))) := by
              rw [X12_sayFeud_58, if_pos M2.1, q2, sp_bv_s, show (6 : Int32) + nI v1 = nI (6 + v1) from nI_add 6 _, show (6 : Int32) + nI v2 = nI (6 + v2) from nI_add 6 _, qn_in (show 6 + v1 < 12 by omega) (by omega), sp_ckt, sp_ckt, sp_pl, nI_clamp (show 6 + v1 < 2 ^ 31 by omega), qn_g (show 6 + v1 < 2 ^ 31 by omega), r7, show (1 : Int32) <<< (nI v2 &&& 31) = nI (2 ^ v2) from qn_sh1 (by omega), qn_or, qn_in (show 6 + v2 < 12 by omega) (by omega), sp_ckt, sp_ckt, sp_pl, nI_clamp (show 6 + v2 < 2 ^ 31 by omega), qn_g (show 6 + v2 < 2 ^ 31 by omega), r7', show (1 : Int32) <<< (nI v1 &&& 31) = nI (2 ^ v1) from qn_sh1 (by omega), qn_or, sp_pl]
              show some (sp_sa (sp_sa (sp_sa υ8 4 (6 + v1) (nI (ct 7 v1 ||| 2 ^ v2))) 4 (6 + v2) (nI (ct 7 v2 ||| 2 ^ v1))) 3 6 ((sp_sa (sp_sa υ8 4 (6 + v1) (nI (ct 7 v1 ||| 2 ^ v2))) 4 (6 + v2) (nI (ct 7 v2 ||| 2 ^ v1))).2.2.1 3 6 + 1)) = _
              rw [r36, show nI (ct 0 15) + 1 = nI (ct 0 15 + 1) from nI_add _ 1]
            rw [q1, sp_bv_s, E58]
            refine Or.inl ⟨τ8, _, e8, b8, kd8, v8, ctF ct v1 v2, cd, pt, rfl, rfl, ⟨tk_msa (tk_msa (tk_msa T8 (by omega)) (by omega)) (by omega), ⟨kk, ?_, cL_T C5 q5⟩, M9, g_fe hG (by omega) (by omega) (by omega) hxy, hpt⟩, ?_, rfl⟩
            · have := T1.2.1; have := T2.2.1; omega
            · have := T1.2.1; have := T2.2.1; omega
      · have w1' : X7_isNumber n τ2 0 5 = some (cFl τ2 f, 0) := w1
        have w2' : X12_numberNow n υ2 0 5 = some (mFl υ2 f, 0) := w2
        rw [w1', sp_bd_s, if_pos (show (0 : Int32) = 0 from rfl), w2', sp_bd_s, if_neg (mFl_bad f1 f2), X12_sayFeud_58, if_neg (mFl_bad f1 f2)]
        exact Or.inr ⟨_, _, rfl, rfl, bl_fl T2 C2.2.2.2.2.2.2.2.2 M2.2.2 f1 f2⟩
    · have z1' : X7_isNumber n τ1 0 5 = some (cFl τ1 f, 0) := z1
      have z3' : X12_readNumber n υ1 0 5 = some (mFl υ1 f, 0) := z3
      rw [z1', sp_bd_s, if_pos (show (0 : Int32) = 0 from rfl), z3', sp_bd_s, rq_nnB (mFl_bad f1 f2), sp_bd_s, if_neg (mFl_bad f1 f2), X12_sayFeud_58, if_neg (mFl_bad f1 f2)]
      exact Or.inr ⟨_, _, rfl, rfl, bl_fl T1 C1.2.2.2.2.2.2.2.2 M1.2.2 f1 f2⟩
theorem cl_pt {x : Nat} (H : cLs c σ0 σ ct cd pt kk) : cLs c σ0 (sp_si (sp_si σ c 16 (nI x)) c 17 1) (ctP ct x) cd 1 kk := by
  obtain ⟨g1, g2, ⟨a1, a2, a3, a4, a5, a6, a7, a8, a9, a10, a11, a12⟩, g4, g5, g6, g7, g8, g9⟩ := H
  have p0 : ∀ k, k ≠ 16 → ctP ct x 0 k = ct 0 k := fun k hk => by simp [ctP, hk]
  have p1 : ∀ p k, p ≠ 0 → ctP ct x p k = ct p k := fun p k hk => by simp [ctP, hk]
  have p16 : ctP ct x 0 16 = x := by simp [ctP]
  have R : ∀ k, k ≠ 16 → k ≠ 17 → (sp_si (sp_si σ c 16 (nI x)) c 17 1).1 c k = σ.1 c k := fun k h1 h2 => by rw [sp_si_ne h2, sp_si_ne h1]
  refine ⟨g1, g2, ⟨?_, ?_, ?_, fun k hk => ?_, fun k hk => ?_, fun k hk => ?_, fun k hk => ?_, fun k hk => ?_, fun k hk => ?_, fun k hk => ?_, ?_, ?_⟩, ?_, sp_si_eq, ?_, ?_, ?_, cfL_tr g9 (cfL_tr (cfL_si (p := c) (i := 16) (v := nI x) (by omega)) (cfL_si (by omega)))⟩
  · rw [p0 _ (by omega), R _ (by omega) (by omega)]; exact a1
  · rw [p0 _ (by omega), R _ (by omega) (by omega)]; exact a2
  · rw [p16, sp_si_ne (by omega)]; exact sp_si_eq
  · rw [p0 _ (by omega)] at hk; rw [p1 _ _ (by omega)]; exact a4 k hk
  · rw [p0 _ (by omega)] at hk; rw [p1 _ _ (by omega)]; exact a5 k hk
  · rw [p0 _ (by omega)] at hk; rw [p1 _ _ (by omega)]; exact a6 k hk
  · rw [p1 _ _ (by omega)]; exact a7 k hk
  · rw [p0 _ (by omega)] at hk; rw [p1 _ _ (by omega)]; exact a8 k hk
  · rw [p0 _ (by omega)] at hk; rw [p1 _ _ (by omega)]; exact a9 k hk
  · rw [p1 _ _ (by omega)]; exact a10 k hk
  · obtain ⟨z, z1, z2, z3, z4⟩ := a11
    exact ⟨z, by rw [R _ (by omega) (by omega)]; exact z1, by rw [R _ (by omega) (by omega)]; exact z2, z3, z4⟩
  · obtain ⟨z, z1, z2, z3, z4⟩ := a12
    exact ⟨z, by rw [R _ (by omega) (by omega)]; exact z1, by rw [R _ (by omega) (by omega)]; exact z2, z3, z4⟩
  · rw [p0 _ (by omega), R _ (by omega) (by omega)]; exact g4
  · rw [R _ (by omega) (by omega)]; exact g6
  · rw [R _ (by omega) (by omega)]; exact g7
  · rw [R _ (by omega) (by omega)]; exact g8
theorem ml_pt {x : Nat} (H : mLs μ0 μ ct cd) : mLs μ0 (sp_sa μ 3 9 (nI x)) (ctP ct x) cd := by
  obtain ⟨g1, ⟨a1, a2, a3, a4, a5, a6, a7, a8, a9, a10, a11, a12, a13, a14⟩, g3⟩ := H
  have p0 : ∀ k, k ≠ 16 → ctP ct x 0 k = ct 0 k := fun k hk => by simp [ctP, hk]
  have p1 : ∀ p k, p ≠ 0 → ctP ct x p k = ct p k := fun p k hk => by simp [ctP, hk]
  have p16 : ctP ct x 0 16 = x := by simp [ctP]
  refine ⟨g1, ⟨?_, ?_, ?_, by rw [p16]; exact sp_sa_eq, ?_, ?_, fun k hk => ?_, fun k hk => ?_, fun k hk => ?_, fun k hk => ?_, fun k hk => ?_, fun k hk => ?_, fun k hk => ?_, fun k hk => ?_⟩, mfL_tr g3 (mfL_sa ⟨by omega, by omega, by decide⟩)⟩
  · rw [p0 _ (by omega), sp_sa_nj (by omega)]; exact a1
  · rw [p0 _ (by omega), sp_sa_nj (by omega)]; exact a2
  · rw [p0 _ (by omega), sp_sa_nj (by omega)]; exact a3
  · rw [sp_sa_nj (by omega)]; exact a5
  · rw [sp_sa_nj (by omega)]; exact a6
  · rw [p0 _ (by omega)] at hk; rw [p1 _ _ (by omega), sp_sa_np (by omega)]; exact a7 k hk
  · rw [p0 _ (by omega)] at hk; rw [p1 _ _ (by omega), sp_sa_np (by omega)]; exact a8 k hk
  · rw [p0 _ (by omega)] at hk; rw [p1 _ _ (by omega), sp_sa_np (by omega)]; exact a9 k hk
  · rw [p0 _ (by omega)] at hk; rw [p1 _ _ (by omega), sp_sa_np (by omega)]; exact a10 k hk
  · rw [p0 _ (by omega)] at hk; rw [p1 _ _ (by omega), sp_sa_np (by omega)]; exact a11 k hk
  · rw [p1 _ _ (by omega), sp_sa_np (by omega)]; exact a12 k hk
  · rw [sp_sa_np (by omega)]; exact a13 k hk
  · rw [sp_sa_np (by omega)]; exact a14 k hk
theorem g_pt {x : Nat} (H : gL ct cd) (hx : x ≤ 99) : gL (ctP ct x) cd := by
  obtain ⟨⟨k1, k2, k3, k4, k5, k6, k7⟩, g2, g3, g4, g5, g6, g7, g8, g9⟩ := H
  have p0 : ∀ k, k ≠ 16 → ctP ct x 0 k = ct 0 k := fun k hk => by simp [ctP, hk]
  have p1 : ∀ p k, p ≠ 0 → ctP ct x p k = ct p k := fun p k hk => by simp [ctP, hk]
  have p16 : ctP ct x 0 16 = x := by simp [ctP]
  refine ⟨⟨by rw [p0 _ (by omega)]; exact k1, by rw [p0 _ (by omega)]; exact k2, fun p k => ?_, fun k => by rw [p1 _ _ (by omega)]; exact k4 k, fun k => by rw [p1 _ _ (by omega)]; exact k5 k, fun s => by rw [p1 _ _ (by omega)]; exact k6 s, fun o ho => ?_⟩, fun k => by rw [p1 _ _ (by omega)]; exact g2 k, fun s => by rw [p1 _ _ (by omega)]; exact g3 s, fun o => by rw [p1 _ _ (by omega)]; exact g4 o, fun o k => by rw [p1 _ _ (by omega), p1 _ _ (by omega)]; exact g5 o k, fun o => by rw [p1 _ _ (by omega)]; exact g6 o, by rw [p16]; exact hx, by rw [p0 _ (by omega)]; exact g8, g9⟩
  · have := k3 p k
    unfold ctP
    split <;> omega
  · rw [p1 _ _ (by omega), p0 _ (by omega), k7 o ho]
    exact bs_cong fun k _ => by rw [p1 _ _ (by omega)]
theorem ln_pat (hn : 1000 ≤ n) (h : LnS T N c σ0 μ0 σ μ e b kd v ct cd 0) (hk : kd ≠ 0) : LnO T N c σ0 μ0 b (fl cd 0 + 1) (X7_patienceLine n σ) (sp_bv (X12_stepOn n μ) fun μ1 => sp_bd (X12_readNumber n μ1 1 99) fun σ7 v8 => some (sp_sa σ7 3 9 v8)) := by
  obtain ⟨hT, ⟨kk, hkk, hC⟩, hM, hG, hpt⟩ := h
  have hbe := tk_b hT hk
  have hc2 := isc_ge hC.2.1
  have hc11 := isc_le hC.2.1
  obtain ⟨τ1, υ1, e1, b1, kd1, v1, n1, n2, T1, n4, n5, n6⟩ := tk_nx hn hT.1
  have C1 := cL_T hC n5
  have M1 := mL_T hM n6
  rw [X7_patienceLine, sp_pl, hC.1, hC.2.1, sp_ckt, hC.2.2.2.2.1, if_pos (show nI 0 = 0 from rfl), n1, sp_bv_s, n2, sp_bv_s]
  rcases nu_step (n := n) T1 M1.1 (lo := 1) (hi := 99) (by omega) (by omega) with ⟨k1, k2, k3, z1, z2, z3, z4⟩ | ⟨f, f1, f2, z1, z2, z3⟩
  · have z1' : X7_isNumber n τ1 1 99 = some (τ1, 1) := z1
    have z3' : X12_readNumber n υ1 1 99 = sp_bv (X12_stepOn n υ1) fun υ => some (υ, nI v1) := z3
    have C2 := cl_pt (x := v1) C1
    have T2 := tk_csi (p := c) (i := 17) (x := 1) (tk_csi (p := c) (i := 16) (x := nI v1) T1 (by omega)) (by omega)
    obtain ⟨τ3, υ3, e3, b3, kd3, v3, m1, m2, T3, m4, m5, m6⟩ := tk_nx hn T2.1
    have c2 : (sp_si τ1 c 16 (nI v1)).2.1 21 1 = c := C1.1
    rw [z1', sp_bd_s, if_neg (show ¬ (1 : Int32) = 0 by decide), sp_pl, C1.1, C1.2.1, sp_ckt, sp_pl, z4, sp_pl, c2, C1.2.1, sp_ckt, sp_pl, m1, sp_bv_s, z3', m2, sp_bv_s, sp_bd_s]
    refine Or.inl ⟨τ3, _, e3, b3, kd3, v3, ctP ct v1, cd, 1, rfl, rfl, ⟨tk_msa T3 (by omega), ⟨kk, ?_, cL_T C2 m5⟩, ml_pt (mL_T M1 m6), g_pt hG k3, by omega⟩, ?_, by unfold fl; omega⟩
    · have := T1.2.1; omega
    · have := T1.2.1; omega
  · have z1' : X7_isNumber n τ1 1 99 = some (cFl τ1 f, 0) := z1
    have z3' : X12_readNumber n υ1 1 99 = some (mFl υ1 f, 0) := z3
    rw [z1', sp_bd_s, if_pos (show (0 : Int32) = 0 from rfl), z3', sp_bd_s]
    exact Or.inr ⟨_, _, rfl, rfl, bl_sa (bl_fl T1 C1.2.2.2.2.2.2.2.2 M1.2.2 f1 f2) ⟨by omega, by omega, by decide⟩⟩
end
