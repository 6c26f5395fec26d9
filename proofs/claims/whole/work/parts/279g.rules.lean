-- ===== lines: the rules =====
theorem ES_qcd {lv w : Nat} {D : List Nat} (h : seg lv w D) (hw : w ≤ 40) : qok 40 lv D 0 := by
  have := h [] 0 (by omega) rfl
  rwa [List.append_nil] at this
section
variable {T : Nat → Nat} {n N c e b kd v pt kk : Nat} {σ0 μ0 σ μ τ υ : sp_St} {ct : Nat → Nat → Nat} {cd : List Nat × List Nat}
theorem tk_msr {p i x : Nat} (h : TK T N σ μ e b kd v) : TK T N σ (sp_sr μ p i x) e b kd v := TK_f h (fun _ => rfl) (fun _ => rfl) (fun _ _ => rfl) (fun _ => rfl)
theorem mfL_sr {p i x : Nat} : mfL μ (sp_sr μ p i x) := ⟨fun _ _ => rfl, fun _ _ _ => rfl⟩
theorem cfE_refl {c a : Nat} : cfE c a σ σ := ⟨rfl, fun _ _ _ => rfl, fun _ _ _ => rfl⟩
theorem mfE_refl {r : Nat} : mfE r μ μ := ⟨rfl, fun _ _ => rfl, fun _ _ _ => rfl⟩
theorem cl_cool {D : List Nat} (H : cLs c σ0 σ ct cd pt kk) (E : cXs c kk 0 (sp_si (sp_si σ 21 3 1) c 9 (nI kk)) τ D) (hb : kk + D.length ≤ 700) : cLs c σ0 (sp_si τ c 10 (nI (kk + D.length))) ct (D, cd.2) pt (kk + D.length) := by
  obtain ⟨g1, g2, ⟨a1, a2, a3, a4, a5, a6, a7, a8, a9, a10, a11, a12⟩, g4, g5, g6, g7, g8, g9⟩ := H
  obtain ⟨e1, e2, e3, e4, e5, e6⟩ := E
  have hc2 := isc_ge g2
  have hc11 := isc_le g2
  have R : ∀ k, k ≠ 8 → k ≠ 9 → τ.1 c k = σ.1 c k := fun k h1 h2 => by rw [e6.2.1 c k (by omega), sp_si_ne h2, sp_si_g, if_neg (by omega)]
  have Q : ∀ p i, ¬ (p = c + 8 ∧ kk ≤ i) → (sp_si τ c 10 (nI (kk + D.length))).2.2.1 p i = σ.2.2.1 p i := fun p i h => e6.2.2 p i h
  refine ⟨e1, g2, ⟨?_, ?_, ?_, fun k hk => ?_, fun k hk => ?_, fun k hk => ?_, fun k hk => ?_, fun k hk => ?_, fun k hk => ?_, fun k hk => ?_, ?_, ?_⟩, ?_, ?_, ?_, ?_, ?_, cfL_tr g9 (cfL_tr (cfL_tr (cfL_tr (cfL_si (p := 21) (i := 3) (v := 1) (by omega)) (cfL_si (p := c) (i := 9) (v := nI kk) (by omega))) (cfL_E e6)) (cfL_si (by omega)))⟩
  · rw [sp_si_ne (by omega), R _ (by omega) (by omega)]; exact a1
  · rw [sp_si_ne (by omega), R _ (by omega) (by omega)]; exact a2
  · rw [sp_si_ne (by omega), R _ (by omega) (by omega)]; exact a3
  · rw [Q _ _ (by omega)]; exact a4 k hk
  · rw [Q _ _ (by omega)]; exact a5 k hk
  · rw [Q _ _ (by omega)]; exact a6 k hk
  · rw [Q _ _ (by omega)]; exact a7 k hk
  · rw [Q _ _ (by omega)]; exact a8 k hk
  · rw [Q _ _ (by omega)]; exact a9 k hk
  · rw [Q _ _ (by omega)]; exact a10 k hk
  · exact ⟨kk, by rw [sp_si_ne (by omega), e6.2.1 c 9 (by omega)]; exact sp_si_eq, sp_si_eq, hb, e5⟩
  · obtain ⟨z, z1, z2, z3, z4⟩ := a12
    obtain ⟨x, x1, x2⟩ := g8
    have hx : z + cd.2.length = x := by
      rw [z2] at x2
      have h := (qn_eq (a := z + cd.2.length) (b := x) (by omega) (by omega)).mp x2
      exact h
    exact ⟨z, by rw [sp_si_ne (by omega), R _ (by omega) (by omega)]; exact z1, by rw [sp_si_ne (by omega), R _ (by omega) (by omega)]; exact z2, z3, fun k (hk : k < cd.2.length) => by rw [Q _ _ (by omega)]; exact z4 k hk⟩
  · rw [sp_si_ne (by omega), R _ (by omega) (by omega)]; exact g4
  · rw [sp_si_ne (by omega), R _ (by omega) (by omega)]; exact g5
  · rw [sp_si_ne (by omega)]; exact e4
  · exact ⟨kk + D.length, Nat.le_refl _, sp_si_eq⟩
  · obtain ⟨x, x1, x2⟩ := g8
    exact ⟨x, by omega, by rw [sp_si_ne (by omega), R _ (by omega) (by omega)]; exact x2⟩
theorem ln_cool (hn : 1000 ≤ n) (h : LnS T N c σ0 μ0 σ μ e b kd v ct cd pt) (hk : kd ≠ 0) (h0 : cd.1.length = 0) : LnO T N c σ0 μ0 b (fl cd pt + 2) (X7_coolsLine n σ) (sp_bv (X12_stepOn n μ) fun μ1 => X12_sayRule n μ1 0) := by
  obtain ⟨hT, ⟨kk, hkk, hC⟩, hM, hG, hpt⟩ := h
  have hbe := tk_b hT hk
  have hc2 := isc_ge hC.2.1
  have hc11 := isc_le hC.2.1
  obtain ⟨τ1, υ1, e1, b1, kd1, v1, n1, n2, T1, n4, n5, n6⟩ := tk_nx hn hT.1
  have C1 := cL_T hC n5
  have M1 := mL_T hM n6
  have tl : X2_coolsTold n σ c = some (σ, 0) := by
    obtain ⟨z, z1, z2, z3, z4⟩ := hC.2.2.1.2.2.2.2.2.2.2.2.2.2.1
    rw [h0, Nat.add_zero] at z2
    rw [X2_coolsTold, z1, z2, if_pos (by rw [qn_le (by omega) (by omega)]; omega), sp_pl]
    rfl
  have c2 : (sp_si τ1 21 3 1).2.1 21 1 = c := C1.1
  have d2 : (sp_si τ1 21 3 1).1 c 8 = nI kk := by rw [sp_si_g, if_neg (by omega)]; exact C1.2.2.2.2.2.1
  have sr : X12_sayRule n υ1 0 = sp_bv (X12_readExpression 8 n (sp_sr (sp_si υ1 0 25 0) 0 2 1) (nI 0)) fun σ4 => some σ4 := by
    rw [X12_sayRule, show sp_zb 0 = true from rfl, sp_ckt, sp_pl, if_pos (show (0 : Int32) = 0 from rfl), X12_sayRule_21, sp_pl]
    rfl
  rw [X7_coolsLine, sp_pl, hC.1, hC.2.1, sp_ckt, tl, sp_bd_s, if_pos (show (0 : Int32) = 0 from rfl), n1, sp_bv_s, sp_pl, sp_pl, c2, hC.2.1, sp_ckt, sp_pl, d2, n2, sp_bv_s, sr]
  have E0 : ES T N c kk 0 (sp_si (sp_si τ1 21 3 1) c 9 (nI kk)) (sp_sr (sp_si υ1 0 25 0) 0 2 1) (sp_si (sp_si τ1 21 3 1) c 9 (nI kk)) (sp_sr (sp_si υ1 0 25 0) 0 2 1) e1 b1 kd1 v1 [] := by
    refine ⟨tk_msr (tk_msi (tk_csi (tk_csi T1 (by omega)) (by omega)) (by omega)), ⟨c2, hC.2.1, ?_, ?_, fun k hk => absurd hk (Nat.not_lt_zero k), cfE_refl⟩, ⟨?_, ?_, ?_, by omega, ?_, fun k hk => absurd hk (Nat.not_lt_zero k), mfE_refl⟩, by simp; omega⟩
    · rw [sp_si_g, if_neg (by omega)]; exact sp_si_eq
    · rw [sp_si_ne (by omega)]; exact d2
    · show (sp_si υ1 0 25 0).1 0 22 = 0
      rw [sp_si_ne (by omega)]; exact M1.1
    · show (sp_si υ1 0 25 0).1 0 25 = 0
      exact sp_si_eq
    · rw [sp_sr_g, if_pos ⟨rfl, rfl⟩]
    · have := M1.2.1.2.2.2.2.1
      rw [h0] at this
      exact this
  have P := pp_all (σ0 := sp_si (sp_si τ1 21 3 1) c 9 (nI kk)) (μ0 := sp_sr (sp_si υ1 0 25 0) 0 2 1) (T := T) (N := N) (c := c) (a := kk) (r := 0) hn 6 0 (by omega) _ _ e1 b1 kd1 v1 [] E0
  rcases P with ⟨τ2, υ2, e2, b2, kd2, v2, D, p1, p2, p3, p4, p5, p6⟩ | ⟨τ2, υ2, p1, p2, p3⟩
  · have p1' : X7_either 8 n (sp_si (sp_si τ1 21 3 1) c 9 (nI kk)) 0 = some (τ2, 1) := p1
    have p2' : X12_readExpression 8 n (sp_sr (sp_si υ1 0 25 0) 0 2 1) (nI 0) = some υ2 := p2
    have hle := es_le p3
    obtain ⟨x1, x2, x3, x4⟩ := p3
    rw [List.nil_append] at x2 x3 x4
    have y1 := x2.1
    have y2 := x2.2.2.2.1
    rw [p1', sp_bd_s, sp_pl, y1, hC.2.1, sp_ckt, sp_pl, y2, show sp_zb 1 = true from rfl, sp_ckt, p2', sp_bv_s]
    refine Or.inl ⟨_, υ2, e2, b2, kd2, v2, ct, (D, cd.2), pt, rfl, rfl, ⟨tk_csi x1 (by omega), ⟨kk + D.length, x4, cl_cool C1 x2 (by omega)⟩, ?_, ?_, hpt⟩, by have := T1.2.1; omega, ?_⟩
    · obtain ⟨w1, w2, w3, w4, w5, w6, w7⟩ := x3
      obtain ⟨g1, ⟨a1, a2, a3, a4, a5, a6, a7, a8, a9, a10, a11, a12, a13, a14⟩, g3⟩ := M1
      have Q : ∀ p i, ¬ (p = 3 ∧ i = 10 ∨ p = 10 ∧ 700 ≤ i) → υ2.2.2.1 p i = υ1.2.2.1 p i := fun p i h => w7.2.2 p i h
      refine ⟨w1, ⟨by rw [Q _ _ (by omega)]; exact a1, by rw [Q _ _ (by omega)]; exact a2, by rw [Q _ _ (by omega)]; exact a3, by rw [Q _ _ (by omega)]; exact a4, w5, by rw [Q _ _ (by omega)]; exact a6, fun k hk => by rw [Q _ _ (by omega)]; exact a7 k hk, fun k hk => by rw [Q _ _ (by omega)]; exact a8 k hk, fun k hk => by rw [Q _ _ (by omega)]; exact a9 k hk, fun k hk => by rw [Q _ _ (by omega)]; exact a10 k hk, fun k hk => by rw [Q _ _ (by omega)]; exact a11 k hk, fun k hk => by rw [Q _ _ (by omega)]; exact a12 k hk, w6, fun k hk => by rw [Q _ _ (by omega)]; exact a14 k hk⟩, mfL_tr g3 (mfL_tr (mfL_tr (mfL_si (i := 25) (v := 0) (by omega)) mfL_sr) (mfL_E (by omega) w7))⟩
    · obtain ⟨q1, q2, q3, q4, q5, q6, q7, q8, q9⟩ := hG
      exact ⟨q1, q2, q3, q4, q5, q6, q7, q8, ⟨fun _ => ES_qcd p6 (by omega), q9.2⟩⟩
    · unfold fl
      rw [if_pos h0, if_neg (show ¬ (D, cd.2).1.length = 0 by show ¬ D.length = 0; omega)]
      show pt + 2 * 1 + 4 * (if cd.2.length = 0 then 0 else 1) = pt + 2 * 0 + 4 * (if cd.2.length = 0 then 0 else 1) + 2
      omega
  · have p1' : X7_either 8 n (sp_si (sp_si τ1 21 3 1) c 9 (nI kk)) 0 = some (τ2, 0) := p1
    have p2' : X12_readExpression 8 n (sp_sr (sp_si υ1 0 25 0) 0 2 1) (nI 0) = some υ2 := p2
    obtain ⟨w1, w2, w3, w4, w5, w6, w7, w8⟩ := p3
    rw [p1', sp_bd_s, sp_pl, w4, hC.2.1, sp_ckt, sp_pl, show sp_zb 0 = true from rfl, sp_ckt, p2', sp_bv_s]
    refine Or.inr ⟨_, υ2, rfl, rfl, w1, ?_, ?_, cfL_tr C1.2.2.2.2.2.2.2.2 (cfL_tr (cfL_tr (cfL_tr (cfL_si (p := 21) (i := 3) (v := 1) (by omega)) (cfL_si (p := c) (i := 9) (v := nI kk) (by omega))) (cfL_E w7)) (cfL_si (by omega))), mfL_tr M1.2.2 (mfL_tr (mfL_tr (mfL_si (i := 25) (v := 0) (by omega)) mfL_sr) (mfL_E (by omega) w8))⟩
    · rw [sp_si_g, if_neg (by omega)]; exact w2
    · rw [sp_si_g, if_neg (by omega)]; exact w3
theorem cl_rise {D : List Nat} (H : cLs c σ0 σ ct cd pt kk) (E : cXs c kk 1 (sp_si (sp_si σ 21 3 0) c 11 (nI kk)) τ D) (hb : kk + D.length ≤ 700) : cLs c σ0 (sp_si τ c 12 (nI (kk + D.length))) ct (cd.1, D) pt (kk + D.length) := by
  obtain ⟨g1, g2, ⟨a1, a2, a3, a4, a5, a6, a7, a8, a9, a10, a11, a12⟩, g4, g5, g6, g7, g8, g9⟩ := H
  obtain ⟨e1, e2, e3, e4, e5, e6⟩ := E
  have hc2 := isc_ge g2
  have hc11 := isc_le g2
  have R : ∀ k, k ≠ 8 → k ≠ 11 → τ.1 c k = σ.1 c k := fun k h1 h2 => by rw [e6.2.1 c k (by omega), sp_si_ne h2, sp_si_g, if_neg (by omega)]
  have Q : ∀ p i, ¬ (p = c + 8 ∧ kk ≤ i) → (sp_si τ c 12 (nI (kk + D.length))).2.2.1 p i = σ.2.2.1 p i := fun p i h => e6.2.2 p i h
  refine ⟨e1, g2, ⟨?_, ?_, ?_, fun k hk => ?_, fun k hk => ?_, fun k hk => ?_, fun k hk => ?_, fun k hk => ?_, fun k hk => ?_, fun k hk => ?_, ?_, ?_⟩, ?_, ?_, ?_, ?_, ?_, cfL_tr g9 (cfL_tr (cfL_tr (cfL_tr (cfL_si (p := 21) (i := 3) (v := 0) (by omega)) (cfL_si (p := c) (i := 11) (v := nI kk) (by omega))) (cfL_E e6)) (cfL_si (by omega)))⟩
  · rw [sp_si_ne (by omega), R _ (by omega) (by omega)]; exact a1
  · rw [sp_si_ne (by omega), R _ (by omega) (by omega)]; exact a2
  · rw [sp_si_ne (by omega), R _ (by omega) (by omega)]; exact a3
  · rw [Q _ _ (by omega)]; exact a4 k hk
  · rw [Q _ _ (by omega)]; exact a5 k hk
  · rw [Q _ _ (by omega)]; exact a6 k hk
  · rw [Q _ _ (by omega)]; exact a7 k hk
  · rw [Q _ _ (by omega)]; exact a8 k hk
  · rw [Q _ _ (by omega)]; exact a9 k hk
  · rw [Q _ _ (by omega)]; exact a10 k hk
  · obtain ⟨z, z1, z2, z3, z4⟩ := a11
    obtain ⟨x, x1, x2⟩ := g7
    have hx : z + cd.1.length = x := by
      rw [z2] at x2
      have h := (qn_eq (a := z + cd.1.length) (b := x) (by omega) (by omega)).mp x2
      exact h
    exact ⟨z, by rw [sp_si_ne (by omega), R _ (by omega) (by omega)]; exact z1, by rw [sp_si_ne (by omega), R _ (by omega) (by omega)]; exact z2, z3, fun k (hk : k < cd.1.length) => by rw [Q _ _ (by omega)]; exact z4 k hk⟩
  · exact ⟨kk, by rw [sp_si_ne (by omega), e6.2.1 c 11 (by omega)]; exact sp_si_eq, sp_si_eq, hb, e5⟩
  · rw [sp_si_ne (by omega), R _ (by omega) (by omega)]; exact g4
  · rw [sp_si_ne (by omega), R _ (by omega) (by omega)]; exact g5
  · rw [sp_si_ne (by omega)]; exact e4
  · obtain ⟨x, x1, x2⟩ := g7
    exact ⟨x, by omega, by rw [sp_si_ne (by omega), R _ (by omega) (by omega)]; exact x2⟩
  · exact ⟨kk + D.length, Nat.le_refl _, sp_si_eq⟩
theorem ln_rise (hn : 1000 ≤ n) (h : LnS T N c σ0 μ0 σ μ e b kd v ct cd pt) (hk : kd ≠ 0) (h0 : cd.2.length = 0) : LnO T N c σ0 μ0 b (fl cd pt + 4) (X7_risesLine n σ) (sp_bv (X12_stepOn n μ) fun μ1 => X12_sayRule n μ1 1) := by
  obtain ⟨hT, ⟨kk, hkk, hC⟩, hM, hG, hpt⟩ := h
  have hbe := tk_b hT hk
  have hc2 := isc_ge hC.2.1
  have hc11 := isc_le hC.2.1
  obtain ⟨τ1, υ1, e1, b1, kd1, v1, n1, n2, T1, n4, n5, n6⟩ := tk_nx hn hT.1
  have C1 := cL_T hC n5
  have M1 := mL_T hM n6
  have tl : X2_risesTold n σ c = some (σ, 0) := by
    obtain ⟨z, z1, z2, z3, z4⟩ := hC.2.2.1.2.2.2.2.2.2.2.2.2.2.2
    rw [h0, Nat.add_zero] at z2
    rw [X2_risesTold, z1, z2, if_pos (by rw [qn_le (by omega) (by omega)]; omega), sp_pl]
    rfl
  have c2 : (sp_si τ1 21 3 0).2.1 21 1 = c := C1.1
  have d2 : (sp_si τ1 21 3 0).1 c 8 = nI kk := by rw [sp_si_g, if_neg (by omega)]; exact C1.2.2.2.2.2.1
  have sr : X12_sayRule n υ1 1 = sp_bv (X12_readExpression 8 n (sp_sr (sp_si υ1 0 25 1) 0 2 2) (nI 0)) fun σ4 => some σ4 := by
    rw [X12_sayRule, show sp_zb 1 = true from rfl, sp_ckt, sp_pl, if_neg (show ¬ (1 : Int32) = 0 by decide), X12_sayRule_21, sp_pl]
    rfl
  rw [X7_risesLine, sp_pl, hC.1, hC.2.1, sp_ckt, tl, sp_bd_s, if_pos (show (0 : Int32) = 0 from rfl), n1, sp_bv_s, sp_pl, sp_pl, c2, hC.2.1, sp_ckt, sp_pl, d2, n2, sp_bv_s, sr]
  have E0 : ES T N c kk 1 (sp_si (sp_si τ1 21 3 0) c 11 (nI kk)) (sp_sr (sp_si υ1 0 25 1) 0 2 2) (sp_si (sp_si τ1 21 3 0) c 11 (nI kk)) (sp_sr (sp_si υ1 0 25 1) 0 2 2) e1 b1 kd1 v1 [] := by
    refine ⟨tk_msr (tk_msi (tk_csi (tk_csi T1 (by omega)) (by omega)) (by omega)), ⟨c2, hC.2.1, ?_, ?_, fun k hk => absurd hk (Nat.not_lt_zero k), cfE_refl⟩, ⟨?_, ?_, ?_, by omega, ?_, fun k hk => absurd hk (Nat.not_lt_zero k), mfE_refl⟩, by simp; omega⟩
    · rw [sp_si_g, if_neg (by omega)]; exact sp_si_eq
    · rw [sp_si_ne (by omega)]; exact d2
    · show (sp_si υ1 0 25 1).1 0 22 = 0
      rw [sp_si_ne (by omega)]; exact M1.1
    · show (sp_si υ1 0 25 1).1 0 25 = 1
      exact sp_si_eq
    · rw [sp_sr_g, if_pos ⟨rfl, rfl⟩]
    · have := M1.2.1.2.2.2.2.2.1
      rw [h0] at this
      exact this
  have P := pp_all (σ0 := sp_si (sp_si τ1 21 3 0) c 11 (nI kk)) (μ0 := sp_sr (sp_si υ1 0 25 1) 0 2 2) (T := T) (N := N) (c := c) (a := kk) (r := 1) hn 6 0 (by omega) _ _ e1 b1 kd1 v1 [] E0
  rcases P with ⟨τ2, υ2, e2, b2, kd2, v2, D, p1, p2, p3, p4, p5, p6⟩ | ⟨τ2, υ2, p1, p2, p3⟩
  · have p1' : X7_either 8 n (sp_si (sp_si τ1 21 3 0) c 11 (nI kk)) 0 = some (τ2, 1) := p1
    have p2' : X12_readExpression 8 n (sp_sr (sp_si υ1 0 25 1) 0 2 2) (nI 0) = some υ2 := p2
    have hle := es_le p3
    obtain ⟨x1, x2, x3, x4⟩ := p3
    rw [List.nil_append] at x2 x3 x4
    have y1 := x2.1
    have y2 := x2.2.2.2.1
    rw [p1', sp_bd_s, sp_pl, y1, hC.2.1, sp_ckt, sp_pl, y2, show sp_zb 1 = true from rfl, sp_ckt, p2', sp_bv_s]
    refine Or.inl ⟨_, υ2, e2, b2, kd2, v2, ct, (cd.1, D), pt, rfl, rfl, ⟨tk_csi x1 (by omega), ⟨kk + D.length, x4, cl_rise C1 x2 (by omega)⟩, ?_, ?_, hpt⟩, by have := T1.2.1; omega, ?_⟩
    · obtain ⟨w1, w2, w3, w4, w5, w6, w7⟩ := x3
      obtain ⟨g1, ⟨a1, a2, a3, a4, a5, a6, a7, a8, a9, a10, a11, a12, a13, a14⟩, g3⟩ := M1
      have Q : ∀ p i, ¬ (p = 3 ∧ i = 11 ∨ p = 11 ∧ 700 ≤ i) → υ2.2.2.1 p i = υ1.2.2.1 p i := fun p i h => w7.2.2 p i h
      refine ⟨w1, ⟨by rw [Q _ _ (by omega)]; exact a1, by rw [Q _ _ (by omega)]; exact a2, by rw [Q _ _ (by omega)]; exact a3, by rw [Q _ _ (by omega)]; exact a4, by rw [Q _ _ (by omega)]; exact a5, w5, fun k hk => by rw [Q _ _ (by omega)]; exact a7 k hk, fun k hk => by rw [Q _ _ (by omega)]; exact a8 k hk, fun k hk => by rw [Q _ _ (by omega)]; exact a9 k hk, fun k hk => by rw [Q _ _ (by omega)]; exact a10 k hk, fun k hk => by rw [Q _ _ (by omega)]; exact a11 k hk, fun k hk => by rw [Q _ _ (by omega)]; exact a12 k hk, fun k hk => by rw [Q _ _ (by omega)]; exact a13 k hk, w6⟩, mfL_tr g3 (mfL_tr (mfL_tr (mfL_si (i := 25) (v := 1) (by omega)) mfL_sr) (mfL_E (by omega) w7))⟩
    · obtain ⟨q1, q2, q3, q4, q5, q6, q7, q8, q9⟩ := hG
      exact ⟨q1, q2, q3, q4, q5, q6, q7, q8, ⟨q9.1, fun _ => ES_qcd p6 (by omega)⟩⟩
    · unfold fl
      rw [if_pos h0, if_neg (show ¬ (cd.1, D).2.length = 0 by show ¬ D.length = 0; omega)]
  · have p1' : X7_either 8 n (sp_si (sp_si τ1 21 3 0) c 11 (nI kk)) 0 = some (τ2, 0) := p1
    have p2' : X12_readExpression 8 n (sp_sr (sp_si υ1 0 25 1) 0 2 2) (nI 0) = some υ2 := p2
    obtain ⟨w1, w2, w3, w4, w5, w6, w7, w8⟩ := p3
    rw [p1', sp_bd_s, sp_pl, w4, hC.2.1, sp_ckt, sp_pl, show sp_zb 0 = true from rfl, sp_ckt, p2', sp_bv_s]
    refine Or.inr ⟨_, υ2, rfl, rfl, w1, ?_, ?_, cfL_tr C1.2.2.2.2.2.2.2.2 (cfL_tr (cfL_tr (cfL_tr (cfL_si (p := 21) (i := 3) (v := 0) (by omega)) (cfL_si (p := c) (i := 11) (v := nI kk) (by omega))) (cfL_E w7)) (cfL_si (by omega))), mfL_tr M1.2.2 (mfL_tr (mfL_tr (mfL_si (i := 25) (v := 1) (by omega)) mfL_sr) (mfL_E (by omega) w8))⟩
    · rw [sp_si_g, if_neg (by omega)]; exact w2
    · rw [sp_si_g, if_neg (by omega)]; exact w3
end
