-- ===== THE ACTS: make, undo, forget, see =====
theorem bs_xor (P R : Nat → Bool) (N : Nat) : bs P N ^^^ bs R N = bs (fun k => P k ^^ R k) N := by
  apply Nat.eq_of_testBit_eq
  intro k
  rw [Nat.testBit_xor, bs_t, bs_t, bs_t]
  by_cases h : k < N <;> simp [h]
/-- a feud made up, or there anew -/
def qtf (ct : Nat → Nat → Nat) (sc : Nat → Nat) (a o : Nat) : Nat → Nat := qu (qu (qu (qu sc (35 + a) (sc (35 + a) ^^^ 2 ^ o)) (35 + o) (sc (35 + o) ^^^ 2 ^ a)) (41 + a) (sc (41 + a) ^^^ ct 4 o)) (41 + o) (sc (41 + o) ^^^ ct 4 a)
section
variable {n j c t : Nat} {σ μ : sp_St} {ct : Nat → Nat → Nat} {cd : List Nat × List Nat} {sc : Nat → Nat} {stk : Nat → List Nat}
theorem qtf_oth {a o k : Nat} (ha : a < 6) (ho : o < 6) (hk : k < 35 ∨ 47 ≤ k) : qtf ct sc a o k = sc k := by
  unfold qtf
  rw [qu_n (by omega), qu_n (by omega), qu_n (by omega), qu_n (by omega)]
theorem qtf_f {a o h : Nat} (ha : a < 6) (ho : o < 6) (hh : h < 6) (hne : a ≠ o) : qtf ct sc a o (35 + h) = if h = a then sc (35 + h) ^^^ 2 ^ o else if h = o then sc (35 + h) ^^^ 2 ^ a else sc (35 + h) := by
  unfold qtf
  rw [qu_n (by omega), qu_n (by omega)]
  by_cases e1 : h = a
  · subst e1; rw [if_pos rfl, qu_n (by omega), qu_e]
  · rw [if_neg e1]
    by_cases e2 : h = o
    · subst e2; rw [if_pos rfl, qu_e]
    · rw [if_neg e2, qu_n (by omega), qu_n (by omega)]
theorem qtf_g {a o h : Nat} (ha : a < 6) (ho : o < 6) (hh : h < 6) (hne : a ≠ o) : qtf ct sc a o (41 + h) = if h = a then sc (41 + h) ^^^ ct 4 o else if h = o then sc (41 + h) ^^^ ct 4 a else sc (41 + h) := by
  unfold qtf
  by_cases e1 : h = a
  · subst e1; rw [if_pos rfl, qu_n (by omega), qu_e]
  · rw [if_neg e1]
    by_cases e2 : h = o
    · subst e2; rw [if_pos rfl, qu_e]
    · rw [if_neg e2, qu_n (by omega), qu_n (by omega), qu_n (by omega), qu_n (by omega)]
theorem x_lt64 {x o : Nat} (hx : x < 64) (ho : o < 6) : x ^^^ 2 ^ o < 64 := Nat.xor_lt_two_pow (n := 6) hx (Nat.pow_lt_pow_right (by decide) ho)
theorem qI_tf {a o : Nat} (hK : qK ct) (h : qI ct sc) (ha : a < 6) (ho : o < 6) (hne : a ≠ o) : qI ct (qtf ct sc a o) := by
  obtain ⟨i1, i2, i3, i4, i5, i6, i7, i8, i9, i10⟩ := h
  have hb10 := hK.1
  have hs5 := hK.2.1
  have hO := hK.2.2.2.2.2.2
  have eu : ∀ r, qus ct (qtf ct sc a o) r = qus ct sc r := fun r => by
    unfold qus
    refine qs_cong fun k hk => ?_
    rw [qtf_oth ha ho (by omega)]
  refine ⟨fun x hx => ?_, fun x hx => ?_, fun x hx => ?_, fun r hr2 => ?_, fun r hr2 => ?_, fun h hh => ?_, fun h q hh hq => ?_, fun h hh => ?_, fun h hh => ?_, ?_⟩
  · rw [qtf_oth ha ho (by omega)]; exact i1 x hx
  · rw [qtf_oth ha ho (by omega)]; exact i2 x hx
  · rw [qtf_oth ha ho (by omega), qtf_oth ha ho (by omega)]; exact i3 x hx
  · rw [eu, qtf_oth ha ho (by omega)]; exact i4 r hr2
  · rw [qtf_oth ha ho (by omega)]; exact i5 r hr2
  · rw [qtf_f ha ho hh hne]
    have := i6 h hh
    split
    · exact x_lt64 this ho
    · split
      · exact x_lt64 this ha
      · exact this
  · rw [qtf_f ha ho hh hne, qtf_f ha ho hq hne]
    have e := i7 h q hh hq
    by_cases h1 : h = a
    · subst h1
      by_cases q1 : q = h
      · subst q1; rfl
      · by_cases q2 : q = o
        · subst q2
          rw [if_pos rfl, if_neg q1, if_pos rfl, Nat.testBit_xor, Nat.testBit_xor, Nat.testBit_two_pow, Nat.testBit_two_pow, e]
          simp
        · rw [if_pos rfl, if_neg q1, if_neg q2, Nat.testBit_xor, Nat.testBit_two_pow, e]
          have : ¬ o = q := fun x => q2 x.symm
          simp [this]
    · by_cases h2 : h = o
      · subst h2
        by_cases q1 : q = a
        · subst q1
          rw [if_neg h1, if_pos rfl, if_pos rfl, Nat.testBit_xor, Nat.testBit_xor, Nat.testBit_two_pow, Nat.testBit_two_pow, e]
          simp
        · by_cases q2 : q = h
          · subst q2; rfl
          · rw [if_neg h1, if_pos rfl, if_neg q1, if_neg q2, Nat.testBit_xor, Nat.testBit_two_pow, e]
            have : ¬ a = q := fun x => q1 x.symm
            simp [this]
      · rw [if_neg h1, if_neg h2]
        by_cases q1 : q = a
        · subst q1
          rw [if_pos rfl, Nat.testBit_xor, Nat.testBit_two_pow, e]
          have : ¬ o = h := fun x => h2 x.symm
          simp [this]
        · by_cases q2 : q = o
          · subst q2
            rw [if_neg q1, if_pos rfl, Nat.testBit_xor, Nat.testBit_two_pow, e]
            have : ¬ a = h := fun x => h1 x.symm
            simp [this]
          · rw [if_neg q1, if_neg q2]; exact e
  · rw [qtf_f ha ho hh hne]
    have := i8 h hh
    by_cases h1 : h = a
    · subst h1
      have h2 : ¬ o = h := fun x => hne x.symm
      rw [if_pos rfl, Nat.testBit_xor, Nat.testBit_two_pow, this]
      simp [h2]
    · rw [if_neg h1]
      by_cases h2 : h = o
      · subst h2
        rw [if_pos rfl, Nat.testBit_xor, Nat.testBit_two_pow, this]
        simp [hne]
      · rw [if_neg h2]; exact this
  · rw [qtf_f ha ho hh hne, qtf_g ha ho hh hne]
    have e := i9 h hh
    by_cases h1 : h = a
    · subst h1
      rw [if_pos rfl, if_pos rfl, e, hO o ho, bs_xor]
      refine bs_cong fun k hk => ?_
      rw [Nat.testBit_xor, Nat.testBit_two_pow]
      congr 1
      exact decide_eq_decide.mpr ⟨fun x => x.symm, fun x => x.symm⟩
    · rw [if_neg h1, if_neg h1]
      by_cases h2 : h = o
      · subst h2
        rw [if_pos rfl, if_pos rfl, e, hO a ha, bs_xor]
        refine bs_cong fun k hk => ?_
        rw [Nat.testBit_xor, Nat.testBit_two_pow]
        congr 1
        exact decide_eq_decide.mpr ⟨fun x => x.symm, fun x => x.symm⟩
      · rw [if_neg h2, if_neg h2]; exact e
  · rw [qtf_oth ha ho (by omega), qtf_oth ha ho (by omega)]; exact i10
theorem qtf_lt {a o : Nat} (hK : qK ct) (hI : qI ct sc) (hB : ∀ k, sc k < 1048576) (ha : a < 6) (ho : o < 6) : sc (35 + a) ^^^ 2 ^ o < 1048576 ∧ sc (41 + a) ^^^ ct 4 o < 1048576 := by
  have h1 := hI.2.2.2.2.2.1 a ha
  have h2 := x_lt64 h1 ho
  have h3 := hK.2.2.1 4 o
  exact ⟨by omega, Nat.xor_lt_two_pow (n := 20) (hB _) (by omega)⟩
theorem sq_turnFeud (h : qSC σ t c ct cd sc) (hI : qI ct sc) {a o : Nat} (ha : a < 6) (ho : o < 6) (hne : a ≠ o) : sp_wp (X8_turnFeud n σ t (nI a) (nI o)) (fun τ => qSC τ t c ct cd (qtf ct sc a o) ∧ qfp (t + 1) (t + 1) σ τ) := by
  have hK := h.2.2.2.2.2.1
  have l1 := qtf_lt hK hI h.2.2.2.2.2.2 ha ho
  have l2 := qtf_lt hK hI h.2.2.2.2.2.2 ho ha
  have hh := h
  have h0 := h
  obtain ⟨ht, hc, hi, ⟨hnb, hns, hpt, hA1, hA2, hA3, hA4, hA5, hA6, hA7, hR1, hR2⟩, hS, ⟨hb10, hs5, hG, hH, hL, hU, hO⟩, hB⟩ := h
  have hX := fun k => Nat.lt_trans (hB k) (by decide : (1048576 : Nat) < 2 ^ 31)
  have hY : ∀ p k, ct p k < 2 ^ 31 := fun p k => Nat.lt_trans (hG p k) (by decide)
  have hc11 := isc_le hi
  simp (disch := first | assumption | omega | exact hX _ | exact hY _ _ | exact hZ _ | fail) only [X8_turnFeud, sp_pl, sp_ckt, sp_bd_s, sp_bv_s, qn_l, nI_add, qn_sub, pk_mul, qn_le, qn_lt, qn_eq, qn_in, qn_g, nI_clamp, qn_and31, qn_sl, qn_sr, qn_b0, qn_b1, sp_zb0, sp_zb1, if_true, if_false, if_pos, if_neg, reduceIte, not_true_eq_false, not_false_eq_true, decide_true, decide_false, Bool.false_eq_true, Bool.not_true, Bool.not_false, Bool.true_eq_false, eq_self, qn_meq, qn_of, Nat.reduceEqDiff, Nat.reduceLT, Nat.reduceLeDiff, Nat.reduceAdd, Nat.reduceSub, Nat.reduceMul, Nat.reducePow, or_self, or_false, or_true, false_or, true_or, and_true, true_and, and_false, false_and, and_self, hS, hc, hi, hA4, sp_sa_eq, sp_sa_nj, sp_sa_np, sp_sa_1, sp_sa_2, qn_xor]
  refine wp_some.mpr ⟨?_, ?_⟩
  · exact qSC_set (qSC_set (qSC_set (qSC_set hh l1.1) l2.1) l1.2) l2.2
  · exact qfp_trans (qfp_trans (qfp_trans (qfp_sa (by omega) (by omega)) (qfp_sa (by omega) (by omega))) (qfp_sa (by omega) (by omega))) (qfp_sa (by omega) (by omega))
theorem mSC_tf {a o : Nat} (h : mSC μ ct cd sc stk) (hI : qI ct sc) (ha : a < 6) (ho : o < 6) (hne : a ≠ o) : mSC (sp_sa (sp_sa μ 19 a (nI (sc (35 + a) ^^^ 2 ^ o))) 19 o (nI (sc (35 + o) ^^^ 2 ^ a))) ct cd (qtf ct sc a o) stk := by
  have hK := h.2.2.2.1
  have hb10 := hK.1
  have hs5 := hK.2.1
  have l1 := qtf_lt hK hI h.2.2.2.2.1 ha ho
  have l2 := qtf_lt hK hI h.2.2.2.2.1 ho ha
  obtain ⟨h1, ⟨k1, k2, k3, k4, k5, k6, k7, k8⟩, h3, h4, h5, h6⟩ := h
  refine ⟨mC_fd (mfd_trans (mfd_sa (by omega) (by omega) (by omega)) (mfd_sa (by omega) (by omega) (by omega))) h1, ⟨?_, ?_, fun b hb => ?_, fun b hb => ?_, fun r hr => ?_, fun r hr => ?_, fun r hr k hk => ?_, fun x hx => ?_⟩, fun r hr => ⟨?_, fun b => ?_⟩, h4, ?_, fun b hb => ?_⟩
  · rw [qtf_oth ha ho (by omega)]; exact k1
  · rw [qtf_oth ha ho (by omega)]; exact k2
  · rw [qtf_oth ha ho (by omega), sp_sa_np (by omega), sp_sa_np (by omega)]; exact k3 b hb
  · rw [sp_sa_np (by omega), sp_sa_np (by omega)]
    unfold sqState
    rw [qtf_oth ha ho (by omega)]; exact k4 b hb
  · rw [qtf_oth ha ho (by omega), sp_sa_np (by omega), sp_sa_np (by omega)]; exact k5 r hr
  · rw [sp_sa_np (by omega), sp_sa_np (by omega)]; exact k6 r hr
  · rw [sp_sa_np (by omega), sp_sa_np (by omega)]; exact k7 r hr k hk
  · rw [qtf_f ha ho hx hne]
    by_cases e2 : x = o
    · subst e2
      rw [sp_sa_eq, if_neg (fun x => hne x.symm), if_pos rfl]
    · rw [sp_sa_nj e2]
      by_cases e1 : x = a
      · subst e1; rw [sp_sa_eq, if_pos rfl]
      · rw [sp_sa_nj e1, if_neg e1, if_neg e2]; exact k8 x hx
  · refine List.Pairwise.imp_of_mem ?_ (h3 r hr).1
    intro x y hx hy hxy
    have e1 := ((h3 r hr).2 x).mp hx
    have e2 := ((h3 r hr).2 y).mp hy
    rw [qtf_oth ha ho (by omega), qtf_oth ha ho (by omega)]
    exact hxy
  · rw [(h3 r hr).2 b]
    by_cases hb : b < ct 0 13
    · rw [qtf_oth ha ho (by omega)]
    · simp [hb]
  · unfold qtf
    exact qu_lt (qu_lt (qu_lt (qu_lt h5 l1.1) l2.1) l1.2) l2.2
  · rw [qtf_oth ha ho (by omega)]; exact h6 b hb
end
section
variable {n j : Nat} {σ μ : sp_St}
theorem op_make (hn : 5000 ≤ n) (h : Inv j σ μ) (a1 a2 a3 : Int32) (h01 : a3 = 0 ∨ a3 = 1) : agr (j + 1) kd1 (X11_make n σ a1 a2 a3) (X12_make n μ a1 a2 a3) := by
  have h' := Inv_code (v := 0) h
  have h3 : (sp_si μ 0 3 0).1 0 3 = 0 := sp_si_eq
  rw [X12_make, sp_pl, X11_make]
  generalize sp_si μ 0 3 0 = μ1 at *
  have hf : ∀ x, x = some (σ, Sum.inr 1) → agr (j + 1) kd1 x (X12_make_19 n μ1) := fun x hx => agr_thr (υ := sp_si μ1 0 3 1) (w := 0) hx rfl (Inv_mono (by omega) (Inv_code h')) sp_si_eq rfl (by decide)
  have hr : agr (j + 1) kd1 (X11_make_28 n σ) (X12_make_44 n μ1) := by
    have e1 := sq_refuse (n := n) (σ := σ) (k := 1) (by omega)
    refine agr_ret (v := 0) (τ := sp_sa σ 34 1 (σ.2.2.1 34 1 + 1)) (υ := sp_sa μ1 12 1 (μ1.2.2.1 12 1 + 1)) ?_ ?_ (Inv_mono (by omega) (Inv_ref (k := 1) (by omega) h')) h3
    · unfold X11_make_28
      erw [e1]
      rfl
    · rfl
  obtain ⟨c, d, ct, cd, sc, stk, m, nr, hs, ht, hO⟩ := Inv_O h'
  obtain ⟨hS, hM, hG, hD, hc⟩ := O_now hO
  have hK := hS.2.2.2.2.2.1
  rcases h_cases (n := n) (σ := σ) (μ := μ1) a1 with ⟨a, ha, rfl⟩ | ⟨e1, e2⟩
  · rw [nh_ok ha, sp_bx_n, ih_ok ha, sp_bd_s, if_neg n10]
    rcases h_cases (n := n) (σ := σ) (μ := μ1) a2 with ⟨o, ho, rfl⟩ | ⟨e1, e2⟩
    · rw [nh_ok ho, sp_bx_n, ih_ok ho, sp_bd_s, if_neg n10]
      by_cases e : a = o
      · subst e
        rw [if_pos rfl, if_pos rfl]
        exact hr
      · have e' : ¬ nI a = nI o := by rw [qn_eq (by omega) (by omega)]; exact e
        have h1 : sp_g μ1 19 (nI a) = nI (sc (35 + a)) := by rw [qn_g (by omega)]; exact hM.2.1.2.2.2.2.2.2.2 a ha
        have h2 := hG.1.2.2.2.2.2.1 a ha
        rw [if_neg e', if_neg e', sq_between hS ha ho, sp_bd_s, qn_in (by omega) (by omega), sp_ckt, h1, rq_isOf (by omega) (by omega), sp_bd_s]
        by_cases q : (if (sc (35 + a)).testBit o = true then nI 1 else nI 0) = a3
        · rw [if_pos q, if_pos q]
          exact hr
        · rw [if_neg q, if_neg q]
          obtain ⟨τ, ν, m', nr', hs', ht', r1, r2, r3, r4⟩ := O_keep hn hO
          obtain ⟨hS2, hM2, hG2, _, hc2⟩ := O_now r3
          obtain ⟨τ2, q1, q2, q3⟩ := sq_turnFeud (n := n) hS2 hG.1 ha ho e
          have t2 := mSC_tf hM2 hG.1 ha ho e
          have hI2 := qI_tf hK hG.1 ha ho e
          have h47 := hG.2.2.2.1
          have h49 := hG.2.2.2.2
          have hG3 : sG ct _ _ (j + 1) := sG_of t2 hI2 (by rw [qtf_oth ha ho (by omega)]; exact h47) (by rw [qtf_oth ha ho (by omega)]; omega)
          have k1 : sp_g ν 19 (nI a) = nI (sc (35 + a)) := by rw [qn_g (by omega)]; exact hM2.2.1.2.2.2.2.2.2.2 a ha
          have k2 : ∀ v, sp_g (sp_sa ν 19 a v) 19 (nI o) = nI (sc (35 + o)) := fun v => by rw [qn_g (by omega), sp_sa_nj (fun x => e x.symm)]; exact hM2.2.1.2.2.2.2.2.2.2 o ho
          have s1 : (1 : Int32) <<< (nI o &&& 31) = nI (2 ^ o) := qn_sh1 (by omega)
          have s2 : (1 : Int32) <<< (nI a &&& 31) = nI (2 ^ a) := qn_sh1 (by omega)
          have w6a : sp_in (nI a) 6 = true := qn_in (by omega) (by omega)
          have w6o : sp_in (nI o) 6 = true := qn_in (by omega) (by omega)
          rw [r1, sp_bv_s, q1, sp_bv_s, r2, sp_bv_s, sp_ckt, sp_ckt, sp_pl, w6o, sp_ckt, sp_ckt, sp_pl, k1, s1, s2, nI_clamp (show a < 2 ^ 31 by omega), k2, nI_clamp (show o < 2 ^ 31 by omega), qn_xor, qn_xor]
          exact agr_ret rfl rfl (O_Inv (O_scene r3 (cs_fp q3 (by omega) (by omega)) (ms_fd (mfd_trans (mfd_sa (by omega) (by omega) (by omega)) (mfd_sa (by omega) (by omega) (by omega)))) q2 t2 hG3 (by omega))) (by rw [sp_sa_1, sp_sa_1, r4]; exact h3)
    · rw [e1, sp_bx_s, e2, sp_bd_s, if_pos n00]
      exact hf _ rfl
  · rw [e1, sp_bx_s, e2, sp_bd_s, if_pos n00]
    exact hf _ rfl
end
