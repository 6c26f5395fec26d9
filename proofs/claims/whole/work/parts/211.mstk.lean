-- ===== THE REFERENCE'S SCENE: above, foes, one goes in, one goes out =====
def rbo : Nat → Int32 → Int32 → Option Int32
  | 0, _, _ => none
  | f + 1, a, v => if v = 0 then some a else rbo f (a + 1) (v &&& (v - 1))
theorem rbo_is (n : Nat) (σ : sp_St) : ∀ (f : Nat) (a v : Int32), X12_bitsOf_4 n f σ a v = (rbo f a v).map (fun r => (σ, r)) := by
  intro f
  induction f with
  | zero => intro a v; rfl
  | succ f ih =>
    intro a v
    unfold X12_bitsOf_4 rbo
    by_cases h : v = 0
    · simp only [h, if_true]; rfl
    · simp only [h, if_false, sp_pl]
      exact ih _ _
theorem rbo_mono : ∀ (f k : Nat) (a v r : Int32), rbo f a v = some r → rbo (f + k) a v = some r := by
  intro f
  induction f with
  | zero => intro k a v r h; cases h
  | succ f ih =>
    intro k a v r h
    rw [Nat.succ_add]
    unfold rbo at h ⊢
    by_cases e : v = 0
    · simp only [e, if_true] at h ⊢; exact h
    · simp only [e, if_false] at h ⊢
      exact ih k _ _ _ h
theorem rbo_all : (List.range 1024).all (fun m => decide (rbo 11 0 (nI m) = some (nI (qc (fun k => m.testBit k) 10)))) = true := by decide +kernel
theorem rq_bitsOf {n m : Nat} {μ : sp_St} (hn : 11 ≤ n) (h : m < 1024) : X12_bitsOf n μ (nI m) = some (μ, nI (qc (fun k => m.testBit k) 10)) := by
  have := List.all_eq_true.mp rbo_all m (List.mem_range.mpr h)
  have h2 : rbo 11 0 (nI m) = some (nI (qc (fun k => m.testBit k) 10)) := by simpa using this
  have h3 := rbo_mono 11 (n - 11) 0 (nI m) _ h2
  rw [show 11 + (n - 11) = n by omega] at h3
  rw [X12_bitsOf, sp_pl, rbo_is, h3]
  rfl
theorem rq_bits_bs {n : Nat} {μ : sp_St} (hn : 11 ≤ n) (P : Nat → Bool) {N : Nat} (h : N ≤ 10) : X12_bitsOf n μ (nI (bs P N)) = some (μ, nI (qc P N)) := by
  rw [rq_bitsOf hn (Nat.lt_of_lt_of_le (bs_lt P N) (Nat.pow_le_pow_right (by decide) h : 2 ^ N ≤ 2 ^ 10))]
  rw [← qc_ext P 10 h]
  congr 3
  exact qc_cong fun k _ => bs_t P N k
theorem qn_pm (x : Nat) : nI (x + 1) + -nI 1 = nI x := pk_m1 x
theorem qn_m0 : (-nI 1 < nI 0) = True := by decide
theorem mem_dr {L : List Nat} {j x : Nat} : x ∈ L.drop j ↔ ∃ i, j ≤ i ∧ i < L.length ∧ L.getD i 0 = x := by
  constructor
  · intro h
    obtain ⟨i, hi, e⟩ := mem_gd h
    rw [List.length_drop] at hi
    refine ⟨j + i, by omega, by omega, ?_⟩
    rw [← e]
    simp [List.getD_eq_getElem?_getD, List.getElem?_drop]
  · rintro ⟨i, h1, h2, rfl⟩
    obtain ⟨d, rfl⟩ : ∃ d, i = j + d := ⟨i - j, by omega⟩
    have h3 : d < (L.drop j).length := by rw [List.length_drop]; omega
    have := gd_mem h3
    have e : (L.drop j).getD d 0 = L.getD (j + d) 0 := by simp [List.getD_eq_getElem?_getD, List.getElem?_drop]
    rwa [e] at this
theorem sqs0 {sc : Nat → Nat} {b : Nat} : sqState sc b = 0 ↔ sc (10 + b) = 0 := by
  unfold sqState
  by_cases h : sc (10 + b) = 0
  · simp [h]
  · by_cases h2 : sc (10 + b) = 6
    · simp [h2]
    · simp [h, h2]
theorem sqs2 {sc : Nat → Nat} {b : Nat} : sqState sc b = 2 ↔ sc (10 + b) = 6 := by
  unfold sqState
  by_cases h : sc (10 + b) = 0
  · simp [h]
  · by_cases h2 : sc (10 + b) = 6
    · simp [h2]
    · simp [h, h2]
theorem sqs1 {sc : Nat → Nat} {b : Nat} : sqState sc b = 1 ↔ ¬ (sc (10 + b) = 0 ∨ sc (10 + b) = 6) := by
  unfold sqState
  by_cases h : sc (10 + b) = 0
  · simp [h]
  · by_cases h2 : sc (10 + b) = 6
    · simp [h2]
    · simp [h, h2]
theorem sqs_lt (sc : Nat → Nat) (b : Nat) : sqState sc b < 3 := by unfold sqState; split <;> (try split) <;> omega
/-- only who is where, and the stacks, may have changed -/
def mfl (μ ν : sp_St) : Prop := ν.1 = μ.1 ∧ ν.2.1 = μ.2.1 ∧ ∀ p, p ≠ 15 → p ≠ 17 → p ≠ 18 → ν.2.2.1 p = μ.2.2.1 p
theorem mfl_refl (μ : sp_St) : mfl μ μ := ⟨rfl, rfl, fun _ _ _ _ => rfl⟩
theorem mfl_trans {μ ν ξ : sp_St} (h : mfl μ ν) (g : mfl ν ξ) : mfl μ ξ := ⟨g.1.trans h.1, g.2.1.trans h.2.1, fun p h1 h2 h3 => (g.2.2 p h1 h2 h3).trans (h.2.2 p h1 h2 h3)⟩
theorem mfl_sa {μ : sp_St} {p i : Nat} {v : Int32} (h : p = 15 ∨ p = 17 ∨ p = 18) : mfl μ (sp_sa μ p i v) := by
  refine ⟨rfl, rfl, fun q h1 h2 h3 => ?_⟩
  funext j
  show (if q = p ∧ j = i then v else μ.2.2.1 q j) = μ.2.2.1 q j
  rw [if_neg (by omega)]
theorem mfl_fd {μ ν : sp_St} (h : mfl μ ν) : mfd μ ν := ⟨h.2.1, fun p hp => h.2.2 p (by omega) (by omega) (by omega), fun k _ _ => by rw [h.1]⟩
section
variable {μ : sp_St} {n : Nat} {ct : Nat → Nat → Nat} {cd : List Nat × List Nat} {sc : Nat → Nat} {stk : Nat → List Nat}
theorem rq_above_loop (h : mSC μ ct cd sc stk) {s j b : Nat} (hs : s < ct 0 14) (hj : (stk s).getD j 0 = b) (hb : b < ct 0 13) : ∀ d f, d < f → j + d < (stk s).length → X12_aboveSet_27 n f μ (nI b) (nI s) (nI (bs (fun x => decide (x ∈ (stk s).drop (j + d + 1))) (ct 0 13))) (nI (j + d)) = some (μ, nI (bs (fun x => decide (x ∈ (stk s).drop (j + 1))) (ct 0 13))) := by
  have h0 := h
  obtain ⟨⟨hns, hnb, hpt, hl4, hl5, hA1, hA2, hA6, hE1, hE2, hl7, hl8⟩, ⟨h47, h48, hAn, hWh, hRo, hMa, hSt, hFe⟩, hQ, ⟨hb10, hs5, hG, hH, hL, hU, hO⟩, hB, hPl⟩ := h
  have hX := fun k => Nat.lt_trans (hB k) (by decide : (1048576 : Nat) < 2 ^ 31)
  have hY : ∀ p k, ct p k < 2 ^ 31 := fun p k => Nat.lt_trans (hG p k) (by decide)
  have hlen := stk_le hQ hs
  intro d
  induction d with
  | zero =>
    intro f hf hk
    obtain ⟨f, rfl⟩ : ∃ g, f = g + 1 := ⟨f - 1, by omega⟩
    simp only [Nat.add_zero] at hk ⊢
    simp (disch := first | assumption | omega | exact hX _ | exact hY _ _ | exact hZ _ | fail) only [X12_aboveSet_27, X12_aboveSet_71, sp_pl, sp_ckt, sp_bd_s, sp_bv_s, qn_l, nI_add, qn_sub, pk_mul, qn_le, qn_lt, qn_eq, qn_in, qn_g, nI_clamp, qn_and31, qn_sl, qn_sr, qn_b0, qn_b1, sp_zb0, sp_zb1, if_true, if_false, if_pos, if_neg, reduceIte, not_true_eq_false, not_false_eq_true, decide_true, decide_false, Bool.false_eq_true, Bool.not_true, Bool.not_false, Bool.true_eq_false, eq_self, qn_meq, qn_of, Nat.reduceEqDiff, Nat.reduceLT, Nat.reduceLeDiff, Nat.reduceAdd, Nat.reduceSub, Nat.reduceMul, Nat.reducePow, or_self, or_false, or_true, false_or, true_or, and_true, true_and, and_false, false_and, and_self, hSt, hj, Nat.not_lt_zero]
  | succ d ih =>
    intro f hf hk
    obtain ⟨f, rfl⟩ : ∃ g, f = g + 1 := ⟨f - 1, by omega⟩
    have h3 := stk_gd hQ hs hk
    have hne : ¬ (stk s).getD (j + (d + 1)) 0 = b := by
      intro e
      have := pw_gd (hQ s hs).1 (show j < j + (d + 1) by omega) hk
      rw [e, hj] at this
      exact Nat.lt_irrefl _ this
    simp (disch := first | assumption | omega | exact hX _ | exact hY _ _ | exact hZ _ | fail) only [X12_aboveSet_27, X12_aboveSet_71, sp_pl, sp_ckt, sp_bd_s, sp_bv_s, qn_l, nI_add, qn_sub, pk_mul, qn_le, qn_lt, qn_eq, qn_in, qn_g, nI_clamp, qn_and31, qn_sl, qn_sr, qn_b0, qn_b1, sp_zb0, sp_zb1, if_true, if_false, if_pos, if_neg, reduceIte, not_true_eq_false, not_false_eq_true, decide_true, decide_false, Bool.false_eq_true, Bool.not_true, Bool.not_false, Bool.true_eq_false, eq_self, qn_meq, qn_of, Nat.reduceEqDiff, Nat.reduceLT, Nat.reduceLeDiff, Nat.reduceAdd, Nat.reduceSub, Nat.reduceMul, Nat.reducePow, or_self, or_false, or_true, false_or, true_or, and_true, true_and, and_false, false_and, and_self, hSt, hne, Nat.not_lt_zero, qn_or]
    rw [show nI (j + (d + 1)) + -nI 1 = nI (j + d) from qn_pm (j + d)]
    refine Eq.trans ?_ (ih f (by omega) (by omega))
    congr 2
    apply Nat.eq_of_testBit_eq
    intro k
    rw [Nat.testBit_or, bs_t, bs_t, Nat.testBit_two_pow, show j + d + 1 = j + (d + 1) by omega, dr_s hk]
    generalize (stk s).getD (j + (d + 1)) 0 = x at h3 ⊢
    by_cases e : x = k
    · have : k < ct 0 13 := by omega
      simp [e, this]
    · have e2 : ¬ k = x := fun x => e x.symm
      simp [e, e2]
theorem rq_aboveSet (h : mSC μ ct cd sc stk) (hn : 100 ≤ n) {b : Nat} (hb : b < ct 0 13) : X12_aboveSet n μ (nI b) = some (μ, nI (if sc (10 + b) = 0 ∨ sc (10 + b) = 6 then 0 else bs (fun k => decide (sc (10 + k) = sc (10 + b)) && decide (sc (20 + b) < sc (20 + k))) (ct 0 13))) := by
  have h0 := h
  have h0 := h
  obtain ⟨⟨hns, hnb, hpt, hl4, hl5, hA1, hA2, hA6, hE1, hE2, hl7, hl8⟩, ⟨h47, h48, hAn, hWh, hRo, hMa, hSt, hFe⟩, hQ, ⟨hb10, hs5, hG, hH, hL, hU, hO⟩, hB, hPl⟩ := h
  have hX := fun k => Nat.lt_trans (hB k) (by decide : (1048576 : Nat) < 2 ^ 31)
  have hY : ∀ p k, ct p k < 2 ^ 31 := fun p k => Nat.lt_trans (hG p k) (by decide)
  simp (disch := first | assumption | omega | exact hX _ | exact hY _ _ | exact hZ _ | fail) only [X12_aboveSet, rq_throatOf h0 hn hb, sp_pl, sp_ckt, sp_bd_s, sp_bv_s, qn_l, nI_add, qn_sub, pk_mul, qn_le, qn_lt, qn_eq, qn_in, qn_g, nI_clamp, qn_and31, qn_sl, qn_sr, qn_b0, qn_b1, sp_zb0, sp_zb1, if_true, if_false, if_pos, if_neg, reduceIte, not_true_eq_false, not_false_eq_true, decide_true, decide_false, Bool.false_eq_true, Bool.not_true, Bool.not_false, Bool.true_eq_false, eq_self, qn_meq, qn_of, Nat.reduceEqDiff, Nat.reduceLT, Nat.reduceLeDiff, Nat.reduceAdd, Nat.reduceSub, Nat.reduceMul, Nat.reducePow, or_self, or_false, or_true, false_or, true_or, and_true, true_and, and_false, false_and, and_self]
  by_cases e : sc (10 + b) = 0 ∨ sc (10 + b) = 6
  · obtain ⟨m, rfl⟩ : ∃ m, n = m + 1 := ⟨n - 1, by omega⟩
    simp only [e, if_true, X12_aboveSet_25]
    rw [X12_aboveSet_27, if_pos (by decide : -nI 1 < 0), X12_aboveSet_71]
  · have hp := hPl b hb
    obtain ⟨s, hs⟩ : ∃ s, sc (10 + b) = s + 1 := ⟨sc (10 + b) - 1, by omega⟩
    have hsn : s < ct 0 14 := by omega
    have hlen := stk_le hQ hsn
    obtain ⟨j, hj, ej⟩ := mem_gd (((hQ s hsn).2 b).mpr ⟨hb, hs⟩)
    simp (disch := first | assumption | omega | exact hX _ | exact hY _ _ | exact hZ _ | fail) only [e, sp_pl, sp_ckt, sp_bd_s, sp_bv_s, qn_l, nI_add, qn_sub, pk_mul, qn_le, qn_lt, qn_eq, qn_in, qn_g, nI_clamp, qn_and31, qn_sl, qn_sr, qn_b0, qn_b1, sp_zb0, sp_zb1, if_true, if_false, if_pos, if_neg, reduceIte, not_true_eq_false, not_false_eq_true, decide_true, decide_false, Bool.false_eq_true, Bool.not_true, Bool.not_false, Bool.true_eq_false, eq_self, qn_meq, qn_of, Nat.reduceEqDiff, Nat.reduceLT, Nat.reduceLeDiff, Nat.reduceAdd, Nat.reduceSub, Nat.reduceMul, Nat.reducePow, or_self, or_false, or_true, false_or, true_or, and_true, true_and, and_false, false_and, and_self, hs, hMa, Nat.add_sub_cancel]
    rw [X12_aboveSet_25]
    have key := rq_above_loop h0 hsn ej hb ((stk s).length - 1 - j) n (by omega) (by omega) (n := n)
    rw [show j + ((stk s).length - 1 - j) = (stk s).length - 1 by omega, show (stk s).length - 1 + 1 = (stk s).length by omega, List.drop_length] at key
    have e0 : bs (fun x => decide (x ∈ ([] : List Nat))) (ct 0 13) = 0 := by
      apply Nat.eq_of_testBit_eq
      intro k
      rw [bs_t]
      simp
    rw [e0] at key
    rw [key]
    congr 3
    refine bs_cong fun x hx => ?_
    rw [← Bool.decide_and]
    refine decide_eq_decide.mpr ?_
    rw [mem_dr]
    constructor
    · rintro ⟨i, h1, h2, rfl⟩
      have h3 := stk_gd hQ hsn h2
      have := pw_gd (hQ s hsn).1 (show j < i by omega) h2
      rw [ej] at this
      exact ⟨h3.2, this⟩
    · rintro ⟨h1, h2⟩
      obtain ⟨i, hi, ei⟩ := mem_gd (((hQ s hsn).2 x).mpr ⟨hx, h1⟩)
      refine ⟨i, ?_, hi, ei⟩
      by_cases hij : i < j
      · have := pw_gd (hQ s hsn).1 hij hj
        rw [ej, ei] at this
        omega
      · by_cases hij2 : i = j
        · subst hij2
          rw [ej] at ei
          subst ei
          omega
        · omega
theorem rq_foes40 (h : mSC μ ct cd sc stk) (hn : 100 ≤ n) {b m : Nat} (hb : b < ct 0 13) (hm : m < 2 ^ 31) : X12_foesOf_40 n μ (nI b) (nI m) = some (μ, nI (qc (fun k => m.testBit k && (sc (35 + ct 1 b)).testBit (ct 1 k)) (ct 0 13))) := by
  have h0 := h
  have h0 := h
  obtain ⟨⟨hns, hnb, hpt, hl4, hl5, hA1, hA2, hA6, hE1, hE2, hl7, hl8⟩, ⟨h47, h48, hAn, hWh, hRo, hMa, hSt, hFe⟩, hQ, ⟨hb10, hs5, hG, hH, hL, hU, hO⟩, hB, hPl⟩ := h
  have hX := fun k => Nat.lt_trans (hB k) (by decide : (1048576 : Nat) < 2 ^ 31)
  have hY : ∀ p k, ct p k < 2 ^ 31 := fun p k => Nat.lt_trans (hG p k) (by decide)
  simp (disch := first | assumption | omega | exact hX _ | exact hY _ _ | exact hZ _ | fail) only [X12_foesOf_40, sp_pl, sp_ckt, sp_bd_s, sp_bv_s, qn_l, nI_add, qn_sub, pk_mul, qn_le, qn_lt, qn_eq, qn_in, qn_g, nI_clamp, qn_and31, qn_sl, qn_sr, qn_b0, qn_b1, sp_zb0, sp_zb1, if_true, if_false, if_pos, if_neg, reduceIte, not_true_eq_false, not_false_eq_true, decide_true, decide_false, Bool.false_eq_true, Bool.not_true, Bool.not_false, Bool.true_eq_false, eq_self, qn_meq, qn_of, Nat.reduceEqDiff, Nat.reduceLT, Nat.reduceLeDiff, Nat.reduceAdd, Nat.reduceSub, Nat.reduceMul, Nat.reducePow, or_self, or_false, or_true, false_or, true_or, and_true, true_and, and_false, false_and, and_self]
  refine lp_up (fun f i => X12_foesOf_46 n f μ (nI b) (nI m) (nI (qc (fun k => m.testBit k && (sc (35 + ct 1 b)).testBit (ct 1 k)) i)) (nI i)) (ct 0 13) _ (fun f => ?_) (fun f i hi2 => ?_) n 0 (by omega) (by omega)
  · simp (disch := first | assumption | omega | exact hX _ | exact hY _ _ | exact hZ _ | fail) only [X12_foesOf_46, X12_foesOf_90, hnb, sp_pl, sp_ckt, sp_bd_s, sp_bv_s, qn_l, nI_add, qn_sub, pk_mul, qn_le, qn_lt, qn_eq, qn_in, qn_g, nI_clamp, qn_and31, qn_sl, qn_sr, qn_b0, qn_b1, sp_zb0, sp_zb1, if_true, if_false, if_pos, if_neg, reduceIte, not_true_eq_false, not_false_eq_true, decide_true, decide_false, Bool.false_eq_true, Bool.not_true, Bool.not_false, Bool.true_eq_false, eq_self, qn_meq, qn_of, Nat.reduceEqDiff, Nat.reduceLT, Nat.reduceLeDiff, Nat.reduceAdd, Nat.reduceSub, Nat.reduceMul, Nat.reducePow, or_self, or_false, or_true, false_or, true_or, and_true, true_and, and_false, false_and, and_self, Nat.le_refl]
  · simp (disch := first | assumption | omega | exact hX _ | exact hY _ _ | exact hZ _ | fail) only [X12_foesOf_46, X12_foesOf_81, X12_foesOf_82, hnb, sp_pl, sp_ckt, sp_bd_s, sp_bv_s, qn_l, nI_add, qn_sub, pk_mul, qn_le, qn_lt, qn_eq, qn_in, qn_g, nI_clamp, qn_and31, qn_sl, qn_sr, qn_b0, qn_b1, sp_zb0, sp_zb1, if_true, if_false, if_pos, if_neg, reduceIte, not_true_eq_false, not_false_eq_true, decide_true, decide_false, Bool.false_eq_true, Bool.not_true, Bool.not_false, Bool.true_eq_false, eq_self, qn_meq, qn_of, Nat.reduceEqDiff, Nat.reduceLT, Nat.reduceLeDiff, Nat.reduceAdd, Nat.reduceSub, Nat.reduceMul, Nat.reducePow, or_self, or_false, or_true, false_or, true_or, and_true, true_and, and_false, false_and, and_self, Nat.not_le.mpr hi2, rq_isOf hm (show i < 32 by omega), rq_isFeud h0 hb hi2, qc_s]
    by_cases e1 : m.testBit i = true
    · by_cases e2 : (sc (35 + ct 1 b)).testBit (ct 1 i) = true
      · simp (disch := first | assumption | omega | exact hX _ | exact hY _ _ | exact hZ _ | fail) only [e1, e2, sp_pl, sp_ckt, sp_bd_s, sp_bv_s, qn_l, nI_add, qn_sub, pk_mul, qn_le, qn_lt, qn_eq, qn_in, qn_g, nI_clamp, qn_and31, qn_sl, qn_sr, qn_b0, qn_b1, sp_zb0, sp_zb1, if_true, if_false, if_pos, if_neg, reduceIte, not_true_eq_false, not_false_eq_true, decide_true, decide_false, Bool.false_eq_true, Bool.not_true, Bool.not_false, Bool.true_eq_false, eq_self, qn_meq, qn_of, Nat.reduceEqDiff, Nat.reduceLT, Nat.reduceLeDiff, Nat.reduceAdd, Nat.reduceSub, Nat.reduceMul, Nat.reducePow, or_self, or_false, or_true, false_or, true_or, and_true, true_and, and_false, false_and, and_self, Bool.and_self]
      · simp (disch := first | assumption | omega | exact hX _ | exact hY _ _ | exact hZ _ | fail) only [e1, e2, sp_pl, sp_ckt, sp_bd_s, sp_bv_s, qn_l, nI_add, qn_sub, pk_mul, qn_le, qn_lt, qn_eq, qn_in, qn_g, nI_clamp, qn_and31, qn_sl, qn_sr, qn_b0, qn_b1, sp_zb0, sp_zb1, if_true, if_false, if_pos, if_neg, reduceIte, not_true_eq_false, not_false_eq_true, decide_true, decide_false, Bool.false_eq_true, Bool.not_true, Bool.not_false, Bool.true_eq_false, eq_self, qn_meq, qn_of, Nat.reduceEqDiff, Nat.reduceLT, Nat.reduceLeDiff, Nat.reduceAdd, Nat.reduceSub, Nat.reduceMul, Nat.reducePow, or_self, or_false, or_true, false_or, true_or, and_true, true_and, and_false, false_and, and_self, Bool.and_false]
    · simp (disch := first | assumption | omega | exact hX _ | exact hY _ _ | exact hZ _ | fail) only [e1, sp_pl, sp_ckt, sp_bd_s, sp_bv_s, qn_l, nI_add, qn_sub, pk_mul, qn_le, qn_lt, qn_eq, qn_in, qn_g, nI_clamp, qn_and31, qn_sl, qn_sr, qn_b0, qn_b1, sp_zb0, sp_zb1, if_true, if_false, if_pos, if_neg, reduceIte, not_true_eq_false, not_false_eq_true, decide_true, decide_false, Bool.false_eq_true, Bool.not_true, Bool.not_false, Bool.true_eq_false, eq_self, qn_meq, qn_of, Nat.reduceEqDiff, Nat.reduceLT, Nat.reduceLeDiff, Nat.reduceAdd, Nat.reduceSub, Nat.reduceMul, Nat.reducePow, or_self, or_false, or_true, false_or, true_or, and_true, true_and, and_false, false_and, and_self, Bool.false_and]
theorem rq_foesOf (h : mSC μ ct cd sc stk) (hn : 100 ≤ n) {b : Nat} (hb : b < ct 0 13) : X12_foesOf n μ (nI b) = some (μ, nI (qfoe ct sc b)) := by
  have h0 := h
  have h0 := h
  obtain ⟨⟨hns, hnb, hpt, hl4, hl5, hA1, hA2, hA6, hE1, hE2, hl7, hl8⟩, ⟨h47, h48, hAn, hWh, hRo, hMa, hSt, hFe⟩, hQ, ⟨hb10, hs5, hG, hH, hL, hU, hO⟩, hB, hPl⟩ := h
  have hX := fun k => Nat.lt_trans (hB k) (by decide : (1048576 : Nat) < 2 ^ 31)
  have hY : ∀ p k, ct p k < 2 ^ 31 := fun p k => Nat.lt_trans (hG p k) (by decide)
  have hw := sqs_lt sc b
  have hb2 : (2 : Nat) ^ ct 0 13 ≤ 2 ^ 10 := Nat.pow_le_pow_right (by decide) hb10
  simp (disch := first | assumption | omega | exact hX _ | exact hY _ _ | exact hZ _ | fail) only [X12_foesOf, hWh, sp_pl, sp_ckt, sp_bd_s, sp_bv_s, qn_l, nI_add, qn_sub, pk_mul, qn_le, qn_lt, qn_eq, qn_in, qn_g, nI_clamp, qn_and31, qn_sl, qn_sr, qn_b0, qn_b1, sp_zb0, sp_zb1, if_true, if_false, if_pos, if_neg, reduceIte, not_true_eq_false, not_false_eq_true, decide_true, decide_false, Bool.false_eq_true, Bool.not_true, Bool.not_false, Bool.true_eq_false, eq_self, qn_meq, qn_of, Nat.reduceEqDiff, Nat.reduceLT, Nat.reduceLeDiff, Nat.reduceAdd, Nat.reduceSub, Nat.reduceMul, Nat.reducePow, or_self, or_false, or_true, false_or, true_or, and_true, true_and, and_false, false_and, and_self]
  unfold qfoe
  by_cases e6 : sc (10 + b) = 6
  · simp (disch := first | assumption | omega | exact hX _ | exact hY _ _ | exact hZ _ | fail) only [sqs2.mpr e6, sp_pl, sp_ckt, sp_bd_s, sp_bv_s, qn_l, nI_add, qn_sub, pk_mul, qn_le, qn_lt, qn_eq, qn_in, qn_g, nI_clamp, qn_and31, qn_sl, qn_sr, qn_b0, qn_b1, sp_zb0, sp_zb1, if_true, if_false, if_pos, if_neg, reduceIte, not_true_eq_false, not_false_eq_true, decide_true, decide_false, Bool.false_eq_true, Bool.not_true, Bool.not_false, Bool.true_eq_false, eq_self, qn_meq, qn_of, Nat.reduceEqDiff, Nat.reduceLT, Nat.reduceLeDiff, Nat.reduceAdd, Nat.reduceSub, Nat.reduceMul, Nat.reducePow, or_self, or_false, or_true, false_or, true_or, and_true, true_and, and_false, false_and, and_self, rq_foes40 h0 hn hb (show 0 < 2 ^ 31 by decide), e6, Nat.zero_testBit, Bool.false_and, qc_zero]
  · by_cases e0 : sc (10 + b) = 0
    · have hlt := bs_lt (fun x => decide (sqState sc x = 0)) (ct 0 13)
      simp (disch := first | assumption | omega | exact hX _ | exact hY _ _ | exact hZ _ | fail) only [sqs0.mpr e0, sp_pl, sp_ckt, sp_bd_s, sp_bv_s, qn_l, nI_add, qn_sub, pk_mul, qn_le, qn_lt, qn_eq, qn_in, qn_g, nI_clamp, qn_and31, qn_sl, qn_sr, qn_b0, qn_b1, sp_zb0, sp_zb1, if_true, if_false, if_pos, if_neg, reduceIte, not_true_eq_false, not_false_eq_true, decide_true, decide_false, Bool.false_eq_true, Bool.not_true, Bool.not_false, Bool.true_eq_false, eq_self, qn_meq, qn_of, Nat.reduceEqDiff, Nat.reduceLT, Nat.reduceLeDiff, Nat.reduceAdd, Nat.reduceSub, Nat.reduceMul, Nat.reducePow, or_self, or_false, or_true, false_or, true_or, and_true, true_and, and_false, false_and, and_self, rq_whereSet h0 hn (show 0 < 100 by decide), rq_foes40 h0 hn hb (show bs (fun x => decide (sqState sc x = 0)) (ct 0 13) < 2 ^ 31 by omega), e6]
      congr 3
      refine qc_cong fun k hk => ?_
      rw [bs_t, e0]
      simp [hk, sqs0]
    · have hp := hPl b hb
      have hlt := bs_lt (fun x => decide (sc (10 + x) = sc (10 + b) - 1 + 1)) (ct 0 13)
      have e1 : ¬ (sc (10 + b) = 0 ∨ sc (10 + b) = 6) := by omega
      simp (disch := first | assumption | omega | exact hX _ | exact hY _ _ | exact hZ _ | fail) only [sqs1.mpr e1, sp_pl, sp_ckt, sp_bd_s, sp_bv_s, qn_l, nI_add, qn_sub, pk_mul, qn_le, qn_lt, qn_eq, qn_in, qn_g, nI_clamp, qn_and31, qn_sl, qn_sr, qn_b0, qn_b1, sp_zb0, sp_zb1, if_true, if_false, if_pos, if_neg, reduceIte, not_true_eq_false, not_false_eq_true, decide_true, decide_false, Bool.false_eq_true, Bool.not_true, Bool.not_false, Bool.true_eq_false, eq_self, qn_meq, qn_of, Nat.reduceEqDiff, Nat.reduceLT, Nat.reduceLeDiff, Nat.reduceAdd, Nat.reduceSub, Nat.reduceMul, Nat.reducePow, or_self, or_false, or_true, false_or, true_or, and_true, true_and, and_false, false_and, and_self, rq_throatOf h0 hn hb, e1, e6, rq_inside h0 hn (show sc (10 + b) - 1 < ct 0 14 by omega), rq_foes40 h0 hn hb (show bs (fun x => decide (sc (10 + x) = sc (10 + b) - 1 + 1)) (ct 0 13) < 2 ^ 31 by omega)]
      congr 3
      refine qc_cong fun k hk => ?_
      rw [bs_t, show sc (10 + b) - 1 + 1 = sc (10 + b) by omega]
      simp [hk]
theorem qu_e {f : Nat → Nat} {k v : Nat} : qu f k v k = v := by simp [qu]
theorem qu_n {f : Nat → Nat} {k v j : Nat} (h : j ≠ k) : qu f k v j = f j := by simp [qu, h]
theorem qu_lt {f : Nat → Nat} {k v m : Nat} (h : ∀ j, f j < m) (hv : v < m) : ∀ j, qu f k v j < m := by
  intro j
  unfold qu
  split
  · exact hv
  · exact h j
theorem qput_pl {b s x : Nat} (hx : x < 10) (hb : b < 10) : qput sc b s (10 + x) = if x = b then s + 1 else sc (10 + x) := by
  unfold qput
  by_cases e : x = b
  · subst e; rw [qu_e, if_pos rfl]
  · rw [qu_n (by omega), qu_n (by omega), qu_n (by omega), if_neg e]
theorem qput_st {b s x : Nat} (hx : x < 10) (hb : b < 10) : qput sc b s (20 + x) = if x = b then sc 49 + 1 else sc (20 + x) := by
  unfold qput
  rw [qu_n (by omega)]
  by_cases e : x = b
  · subst e; rw [qu_e, if_pos rfl]
  · rw [qu_n (by omega), qu_n (by omega), if_neg e]
theorem qput_oth {b s k : Nat} (h : k < 10 ∨ 30 ≤ k) (hb : b < 10) (h9 : k ≠ 49) : qput sc b s k = sc k := by
  unfold qput
  rw [qu_n (by omega), qu_n (by omega), qu_n (by omega)]
theorem sqs_put {b s x : Nat} (hx : x < 10) (hb : b < 10) (hs : s < 5) : sqState (qput sc b s) x = if x = b then 1 else sqState sc x := by
  by_cases e : x = b
  · rw [if_pos e]
    refine sqs1.mpr ?_
    rw [qput_pl hx hb, if_pos e]
    omega
  · unfold sqState
    rw [qput_pl hx hb, if_neg e, if_neg e]
theorem qStk_put (hQ : qStk ct sc stk) (hb10 : ct 0 13 ≤ 10) {b s : Nat} (hb : b < ct 0 13) (hs : s < ct 0 14) (ho : sc (10 + b) = 0) (hst : ∀ x, x < ct 0 13 → sc (20 + x) ≤ sc 49) : qStk ct (qput sc b s) (fun x => if x = s then stk s ++ [b] else stk x) := by
  have hpw : ∀ L : List Nat, (∀ x, x ∈ L → x < ct 0 13 ∧ x ≠ b) → L.Pairwise (fun a b => sc (20 + a) < sc (20 + b)) → L.Pairwise (fun x y => qput sc b s (20 + x) < qput sc b s (20 + y)) := by
    intro L hL hp
    refine List.Pairwise.imp_of_mem ?_ hp
    intro x y hx hy hxy
    have h1 := hL x hx
    have h2 := hL y hy
    rw [qput_st (by omega) (by omega), qput_st (by omega) (by omega), if_neg h1.2, if_neg h2.2]
    exact hxy
  have hm : ∀ r, r < ct 0 14 → ∀ x, x ∈ stk r → x < ct 0 13 ∧ x ≠ b := by
    intro r hr x hx
    have h1 := ((hQ r hr).2 x).mp hx
    refine ⟨h1.1, fun e => ?_⟩
    subst e
    omega
  intro r hr
  by_cases e : r = s
  · subst e
    simp only [if_true]
    refine ⟨List.pairwise_append.mpr ⟨hpw _ (hm r hr) (hQ r hr).1, List.pairwise_singleton _ _, ?_⟩, ?_⟩
    · intro x hx y hy
      have h1 := hm r hr x hx
      have h2 := hst x h1.1
      rw [List.mem_singleton] at hy
      subst hy
      rw [qput_st (by omega) (by omega), qput_st (by omega) (by omega), if_neg h1.2, if_pos rfl]
      omega
    · intro x
      rw [List.mem_append, List.mem_singleton, (hQ r hr).2 x]
      by_cases hx : x < ct 0 13
      · rw [qput_pl (by omega) (by omega)]
        by_cases e2 : x = b
        · subst e2; simp [hb]
        · simp [e2]
      · have : ¬ x = b := by omega
        simp [hx, this]
  · simp only [e, if_false]
    refine ⟨hpw _ (hm r hr) (hQ r hr).1, ?_⟩
    intro x
    rw [(hQ r hr).2 x]
    by_cases hx : x < ct 0 13
    · rw [qput_pl (by omega) (by omega)]
      by_cases e2 : x = b
      · subst e2
        simp [ho]
        omega
      · simp [e2]
    · simp [hx]
theorem rq_putIn (h : mSC μ ct cd sc stk) {b s : Nat} (hb : b < ct 0 13) (hs : s < ct 0 14) (ho : sc (10 + b) = 0) (hst : ∀ x, x < ct 0 13 → sc (20 + x) ≤ sc 49) (h49 : sc 49 < 100000) : sp_wp (X12_putIn n μ (nI b) (nI s)) (fun ν => mSC ν ct cd (qput sc b s) (fun x => if x = s then stk s ++ [b] else stk x) ∧ mfl μ ν) := by
  have h0 := h
  have h0 := h
  obtain ⟨⟨hns, hnb, hpt, hl4, hl5, hA1, hA2, hA6, hE1, hE2, hl7, hl8⟩, ⟨h47, h48, hAn, hWh, hRo, hMa, hSt, hFe⟩, hQ, ⟨hb10, hs5, hG, hH, hL, hU, hO⟩, hB, hPl⟩ := h
  have hX := fun k => Nat.lt_trans (hB k) (by decide : (1048576 : Nat) < 2 ^ 31)
  have hY : ∀ p k, ct p k < 2 ^ 31 := fun p k => Nat.lt_trans (hG p k) (by decide)
  have hlen := stk_le hQ hs
  have hl9 : (stk s).length < 10 := by
    have hnd := qc_len (L := b :: stk s) (N := ct 0 13) (List.nodup_cons.mpr ⟨fun x => by have := (((hQ s hs).2 b).mp x).2; omega, stk_nd hQ hs⟩) (fun x hx => by
      rcases List.mem_cons.mp hx with rfl | hx
      · exact hb
      · exact (((hQ s hs).2 x).mp hx).1)
    rw [List.length_cons] at hnd
    have := qc_le (fun x => decide (x ∈ b :: stk s)) (ct 0 13)
    omega
  simp (disch := first | assumption | omega | exact hX _ | exact hY _ _ | exact hZ _ | fail) only [X12_putIn, sp_pl, sp_ckt, sp_bd_s, sp_bv_s, qn_l, nI_add, qn_sub, pk_mul, qn_le, qn_lt, qn_eq, qn_in, qn_g, nI_clamp, qn_and31, qn_sl, qn_sr, qn_b0, qn_b1, sp_zb0, sp_zb1, if_true, if_false, if_pos, if_neg, reduceIte, not_true_eq_false, not_false_eq_true, decide_true, decide_false, Bool.false_eq_true, Bool.not_true, Bool.not_false, Bool.true_eq_false, eq_self, qn_meq, qn_of, Nat.reduceEqDiff, Nat.reduceLT, Nat.reduceLeDiff, Nat.reduceAdd, Nat.reduceSub, Nat.reduceMul, Nat.reducePow, or_self, or_false, or_true, false_or, true_or, and_true, true_and, and_false, false_and, and_self, sp_sa_np, hMa]
  refine wp_some.mpr ?_
  have hf : mfl μ (sp_sa (sp_sa (sp_sa μ 15 b (nI 1)) 18 (10 * s + (stk s).length) (nI b)) 17 s (nI ((stk s).length + 1))) := mfl_trans (mfl_trans (mfl_sa (by omega)) (mfl_sa (by omega))) (mfl_sa (by omega))
  refine ⟨⟨mC_fd (mfl_fd hf) h0.1, ?_, qStk_put hQ hb10 hb hs ho hst, h0.2.2.2.1, ?_, ?_⟩, hf⟩
  · refine ⟨?_, ?_, ?_, ?_, ?_, ?_, ?_, ?_⟩
    · rw [hf.1, qput_oth (by omega) (by omega) (by omega)]; exact h47
    · rw [hf.1, qput_oth (by omega) (by omega) (by omega)]; exact h48
    · intro x hx
      rw [hf.2.2 14 (by omega) (by omega) (by omega), qput_oth (by omega) (by omega) (by omega)]
      exact hAn x hx
    · intro x hx
      rw [sp_sa_np (by omega), sp_sa_np (by omega), sp_sa_g, sqs_put (by omega) (by omega) (by omega)]
      by_cases e : x = b
      · simp [e]
      · simp [e]; exact hWh x hx
    · intro x hx
      rw [hf.2.2 16 (by omega) (by omega) (by omega), qput_oth (by omega) (by omega) (by omega)]
      exact hRo x hx
    · intro x hx
      rw [sp_sa_g]
      by_cases e : x = s
      · subst e; simp
      · simp only [e, and_false, if_false]
        rw [sp_sa_np (by omega), sp_sa_np (by omega)]
        exact hMa x hx
    · intro x hx k hk
      rw [sp_sa_np (by omega), sp_sa_g]
      have hlx := stk_le hQ hx
      by_cases e : x = s
      · subst e
        simp only [if_true, List.length_append, List.length_singleton] at hk ⊢
        by_cases ek : k = (stk x).length
        · subst ek
          simp [List.getD_eq_getElem?_getD]
        · rw [if_neg (by omega), sp_sa_np (by omega), hSt x hx k (by omega)]
          congr 1
          simp [List.getD_eq_getElem?_getD, List.getElem?_append_left (show k < (stk x).length by omega)]
      · simp only [e, if_false] at hk ⊢
        rw [if_neg (by omega), sp_sa_np (by omega)]
        exact hSt x hx k hk
    · intro x hx
      rw [hf.2.2 19 (by omega) (by omega) (by omega), qput_oth (by omega) (by omega) (by omega)]
      exact hFe x hx
  · unfold qput
    exact qu_lt (qu_lt (qu_lt hB (by omega)) (by omega)) (by omega)
  · intro x hx
    rw [qput_pl (by omega) (by omega)]
    split
    · omega
    · exact hPl x hx
end
