-- ===== tokens: bytes, words =====
def bI (b : Bool) : Int32 := if b then nI 1 else nI 0
theorem bI_t : bI true = nI 1 := rfl
theorem bI_f : bI false = nI 0 := rfl
theorem bI_zb (b : Bool) : sp_zb (bI b) = true := by cases b <;> decide
theorem bI_0 (b : Bool) : (bI b = nI 0) = (b = false) := by cases b <;> simp [bI] <;> decide
def isL (x : Nat) : Bool := decide (97 ≤ x) && decide (x ≤ 122)
def isD (x : Nat) : Bool := decide (48 ≤ x) && decide (x ≤ 57)
def isB (x : Nat) : Bool := decide (x = 32) || decide (x = 10)
def isG (x : Nat) : Bool := decide (x = 59) || decide (x = 40) || decide (x = 41) || decide (x = 43) || decide (x = 45) || decide (x = 42) || decide (x = 47) || decide (x = 60) || decide (x = 61)
section
variable {n x : Nat} {σ μ : sp_St}
theorem cq_isLetter (h : x < 256) : X10_isLetter n σ (nI x) = some (σ, bI (isL x)) := by
  by_cases h1 : x < 97
  · simp (disch := first | assumption | omega | exact hX _ | exact hY _ _ | exact hZ _ | fail) only [X10_isLetter, X10_isLetter_16, X10_isLetter_17, isL, h1, sp_pl, sp_ckt, sp_bd_s, sp_bv_s, qn_l, nI_add, qn_sub, pk_mul, qn_le, qn_lt, qn_eq, qn_in, qn_g, nI_clamp, qn_and31, qn_sl, qn_sr, qn_b0, qn_b1, sp_zb0, sp_zb1, if_true, if_false, if_pos, if_neg, reduceIte, not_true_eq_false, not_false_eq_true, decide_true, decide_false, Bool.false_eq_true, Bool.not_true, Bool.not_false, Bool.true_eq_false, eq_self, qn_meq, qn_of, Nat.reduceEqDiff, Nat.reduceLT, Nat.reduceLeDiff, Nat.reduceAdd, Nat.reduceSub, Nat.reduceMul, Nat.reducePow, or_self, or_false, or_true, false_or, true_or, and_true, true_and, and_false, false_and, and_self, Nat.not_le.mpr h1, Bool.false_and, bI_f]
  · by_cases h2 : 122 < x
    · simp (disch := first | assumption | omega | exact hX _ | exact hY _ _ | exact hZ _ | fail) only [X10_isLetter, X10_isLetter_16, X10_isLetter_17, isL, h1, h2, sp_pl, sp_ckt, sp_bd_s, sp_bv_s, qn_l, nI_add, qn_sub, pk_mul, qn_le, qn_lt, qn_eq, qn_in, qn_g, nI_clamp, qn_and31, qn_sl, qn_sr, qn_b0, qn_b1, sp_zb0, sp_zb1, if_true, if_false, if_pos, if_neg, reduceIte, not_true_eq_false, not_false_eq_true, decide_true, decide_false, Bool.false_eq_true, Bool.not_true, Bool.not_false, Bool.true_eq_false, eq_self, qn_meq, qn_of, Nat.reduceEqDiff, Nat.reduceLT, Nat.reduceLeDiff, Nat.reduceAdd, Nat.reduceSub, Nat.reduceMul, Nat.reducePow, or_self, or_false, or_true, false_or, true_or, and_true, true_and, and_false, false_and, and_self, Nat.not_le.mpr h2, Bool.and_false, bI_f]
    · simp (disch := first | assumption | omega | exact hX _ | exact hY _ _ | exact hZ _ | fail) only [X10_isLetter, X10_isLetter_16, X10_isLetter_17, isL, h1, h2, sp_pl, sp_ckt, sp_bd_s, sp_bv_s, qn_l, nI_add, qn_sub, pk_mul, qn_le, qn_lt, qn_eq, qn_in, qn_g, nI_clamp, qn_and31, qn_sl, qn_sr, qn_b0, qn_b1, sp_zb0, sp_zb1, if_true, if_false, if_pos, if_neg, reduceIte, not_true_eq_false, not_false_eq_true, decide_true, decide_false, Bool.false_eq_true, Bool.not_true, Bool.not_false, Bool.true_eq_false, eq_self, qn_meq, qn_of, Nat.reduceEqDiff, Nat.reduceLT, Nat.reduceLeDiff, Nat.reduceAdd, Nat.reduceSub, Nat.reduceMul, Nat.reducePow, or_self, or_false, or_true, false_or, true_or, and_true, true_and, and_false, false_and, and_self, Nat.not_lt.mp h1, Nat.not_lt.mp h2, Bool.and_true, bI_t]
theorem rq_isLetter (h : x < 256) : X12_isLetter n μ (nI x) = some (μ, bI (isL x)) := by
  by_cases h1 : x < 97
  · simp (disch := first | assumption | omega | exact hX _ | exact hY _ _ | exact hZ _ | fail) only [X12_isLetter, X12_isLetter_16, X12_isLetter_17, isL, h1, sp_pl, sp_ckt, sp_bd_s, sp_bv_s, qn_l, nI_add, qn_sub, pk_mul, qn_le, qn_lt, qn_eq, qn_in, qn_g, nI_clamp, qn_and31, qn_sl, qn_sr, qn_b0, qn_b1, sp_zb0, sp_zb1, if_true, if_false, if_pos, if_neg, reduceIte, not_true_eq_false, not_false_eq_true, decide_true, decide_false, Bool.false_eq_true, Bool.not_true, Bool.not_false, Bool.true_eq_false, eq_self, qn_meq, qn_of, Nat.reduceEqDiff, Nat.reduceLT, Nat.reduceLeDiff, Nat.reduceAdd, Nat.reduceSub, Nat.reduceMul, Nat.reducePow, or_self, or_false, or_true, false_or, true_or, and_true, true_and, and_false, false_and, and_self, Nat.not_le.mpr h1, Bool.false_and, bI_f]
  · by_cases h2 : 122 < x
    · simp (disch := first | assumption | omega | exact hX _ | exact hY _ _ | exact hZ _ | fail) only [X12_isLetter, X12_isLetter_16, X12_isLetter_17, isL, h1, h2, sp_pl, sp_ckt, sp_bd_s, sp_bv_s, qn_l, nI_add, qn_sub, pk_mul, qn_le, qn_lt, qn_eq, qn_in, qn_g, nI_clamp, qn_and31, qn_sl, qn_sr, qn_b0, qn_b1, sp_zb0, sp_zb1, if_true, if_false, if_pos, if_neg, reduceIte, not_true_eq_false, not_false_eq_true, decide_true, decide_false, Bool.false_eq_true, Bool.not_true, Bool.not_false, Bool.true_eq_false, eq_self, qn_meq, qn_of, Nat.reduceEqDiff, Nat.reduceLT, Nat.reduceLeDiff, Nat.reduceAdd, Nat.reduceSub, Nat.reduceMul, Nat.reducePow, or_self, or_false, or_true, false_or, true_or, and_true, true_and, and_false, false_and, and_self, Nat.not_le.mpr h2, Bool.and_false, bI_f]
    · simp (disch := first | assumption | omega | exact hX _ | exact hY _ _ | exact hZ _ | fail) only [X12_isLetter, X12_isLetter_16, X12_isLetter_17, isL, h1, h2, sp_pl, sp_ckt, sp_bd_s, sp_bv_s, qn_l, nI_add, qn_sub, pk_mul, qn_le, qn_lt, qn_eq, qn_in, qn_g, nI_clamp, qn_and31, qn_sl, qn_sr, qn_b0, qn_b1, sp_zb0, sp_zb1, if_true, if_false, if_pos, if_neg, reduceIte, not_true_eq_false, not_false_eq_true, decide_true, decide_false, Bool.false_eq_true, Bool.not_true, Bool.not_false, Bool.true_eq_false, eq_self, qn_meq, qn_of, Nat.reduceEqDiff, Nat.reduceLT, Nat.reduceLeDiff, Nat.reduceAdd, Nat.reduceSub, Nat.reduceMul, Nat.reducePow, or_self, or_false, or_true, false_or, true_or, and_true, true_and, and_false, false_and, and_self, Nat.not_lt.mp h1, Nat.not_lt.mp h2, Bool.and_true, bI_t]
theorem cq_isDigit (h : x < 256) : X10_isDigit n σ (nI x) = some (σ, bI (isD x)) := by
  by_cases h1 : x < 48
  · simp (disch := first | assumption | omega | exact hX _ | exact hY _ _ | exact hZ _ | fail) only [X10_isDigit, X10_isDigit_16, X10_isDigit_17, isD, h1, sp_pl, sp_ckt, sp_bd_s, sp_bv_s, qn_l, nI_add, qn_sub, pk_mul, qn_le, qn_lt, qn_eq, qn_in, qn_g, nI_clamp, qn_and31, qn_sl, qn_sr, qn_b0, qn_b1, sp_zb0, sp_zb1, if_true, if_false, if_pos, if_neg, reduceIte, not_true_eq_false, not_false_eq_true, decide_true, decide_false, Bool.false_eq_true, Bool.not_true, Bool.not_false, Bool.true_eq_false, eq_self, qn_meq, qn_of, Nat.reduceEqDiff, Nat.reduceLT, Nat.reduceLeDiff, Nat.reduceAdd, Nat.reduceSub, Nat.reduceMul, Nat.reducePow, or_self, or_false, or_true, false_or, true_or, and_true, true_and, and_false, false_and, and_self, Nat.not_le.mpr h1, Bool.false_and, bI_f]
  · by_cases h2 : 57 < x
    · simp (disch := first | assumption | omega | exact hX _ | exact hY _ _ | exact hZ _ | fail) only [X10_isDigit, X10_isDigit_16, X10_isDigit_17, isD, h1, h2, sp_pl, sp_ckt, sp_bd_s, sp_bv_s, qn_l, nI_add, qn_sub, pk_mul, qn_le, qn_lt, qn_eq, qn_in, qn_g, nI_clamp, qn_and31, qn_sl, qn_sr, qn_b0, qn_b1, sp_zb0, sp_zb1, if_true, if_false, if_pos, if_neg, reduceIte, not_true_eq_false, not_false_eq_true, decide_true, decide_false, Bool.false_eq_true, Bool.not_true, Bool.not_false, Bool.true_eq_false, eq_self, qn_meq, qn_of, Nat.reduceEqDiff, Nat.reduceLT, Nat.reduceLeDiff, Nat.reduceAdd, Nat.reduceSub, Nat.reduceMul, Nat.reducePow, or_self, or_false, or_true, false_or, true_or, and_true, true_and, and_false, false_and, and_self, Nat.not_le.mpr h2, Bool.and_false, bI_f]
    · simp (disch := first | assumption | omega | exact hX _ | exact hY _ _ | exact hZ _ | fail) only [X10_isDigit, X10_isDigit_16, X10_isDigit_17, isD, h1, h2, sp_pl, sp_ckt, sp_bd_s, sp_bv_s, qn_l, nI_add, qn_sub, pk_mul, qn_le, qn_lt, qn_eq, qn_in, qn_g, nI_clamp, qn_and31, qn_sl, qn_sr, qn_b0, qn_b1, sp_zb0, sp_zb1, if_true, if_false, if_pos, if_neg, reduceIte, not_true_eq_false, not_false_eq_true, decide_true, decide_false, Bool.false_eq_true, Bool.not_true, Bool.not_false, Bool.true_eq_false, eq_self, qn_meq, qn_of, Nat.reduceEqDiff, Nat.reduceLT, Nat.reduceLeDiff, Nat.reduceAdd, Nat.reduceSub, Nat.reduceMul, Nat.reducePow, or_self, or_false, or_true, false_or, true_or, and_true, true_and, and_false, false_and, and_self, Nat.not_lt.mp h1, Nat.not_lt.mp h2, Bool.and_true, bI_t]
theorem rq_isDigit (h : x < 256) : X12_isDigit n μ (nI x) = some (μ, bI (isD x)) := by
  by_cases h1 : x < 48
  · simp (disch := first | assumption | omega | exact hX _ | exact hY _ _ | exact hZ _ | fail) only [X12_isDigit, X12_isDigit_16, X12_isDigit_17, isD, h1, sp_pl, sp_ckt, sp_bd_s, sp_bv_s, qn_l, nI_add, qn_sub, pk_mul, qn_le, qn_lt, qn_eq, qn_in, qn_g, nI_clamp, qn_and31, qn_sl, qn_sr, qn_b0, qn_b1, sp_zb0, sp_zb1, if_true, if_false, if_pos, if_neg, reduceIte, not_true_eq_false, not_false_eq_true, decide_true, decide_false, Bool.false_eq_true, Bool.not_true, Bool.not_false, Bool.true_eq_false, eq_self, qn_meq, qn_of, Nat.reduceEqDiff, Nat.reduceLT, Nat.reduceLeDiff, Nat.reduceAdd, Nat.reduceSub, Nat.reduceMul, Nat.reducePow, or_self, or_false, or_true, false_or, true_or, and_true, true_and, and_false, false_and, and_self, Nat.not_le.mpr h1, Bool.false_and, bI_f]
  · by_cases h2 : 57 < x
    · simp (disch := first | assumption | omega | exact hX _ | exact hY _ _ | exact hZ _ | fail) only [X12_isDigit, X12_isDigit_16, X12_isDigit_17, isD, h1, h2, sp_pl, sp_ckt, sp_bd_s, sp_bv_s, qn_l, nI_add, qn_sub, pk_mul, qn_le, qn_lt, qn_eq, qn_in, qn_g, nI_clamp, qn_and31, qn_sl, qn_sr, qn_b0, qn_b1, sp_zb0, sp_zb1, if_true, if_false, if_pos, if_neg, reduceIte, not_true_eq_false, not_false_eq_true, decide_true, decide_false, Bool.false_eq_true, Bool.not_true, Bool.not_false, Bool.true_eq_false, eq_self, qn_meq, qn_of, Nat.reduceEqDiff, Nat.reduceLT, Nat.reduceLeDiff, Nat.reduceAdd, Nat.reduceSub, Nat.reduceMul, Nat.reducePow, or_self, or_false, or_true, false_or, true_or, and_true, true_and, and_false, false_and, and_self, Nat.not_le.mpr h2, Bool.and_false, bI_f]
    · simp (disch := first | assumption | omega | exact hX _ | exact hY _ _ | exact hZ _ | fail) only [X12_isDigit, X12_isDigit_16, X12_isDigit_17, isD, h1, h2, sp_pl, sp_ckt, sp_bd_s, sp_bv_s, qn_l, nI_add, qn_sub, pk_mul, qn_le, qn_lt, qn_eq, qn_in, qn_g, nI_clamp, qn_and31, qn_sl, qn_sr, qn_b0, qn_b1, sp_zb0, sp_zb1, if_true, if_false, if_pos, if_neg, reduceIte, not_true_eq_false, not_false_eq_true, decide_true, decide_false, Bool.false_eq_true, Bool.not_true, Bool.not_false, Bool.true_eq_false, eq_self, qn_meq, qn_of, Nat.reduceEqDiff, Nat.reduceLT, Nat.reduceLeDiff, Nat.reduceAdd, Nat.reduceSub, Nat.reduceMul, Nat.reducePow, or_self, or_false, or_true, false_or, true_or, and_true, true_and, and_false, false_and, and_self, Nat.not_lt.mp h1, Nat.not_lt.mp h2, Bool.and_true, bI_t]
theorem rq_isLm : X12_isLetter n μ (-1) = some (μ, bI false) := by
  rw [X12_isLetter, if_pos (by decide)]; rfl
theorem rq_isDm : X12_isDigit n μ (-1) = some (μ, bI false) := by
  rw [X12_isDigit, if_pos (by decide)]; rfl
theorem rq_isMark (h : x < 256) : X12_isMark n μ (nI x) = some (μ, bI (isG x)) := by
  rw [X12_isMark]
  simp (disch := first | assumption | omega | exact hX _ | exact hY _ _ | exact hZ _ | fail) only [X12_isMark_54, X12_isMark_59, sp_pl, sp_ckt, sp_bd_s, sp_bv_s, qn_l, nI_add, qn_sub, pk_mul, qn_le, qn_lt, qn_eq, qn_in, qn_g, nI_clamp, qn_and31, qn_sl, qn_sr, qn_b0, qn_b1, sp_zb0, sp_zb1, if_true, if_false, if_pos, if_neg, reduceIte, not_true_eq_false, not_false_eq_true, decide_true, decide_false, Bool.false_eq_true, Bool.not_true, Bool.not_false, Bool.true_eq_false, eq_self, qn_meq, qn_of, Nat.reduceEqDiff, Nat.reduceLT, Nat.reduceLeDiff, Nat.reduceAdd, Nat.reduceSub, Nat.reduceMul, Nat.reducePow, or_self, or_false, or_true, false_or, true_or, and_true, true_and, and_false, false_and, and_self, isG]
  by_cases h1 : x = 59
  · simp only [h1, if_true, decide_true, Bool.true_or, bI_t]
  by_cases h2 : x = 40
  · simp only [h1, h2, if_true, if_false, decide_true, decide_false, Bool.true_or, Bool.false_or, bI_t]; rfl
  by_cases h3 : x = 41
  · simp only [h1, h2, h3, if_true, if_false, decide_true, decide_false, Bool.true_or, Bool.false_or, bI_t]; rfl
  by_cases h4 : x = 43
  · simp only [h4]; rfl
  by_cases h5 : x = 45
  · simp only [h5]; rfl
  by_cases h6 : x = 42
  · simp only [h6]; rfl
  by_cases h7 : x = 47
  · simp only [h7]; rfl
  by_cases h8 : x = 60
  · simp only [h8]; rfl
  by_cases h9 : x = 61
  · simp only [h9]; rfl
  simp only [h1, h2, h3, h4, h5, h6, h7, h8, h9, if_false, decide_false, Bool.false_or, bI_f]
theorem jq_lat {s : Nat} : J0_isLatin1_aae02 n σ s = some (σ, nI 1) := rfl
theorem jq_l0 : ∀ s, s < 16 → (Int32.ofNat (sp_tl s)) >>> ((0 : Int32) &&& 31) = nI (sp_tl s) := by decide +kernel
theorem jq_len {s : Nat} (hs : s < 16) : J0_length_8abf5 n σ s = some (σ, nI (sp_tl s)) := by
  show some (σ, (Int32.ofNat (sp_tl s)) >>> ((0 : Int32) &&& 31)) = _
  rw [jq_l0 s hs]
theorem jq_c0 : ∀ s, s < 16 → ∀ i, i < 9 → (((sp_tb s (nI i)) &&& (nI 255)).toUInt32 % 65536).toInt32 = sp_tb s (nI i) ∧ sp_cb (sp_tb s (nI i)) = true := by decide +kernel
theorem tl_le : ∀ s, s < 16 → sp_tl s ≤ 9 := by decide
theorem jq_ck {i N : Nat} (hi : i < N) (hN : N < 1000) : J0_checkIndex_df160 n σ (nI i) (nI N) = some σ := by
  unfold J0_checkIndex_df160
  simp (disch := first | assumption | omega | exact hX _ | exact hY _ _ | exact hZ _ | fail) only [qn_of, sp_pl, sp_ckt, sp_bd_s, sp_bv_s, qn_l, nI_add, qn_sub, pk_mul, qn_le, qn_lt, qn_eq, qn_in, qn_g, nI_clamp, qn_and31, qn_sl, qn_sr, qn_b0, qn_b1, sp_zb0, sp_zb1, if_true, if_false, if_pos, if_neg, reduceIte, not_true_eq_false, not_false_eq_true, decide_true, decide_false, Bool.false_eq_true, Bool.not_true, Bool.not_false, Bool.true_eq_false, eq_self, qn_meq, qn_of, Nat.reduceEqDiff, Nat.reduceLT, Nat.reduceLeDiff, Nat.reduceAdd, Nat.reduceSub, Nat.reduceMul, Nat.reducePow, or_self, or_false, or_true, false_or, true_or, and_true, true_and, and_false, false_and, and_self, Nat.zero_le, hi, Bool.and_true]
theorem jq_char {s i : Nat} (hs : s < 16) (hi : i < sp_tl s) : J0_charAt_5068e n σ s (nI i) = some (σ, sp_tb s (nI i)) := by
  have h9 := tl_le s hs
  have hc := jq_c0 s hs i (by omega)
  simp (disch := first | assumption | omega | exact hX _ | exact hY _ _ | exact hZ _ | fail) only [J0_charAt_5068e, jq_lat, J1_charAt_3b067, jq_ck hi (by omega), hc.1, hc.2, sp_pl, sp_ckt, sp_bd_s, sp_bv_s, qn_l, nI_add, qn_sub, pk_mul, qn_le, qn_lt, qn_eq, qn_in, qn_g, nI_clamp, qn_and31, qn_sl, qn_sr, qn_b0, qn_b1, sp_zb0, sp_zb1, if_true, if_false, if_pos, if_neg, reduceIte, not_true_eq_false, not_false_eq_true, decide_true, decide_false, Bool.false_eq_true, Bool.not_true, Bool.not_false, Bool.true_eq_false, eq_self, qn_meq, qn_of, Nat.reduceEqDiff, Nat.reduceLT, Nat.reduceLeDiff, Nat.reduceAdd, Nat.reduceSub, Nat.reduceMul, Nat.reducePow, or_self, or_false, or_true, false_or, true_or, and_true, true_and, and_false, false_and, and_self]
def sgB (k : Nat) : Nat := [59, 40, 41, 43, 45, 42, 47, 60, 61].getD k 0
theorem sgB_is : ∀ k, k < 9 → sp_tb 15 (nI k) = nI (sgB k) ∧ sgB k < 256 := by decide +kernel
theorem sgx : ∀ x, x < 128 → ((nI x).toUInt32 % 65536).toInt32 = nI x ∧ (nI x).toInt8.toInt32 = nI x := by decide +kernel
theorem sg_f : ∀ x, x < 256 → isG x = (qf (fun k => decide (sgB k = x)) 9 0).isSome ∧ (128 ≤ x → isG x = false) ∧ isG 0 = false := by decide +kernel
theorem jq_ix (hx : x < 256) (hn : 20 ≤ n) : J1_indexOfChar_4cfef_7 n 15 n σ (nI 9) (nI x) (nI 0) = match qf (fun k => decide (sgB k = x)) 9 0 with
    | some j => some (σ, nI j)
    | none => some (σ, -1) := by
  refine lp_find (fun f i => J1_indexOfChar_4cfef_7 n 15 f σ (nI 9) (nI x) (nI i)) 9 (fun k => decide (sgB k = x)) (some (σ, -1)) (fun j => some (σ, nI j)) (fun f => ?_) (fun f i hi => ?_) n 0 (by omega) (by omega)
  · simp (disch := first | assumption | omega | exact hX _ | exact hY _ _ | exact hZ _ | fail) only [J1_indexOfChar_4cfef_7, J1_indexOfChar_4cfef_31, sp_pl, sp_ckt, sp_bd_s, sp_bv_s, qn_l, nI_add, qn_sub, pk_mul, qn_le, qn_lt, qn_eq, qn_in, qn_g, nI_clamp, qn_and31, qn_sl, qn_sr, qn_b0, qn_b1, sp_zb0, sp_zb1, if_true, if_false, if_pos, if_neg, reduceIte, not_true_eq_false, not_false_eq_true, decide_true, decide_false, Bool.false_eq_true, Bool.not_true, Bool.not_false, Bool.true_eq_false, eq_self, qn_meq, qn_of, Nat.reduceEqDiff, Nat.reduceLT, Nat.reduceLeDiff, Nat.reduceAdd, Nat.reduceSub, Nat.reduceMul, Nat.reducePow, or_self, or_false, or_true, false_or, true_or, and_true, true_and, and_false, false_and, and_self]
  · have hb := sgB_is i hi
    have h15 : sp_tl 15 = 9 := by decide
    simp (disch := first | assumption | omega | exact hX _ | exact hY _ _ | exact hZ _ | fail) only [J1_indexOfChar_4cfef_7, J1_indexOfChar_4cfef_22, h15, hb.1, sp_pl, sp_ckt, sp_bd_s, sp_bv_s, qn_l, nI_add, qn_sub, pk_mul, qn_le, qn_lt, qn_eq, qn_in, qn_g, nI_clamp, qn_and31, qn_sl, qn_sr, qn_b0, qn_b1, sp_zb0, sp_zb1, if_true, if_false, if_pos, if_neg, reduceIte, not_true_eq_false, not_false_eq_true, decide_true, decide_false, Bool.false_eq_true, Bool.not_true, Bool.not_false, Bool.true_eq_false, eq_self, qn_meq, qn_of, Nat.reduceEqDiff, Nat.reduceLT, Nat.reduceLeDiff, Nat.reduceAdd, Nat.reduceSub, Nat.reduceMul, Nat.reducePow, or_self, or_false, or_true, false_or, true_or, and_true, true_and, and_false, false_and, and_self, Nat.not_le.mpr hi, decide_eq_true_eq]
theorem cq_isSign (hx : x < 256) (hn : 20 ≤ n) : X10_isSign n σ (nI x) = some (σ, bI (isG x)) := by
  have hf := sg_f x hx
  by_cases h0 : x = 0
  · subst h0
    rw [hf.2.2, X10_isSign, if_pos (by decide)]; rfl
  by_cases h1 : 128 ≤ x
  · rw [hf.2.1 h1]
    simp (disch := first | assumption | omega | exact hX _ | exact hY _ _ | exact hZ _ | fail) only [X10_isSign, X10_isSign_25, X10_isSign_26, sp_pl, sp_ckt, sp_bd_s, sp_bv_s, qn_l, nI_add, qn_sub, pk_mul, qn_le, qn_lt, qn_eq, qn_in, qn_g, nI_clamp, qn_and31, qn_sl, qn_sr, qn_b0, qn_b1, sp_zb0, sp_zb1, if_true, if_false, if_pos, if_neg, reduceIte, not_true_eq_false, not_false_eq_true, decide_true, decide_false, Bool.false_eq_true, Bool.not_true, Bool.not_false, Bool.true_eq_false, eq_self, qn_meq, qn_of, Nat.reduceEqDiff, Nat.reduceLT, Nat.reduceLeDiff, Nat.reduceAdd, Nat.reduceSub, Nat.reduceMul, Nat.reducePow, or_self, or_false, or_true, false_or, true_or, and_true, true_and, and_false, false_and, and_self, h1, Nat.le_zero_eq, h0, bI_f]
  · have hs := sgx x (by omega)
    have e : J0_indexOf_0f7a4 n σ 15 (nI x) = match qf (fun k => decide (sgB k = x)) 9 0 with
        | some j => some (σ, nI j)
        | none => some (σ, -1) := by
      rw [← jq_ix hx hn]
      have h15 : sp_tl 15 = 9 := by decide
      have hm : sp_max (nI 0) (nI 0) = nI 0 := by decide
      have hm2 : sp_min (nI 9) (nI 9) = nI 9 := by decide
      have hcE : J1_canEncode_9a6ad n σ (nI x) = some (σ, nI 1) := by
        simp (disch := first | assumption | omega | exact hX _ | exact hY _ _ | exact hZ _ | fail) only [J1_canEncode_9a6ad, J1_canEncode_9a6ad_15, J1_canEncode_9a6ad_16, sp_pl, sp_ckt, sp_bd_s, sp_bv_s, qn_l, nI_add, qn_sub, pk_mul, qn_le, qn_lt, qn_eq, qn_in, qn_g, nI_clamp, qn_and31, qn_sl, qn_sr, qn_b0, qn_b1, sp_zb0, sp_zb1, if_true, if_false, if_pos, if_neg, reduceIte, not_true_eq_false, not_false_eq_true, decide_true, decide_false, Bool.false_eq_true, Bool.not_true, Bool.not_false, Bool.true_eq_false, eq_self, qn_meq, qn_of, Nat.reduceEqDiff, Nat.reduceLT, Nat.reduceLeDiff, Nat.reduceAdd, Nat.reduceSub, Nat.reduceMul, Nat.reducePow, or_self, or_false, or_true, false_or, true_or, and_true, true_and, and_false, false_and, and_self, Nat.not_lt_zero, Nat.not_lt.mpr (show x ≤ 255 by omega)]
      simp (disch := first | assumption | omega | exact hX _ | exact hY _ _ | exact hZ _ | fail) only [J0_indexOf_0f7a4, J0_indexOf_7cf53, J0_indexOf_7cf53_36, jq_lat, jq_len (show 15 < 16 by decide), J1_indexOf_4cfef, hcE, h15, hm, hm2, J1_indexOfChar_4cfef, hs.2, sp_pl, sp_ckt, sp_bd_s, sp_bv_s, qn_l, nI_add, qn_sub, pk_mul, qn_le, qn_lt, qn_eq, qn_in, qn_g, nI_clamp, qn_and31, qn_sl, qn_sr, qn_b0, qn_b1, sp_zb0, sp_zb1, if_true, if_false, if_pos, if_neg, reduceIte, not_true_eq_false, not_false_eq_true, decide_true, decide_false, Bool.false_eq_true, Bool.not_true, Bool.not_false, Bool.true_eq_false, eq_self, qn_meq, qn_of, Nat.reduceEqDiff, Nat.reduceLT, Nat.reduceLeDiff, Nat.reduceAdd, Nat.reduceSub, Nat.reduceMul, Nat.reducePow, or_self, or_false, or_true, false_or, true_or, and_true, true_and, and_false, false_and, and_self]
      generalize J1_indexOfChar_4cfef_7 n 15 n σ (nI 9) (nI x) (nI 0) = y
      cases y <;> rfl
    rw [hf.1]
    simp (disch := first | assumption | omega | exact hX _ | exact hY _ _ | exact hZ _ | fail) only [X10_isSign, X10_isSign_25, X10_isSign_26, hs.1, e, sp_pl, sp_ckt, sp_bd_s, sp_bv_s, qn_l, nI_add, qn_sub, pk_mul, qn_le, qn_lt, qn_eq, qn_in, qn_g, nI_clamp, qn_and31, qn_sl, qn_sr, qn_b0, qn_b1, sp_zb0, sp_zb1, if_true, if_false, if_pos, if_neg, reduceIte, not_true_eq_false, not_false_eq_true, decide_true, decide_false, Bool.false_eq_true, Bool.not_true, Bool.not_false, Bool.true_eq_false, eq_self, qn_meq, qn_of, Nat.reduceEqDiff, Nat.reduceLT, Nat.reduceLeDiff, Nat.reduceAdd, Nat.reduceSub, Nat.reduceMul, Nat.reducePow, or_self, or_false, or_true, false_or, true_or, and_true, true_and, and_false, false_and, and_self, h1, Nat.le_zero_eq, h0]
    cases hq : qf (fun k => decide (sgB k = x)) 9 0 with
    | none => rfl
    | some j =>
      have hj := (qf_some hq).2.1
      simp (disch := first | assumption | omega | exact hX _ | exact hY _ _ | exact hZ _ | fail) only [sp_pl, sp_ckt, sp_bd_s, sp_bv_s, qn_l, nI_add, qn_sub, pk_mul, qn_le, qn_lt, qn_eq, qn_in, qn_g, nI_clamp, qn_and31, qn_sl, qn_sr, qn_b0, qn_b1, sp_zb0, sp_zb1, if_true, if_false, if_pos, if_neg, reduceIte, not_true_eq_false, not_false_eq_true, decide_true, decide_false, Bool.false_eq_true, Bool.not_true, Bool.not_false, Bool.true_eq_false, eq_self, qn_meq, qn_of, Nat.reduceEqDiff, Nat.reduceLT, Nat.reduceLeDiff, Nat.reduceAdd, Nat.reduceSub, Nat.reduceMul, Nat.reducePow, or_self, or_false, or_true, false_or, true_or, and_true, true_and, and_false, false_and, and_self, Nat.not_lt_zero, Option.isSome_some, bI_t]
end
