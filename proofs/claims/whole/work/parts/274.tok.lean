-- ===== tokens: runs of bytes, numbers =====
/-- the class's text, the reference's -/
def cTx (T : Nat → Nat) (N : Nat) (σ : sp_St) : Prop := σ.1 20 1 = nI N ∧ N ≤ 700 ∧ ∀ i, i < N → σ.2.2.1 1 i = nI (T i) ∧ T i < 256
def mTx (T : Nat → Nat) (N : Nat) (μ : sp_St) : Prop := μ.1 0 17 = nI N ∧ N ≤ 700 ∧ ∀ i, i < N → μ.2.2.1 13 i = nI (T i) ∧ T i < 256
def rn (P : Nat → Bool) (T : Nat → Nat) : Nat → Nat → Nat
  | 0, e => e
  | k + 1, e => if P (T e) then rn P T k (e + 1) else e
def eR (P : Nat → Bool) (T : Nat → Nat) (N e : Nat) : Nat := rn P T (N - e) e
theorem eR_N {P : Nat → Bool} {T : Nat → Nat} {N : Nat} : eR P T N N = N := by unfold eR; rw [Nat.sub_self]; rfl
theorem eR_t {P : Nat → Bool} {T : Nat → Nat} {N e : Nat} (h : e < N) (hp : P (T e) = true) : eR P T N e = eR P T N (e + 1) := by
  unfold eR
  rw [show N - e = (N - (e + 1)) + 1 by omega, rn, if_pos hp]
theorem eR_f {P : Nat → Bool} {T : Nat → Nat} {N e : Nat} (h : e < N) (hp : P (T e) = false) : eR P T N e = e := by
  unfold eR
  rw [show N - e = (N - (e + 1)) + 1 by omega, rn, hp]
  rfl
theorem eR_b {P : Nat → Bool} {T : Nat → Nat} {N : Nat} : ∀ k e, N - e = k → e ≤ N → e ≤ eR P T N e ∧ eR P T N e ≤ N ∧ (∀ i, e ≤ i → i < eR P T N e → P (T i) = true) ∧ (eR P T N e < N → P (T (eR P T N e)) = false) := by
  intro k
  induction k with
  | zero =>
    intro e h1 h2
    have : e = N := by omega
    subst this
    rw [eR_N]
    exact ⟨by omega, by omega, fun i h1 h2 => by omega, fun h => by omega⟩
  | succ k ih =>
    intro e h1 h2
    cases hp : P (T e) with
    | false => rw [eR_f (by omega) hp]; exact ⟨by omega, by omega, fun i h1 h2 => by omega, fun _ => hp⟩
    | true =>
      rw [eR_t (by omega) hp]
      obtain ⟨a1, a2, a3, a4⟩ := ih (e + 1) (by omega) (by omega)
      refine ⟨by omega, a2, fun i h1 h2 => ?_, a4⟩
      by_cases hi : i = e
      · subst hi; exact hp
      · exact a3 i (by omega) h2
theorem si_si {σ : sp_St} {p k : Nat} {v w : Int32} : sp_si (sp_si σ p k v) p k w = sp_si σ p k w := by
  unfold sp_si
  refine Prod.ext ?_ rfl
  funext q j
  simp only []
  by_cases h : q = p ∧ j = k
  · simp [h]
  · simp [h]
theorem si_self {σ : sp_St} {p k : Nat} {v : Int32} (h : σ.1 p k = v) : sp_si σ p k v = σ := by
  unfold sp_si
  refine Prod.ext ?_ rfl
  funext q j
  simp only []
  by_cases hq : q = p ∧ j = k
  · obtain ⟨rfl, rfl⟩ := hq; simp [h]
  · simp [hq]
theorem cTx_si {T : Nat → Nat} {N p k : Nat} {σ : sp_St} {v : Int32} (h : cTx T N σ) (hk : ¬ (p = 20 ∧ k = 1)) : cTx T N (sp_si σ p k v) := ⟨by rw [sp_si_g, if_neg (by omega)]; exact h.1, h.2⟩
theorem mTx_si {T : Nat → Nat} {N k : Nat} {μ : sp_St} {v : Int32} (h : mTx T N μ) (hk : k ≠ 17) : mTx T N (sp_si μ 0 k v) := ⟨by rw [sp_si_g, if_neg (by omega)]; exact h.1, h.2⟩
section
variable {n N : Nat} {T : Nat → Nat} {σ μ : sp_St}
theorem rq_byte (h : mTx T N μ) {e : Nat} (he : e < N) : X12_byteAt n μ (nI e) = some (μ, nI (T e)) := by
  obtain ⟨h1, h2, h3⟩ := h
  have hb := (h3 e he).1
  simp (disch := first | assumption | omega | exact hX _ | exact hY _ _ | exact hZ _ | fail) only [X12_byteAt, X12_byteAt_18, h1, hb, sp_pl, sp_ckt, sp_bd_s, sp_bv_s, qn_l, nI_add, qn_sub, pk_mul, qn_le, qn_lt, qn_eq, qn_in, qn_g, nI_clamp, qn_and31, qn_sl, qn_sr, qn_b0, qn_b1, sp_zb0, sp_zb1, if_true, if_false, if_pos, if_neg, reduceIte, not_true_eq_false, not_false_eq_true, decide_true, decide_false, Bool.false_eq_true, Bool.not_true, Bool.not_false, Bool.true_eq_false, eq_self, qn_meq, qn_of, Nat.reduceEqDiff, Nat.reduceLT, Nat.reduceLeDiff, Nat.reduceAdd, Nat.reduceSub, Nat.reduceMul, Nat.reducePow, or_self, or_false, or_true, false_or, true_or, and_true, true_and, and_false, false_and, and_self, Nat.not_le.mpr he]
theorem rq_byteN (h : mTx T N μ) : X12_byteAt n μ (nI N) = some (μ, -1) := by
  obtain ⟨h1, h2, h3⟩ := h
  rw [X12_byteAt, h1, if_pos (by rw [qn_le (by omega) (by omega)]; omega)]
  rfl
theorem cq_blanks (h : cTx T N σ) : ∀ f e, e ≤ N → N - e < f → X10_blanksEnd_2 n f σ (nI e) = some (σ, nI (eR isB T N e)) := by
  obtain ⟨h1, h2, h3⟩ := h
  intro f
  induction f with
  | zero => intro e _ h; omega
  | succ f ih =>
    intro e he hf
    by_cases hN : e = N
    · subst hN
      rw [eR_N]
      simp (disch := first | assumption | omega | exact hX _ | exact hY _ _ | exact hZ _ | fail) only [X10_blanksEnd_2, X10_blanksEnd_38, h1, sp_pl, sp_ckt, sp_bd_s, sp_bv_s, qn_l, nI_add, qn_sub, pk_mul, qn_le, qn_lt, qn_eq, qn_in, qn_g, nI_clamp, qn_and31, qn_sl, qn_sr, qn_b0, qn_b1, sp_zb0, sp_zb1, if_true, if_false, if_pos, if_neg, reduceIte, not_true_eq_false, not_false_eq_true, decide_true, decide_false, Bool.false_eq_true, Bool.not_true, Bool.not_false, Bool.true_eq_false, eq_self, qn_meq, qn_of, Nat.reduceEqDiff, Nat.reduceLT, Nat.reduceLeDiff, Nat.reduceAdd, Nat.reduceSub, Nat.reduceMul, Nat.reducePow, or_self, or_false, or_true, false_or, true_or, and_true, true_and, and_false, false_and, and_self, Nat.le_refl]
    · have hb := (h3 e (by omega)).1
      have hlt := (h3 e (by omega)).2
      by_cases p1 : T e = 32
      · rw [eR_t (by omega) (by simp [isB, p1]), ← ih (e + 1) (by omega) (by omega)]
        simp (disch := first | assumption | omega | exact hX _ | exact hY _ _ | exact hZ _ | fail) only [X10_blanksEnd_2, X10_blanksEnd_32, h1, hb, p1, sp_pl, sp_ckt, sp_bd_s, sp_bv_s, qn_l, nI_add, qn_sub, pk_mul, qn_le, qn_lt, qn_eq, qn_in, qn_g, nI_clamp, qn_and31, qn_sl, qn_sr, qn_b0, qn_b1, sp_zb0, sp_zb1, if_true, if_false, if_pos, if_neg, reduceIte, not_true_eq_false, not_false_eq_true, decide_true, decide_false, Bool.false_eq_true, Bool.not_true, Bool.not_false, Bool.true_eq_false, eq_self, qn_meq, qn_of, Nat.reduceEqDiff, Nat.reduceLT, Nat.reduceLeDiff, Nat.reduceAdd, Nat.reduceSub, Nat.reduceMul, Nat.reducePow, or_self, or_false, or_true, false_or, true_or, and_true, true_and, and_false, false_and, and_self, show ¬ N ≤ e by omega]
      · by_cases p2 : T e = 10
        · rw [eR_t (by omega) (by simp [isB, p2]), ← ih (e + 1) (by omega) (by omega)]
          simp (disch := first | assumption | omega | exact hX _ | exact hY _ _ | exact hZ _ | fail) only [X10_blanksEnd_2, X10_blanksEnd_32, h1, hb, p2, sp_pl, sp_ckt, sp_bd_s, sp_bv_s, qn_l, nI_add, qn_sub, pk_mul, qn_le, qn_lt, qn_eq, qn_in, qn_g, nI_clamp, qn_and31, qn_sl, qn_sr, qn_b0, qn_b1, sp_zb0, sp_zb1, if_true, if_false, if_pos, if_neg, reduceIte, not_true_eq_false, not_false_eq_true, decide_true, decide_false, Bool.false_eq_true, Bool.not_true, Bool.not_false, Bool.true_eq_false, eq_self, qn_meq, qn_of, Nat.reduceEqDiff, Nat.reduceLT, Nat.reduceLeDiff, Nat.reduceAdd, Nat.reduceSub, Nat.reduceMul, Nat.reducePow, or_self, or_false, or_true, false_or, true_or, and_true, true_and, and_false, false_and, and_self, show ¬ N ≤ e by omega]
        · rw [eR_f (by omega) (by simp [isB, p1, p2])]
          simp (disch := first | assumption | omega | exact hX _ | exact hY _ _ | exact hZ _ | fail) only [X10_blanksEnd_2, X10_blanksEnd_38, h1, hb, p1, p2, sp_pl, sp_ckt, sp_bd_s, sp_bv_s, qn_l, nI_add, qn_sub, pk_mul, qn_le, qn_lt, qn_eq, qn_in, qn_g, nI_clamp, qn_and31, qn_sl, qn_sr, qn_b0, qn_b1, sp_zb0, sp_zb1, if_true, if_false, if_pos, if_neg, reduceIte, not_true_eq_false, not_false_eq_true, decide_true, decide_false, Bool.false_eq_true, Bool.not_true, Bool.not_false, Bool.true_eq_false, eq_self, qn_meq, qn_of, Nat.reduceEqDiff, Nat.reduceLT, Nat.reduceLeDiff, Nat.reduceAdd, Nat.reduceSub, Nat.reduceMul, Nat.reducePow, or_self, or_false, or_true, false_or, true_or, and_true, true_and, and_false, false_and, and_self, show ¬ N ≤ e by omega]
theorem cq_letters (h : cTx T N σ) : ∀ f e, e ≤ N → N - e < f → X10_lettersEnd_2 n f σ (nI e) = some (σ, nI (eR isL T N e)) := by
  obtain ⟨h1, h2, h3⟩ := h
  intro f
  induction f with
  | zero => intro e _ h; omega
  | succ f ih =>
    intro e he hf
    by_cases hN : e = N
    · subst hN
      rw [eR_N]
      simp (disch := first | assumption | omega | exact hX _ | exact hY _ _ | exact hZ _ | fail) only [X10_lettersEnd_2, X10_lettersEnd_28, h1, sp_pl, sp_ckt, sp_bd_s, sp_bv_s, qn_l, nI_add, qn_sub, pk_mul, qn_le, qn_lt, qn_eq, qn_in, qn_g, nI_clamp, qn_and31, qn_sl, qn_sr, qn_b0, qn_b1, sp_zb0, sp_zb1, if_true, if_false, if_pos, if_neg, reduceIte, not_true_eq_false, not_false_eq_true, decide_true, decide_false, Bool.false_eq_true, Bool.not_true, Bool.not_false, Bool.true_eq_false, eq_self, qn_meq, qn_of, Nat.reduceEqDiff, Nat.reduceLT, Nat.reduceLeDiff, Nat.reduceAdd, Nat.reduceSub, Nat.reduceMul, Nat.reducePow, or_self, or_false, or_true, false_or, true_or, and_true, true_and, and_false, false_and, and_self, Nat.le_refl]
    · have hb := (h3 e (by omega)).1
      have hlt := (h3 e (by omega)).2
      cases p : isL (T e) with
      | true =>
        rw [eR_t (by omega) p, ← ih (e + 1) (by omega) (by omega)]
        simp (disch := first | assumption | omega | exact hX _ | exact hY _ _ | exact hZ _ | fail) only [X10_lettersEnd_2, h1, hb, cq_isLetter hlt, p, sp_pl, sp_ckt, sp_bd_s, sp_bv_s, qn_l, nI_add, qn_sub, pk_mul, qn_le, qn_lt, qn_eq, qn_in, qn_g, nI_clamp, qn_and31, qn_sl, qn_sr, qn_b0, qn_b1, sp_zb0, sp_zb1, if_true, if_false, if_pos, if_neg, reduceIte, not_true_eq_false, not_false_eq_true, decide_true, decide_false, Bool.false_eq_true, Bool.not_true, Bool.not_false, Bool.true_eq_false, eq_self, qn_meq, qn_of, Nat.reduceEqDiff, Nat.reduceLT, Nat.reduceLeDiff, Nat.reduceAdd, Nat.reduceSub, Nat.reduceMul, Nat.reducePow, or_self, or_false, or_true, false_or, true_or, and_true, true_and, and_false, false_and, and_self, show ¬ N ≤ e by omega, bI_0]
      | false =>
        rw [eR_f (by omega) p]
        simp (disch := first | assumption | omega | exact hX _ | exact hY _ _ | exact hZ _ | fail) only [X10_lettersEnd_2, X10_lettersEnd_28, h1, hb, cq_isLetter hlt, p, sp_pl, sp_ckt, sp_bd_s, sp_bv_s, qn_l, nI_add, qn_sub, pk_mul, qn_le, qn_lt, qn_eq, qn_in, qn_g, nI_clamp, qn_and31, qn_sl, qn_sr, qn_b0, qn_b1, sp_zb0, sp_zb1, if_true, if_false, if_pos, if_neg, reduceIte, not_true_eq_false, not_false_eq_true, decide_true, decide_false, Bool.false_eq_true, Bool.not_true, Bool.not_false, Bool.true_eq_false, eq_self, qn_meq, qn_of, Nat.reduceEqDiff, Nat.reduceLT, Nat.reduceLeDiff, Nat.reduceAdd, Nat.reduceSub, Nat.reduceMul, Nat.reducePow, or_self, or_false, or_true, false_or, true_or, and_true, true_and, and_false, false_and, and_self, show ¬ N ≤ e by omega, bI_0]
theorem cq_digits (h : cTx T N σ) : ∀ f e, e ≤ N → N - e < f → X10_digitsEnd_2 n f σ (nI e) = some (σ, nI (eR isD T N e)) := by
  obtain ⟨h1, h2, h3⟩ := h
  intro f
  induction f with
  | zero => intro e _ h; omega
  | succ f ih =>
    intro e he hf
    by_cases hN : e = N
    · subst hN
      rw [eR_N]
      simp (disch := first | assumption | omega | exact hX _ | exact hY _ _ | exact hZ _ | fail) only [X10_digitsEnd_2, X10_digitsEnd_28, h1, sp_pl, sp_ckt, sp_bd_s, sp_bv_s, qn_l, nI_add, qn_sub, pk_mul, qn_le, qn_lt, qn_eq, qn_in, qn_g, nI_clamp, qn_and31, qn_sl, qn_sr, qn_b0, qn_b1, sp_zb0, sp_zb1, if_true, if_false, if_pos, if_neg, reduceIte, not_true_eq_false, not_false_eq_true, decide_true, decide_false, Bool.false_eq_true, Bool.not_true, Bool.not_false, Bool.true_eq_false, eq_self, qn_meq, qn_of, Nat.reduceEqDiff, Nat.reduceLT, Nat.reduceLeDiff, Nat.reduceAdd, Nat.reduceSub, Nat.reduceMul, Nat.reducePow, or_self, or_false, or_true, false_or, true_or, and_true, true_and, and_false, false_and, and_self, Nat.le_refl]
    · have hb := (h3 e (by omega)).1
      have hlt := (h3 e (by omega)).2
      cases p : isD (T e) with
      | true =>
        rw [eR_t (by omega) p, ← ih (e + 1) (by omega) (by omega)]
        simp (disch := first | assumption | omega | exact hX _ | exact hY _ _ | exact hZ _ | fail) only [X10_digitsEnd_2, h1, hb, cq_isDigit hlt, p, sp_pl, sp_ckt, sp_bd_s, sp_bv_s, qn_l, nI_add, qn_sub, pk_mul, qn_le, qn_lt, qn_eq, qn_in, qn_g, nI_clamp, qn_and31, qn_sl, qn_sr, qn_b0, qn_b1, sp_zb0, sp_zb1, if_true, if_false, if_pos, if_neg, reduceIte, not_true_eq_false, not_false_eq_true, decide_true, decide_false, Bool.false_eq_true, Bool.not_true, Bool.not_false, Bool.true_eq_false, eq_self, qn_meq, qn_of, Nat.reduceEqDiff, Nat.reduceLT, Nat.reduceLeDiff, Nat.reduceAdd, Nat.reduceSub, Nat.reduceMul, Nat.reducePow, or_self, or_false, or_true, false_or, true_or, and_true, true_and, and_false, false_and, and_self, show ¬ N ≤ e by omega, bI_0]
      | false =>
        rw [eR_f (by omega) p]
        simp (disch := first | assumption | omega | exact hX _ | exact hY _ _ | exact hZ _ | fail) only [X10_digitsEnd_2, X10_digitsEnd_28, h1, hb, cq_isDigit hlt, p, sp_pl, sp_ckt, sp_bd_s, sp_bv_s, qn_l, nI_add, qn_sub, pk_mul, qn_le, qn_lt, qn_eq, qn_in, qn_g, nI_clamp, qn_and31, qn_sl, qn_sr, qn_b0, qn_b1, sp_zb0, sp_zb1, if_true, if_false, if_pos, if_neg, reduceIte, not_true_eq_false, not_false_eq_true, decide_true, decide_false, Bool.false_eq_true, Bool.not_true, Bool.not_false, Bool.true_eq_false, eq_self, qn_meq, qn_of, Nat.reduceEqDiff, Nat.reduceLT, Nat.reduceLeDiff, Nat.reduceAdd, Nat.reduceSub, Nat.reduceMul, Nat.reducePow, or_self, or_false, or_true, false_or, true_or, and_true, true_and, and_false, false_and, and_self, show ¬ N ≤ e by omega, bI_0]
theorem m1n {x : Nat} (h : x < 256) : nI x ≠ -1 := by
  have := qn_meq (a := x) (by omega)
  exact fun e => this.mp e
theorem rq_blanks : ∀ f e, ∀ μ : sp_St, mTx T N μ → μ.1 0 16 = nI e → e ≤ N → N - e < f → X12_stepOn_0 n f μ = X12_stepOn_39 n (sp_si μ 0 16 (nI (eR isB T N e))) := by
  intro f
  induction f with
  | zero => intro e _ _ _ _ h; omega
  | succ f ih =>
    intro e μ h h16 he hf
    by_cases hN : e = N
    · subst hN
      rw [eR_N, si_self h16, X12_stepOn_0, h16, rq_byteN h, sp_bd_s, if_neg (by decide), h16, rq_byteN h, sp_bd_s, if_neg (by decide)]
    · have hlt := (h.2.2 e (by omega)).2
      by_cases p1 : T e = 32
      · rw [eR_t (by omega) (by simp [isB, p1]), X12_stepOn_0, h16, rq_byte h (by omega), sp_bd_s, p1, if_pos (by decide), X12_stepOn_26, sp_pl, h16, show nI e + 1 = nI (e + 1) from nI_add e 1, ih (e + 1) _ (mTx_si h (by omega)) sp_si_eq (by omega) (by omega), si_si]
      · have q1 : ¬ nI (T e) = (32 : Int32) := by
          show ¬ nI (T e) = nI 32
          rw [qn_eq (by omega) (by omega)]; exact p1
        by_cases p2 : T e = 10
        · rw [eR_t (by omega) (by simp [isB, p2]), X12_stepOn_0, h16, rq_byte h (by omega), sp_bd_s, if_neg q1, h16, rq_byte h (by omega), sp_bd_s, p2, if_pos (by decide), X12_stepOn_26, sp_pl, h16, show nI e + 1 = nI (e + 1) from nI_add e 1, ih (e + 1) _ (mTx_si h (by omega)) sp_si_eq (by omega) (by omega), si_si]
        · have q2 : ¬ nI (T e) = (10 : Int32) := by
            show ¬ nI (T e) = nI 10
            rw [qn_eq (by omega) (by omega)]; exact p2
          rw [eR_f (by omega) (by simp [isB, p1, p2]), si_self h16, X12_stepOn_0, h16, rq_byte h (by omega), sp_bd_s, if_neg q1, h16, rq_byte h (by omega), sp_bd_s, if_neg q2]
theorem rq_letters : ∀ f e, ∀ μ : sp_St, mTx T N μ → μ.1 0 16 = nI e → e ≤ N → N - e < f → X12_stepOn_76 n f μ = X12_stepOn_103 n (sp_si μ 0 16 (nI (eR isL T N e))) := by
  intro f
  induction f with
  | zero => intro e _ _ _ _ h; omega
  | succ f ih =>
    intro e μ h h16 he hf
    by_cases hN : e = N
    · subst hN
      rw [eR_N, si_self h16, X12_stepOn_76, h16, rq_byteN h, sp_bd_s, rq_isLm, sp_bd_s, if_pos (show bI false = 0 by decide)]
    · have hlt := (h.2.2 e (by omega)).2
      cases p : isL (T e) with
      | true => rw [eR_t (by omega) p, X12_stepOn_76, h16, rq_byte h (by omega), sp_bd_s, rq_isLetter hlt, sp_bd_s, p, if_neg (by decide), sp_pl, h16, show nI e + 1 = nI (e + 1) from nI_add e 1, ih (e + 1) _ (mTx_si h (by omega)) sp_si_eq (by omega) (by omega), si_si]
      | false => rw [eR_f (by omega) p, si_self h16, X12_stepOn_76, h16, rq_byte h (by omega), sp_bd_s, rq_isLetter hlt, sp_bd_s, p, if_pos (show bI false = 0 by decide)]
/-- the digits' value: the reference's, and without a bound -/
def ww (T : Nat → Nat) : Nat → Nat → Nat → Nat
  | 0, _, w => w
  | k + 1, e, w => ww T k (e + 1) (min 100000 (10 * w + (T e - 48)))
def vv (T : Nat → Nat) : Nat → Nat → Nat → Nat
  | 0, _, w => w
  | k + 1, e, w => vv T k (e + 1) (10 * w + (T e - 48))
theorem vv_ww : ∀ k e w, (∀ i, e ≤ i → i < e + k → isD (T i) = true) → (w + 1) * 10 ^ k ≤ 10000 → ww T k e w = vv T k e w ∧ vv T k e w < (w + 1) * 10 ^ k := by
  intro k
  induction k with
  | zero => intro e w _ _; exact ⟨rfl, by unfold vv; omega⟩
  | succ k ih =>
    intro e w hd hw
    have h0 := hd e (by omega) (by omega)
    unfold isD at h0
    simp only [Bool.and_eq_true, decide_eq_true_eq] at h0
    have hk : 1 ≤ 10 ^ k := Nat.one_le_pow _ _ (by decide)
    have e1 : (w + 1) * 10 ^ (k + 1) = (10 * w + 10) * 10 ^ k := by rw [Nat.pow_succ, Nat.mul_comm (10 ^ k) 10, ← Nat.mul_assoc, show (w + 1) * 10 = 10 * w + 10 by omega]
    rw [e1] at hw ⊢
    have hw10 : 10 * w + 10 ≤ 10000 := Nat.le_trans (Nat.le_mul_of_pos_right _ hk) hw
    have hle : (10 * w + (T e - 48) + 1) * 10 ^ k ≤ (10 * w + 10) * 10 ^ k := Nat.mul_le_mul_right _ (by omega)
    obtain ⟨a1, a2⟩ := ih (e + 1) (10 * w + (T e - 48)) (fun i h1 h2 => hd i (by omega) (by omega)) (by omega)
    refine ⟨?_, ?_⟩
    · rw [ww, vv, Nat.min_eq_right (by omega)]; exact a1
    · rw [vv]; omega
theorem vv_lt {k e : Nat} (hd : ∀ i, e ≤ i → i < e + k → isD (T i) = true) (hk : k ≤ 4) : ww T k e 0 = vv T k e 0 ∧ vv T k e 0 < 10000 := by
  have h : 10 ^ k ≤ 10 ^ 4 := Nat.pow_le_pow_right (by decide) hk
  have := vv_ww k e 0 hd (by omega)
  omega
theorem rq_digits : ∀ k f e w, ∀ μ : sp_St, mTx T N μ → μ.1 0 16 = nI e → μ.1 0 19 = nI w → w ≤ 100000 → eR isD T N e = e + k → e ≤ N → k < f → X12_stepOn_123 n f μ = X12_stepOn_178 n (sp_si (sp_si μ 0 19 (nI (ww T k e w))) 0 16 (nI (e + k))) := by
  intro k
  induction k with
  | zero =>
    intro f e w μ h h16 h19 hw hk he hf
    obtain ⟨f, rfl⟩ : ∃ g, f = g + 1 := ⟨f - 1, by omega⟩
    show X12_stepOn_123 n (f + 1) μ = X12_stepOn_178 n (sp_si (sp_si μ 0 19 (nI w)) 0 16 (nI e))
    rw [si_self h19, si_self h16]
    by_cases hN : e = N
    · subst hN
      rw [X12_stepOn_123, h16, rq_byteN h, sp_bd_s, rq_isDm, sp_bd_s, if_pos (show bI false = 0 by decide)]
    · have hlt := (h.2.2 e (by omega)).2
      cases p : isD (T e) with
      | true =>
        rw [eR_t (by omega) p] at hk
        have := (eR_b (P := isD) (T := T) (N := N) (N - (e + 1)) (e + 1) rfl (by omega)).1
        omega
      | false => rw [X12_stepOn_123, h16, rq_byte h (by omega), sp_bd_s, rq_isDigit hlt, sp_bd_s, p, if_pos (show bI false = 0 by decide)]
  | succ k ih =>
    intro f e w μ h h16 h19 hw hk he hf
    obtain ⟨f, rfl⟩ : ∃ g, f = g + 1 := ⟨f - 1, by omega⟩
    have hN : e < N := by
      by_cases hN : e = N
      · subst hN; rw [eR_N] at hk; omega
      · omega
    have hlt := (h.2.2 e hN).2
    cases p : isD (T e) with
    | false => rw [eR_f hN p] at hk; omega
    | true =>
      rw [eR_t hN p] at hk
      have h0 := p
      unfold isD at h0
      simp only [Bool.and_eq_true, decide_eq_true_eq] at h0
      have ev : sp_min ((100000 : Int32)) (((((10 : Int32)) * nI w) + nI (T e)) - ((48 : Int32))) = nI (min 100000 (10 * w + (T e - 48))) := by
        have e1 : ((((10 : Int32)) * nI w) + nI (T e)) - ((48 : Int32)) = nI (10 * w + (T e - 48)) := by
          show nI 10 * nI w + nI (T e) - nI 48 = _
          rw [pk_mul, nI_add, qn_sub (by omega)]
          exact congrArg nI (by omega)
        rw [e1]
        unfold sp_min
        show (if nI (10 * w + (T e - 48)) < nI 100000 then _ else nI 100000) = _
        by_cases hm : 10 * w + (T e - 48) < 100000
        · rw [if_pos (by rw [qn_lt (by omega) (by omega)]; exact hm), Nat.min_eq_right (by omega)]
        · rw [if_neg (by rw [qn_lt (by omega) (by omega)]; exact hm), Nat.min_eq_left (by omega)]
      rw [X12_stepOn_123, h16, rq_byte h hN, sp_bd_s, rq_isDigit hlt, sp_bd_s, p, if_neg (by decide), h16, rq_byte h hN, sp_bd_s, h19, ev, sp_pl, sp_pl, sp_pl, show (sp_si μ 0 19 (nI (min 100000 (10 * w + (T e - 48))))).1 0 16 = nI e by rw [sp_si_ne (by omega)]; exact h16, show nI e + 1 = nI (e + 1) from nI_add e 1]
      rw [ih f (e + 1) (min 100000 (10 * w + (T e - 48))) _ (mTx_si (mTx_si h (by omega)) (by omega)) sp_si_eq (by rw [sp_si_ne (by omega)]; exact sp_si_eq) (by omega) (by omega) (by omega) (by omega), ww]
      congr 1
      unfold sp_si
      refine Prod.ext ?_ rfl
      funext q j
      simp only []
      by_cases h1 : q = 0 ∧ j = 16
      · simp [h1]; exact congrArg nI (by omega)
      · by_cases h2 : q = 0 ∧ j = 19
        · simp [h2]
        · simp [h1, h2]
theorem cq_value (h : cTx T N σ) : ∀ k f e w, (∀ i, e ≤ i → i < e + k → isD (T i) = true) → e + k ≤ N → k < f → X10_valueOf_16 n f σ (nI (e + k)) (nI w) (nI e) = some (σ, nI (vv T k e w)) := by
  obtain ⟨h1, h2, h3⟩ := h
  intro k
  induction k with
  | zero =>
    intro f e w _ hN hf
    obtain ⟨f, rfl⟩ : ∃ g, f = g + 1 := ⟨f - 1, by omega⟩
    simp (disch := first | assumption | omega | exact hX _ | exact hY _ _ | exact hZ _ | fail) only [X10_valueOf_16, X10_valueOf_44, vv, Nat.add_zero, sp_pl, sp_ckt, sp_bd_s, sp_bv_s, qn_l, nI_add, qn_sub, pk_mul, qn_le, qn_lt, qn_eq, qn_in, qn_g, nI_clamp, qn_and31, qn_sl, qn_sr, qn_b0, qn_b1, sp_zb0, sp_zb1, if_true, if_false, if_pos, if_neg, reduceIte, not_true_eq_false, not_false_eq_true, decide_true, decide_false, Bool.false_eq_true, Bool.not_true, Bool.not_false, Bool.true_eq_false, eq_self, qn_meq, qn_of, Nat.reduceEqDiff, Nat.reduceLT, Nat.reduceLeDiff, Nat.reduceAdd, Nat.reduceSub, Nat.reduceMul, Nat.reducePow, or_self, or_false, or_true, false_or, true_or, and_true, true_and, and_false, false_and, and_self, Nat.le_refl]
  | succ k ih =>
    intro f e w hd hN hf
    obtain ⟨f, rfl⟩ : ∃ g, f = g + 1 := ⟨f - 1, by omega⟩
    have hb := (h3 e (by omega)).1
    have hlt := (h3 e (by omega)).2
    have h0 := hd e (by omega) (by omega)
    unfold isD at h0
    simp only [Bool.and_eq_true, decide_eq_true_eq] at h0
    have e1 : nI w * nI 10 + nI (T e) - nI 48 = nI (10 * w + (T e - 48)) := by
      rw [pk_mul, nI_add, qn_sub (by omega)]
      exact congrArg nI (by omega)
    rw [vv, show e + (k + 1) = e + 1 + k by omega]
    rw [X10_valueOf_16, if_neg (by rw [qn_le (by omega) (by omega)]; omega), qn_in (by omega) (by omega), sp_ckt, qn_g (by omega), hb, sp_pl, sp_pl]
    show X10_valueOf_16 n f σ (nI (e + 1 + k)) (nI w * nI 10 + nI (T e) - nI 48) (nI e + nI 1) = _
    rw [e1, nI_add]
    exact ih f (e + 1) (10 * w + (T e - 48)) (fun i h1 h2 => hd i (by omega) (by omega)) (by omega) (by omega)
end
