-- ===== the class's scene: who is on top, what room there is, one set anew =====
def qfp (lo hi : Nat) (σ τ : sp_St) : Prop := τ.2.1 = σ.2.1 ∧ τ.2.2.2 = σ.2.2.2 ∧ ∀ p, p < lo ∨ hi < p → τ.1 p = σ.1 p ∧ τ.2.2.1 p = σ.2.2.1 p
theorem qfp_refl {lo hi : Nat} (σ : sp_St) : qfp lo hi σ σ := ⟨rfl, rfl, fun _ _ => ⟨rfl, rfl⟩⟩
theorem qfp_trans {a b : Nat} {σ τ υ : sp_St} (h : qfp a b σ τ) (g : qfp a b τ υ) : qfp a b σ υ := ⟨g.1.trans h.1, g.2.1.trans h.2.1, fun p hp => ⟨(g.2.2 p hp).1.trans (h.2.2 p hp).1, (g.2.2 p hp).2.trans (h.2.2 p hp).2⟩⟩
theorem qfp_mono {a b c d : Nat} {σ τ : sp_St} (h : qfp a b σ τ) (h1 : c ≤ a) (h2 : b ≤ d) : qfp c d σ τ := ⟨h.1, h.2.1, fun p hp => h.2.2 p (by omega)⟩
theorem qfp_sa {a b p i : Nat} {σ : sp_St} {v : Int32} (h1 : a ≤ p) (h2 : p ≤ b) : qfp a b σ (sp_sa σ p i v) := by
  refine ⟨rfl, rfl, fun q hq => ⟨rfl, ?_⟩⟩
  funext j
  show (if q = p ∧ j = i then v else σ.2.2.1 q j) = σ.2.2.1 q j
  rw [if_neg (by omega)]
theorem qfp_si {a b p i : Nat} {σ : sp_St} {v : Int32} (h1 : a ≤ p) (h2 : p ≤ b) : qfp a b σ (sp_si σ p i v) := by
  refine ⟨rfl, rfl, fun q hq => ⟨?_, rfl⟩⟩
  funext j
  show (if q = p ∧ j = i then v else σ.1 q j) = σ.1 q j
  rw [if_neg (by omega)]
theorem qfp_fr {a b t : Nat} {σ τ : sp_St} (h : qfp a b σ τ) (h1 : t ≤ a) (h2 : b ≤ t + 6) : qfr t σ τ := ⟨h.1, h.2.1, fun p hp => h.2.2 p (by omega)⟩
theorem qfr_fp {t : Nat} {σ τ : sp_St} (h : qfr t σ τ) : qfp t (t + 6) σ τ := h
def qu (sc : Nat → Nat) (k v : Nat) : Nat → Nat := fun j => if j = k then v else sc j
section
variable {σ : sp_St} {t c n : Nat} {ct : Nat → Nat → Nat} {cd : List Nat × List Nat} {sc : Nat → Nat}
theorem qSC_oth {τ : sp_St} {a b : Nat} (h : qSC σ t c ct cd sc) (g : qfp a b σ τ) (ha : t + 2 ≤ a) (hb : b ≤ t + 6) : qSC τ t c ct cd sc :=
  qSC_fr h (qfp_fr g (by omega) hb) (fun k hk => by rw [(g.2.2 (t + 1) (by omega)).2]; exact h.2.2.2.2.1 k hk) h.2.2.2.2.2.2
theorem qSC_set {k v : Nat} (h : qSC σ t c ct cd sc) (hv : v < 1048576) : qSC (sp_sa σ (t + 1) k (nI v)) t c ct cd (qu sc k v) := by
  refine qSC_fr h (qfr_sa (by omega) (by omega)) (fun j hj => ?_) (fun j => ?_)
  · rw [sp_sa_g]
    unfold qu
    by_cases e : j = k
    · simp [e]
    · simp [e]; exact h.2.2.2.2.1 j hj
  · unfold qu
    split
    · exact hv
    · exact h.2.2.2.2.2.2 j
def qtop (sc : Nat → Nat) (s : Nat) : Nat → Option Nat
  | 0 => none
  | b + 1 => if sc (10 + b) = s + 1 then (match qtop sc s b with
    | none => some b
    | some x => if sc (20 + b) ≤ sc (20 + x) then some x else some b) else qtop sc s b
theorem qtop_no : ∀ {N s : Nat} {sc : Nat → Nat}, qtop sc s N = none → ∀ b, b < N → ¬ sc (10 + b) = s + 1 := by
  intro N
  induction N with
  | zero => intro s sc h b hb; omega
  | succ N ih =>
    intro s sc h b hb
    unfold qtop at h
    by_cases h1 : sc (10 + N) = s + 1
    · rw [if_pos h1] at h
      cases h2 : qtop sc s N with
      | none => rw [h2] at h; cases h
      | some y =>
        rw [h2] at h
        dsimp only at h
        split at h <;> cases h
    · rw [if_neg h1] at h
      by_cases hbN : b = N
      · subst hbN; exact h1
      · exact ih h b (by omega)
theorem qtop_lt : ∀ {N x s : Nat} {sc : Nat → Nat}, qtop sc s N = some x → x < N ∧ sc (10 + x) = s + 1 ∧ ∀ b, b < N → sc (10 + b) = s + 1 → sc (20 + b) ≤ sc (20 + x) := by
  intro N
  induction N with
  | zero => intro x s sc h; cases h
  | succ N ih =>
    intro x s sc h
    unfold qtop at h
    by_cases h1 : sc (10 + N) = s + 1
    · rw [if_pos h1] at h
      cases h2 : qtop sc s N with
      | none =>
        rw [h2] at h
        cases h
        refine ⟨by omega, h1, fun b hb hp => ?_⟩
        by_cases hbN : b = N
        · subst hbN; exact Nat.le_refl _
        · exact absurd hp (qtop_no h2 b (by omega))
      | some y =>
        rw [h2] at h
        obtain ⟨a1, a2, a3⟩ := ih h2
        dsimp only at h
        by_cases h3 : sc (20 + N) ≤ sc (20 + y)
        · rw [if_pos h3] at h
          cases h
          refine ⟨by omega, a2, fun b hb hp => ?_⟩
          by_cases hbN : b = N
          · subst hbN; exact h3
          · exact a3 b (by omega) hp
        · rw [if_neg h3] at h
          cases h
          refine ⟨by omega, h1, fun b hb hp => ?_⟩
          by_cases hbN : b = N
          · subst hbN; exact Nat.le_refl _
          · have := a3 b (by omega) hp
            omega
    · rw [if_neg h1] at h
      obtain ⟨a1, a2, a3⟩ := ih h
      refine ⟨by omega, a2, fun b hb hp => ?_⟩
      by_cases hbN : b = N
      · subst hbN; exact absurd hp h1
      · exact a3 b (by omega) hp
theorem sq_top (h : qSC σ t c ct cd sc) (hn : 100 ≤ n) {s : Nat} (hs : s < 5) : X8_top n σ t (nI s) = some (σ, qe (qtop sc s (ct 0 13))) := by
  have h0 := h
  obtain ⟨ht, hc, hi, ⟨hnb, hns, hpt, hA1, hA2, hA3, hA4, hA5, hA6, hA7, hR1, hR2⟩, hS, ⟨hb10, hs5, hG, hH, hL, hU, hO⟩, hB⟩ := h
  have hX := fun k => Nat.lt_trans (hB k) (by decide : (1048576 : Nat) < 2 ^ 31)
  have hY : ∀ p k, ct p k < 2 ^ 31 := fun p k => Nat.lt_trans (hG p k) (by decide)
  simp (disch := first | assumption | omega | exact hX _ | exact hY _ _ | exact hZ _ | fail) only [X8_top, sp_pl, sp_ckt, sp_bd_s, sp_bv_s, qn_l, nI_add, qn_sub, pk_mul, qn_le, qn_lt, qn_eq, qn_in, qn_g, nI_clamp, qn_and31, qn_sl, qn_sr, qn_b0, qn_b1, sp_zb0, sp_zb1, if_true, if_false, if_pos, if_neg, reduceIte, not_true_eq_false, not_false_eq_true, decide_true, decide_false, Bool.false_eq_true, Bool.not_true, Bool.not_false, Bool.true_eq_false, eq_self, qn_meq, qn_of]
  refine lp_up (fun f i => X8_top_4 n t f σ (nI s) (qe (qtop sc s i)) (nI i)) (ct 0 13) _ (fun f => ?_) (fun f i hi2 => ?_) n 0 (by omega) (by omega)
  · simp (disch := first | assumption | omega | exact hX _ | exact hY _ _ | exact hZ _ | fail) only [X8_top_4, X8_top_64, hc, hi, hnb, sp_pl, sp_ckt, sp_bd_s, sp_bv_s, qn_l, nI_add, qn_sub, pk_mul, qn_le, qn_lt, qn_eq, qn_in, qn_g, nI_clamp, qn_and31, qn_sl, qn_sr, qn_b0, qn_b1, sp_zb0, sp_zb1, if_true, if_false, if_pos, if_neg, reduceIte, not_true_eq_false, not_false_eq_true, decide_true, decide_false, Bool.false_eq_true, Bool.not_true, Bool.not_false, Bool.true_eq_false, eq_self, qn_meq, qn_of, Nat.le_refl]
  · simp (disch := first | assumption | omega | exact hX _ | exact hY _ _ | exact hZ _ | fail) only [X8_top_4, X8_top_56, X8_top_58, hc, hi, hnb, sp_pl, sp_ckt, sp_bd_s, sp_bv_s, qn_l, nI_add, qn_sub, pk_mul, qn_le, qn_lt, qn_eq, qn_in, qn_g, nI_clamp, qn_and31, qn_sl, qn_sr, qn_b0, qn_b1, sp_zb0, sp_zb1, if_true, if_false, if_pos, if_neg, reduceIte, not_true_eq_false, not_false_eq_true, decide_true, decide_false, Bool.false_eq_true, Bool.not_true, Bool.not_false, Bool.true_eq_false, eq_self, qn_meq, qn_of, hS, Nat.not_le.mpr hi2]
    by_cases h1 : sc (10 + i) = s + 1
    · cases h2 : qtop sc s i with
      | none => simp (disch := first | assumption | omega | exact hX _ | exact hY _ _ | exact hZ _ | fail) only [h1, h2, qe, qtop, sp_pl, sp_ckt, sp_bd_s, sp_bv_s, qn_l, nI_add, qn_sub, pk_mul, qn_le, qn_lt, qn_eq, qn_in, qn_g, nI_clamp, qn_and31, qn_sl, qn_sr, qn_b0, qn_b1, sp_zb0, sp_zb1, if_true, if_false, if_pos, if_neg, reduceIte, not_true_eq_false, not_false_eq_true, decide_true, decide_false, Bool.false_eq_true, Bool.not_true, Bool.not_false, Bool.true_eq_false, eq_self, qn_meq, qn_of]
      | some x =>
        have hx := (qtop_lt h2).1
        simp (disch := first | assumption | omega | exact hX _ | exact hY _ _ | exact hZ _ | fail) only [h1, h2, qe, qtop, sp_pl, sp_ckt, sp_bd_s, sp_bv_s, qn_l, nI_add, qn_sub, pk_mul, qn_le, qn_lt, qn_eq, qn_in, qn_g, nI_clamp, qn_and31, qn_sl, qn_sr, qn_b0, qn_b1, sp_zb0, sp_zb1, if_true, if_false, if_pos, if_neg, reduceIte, not_true_eq_false, not_false_eq_true, decide_true, decide_false, Bool.false_eq_true, Bool.not_true, Bool.not_false, Bool.true_eq_false, eq_self, qn_meq, qn_of, hS]
        by_cases h3 : sc (20 + i) ≤ sc (20 + x)
        · simp only [h3, if_true, qe]
        · simp only [h3, if_false, qe]
    · simp (disch := first | assumption | omega | exact hX _ | exact hY _ _ | exact hZ _ | fail) only [h1, qtop, sp_pl, sp_ckt, sp_bd_s, sp_bv_s, qn_l, nI_add, qn_sub, pk_mul, qn_le, qn_lt, qn_eq, qn_in, qn_g, nI_clamp, qn_and31, qn_sl, qn_sr, qn_b0, qn_b1, sp_zb0, sp_zb1, if_true, if_false, if_pos, if_neg, reduceIte, not_true_eq_false, not_false_eq_true, decide_true, decide_false, Bool.false_eq_true, Bool.not_true, Bool.not_false, Bool.true_eq_false, eq_self, qn_meq, qn_of]
theorem sq_bladesAbove (h : qSC σ t c ct cd sc) (hn : 100 ≤ n) {b : Nat} (hb : b < 10) : X8_bladesAbove n σ t (nI b) = some (σ, nI (bs (fun k => decide (sc (10 + k) = sc (10 + b)) && decide (sc (20 + b) < sc (20 + k))) (ct 0 13))) := by
  have h0 := h
  obtain ⟨ht, hc, hi, ⟨hnb, hns, hpt, hA1, hA2, hA3, hA4, hA5, hA6, hA7, hR1, hR2⟩, hS, ⟨hb10, hs5, hG, hH, hL, hU, hO⟩, hB⟩ := h
  have hX := fun k => Nat.lt_trans (hB k) (by decide : (1048576 : Nat) < 2 ^ 31)
  have hY : ∀ p k, ct p k < 2 ^ 31 := fun p k => Nat.lt_trans (hG p k) (by decide)
  simp (disch := first | assumption | omega | exact hX _ | exact hY _ _ | exact hZ _ | fail) only [X8_bladesAbove, sp_pl, sp_ckt, sp_bd_s, sp_bv_s, qn_l, nI_add, qn_sub, pk_mul, qn_le, qn_lt, qn_eq, qn_in, qn_g, nI_clamp, qn_and31, qn_sl, qn_sr, qn_b0, qn_b1, sp_zb0, sp_zb1, if_true, if_false, if_pos, if_neg, reduceIte, not_true_eq_false, not_false_eq_true, decide_true, decide_false, Bool.false_eq_true, Bool.not_true, Bool.not_false, Bool.true_eq_false, eq_self, qn_meq, qn_of]
  refine lp_up (fun f i => X8_bladesAbove_4 n t f σ (nI b) (nI (bs (fun k => decide (sc (10 + k) = sc (10 + b)) && decide (sc (20 + b) < sc (20 + k))) i)) (nI i)) (ct 0 13) _ (fun f => ?_) (fun f i hi2 => ?_) n 0 (by omega) (by omega)
  · simp (disch := first | assumption | omega | exact hX _ | exact hY _ _ | exact hZ _ | fail) only [X8_bladesAbove_4, X8_bladesAbove_69, hc, hi, hnb, sp_pl, sp_ckt, sp_bd_s, sp_bv_s, qn_l, nI_add, qn_sub, pk_mul, qn_le, qn_lt, qn_eq, qn_in, qn_g, nI_clamp, qn_and31, qn_sl, qn_sr, qn_b0, qn_b1, sp_zb0, sp_zb1, if_true, if_false, if_pos, if_neg, reduceIte, not_true_eq_false, not_false_eq_true, decide_true, decide_false, Bool.false_eq_true, Bool.not_true, Bool.not_false, Bool.true_eq_false, eq_self, qn_meq, qn_of, Nat.le_refl]
  · simp (disch := first | assumption | omega | exact hX _ | exact hY _ _ | exact hZ _ | fail) only [X8_bladesAbove_4, X8_bladesAbove_63, hc, hi, hnb, sp_pl, sp_ckt, sp_bd_s, sp_bv_s, qn_l, nI_add, qn_sub, pk_mul, qn_le, qn_lt, qn_eq, qn_in, qn_g, nI_clamp, qn_and31, qn_sl, qn_sr, qn_b0, qn_b1, sp_zb0, sp_zb1, if_true, if_false, if_pos, if_neg, reduceIte, not_true_eq_false, not_false_eq_true, decide_true, decide_false, Bool.false_eq_true, Bool.not_true, Bool.not_false, Bool.true_eq_false, eq_self, qn_meq, qn_of, hS, Nat.not_le.mpr hi2, qn_or]
    by_cases h1 : sc (10 + i) = sc (10 + b)
    · by_cases h2 : sc (20 + i) ≤ sc (20 + b)
      · have h3 : ¬ sc (20 + b) < sc (20 + i) := by omega
        simp (disch := first | assumption | omega | exact hX _ | exact hY _ _ | exact hZ _ | fail) only [h1, h2, h3, sp_pl, sp_ckt, sp_bd_s, sp_bv_s, qn_l, nI_add, qn_sub, pk_mul, qn_le, qn_lt, qn_eq, qn_in, qn_g, nI_clamp, qn_and31, qn_sl, qn_sr, qn_b0, qn_b1, sp_zb0, sp_zb1, if_true, if_false, if_pos, if_neg, reduceIte, not_true_eq_false, not_false_eq_true, decide_true, decide_false, Bool.false_eq_true, Bool.not_true, Bool.not_false, Bool.true_eq_false, eq_self, qn_meq, qn_of, bs, Bool.and_false]
      · have h3 : sc (20 + b) < sc (20 + i) := by omega
        simp (disch := first | assumption | omega | exact hX _ | exact hY _ _ | exact hZ _ | fail) only [h1, h2, h3, sp_pl, sp_ckt, sp_bd_s, sp_bv_s, qn_l, nI_add, qn_sub, pk_mul, qn_le, qn_lt, qn_eq, qn_in, qn_g, nI_clamp, qn_and31, qn_sl, qn_sr, qn_b0, qn_b1, sp_zb0, sp_zb1, if_true, if_false, if_pos, if_neg, reduceIte, not_true_eq_false, not_false_eq_true, decide_true, decide_false, Bool.false_eq_true, Bool.not_true, Bool.not_false, Bool.true_eq_false, eq_self, qn_meq, qn_of, bs, Bool.and_true]
    · simp (disch := first | assumption | omega | exact hX _ | exact hY _ _ | exact hZ _ | fail) only [h1, sp_pl, sp_ckt, sp_bd_s, sp_bv_s, qn_l, nI_add, qn_sub, pk_mul, qn_le, qn_lt, qn_eq, qn_in, qn_g, nI_clamp, qn_and31, qn_sl, qn_sr, qn_b0, qn_b1, sp_zb0, sp_zb1, if_true, if_false, if_pos, if_neg, reduceIte, not_true_eq_false, not_false_eq_true, decide_true, decide_false, Bool.false_eq_true, Bool.not_true, Bool.not_false, Bool.true_eq_false, eq_self, qn_meq, qn_of, bs, Bool.false_and]
theorem sq_angerOfAll (h : qSC σ t c ct cd sc) (hn : 100 ≤ n) : X8_angerOfAll n σ t = some (σ, nI (qs sc (ct 0 13))) := by
  have h0 := h
  obtain ⟨ht, hc, hi, ⟨hnb, hns, hpt, hA1, hA2, hA3, hA4, hA5, hA6, hA7, hR1, hR2⟩, hS, ⟨hb10, hs5, hG, hH, hL, hU, hO⟩, hB⟩ := h
  have hX := fun k => Nat.lt_trans (hB k) (by decide : (1048576 : Nat) < 2 ^ 31)
  have hY : ∀ p k, ct p k < 2 ^ 31 := fun p k => Nat.lt_trans (hG p k) (by decide)
  simp (disch := first | assumption | omega | exact hX _ | exact hY _ _ | exact hZ _ | fail) only [X8_angerOfAll, sp_pl, sp_ckt, sp_bd_s, sp_bv_s, qn_l, nI_add, qn_sub, pk_mul, qn_le, qn_lt, qn_eq, qn_in, qn_g, nI_clamp, qn_and31, qn_sl, qn_sr, qn_b0, qn_b1, sp_zb0, sp_zb1, if_true, if_false, if_pos, if_neg, reduceIte, not_true_eq_false, not_false_eq_true, decide_true, decide_false, Bool.false_eq_true, Bool.not_true, Bool.not_false, Bool.true_eq_false, eq_self, qn_meq, qn_of]
  refine lp_up (fun f i => X8_angerOfAll_4 n t f σ (nI (qs sc i)) (nI i)) (ct 0 13) _ (fun f => ?_) (fun f i hi2 => ?_) n 0 (by omega) (by omega)
  · simp (disch := first | assumption | omega | exact hX _ | exact hY _ _ | exact hZ _ | fail) only [X8_angerOfAll_4, X8_angerOfAll_30, hc, hi, hnb, sp_pl, sp_ckt, sp_bd_s, sp_bv_s, qn_l, nI_add, qn_sub, pk_mul, qn_le, qn_lt, qn_eq, qn_in, qn_g, nI_clamp, qn_and31, qn_sl, qn_sr, qn_b0, qn_b1, sp_zb0, sp_zb1, if_true, if_false, if_pos, if_neg, reduceIte, not_true_eq_false, not_false_eq_true, decide_true, decide_false, Bool.false_eq_true, Bool.not_true, Bool.not_false, Bool.true_eq_false, eq_self, qn_meq, qn_of, Nat.le_refl]
  · simp (disch := first | assumption | omega | exact hX _ | exact hY _ _ | exact hZ _ | fail) only [X8_angerOfAll_4, hc, hi, hnb, sp_pl, sp_ckt, sp_bd_s, sp_bv_s, qn_l, nI_add, qn_sub, pk_mul, qn_le, qn_lt, qn_eq, qn_in, qn_g, nI_clamp, qn_and31, qn_sl, qn_sr, qn_b0, qn_b1, sp_zb0, sp_zb1, if_true, if_false, if_pos, if_neg, reduceIte, not_true_eq_false, not_false_eq_true, decide_true, decide_false, Bool.false_eq_true, Bool.not_true, Bool.not_false, Bool.true_eq_false, eq_self, qn_meq, qn_of, hS, Nat.not_le.mpr hi2, qs]
/-- what is used of one's room -/
def qus (ct : Nat → Nat → Nat) (sc : Nat → Nat) (s : Nat) : Nat := qs (fun b => if sc (10 + b) = s + 1 then ct 2 b else 0) (ct 0 13)
theorem sq_leftN (h : qSC σ t c ct cd sc) (hn : 100 ≤ n) {s : Nat} (hs : s < 5) (hu : qus ct sc s ≤ sc (30 + s)) : X8_left n σ t (nI s) = some (σ, nI (sc (30 + s) - qus ct sc s)) := by
  rw [sq_left h hn hs]
  unfold qus at hu ⊢
  rw [qn_sub hu]
theorem sq_hasRoom (h : qSC σ t c ct cd sc) (hn : 100 ≤ n) {s b : Nat} (hs : s < 5) (hb : b < ct 0 13) (hu : qus ct sc s ≤ sc (30 + s)) : X8_hasRoom n σ t (nI s) (nI b) = some (σ, if qus ct sc s + ct 2 b ≤ sc (30 + s) then nI 1 else nI 0) := by
  have h0 := h
  have h0 := h
  obtain ⟨ht, hc, hi, ⟨hnb, hns, hpt, hA1, hA2, hA3, hA4, hA5, hA6, hA7, hR1, hR2⟩, hS, ⟨hb10, hs5, hG, hH, hL, hU, hO⟩, hB⟩ := h
  have hX := fun k => Nat.lt_trans (hB k) (by decide : (1048576 : Nat) < 2 ^ 31)
  have hY : ∀ p k, ct p k < 2 ^ 31 := fun p k => Nat.lt_trans (hG p k) (by decide)
  have := hX (30 + s)
  simp (disch := first | assumption | omega | exact hX _ | exact hY _ _ | exact hZ _ | fail) only [X8_hasRoom, sq_leftN h0 hn hs hu, hc, hi, sp_pl, sp_ckt, sp_bd_s, sp_bv_s, qn_l, nI_add, qn_sub, pk_mul, qn_le, qn_lt, qn_eq, qn_in, qn_g, nI_clamp, qn_and31, qn_sl, qn_sr, qn_b0, qn_b1, sp_zb0, sp_zb1, if_true, if_false, if_pos, if_neg, reduceIte, not_true_eq_false, not_false_eq_true, decide_true, decide_false, Bool.false_eq_true, Bool.not_true, Bool.not_false, Bool.true_eq_false, eq_self, qn_meq, qn_of, hA2]
  by_cases h1 : qus ct sc s + ct 2 b ≤ sc (30 + s)
  · have h2 : ¬ sc (30 + s) - qus ct sc s < ct 2 b := by omega
    simp (disch := first | assumption | omega | exact hX _ | exact hY _ _ | exact hZ _ | fail) only [h1, h2, sp_pl, sp_ckt, sp_bd_s, sp_bv_s, qn_l, nI_add, qn_sub, pk_mul, qn_le, qn_lt, qn_eq, qn_in, qn_g, nI_clamp, qn_and31, qn_sl, qn_sr, qn_b0, qn_b1, sp_zb0, sp_zb1, if_true, if_false, if_pos, if_neg, reduceIte, not_true_eq_false, not_false_eq_true, decide_true, decide_false, Bool.false_eq_true, Bool.not_true, Bool.not_false, Bool.true_eq_false, eq_self, qn_meq, qn_of]
  · have h2 : sc (30 + s) - qus ct sc s < ct 2 b := by omega
    simp (disch := first | assumption | omega | exact hX _ | exact hY _ _ | exact hZ _ | fail) only [h1, h2, sp_pl, sp_ckt, sp_bd_s, sp_bv_s, qn_l, nI_add, qn_sub, pk_mul, qn_le, qn_lt, qn_eq, qn_in, qn_g, nI_clamp, qn_and31, qn_sl, qn_sr, qn_b0, qn_b1, sp_zb0, sp_zb1, if_true, if_false, if_pos, if_neg, reduceIte, not_true_eq_false, not_false_eq_true, decide_true, decide_false, Bool.false_eq_true, Bool.not_true, Bool.not_false, Bool.true_eq_false, eq_self, qn_meq, qn_of]
theorem sq_putInto (h : qSC σ t c ct cd sc) {s b : Nat} (hs : s < 5) (hb : b < 10) (h49 : sc 49 < 100000) : sp_wp (X8_putInto n σ t (nI b) (nI s)) (fun τ => qSC τ t c ct cd (qu (qu (qu sc 49 (sc 49 + 1)) (20 + b) (sc 49 + 1)) (10 + b) (s + 1)) ∧ qfp (t + 1) (t + 1) σ τ) := by
  have h0 := h
  have h0 := h
  obtain ⟨ht, hc, hi, ⟨hnb, hns, hpt, hA1, hA2, hA3, hA4, hA5, hA6, hA7, hR1, hR2⟩, hS, ⟨hb10, hs5, hG, hH, hL, hU, hO⟩, hB⟩ := h
  have hX := fun k => Nat.lt_trans (hB k) (by decide : (1048576 : Nat) < 2 ^ 31)
  have hY : ∀ p k, ct p k < 2 ^ 31 := fun p k => Nat.lt_trans (hG p k) (by decide)
  simp (disch := first | assumption | omega | exact hX _ | exact hY _ _ | exact hZ _ | fail) only [X8_putInto, sp_pl, sp_ckt, sp_bd_s, sp_bv_s, qn_l, nI_add, qn_sub, pk_mul, qn_le, qn_lt, qn_eq, qn_in, qn_g, nI_clamp, qn_and31, qn_sl, qn_sr, qn_b0, qn_b1, sp_zb0, sp_zb1, if_true, if_false, if_pos, if_neg, reduceIte, not_true_eq_false, not_false_eq_true, decide_true, decide_false, Bool.false_eq_true, Bool.not_true, Bool.not_false, Bool.true_eq_false, eq_self, qn_meq, qn_of, hS, sp_sa_g, and_self]
  refine wp_some.mpr ⟨?_, ?_⟩
  · exact qSC_set (qSC_set (qSC_set h0 (by omega)) (by omega)) (by omega)
  · exact qfp_trans (qfp_trans (qfp_sa (by omega) (by omega)) (qfp_sa (by omega) (by omega))) (qfp_sa (by omega) (by omega))
/-- the first with room for one -/
def qroom (ct : Nat → Nat → Nat) (sc : Nat → Nat) (b : Nat) : Option Nat := qf (fun s => decide (qus ct sc s + ct 2 b ≤ sc (30 + s))) (ct 0 14) 0
def qput (sc : Nat → Nat) (b s : Nat) : Nat → Nat := qu (qu (qu sc 49 (sc 49 + 1)) (20 + b) (sc 49 + 1)) (10 + b) (s + 1)
def qputL (ct : Nat → Nat → Nat) (sc : Nat → Nat) (b : Nat) : Nat → Nat := match qroom ct sc b with
  | none => sc
  | some s => qput sc b s
theorem sq_putIntoLeast (h : qSC σ t c ct cd sc) (hn : 100 ≤ n) {b : Nat} (hb : b < ct 0 13) (h49 : sc 49 < 100000) (hu : ∀ s, s < ct 0 14 → qus ct sc s ≤ sc (30 + s)) : sp_wp (X8_putIntoLeast n σ t (nI b)) (fun τ => qSC τ t c ct cd (qputL ct sc b) ∧ qfp (t + 1) (t + 1) σ τ) := by
  have h0 := h
  have h0 := h
  obtain ⟨ht, hc, hi, ⟨hnb, hns, hpt, hA1, hA2, hA3, hA4, hA5, hA6, hA7, hR1, hR2⟩, hS, ⟨hb10, hs5, hG, hH, hL, hU, hO⟩, hB⟩ := h
  have hX := fun k => Nat.lt_trans (hB k) (by decide : (1048576 : Nat) < 2 ^ 31)
  have hY : ∀ p k, ct p k < 2 ^ 31 := fun p k => Nat.lt_trans (hG p k) (by decide)
  simp (disch := first | assumption | omega | exact hX _ | exact hY _ _ | exact hZ _ | fail) only [X8_putIntoLeast, sp_pl, sp_ckt, sp_bd_s, sp_bv_s, qn_l, nI_add, qn_sub, pk_mul, qn_le, qn_lt, qn_eq, qn_in, qn_g, nI_clamp, qn_and31, qn_sl, qn_sr, qn_b0, qn_b1, sp_zb0, sp_zb1, if_true, if_false, if_pos, if_neg, reduceIte, not_true_eq_false, not_false_eq_true, decide_true, decide_false, Bool.false_eq_true, Bool.not_true, Bool.not_false, Bool.true_eq_false, eq_self, qn_meq, qn_of]
  have := lp_find (fun f i => X8_putIntoLeast_2 n t f σ (nI b) (nI i)) (ct 0 14) (fun s => decide (qus ct sc s + ct 2 b ≤ sc (30 + s))) (some σ) (fun s => X8_putInto n σ t (nI b) (nI s)) (fun f => ?_) (fun f i hi2 => ?_) n 0 (by omega) (by omega)
  · rw [this]
    unfold qputL qroom
    rw [Nat.sub_zero]
    cases e : qf (fun s => decide (qus ct sc s + ct 2 b ≤ sc (30 + s))) (ct 0 14) 0 with
    | none => exact wp_of rfl ⟨h0, qfp_refl σ⟩
    | some s =>
      obtain ⟨_, a2, a3, _⟩ := qf_some e
      exact sq_putInto h0 (by omega) (by omega) h49
  · simp (disch := first | assumption | omega | exact hX _ | exact hY _ _ | exact hZ _ | fail) only [X8_putIntoLeast_2, hc, hi, hns, sp_pl, sp_ckt, sp_bd_s, sp_bv_s, qn_l, nI_add, qn_sub, pk_mul, qn_le, qn_lt, qn_eq, qn_in, qn_g, nI_clamp, qn_and31, qn_sl, qn_sr, qn_b0, qn_b1, sp_zb0, sp_zb1, if_true, if_false, if_pos, if_neg, reduceIte, not_true_eq_false, not_false_eq_true, decide_true, decide_false, Bool.false_eq_true, Bool.not_true, Bool.not_false, Bool.true_eq_false, eq_self, qn_meq, qn_of, Nat.le_refl]
  · simp (disch := first | assumption | omega | exact hX _ | exact hY _ _ | exact hZ _ | fail) only [X8_putIntoLeast_2, X8_putIntoLeast_22, hc, hi, hns, sp_pl, sp_ckt, sp_bd_s, sp_bv_s, qn_l, nI_add, qn_sub, pk_mul, qn_le, qn_lt, qn_eq, qn_in, qn_g, nI_clamp, qn_and31, qn_sl, qn_sr, qn_b0, qn_b1, sp_zb0, sp_zb1, if_true, if_false, if_pos, if_neg, reduceIte, not_true_eq_false, not_false_eq_true, decide_true, decide_false, Bool.false_eq_true, Bool.not_true, Bool.not_false, Bool.true_eq_false, eq_self, qn_meq, qn_of, Nat.not_le.mpr hi2, sq_hasRoom h0 hn (show i < 5 by omega) hb (hu i hi2)]
    by_cases h1 : qus ct sc i + ct 2 b ≤ sc (30 + i)
    · simp (disch := first | assumption | omega | exact hX _ | exact hY _ _ | exact hZ _ | fail) only [h1, sp_pl, sp_ckt, sp_bd_s, sp_bv_s, qn_l, nI_add, qn_sub, pk_mul, qn_le, qn_lt, qn_eq, qn_in, qn_g, nI_clamp, qn_and31, qn_sl, qn_sr, qn_b0, qn_b1, sp_zb0, sp_zb1, if_true, if_false, if_pos, if_neg, reduceIte, not_true_eq_false, not_false_eq_true, decide_true, decide_false, Bool.false_eq_true, Bool.not_true, Bool.not_false, Bool.true_eq_false, eq_self, qn_meq, qn_of]
      cases X8_putInto n σ t (nI b) (nI i) <;> rfl
    · simp (disch := first | assumption | omega | exact hX _ | exact hY _ _ | exact hZ _ | fail) only [h1, sp_pl, sp_ckt, sp_bd_s, sp_bv_s, qn_l, nI_add, qn_sub, pk_mul, qn_le, qn_lt, qn_eq, qn_in, qn_g, nI_clamp, qn_and31, qn_sl, qn_sr, qn_b0, qn_b1, sp_zb0, sp_zb1, if_true, if_false, if_pos, if_neg, reduceIte, not_true_eq_false, not_false_eq_true, decide_true, decide_false, Bool.false_eq_true, Bool.not_true, Bool.not_false, Bool.true_eq_false, eq_self, qn_meq, qn_of]
def qlet (ct : Nat → Nat → Nat) (sc : Nat → Nat) (s : Nat) : Nat → Nat := match qtop sc s (ct 0 13) with
  | none => sc
  | some b => qu sc (10 + b) 0
theorem sq_letTopOut (h : qSC σ t c ct cd sc) (hn : 100 ≤ n) {s : Nat} (hs : s < 5) : sp_wp (X8_letTopOut n σ t (nI s)) (fun τ => qSC τ t c ct cd (qlet ct sc s) ∧ qfp (t + 1) (t + 1) σ τ) := by
  have h0 := h
  have h0 := h
  obtain ⟨ht, hc, hi, ⟨hnb, hns, hpt, hA1, hA2, hA3, hA4, hA5, hA6, hA7, hR1, hR2⟩, hS, ⟨hb10, hs5, hG, hH, hL, hU, hO⟩, hB⟩ := h
  have hX := fun k => Nat.lt_trans (hB k) (by decide : (1048576 : Nat) < 2 ^ 31)
  have hY : ∀ p k, ct p k < 2 ^ 31 := fun p k => Nat.lt_trans (hG p k) (by decide)
  simp (disch := first | assumption | omega | exact hX _ | exact hY _ _ | exact hZ _ | fail) only [X8_letTopOut, X8_letTopOut_21, sq_top h0 hn hs, sp_pl, sp_ckt, sp_bd_s, sp_bv_s, qn_l, nI_add, qn_sub, pk_mul, qn_le, qn_lt, qn_eq, qn_in, qn_g, nI_clamp, qn_and31, qn_sl, qn_sr, qn_b0, qn_b1, sp_zb0, sp_zb1, if_true, if_false, if_pos, if_neg, reduceIte, not_true_eq_false, not_false_eq_true, decide_true, decide_false, Bool.false_eq_true, Bool.not_true, Bool.not_false, Bool.true_eq_false, eq_self, qn_meq, qn_of]
  unfold qlet
  cases e : qtop sc s (ct 0 13) with
  | none =>
    simp (disch := first | assumption | omega | exact hX _ | exact hY _ _ | exact hZ _ | fail) only [qe, sp_pl, sp_ckt, sp_bd_s, sp_bv_s, qn_l, nI_add, qn_sub, pk_mul, qn_le, qn_lt, qn_eq, qn_in, qn_g, nI_clamp, qn_and31, qn_sl, qn_sr, qn_b0, qn_b1, sp_zb0, sp_zb1, if_true, if_false, if_pos, if_neg, reduceIte, not_true_eq_false, not_false_eq_true, decide_true, decide_false, Bool.false_eq_true, Bool.not_true, Bool.not_false, Bool.true_eq_false, eq_self, qn_meq, qn_of]
    exact wp_of rfl ⟨h0, qfp_refl σ⟩
  | some b =>
    have := (qtop_lt e).1
    simp (disch := first | assumption | omega | exact hX _ | exact hY _ _ | exact hZ _ | fail) only [qe, sp_pl, sp_ckt, sp_bd_s, sp_bv_s, qn_l, nI_add, qn_sub, pk_mul, qn_le, qn_lt, qn_eq, qn_in, qn_g, nI_clamp, qn_and31, qn_sl, qn_sr, qn_b0, qn_b1, sp_zb0, sp_zb1, if_true, if_false, if_pos, if_neg, reduceIte, not_true_eq_false, not_false_eq_true, decide_true, decide_false, Bool.false_eq_true, Bool.not_true, Bool.not_false, Bool.true_eq_false, eq_self, qn_meq, qn_of]
    exact wp_of rfl ⟨qSC_set h0 (by omega), qfp_sa (by omega) (by omega)⟩
end
