-- ===== a day of the class's scene =====
def qang (ct : Nat → Nat → Nat) (cd : List Nat × List Nat) (sc : Nat → Nat) (i : Nat) : Nat → Nat := fun k => if k < i then (if sc (10 + k) = 0 then min 99 (sc k + qchg ct cd sc k) else sc k - qchg ct cd sc k) else sc k
def qres (sc : Nat → Nat) (i : Nat) : Nat → Nat := fun k => if 10 ≤ k ∧ k < 10 + i ∧ ¬ (sc k = 0 ∨ sc k = 6) ∧ sc (k - 10) = 0 then 6 else sc k
def qhic (ct : Nat → Nat → Nat) (sc : Nat → Nat) : Nat → Nat → Nat
  | 0 => sc
  | s + 1 => if ct 6 s = 0 then qhic ct sc s else if (sc 47 + 1) % ct 6 s = 0 then qlet ct (qhic ct sc s) s else qhic ct sc s
def qfoe1 (ct : Nat → Nat → Nat) (sc : Nat → Nat) (r b : Nat) : Option Nat := if r.testBit b then qf (fun o => r.testBit o && (sc (35 + ct 1 b)).testBit (ct 1 o)) (ct 0 13 - (b + 1)) (b + 1) else none
def qfig (sc : Nat → Nat) (a o : Nat) : Nat → Nat := qu (qu (qu sc a (sc a / 2)) o (sc o / 2)) 48 (sc 48 + 1)
def qrd (ct : Nat → Nat → Nat) (sc : Nat → Nat) : Nat := bs (fun b => decide (sc (10 + b) = 0) && decide (ct 0 16 ≤ sc b)) (ct 0 13)
def qfa (ct : Nat → Nat → Nat) (sc : Nat → Nat) : Nat → (Nat → Nat) × Nat × (Nat → Nat)
  | 0 => (sc, qrd ct sc, fun _ => 0)
  | b + 1 => match qfoe1 ct (qfa ct sc b).1 (qfa ct sc b).2.1 b with
    | none => qfa ct sc b
    | some o => (qfig (qfa ct sc b).1 b o, qd (qd (qfa ct sc b).2.1 (2 ^ b)) (2 ^ o), fun h => ((qfa ct sc b).2.2 h + if h = ct 1 b then 1 else 0) + if h = ct 1 o then 1 else 0)
def qd3 (ct : Nat → Nat → Nat) (cd : List Nat × List Nat) (sc : Nat → Nat) : Nat → Nat := qhic ct (qres (qang ct cd sc (ct 0 13)) (ct 0 13)) (ct 0 14)
def qday (ct : Nat → Nat → Nat) (cd : List Nat × List Nat) (sc : Nat → Nat) : Nat → Nat := qu (qfa ct (qd3 ct cd sc) (ct 0 13)).1 47 ((qfa ct (qd3 ct cd sc) (ct 0 13)).1 47 + 1)
def qfts (ct : Nat → Nat → Nat) (cd : List Nat × List Nat) (sc : Nat → Nat) (h : Nat) : Nat := (qfa ct (qd3 ct cd sc) (ct 0 13)).2.2 h
theorem qang_hi {ct : Nat → Nat → Nat} {cd : List Nat × List Nat} {sc : Nat → Nat} {i k : Nat} (h : i ≤ k) : qang ct cd sc i k = sc k := by
  unfold qang
  rw [if_neg (by omega)]
theorem qang_s {ct : Nat → Nat → Nat} {cd : List Nat × List Nat} {sc : Nat → Nat} {i : Nat} : qang ct cd sc (i + 1) = qu (qang ct cd sc i) i (if sc (10 + i) = 0 then min 99 (sc i + qchg ct cd sc i) else sc i - qchg ct cd sc i) := by
  funext k
  unfold qu qang
  by_cases e : k = i
  · subst e; rw [if_pos (by omega), if_pos rfl]
  · by_cases h : k < i
    · rw [if_pos (by omega), if_neg e, if_pos h]
    · rw [if_neg (by omega), if_neg e, if_neg h]
theorem qres_lo {sc : Nat → Nat} {i k : Nat} (h : k < 10 ∨ 10 + i ≤ k) : qres sc i k = sc k := by
  unfold qres
  rw [if_neg (by omega)]
theorem qres_n {sc : Nat → Nat} {i : Nat} (h : (sc (10 + i) = 0 ∨ sc (10 + i) = 6) ∨ ¬ sc i = 0) : qres sc (i + 1) = qres sc i := by
  funext k
  unfold qres
  by_cases e : k = 10 + i
  · subst e
    rw [if_neg (by rw [Nat.add_sub_cancel_left]; omega), if_neg (by omega)]
  · by_cases g : 10 ≤ k ∧ k < 10 + i ∧ ¬ (sc k = 0 ∨ sc k = 6) ∧ sc (k - 10) = 0
    · rw [if_pos g, if_pos ⟨g.1, by omega, g.2.2⟩]
    · rw [if_neg g, if_neg (fun x => g ⟨x.1, by omega, x.2.2⟩)]
theorem qres_y {sc : Nat → Nat} {i : Nat} (h : ¬ (sc (10 + i) = 0 ∨ sc (10 + i) = 6)) (h2 : sc i = 0) : qres sc (i + 1) = qu (qres sc i) (10 + i) 6 := by
  funext k
  unfold qres qu
  by_cases e : k = 10 + i
  · subst e
    rw [if_pos ⟨by omega, by omega, h, by rw [Nat.add_sub_cancel_left]; exact h2⟩, if_pos rfl]
  · rw [if_neg e]
    show _ = if 10 ≤ k ∧ k < 10 + i ∧ ¬ (sc k = 0 ∨ sc k = 6) ∧ sc (k - 10) = 0 then 6 else sc k
    by_cases g : 10 ≤ k ∧ k < 10 + i ∧ ¬ (sc k = 0 ∨ sc k = 6) ∧ sc (k - 10) = 0
    · rw [if_pos g, if_pos ⟨g.1, by omega, g.2.2⟩]
    · rw [if_neg g, if_neg (fun x => g ⟨x.1, by omega, x.2.2⟩)]
theorem qlet_oth {ct : Nat → Nat → Nat} {sc : Nat → Nat} {s k : Nat} (h : k < 10 ∨ 10 + ct 0 13 ≤ k) : qlet ct sc s k = sc k := by
  unfold qlet
  cases e : qtop sc s (ct 0 13) with
  | none => rfl
  | some b =>
    have := (qtop_lt e).1
    show qu sc (10 + b) 0 k = sc k
    unfold qu
    rw [if_neg (by omega)]
theorem qhic_oth {ct : Nat → Nat → Nat} {sc : Nat → Nat} {k : Nat} (h : k < 10 ∨ 10 + ct 0 13 ≤ k) : ∀ s, qhic ct sc s k = sc k := by
  intro s
  induction s with
  | zero => rfl
  | succ s ih =>
    unfold qhic
    split
    · exact ih
    · split
      · rw [qlet_oth h, ih]
      · exact ih
theorem qfoe1_lt {ct : Nat → Nat → Nat} {sc : Nat → Nat} {r b o : Nat} (h : qfoe1 ct sc r b = some o) : b < o ∧ o < ct 0 13 ∧ r.testBit b = true ∧ r.testBit o = true ∧ (sc (35 + ct 1 b)).testBit (ct 1 o) = true := by
  unfold qfoe1 at h
  by_cases e : r.testBit b = true
  · rw [if_pos e] at h
    obtain ⟨a1, a2, a3, _⟩ := qf_some h
    simp only [Bool.and_eq_true] at a3
    exact ⟨by omega, by omega, e, a3⟩
  · rw [if_neg e] at h
    cases h
theorem qfig_hi {sc : Nat → Nat} {a o k : Nat} (h : 10 ≤ k) (h8 : k ≠ 48) (ha : a < 10) (ho : o < 10) : qfig sc a o k = sc k := by
  unfold qfig qu
  rw [if_neg h8, if_neg (by omega), if_neg (by omega)]
theorem qfa_hi {ct : Nat → Nat → Nat} {sc : Nat → Nat} {k : Nat} (h10 : ct 0 13 ≤ 10) (h : 10 ≤ k) (h8 : k ≠ 48) : ∀ b, b ≤ ct 0 13 → (qfa ct sc b).1 k = sc k := by
  intro b
  induction b with
  | zero => intro _; rfl
  | succ b ih =>
    intro hb
    unfold qfa
    cases e : qfoe1 ct (qfa ct sc b).1 (qfa ct sc b).2.1 b with
    | none => exact ih (by omega)
    | some o =>
      obtain ⟨a1, a2, _⟩ := qfoe1_lt e
      show qfig (qfa ct sc b).1 b o k = sc k
      rw [qfig_hi h h8 (by omega) (by omega)]
      exact ih (by omega)
theorem qfa_48 {ct : Nat → Nat → Nat} {sc : Nat → Nat} (h10 : ct 0 13 ≤ 10) : ∀ b, b ≤ ct 0 13 → (qfa ct sc b).1 48 ≤ sc 48 + b := by
  intro b
  induction b with
  | zero => intro _; exact Nat.le_refl _
  | succ b ih =>
    intro hb
    have := ih (by omega)
    unfold qfa
    cases e : qfoe1 ct (qfa ct sc b).1 (qfa ct sc b).2.1 b with
    | none => show (qfa ct sc b).1 48 ≤ _; omega
    | some o =>
      show qfig (qfa ct sc b).1 b o 48 ≤ _
      unfold qfig qu
      rw [if_pos rfl]
      omega
theorem qfa_lo {ct : Nat → Nat → Nat} {sc : Nat → Nat} {k : Nat} (h10 : ct 0 13 ≤ 10) (hk : k < 10) : ∀ b, b ≤ ct 0 13 → (qfa ct sc b).1 k ≤ sc k := by
  intro b
  induction b with
  | zero => intro _; exact Nat.le_refl _
  | succ b ih =>
    intro hb
    have := ih (by omega)
    unfold qfa
    cases e : qfoe1 ct (qfa ct sc b).1 (qfa ct sc b).2.1 b with
    | none => exact this
    | some o =>
      show qfig (qfa ct sc b).1 b o k ≤ _
      unfold qfig qu
      rw [if_neg (by omega)]
      have h2 := Nat.div_le_self ((qfa ct sc b).1 k) 2
      by_cases e1 : k = o
      · have h3 : (qfa ct sc b).1 o = (qfa ct sc b).1 k := by rw [e1]
        rw [if_pos e1]; omega
      · rw [if_neg e1]
        by_cases e2 : k = b
        · have h3 : (qfa ct sc b).1 b = (qfa ct sc b).1 k := by rw [e2]
          rw [if_pos e2]; omega
        · rw [if_neg e2]; exact this
theorem qfa_r {ct : Nat → Nat → Nat} {sc : Nat → Nat} {k : Nat} (hk : ct 0 13 ≤ k) : ∀ b, ((qfa ct sc b).2.1).testBit k = false := by
  intro b
  induction b with
  | zero => show (qrd ct sc).testBit k = false; unfold qrd; rw [bs_t]; simp; omega
  | succ b ih =>
    unfold qfa
    cases e : qfoe1 ct (qfa ct sc b).1 (qfa ct sc b).2.1 b with
    | none => exact ih
    | some o => show (qd (qd (qfa ct sc b).2.1 (2 ^ b)) (2 ^ o)).testBit k = false; rw [qd_t, qd_t, ih]; rfl
theorem qfa_rlt {ct : Nat → Nat → Nat} {sc : Nat → Nat} (b : Nat) : (qfa ct sc b).2.1 < 2 ^ ct 0 13 := Nat.lt_pow_two_of_testBit _ fun _ h => qfa_r h b
section
variable {σ : sp_St} {t c n : Nat} {ct : Nat → Nat → Nat} {cd : List Nat × List Nat} {sc : Nat → Nat}
theorem sq_changeAngers (h : qSC σ t c ct cd sc) (hn : 1000 ≤ n) (hP : qP ct sc) (hD : qcd cd) (hA : ∀ b, b < ct 0 13 → sc b ≤ 99) : sp_wp (X8_changeAngers n σ t) (fun τ => qSC τ t c ct cd (qang ct cd sc (ct 0 13)) ∧ qfp (t + 1) (t + 6) σ τ ∧ τ.2.2.1 (t + 2) = σ.2.2.1 (t + 2)) := by
  have hb10 := h.2.2.2.2.2.1.1
  have hZ : ∀ k, sc k < 2 ^ 31 := fun k => Nat.lt_trans (h.2.2.2.2.2.2 k) (by decide)
  simp only [X8_changeAngers]
  refine wp_bv (wp_mono (sq_lookRound h (by omega) hP) ?_)
  rintro σ2 ⟨hat, hf⟩
  have h2 := qSC_oth h hf (by omega) (by omega)
  simp only [sp_pl, qn_l]
  refine lp_inv (fun f i s => X8_changeAngers_6 n t f s (nI i)) (fun i s => qfp (t + 4) (t + 6) σ2 s ∧ ∀ b, b < i → s.2.2.1 (t + 4) b = nI (qchg ct cd sc b)) (ct 0 13) _ (fun f s hI => ?_) (fun f i s hi2 hI k => ?_) n 0 σ2 (by omega) (by omega) ⟨qfp_refl σ2, fun b hb => by omega⟩
  · have h3 := qSC_oth h2 hI.1 (by omega) (by omega)
    have h := h3
    have h0 := h
    obtain ⟨ht, hc, hi, ⟨hnb, hns, hpt, hA1, hA2, hA3, hA4, hA5, hA6, hA7, hR1, hR2⟩, hS, ⟨hb10, hs5, hG, hH, hL, hU, hO⟩, hB⟩ := h
    have hX := fun k => Nat.lt_trans (hB k) (by decide : (1048576 : Nat) < 2 ^ 31)
    have hY : ∀ p k, ct p k < 2 ^ 31 := fun p k => Nat.lt_trans (hG p k) (by decide)
    simp (disch := first | assumption | omega | exact hX _ | exact hY _ _ | exact hZ _ | fail) only [X8_changeAngers_6, X8_changeAngers_34, hc, hi, hnb, sp_pl, sp_ckt, sp_bd_s, sp_bv_s, qn_l, nI_add, qn_sub, pk_mul, qn_le, qn_lt, qn_eq, qn_in, qn_g, nI_clamp, qn_and31, qn_sl, qn_sr, qn_b0, qn_b1, sp_zb0, sp_zb1, if_true, if_false, if_pos, if_neg, reduceIte, not_true_eq_false, not_false_eq_true, decide_true, decide_false, Bool.false_eq_true, Bool.not_true, Bool.not_false, Bool.true_eq_false, eq_self, qn_meq, qn_of, Nat.reduceEqDiff, Nat.reduceLT, Nat.reduceLeDiff, Nat.reduceAdd, Nat.reduceSub, Nat.reduceMul, Nat.reducePow, or_self, or_false, or_true, false_or, true_or, and_true, true_and, and_false, false_and, and_self, Nat.le_refl]
    refine lp_inv (fun f i s => X8_changeAngers_36 n t f s (nI i)) (fun i u => qSC u t c ct cd (qang ct cd sc i) ∧ qfp (t + 1) (t + 1) s u) (ct 0 13) _ (fun f u hJ => ?_) (fun f i u hi2 hJ k => ?_) n 0 s (by omega) (by omega) ⟨h3, qfp_refl s⟩
    · have h := hJ.1
      have h0 := h
      obtain ⟨ht, hc, hi, ⟨hnb, hns, hpt, hA1, hA2, hA3, hA4, hA5, hA6, hA7, hR1, hR2⟩, hS, ⟨hb10, hs5, hG, hH, hL, hU, hO⟩, hB⟩ := h
      have hX := fun k => Nat.lt_trans (hB k) (by decide : (1048576 : Nat) < 2 ^ 31)
      have hY : ∀ p k, ct p k < 2 ^ 31 := fun p k => Nat.lt_trans (hG p k) (by decide)
      simp (disch := first | assumption | omega | exact hX _ | exact hY _ _ | exact hZ _ | fail) only [X8_changeAngers_36, hc, hi, hnb, sp_pl, sp_ckt, sp_bd_s, sp_bv_s, qn_l, nI_add, qn_sub, pk_mul, qn_le, qn_lt, qn_eq, qn_in, qn_g, nI_clamp, qn_and31, qn_sl, qn_sr, qn_b0, qn_b1, sp_zb0, sp_zb1, if_true, if_false, if_pos, if_neg, reduceIte, not_true_eq_false, not_false_eq_true, decide_true, decide_false, Bool.false_eq_true, Bool.not_true, Bool.not_false, Bool.true_eq_false, eq_self, qn_meq, qn_of, Nat.reduceEqDiff, Nat.reduceLT, Nat.reduceLeDiff, Nat.reduceAdd, Nat.reduceSub, Nat.reduceMul, Nat.reducePow, or_self, or_false, or_true, false_or, true_or, and_true, true_and, and_false, false_and, and_self, Nat.le_refl]
      refine wp_some.mpr ⟨h0, ?_, ?_⟩
      · exact qfp_trans (qfp_mono hf (by omega) (by omega)) (qfp_trans (qfp_mono hI.1 (by omega) (by omega)) (qfp_mono hJ.2 (by omega) (by omega)))
      · rw [(hJ.2.2.2 (t + 2) (by omega)).2, (hI.1.2.2 (t + 2) (by omega)).2, (hf.2.2 (t + 2) (by omega)).2]
    · have h := hJ.1
      have hq := qchg_le hb10 cd sc i
      have ha := hA i hi2
      have hv : u.2.2.1 (t + 4) i = nI (qchg ct cd sc i) := by rw [(hJ.2.2.2 (t + 4) (by omega)).2]; exact hI.2 i hi2
      have h0 := h
      obtain ⟨ht, hc, hi, ⟨hnb, hns, hpt, hA1, hA2, hA3, hA4, hA5, hA6, hA7, hR1, hR2⟩, hS, ⟨hb10, hs5, hG, hH, hL, hU, hO⟩, hB⟩ := h
      have hX := fun k => Nat.lt_trans (hB k) (by decide : (1048576 : Nat) < 2 ^ 31)
      have hY : ∀ p k, ct p k < 2 ^ 31 := fun p k => Nat.lt_trans (hG p k) (by decide)
      have e1 : qang ct cd sc i (10 + i) = sc (10 + i) := qang_hi (by omega)
      have e2 : qang ct cd sc i i = sc i := qang_hi (by omega)
      simp (disch := first | assumption | omega | exact hX _ | exact hY _ _ | exact hZ _ | fail) only [X8_changeAngers_36, X8_changeAngers_105, hc, hi, hnb, sp_pl, sp_ckt, sp_bd_s, sp_bv_s, qn_l, nI_add, qn_sub, pk_mul, qn_le, qn_lt, qn_eq, qn_in, qn_g, nI_clamp, qn_and31, qn_sl, qn_sr, qn_b0, qn_b1, sp_zb0, sp_zb1, if_true, if_false, if_pos, if_neg, reduceIte, not_true_eq_false, not_false_eq_true, decide_true, decide_false, Bool.false_eq_true, Bool.not_true, Bool.not_false, Bool.true_eq_false, eq_self, qn_meq, qn_of, Nat.reduceEqDiff, Nat.reduceLT, Nat.reduceLeDiff, Nat.reduceAdd, Nat.reduceSub, Nat.reduceMul, Nat.reducePow, or_self, or_false, or_true, false_or, true_or, and_true, true_and, and_false, false_and, and_self, Nat.not_le.mpr hi2, sq_isOut h0 (show i < 10 by omega), hS, hv, e1, e2]
      by_cases p : sc (10 + i) = 0
      · simp (disch := first | assumption | omega | exact hX _ | exact hY _ _ | exact hZ _ | fail) only [p, sp_pl, sp_ckt, sp_bd_s, sp_bv_s, qn_l, nI_add, qn_sub, pk_mul, qn_le, qn_lt, qn_eq, qn_in, qn_g, nI_clamp, qn_and31, qn_sl, qn_sr, qn_b0, qn_b1, sp_zb0, sp_zb1, if_true, if_false, if_pos, if_neg, reduceIte, not_true_eq_false, not_false_eq_true, decide_true, decide_false, Bool.false_eq_true, Bool.not_true, Bool.not_false, Bool.true_eq_false, eq_self, qn_meq, qn_of, Nat.reduceEqDiff, Nat.reduceLT, Nat.reduceLeDiff, Nat.reduceAdd, Nat.reduceSub, Nat.reduceMul, Nat.reducePow, or_self, or_false, or_true, false_or, true_or, and_true, true_and, and_false, false_and, and_self, qn_min]
        refine k _ ⟨?_, qfp_trans hJ.2 (qfp_sa (by omega) (by omega))⟩
        rw [qang_s, if_pos p]
        exact qSC_set h0 (by omega)
      · have e3 : sp_max (nI 0) (nI (sc i) - nI (qchg ct cd sc i)) = nI (sc i - qchg ct cd sc i) := by
          by_cases hle : qchg ct cd sc i ≤ sc i
          · rw [pk_sub hle, qn_max (by decide) (by omega), Nat.zero_max]
          · have h5 : nI (sc i) - nI (qchg ct cd sc i) < nI 0 := pk_sneg (by omega) (by omega)
            unfold sp_max
            rw [if_neg (fun x => Int32.lt_irrefl (Int32.lt_trans x h5)), Nat.sub_eq_zero_of_le (by omega)]
        simp (disch := first | assumption | omega | exact hX _ | exact hY _ _ | exact hZ _ | fail) only [p, sp_pl, sp_ckt, sp_bd_s, sp_bv_s, qn_l, nI_add, qn_sub, pk_mul, qn_le, qn_lt, qn_eq, qn_in, qn_g, nI_clamp, qn_and31, qn_sl, qn_sr, qn_b0, qn_b1, sp_zb0, sp_zb1, if_true, if_false, if_pos, if_neg, reduceIte, not_true_eq_false, not_false_eq_true, decide_true, decide_false, Bool.false_eq_true, Bool.not_true, Bool.not_false, Bool.true_eq_false, eq_self, qn_meq, qn_of, Nat.reduceEqDiff, Nat.reduceLT, Nat.reduceLeDiff, Nat.reduceAdd, Nat.reduceSub, Nat.reduceMul, Nat.reducePow, or_self, or_false, or_true, false_or, true_or, and_true, true_and, and_false, false_and, and_self, e3]
        refine k _ ⟨?_, qfp_trans hJ.2 (qfp_sa (by omega) (by omega))⟩
        rw [qang_s, if_neg p]
        exact qSC_set h0 (by omega)
  · have h3 := qSC_oth h2 hI.1 (by omega) (by omega)
    have h := h3
    have hat3 : qat s t ct sc := fun p hp => by rw [(hI.1.2.2 (t + 3) (by omega)).2]; exact hat p hp
    have h0 := h
    obtain ⟨ht, hc, hi, ⟨hnb, hns, hpt, hA1, hA2, hA3, hA4, hA5, hA6, hA7, hR1, hR2⟩, hS, ⟨hb10, hs5, hG, hH, hL, hU, hO⟩, hB⟩ := h
    have hX := fun k => Nat.lt_trans (hB k) (by decide : (1048576 : Nat) < 2 ^ 31)
    have hY : ∀ p k, ct p k < 2 ^ 31 := fun p k => Nat.lt_trans (hG p k) (by decide)
    simp (disch := first | assumption | omega | exact hX _ | exact hY _ _ | exact hZ _ | fail) only [X8_changeAngers_6, hc, hi, hnb, sp_pl, sp_ckt, sp_bd_s, sp_bv_s, qn_l, nI_add, qn_sub, pk_mul, qn_le, qn_lt, qn_eq, qn_in, qn_g, nI_clamp, qn_and31, qn_sl, qn_sr, qn_b0, qn_b1, sp_zb0, sp_zb1, if_true, if_false, if_pos, if_neg, reduceIte, not_true_eq_false, not_false_eq_true, decide_true, decide_false, Bool.false_eq_true, Bool.not_true, Bool.not_false, Bool.true_eq_false, eq_self, qn_meq, qn_of, Nat.reduceEqDiff, Nat.reduceLT, Nat.reduceLeDiff, Nat.reduceAdd, Nat.reduceSub, Nat.reduceMul, Nat.reducePow, or_self, or_false, or_true, false_or, true_or, and_true, true_and, and_false, false_and, and_self, Nat.not_le.mpr hi2]
    refine wp_bd (wp_mono (sq_changeOf h0 hn hP hD hat3 hi2) ?_)
    rintro ⟨τ, r⟩ ⟨g1, g2⟩
    dsimp only at g1 g2 ⊢
    subst g1
    try simp (disch := first | assumption | omega | exact hX _ | exact hY _ _ | exact hZ _ | fail) only [sp_pl, sp_ckt, sp_bd_s, sp_bv_s, qn_l, nI_add, qn_sub, pk_mul, qn_le, qn_lt, qn_eq, qn_in, qn_g, nI_clamp, qn_and31, qn_sl, qn_sr, qn_b0, qn_b1, sp_zb0, sp_zb1, if_true, if_false, if_pos, if_neg, reduceIte, not_true_eq_false, not_false_eq_true, decide_true, decide_false, Bool.false_eq_true, Bool.not_true, Bool.not_false, Bool.true_eq_false, eq_self, qn_meq, qn_of, Nat.reduceEqDiff, Nat.reduceLT, Nat.reduceLeDiff, Nat.reduceAdd, Nat.reduceSub, Nat.reduceMul, Nat.reducePow, or_self, or_false, or_true, false_or, true_or, and_true, true_and, and_false, false_and, and_self]
    refine k _ ⟨qfp_trans hI.1 (qfp_trans (qfp_mono g2 (by omega) (by omega)) (qfp_sa (by omega) (by omega))), fun b hb => ?_⟩
    rw [sp_sa_g]
    by_cases e : b = i
    · simp [e]
    · simp [e]
      rw [(g2.2.2 (t + 4) (by omega)).2]
      exact hI.2 b (by omega)
theorem sq_layToRest (h : qSC σ t c ct cd sc) (hn : 100 ≤ n) : sp_wp (X8_layToRest n σ t) (fun τ => qSC τ t c ct cd (qres sc (ct 0 13)) ∧ qfp (t + 1) (t + 1) σ τ) := by
  have hb10 := h.2.2.2.2.2.1.1
  have hZ : ∀ k, sc k < 2 ^ 31 := fun k => Nat.lt_trans (h.2.2.2.2.2.2 k) (by decide)
  simp only [X8_layToRest, sp_pl, qn_l]
  refine lp_inv (fun f i s => X8_layToRest_2 n t f s (nI i)) (fun i s => qSC s t c ct cd (qres sc i) ∧ qfp (t + 1) (t + 1) σ s) (ct 0 13) _ (fun f s hI => ?_) (fun f i s hi2 hI k => ?_) n 0 σ (by omega) (by omega) ⟨?_, qfp_refl σ⟩
  · have h := hI.1
    have h0 := h
    obtain ⟨ht, hc, hi, ⟨hnb, hns, hpt, hA1, hA2, hA3, hA4, hA5, hA6, hA7, hR1, hR2⟩, hS, ⟨hb10, hs5, hG, hH, hL, hU, hO⟩, hB⟩ := h
    have hX := fun k => Nat.lt_trans (hB k) (by decide : (1048576 : Nat) < 2 ^ 31)
    have hY : ∀ p k, ct p k < 2 ^ 31 := fun p k => Nat.lt_trans (hG p k) (by decide)
    simp (disch := first | assumption | omega | exact hX _ | exact hY _ _ | exact hZ _ | fail) only [X8_layToRest_2, hc, hi, hnb, sp_pl, sp_ckt, sp_bd_s, sp_bv_s, qn_l, nI_add, qn_sub, pk_mul, qn_le, qn_lt, qn_eq, qn_in, qn_g, nI_clamp, qn_and31, qn_sl, qn_sr, qn_b0, qn_b1, sp_zb0, sp_zb1, if_true, if_false, if_pos, if_neg, reduceIte, not_true_eq_false, not_false_eq_true, decide_true, decide_false, Bool.false_eq_true, Bool.not_true, Bool.not_false, Bool.true_eq_false, eq_self, qn_meq, qn_of, Nat.reduceEqDiff, Nat.reduceLT, Nat.reduceLeDiff, Nat.reduceAdd, Nat.reduceSub, Nat.reduceMul, Nat.reducePow, or_self, or_false, or_true, false_or, true_or, and_true, true_and, and_false, false_and, and_self, Nat.le_refl]
    exact wp_some.mpr hI
  · have h := hI.1
    have h0 := h
    obtain ⟨ht, hc, hi, ⟨hnb, hns, hpt, hA1, hA2, hA3, hA4, hA5, hA6, hA7, hR1, hR2⟩, hS, ⟨hb10, hs5, hG, hH, hL, hU, hO⟩, hB⟩ := h
    have hX := fun k => Nat.lt_trans (hB k) (by decide : (1048576 : Nat) < 2 ^ 31)
    have hY : ∀ p k, ct p k < 2 ^ 31 := fun p k => Nat.lt_trans (hG p k) (by decide)
    have e1 : qres sc i (10 + i) = sc (10 + i) := qres_lo (by omega)
    have e2 : qres sc i i = sc i := qres_lo (by omega)
    simp (disch := first | assumption | omega | exact hX _ | exact hY _ _ | exact hZ _ | fail) only [X8_layToRest_2, X8_layToRest_41, hc, hi, hnb, sp_pl, sp_ckt, sp_bd_s, sp_bv_s, qn_l, nI_add, qn_sub, pk_mul, qn_le, qn_lt, qn_eq, qn_in, qn_g, nI_clamp, qn_and31, qn_sl, qn_sr, qn_b0, qn_b1, sp_zb0, sp_zb1, if_true, if_false, if_pos, if_neg, reduceIte, not_true_eq_false, not_false_eq_true, decide_true, decide_false, Bool.false_eq_true, Bool.not_true, Bool.not_false, Bool.true_eq_false, eq_self, qn_meq, qn_of, Nat.reduceEqDiff, Nat.reduceLT, Nat.reduceLeDiff, Nat.reduceAdd, Nat.reduceSub, Nat.reduceMul, Nat.reducePow, or_self, or_false, or_true, false_or, true_or, and_true, true_and, and_false, false_and, and_self, Nat.not_le.mpr hi2, sq_isIn h0 (show i < 10 by omega), hS, e1, e2]
    by_cases p : sc (10 + i) = 0 ∨ sc (10 + i) = 6
    · simp only [p, if_true]
      refine k _ ⟨?_, hI.2⟩
      rw [qres_n (Or.inl p)]
      exact h0
    · simp only [p, if_false]
      rw [if_neg (by decide : ¬ nI 1 = nI 0)]
      by_cases z : sc i = 0
      · simp only [z, if_true]
        refine k _ ⟨?_, qfp_trans hI.2 (qfp_sa (by omega) (by omega))⟩
        rw [qres_y p z]
        exact qSC_set h0 (by omega)
      · simp only [z, if_false]
        refine k _ ⟨?_, hI.2⟩
        rw [qres_n (Or.inr z)]
        exact h0
  · have e : qres sc 0 = sc := by
      funext k
      exact qres_lo (by omega)
    rw [e]
    exact h
theorem sq_hiccupAll (h : qSC σ t c ct cd sc) (hn : 100 ≤ n) : sp_wp (X8_hiccupAll n σ t) (fun τ => qSC τ t c ct cd (qhic ct sc (ct 0 14)) ∧ qfp (t + 1) (t + 1) σ τ) := by
  have hb10 := h.2.2.2.2.2.1.1
  have hs5' := h.2.2.2.2.2.1.2.1
  have hZ : ∀ k, sc k < 2 ^ 31 := fun k => Nat.lt_trans (h.2.2.2.2.2.2 k) (by decide)
  simp only [X8_hiccupAll, sp_pl, qn_l]
  refine lp_inv (fun f i s => X8_hiccupAll_2 n t f s (nI i)) (fun i s => qSC s t c ct cd (qhic ct sc i) ∧ qfp (t + 1) (t + 1) σ s) (ct 0 14) _ (fun f s hI => ?_) (fun f i s hi2 hI k => ?_) n 0 σ (by omega) (by omega) ⟨h, qfp_refl σ⟩
  · have h := hI.1
    have h0 := h
    obtain ⟨ht, hc, hi, ⟨hnb, hns, hpt, hA1, hA2, hA3, hA4, hA5, hA6, hA7, hR1, hR2⟩, hS, ⟨hb10, hs5, hG, hH, hL, hU, hO⟩, hB⟩ := h
    have hX := fun k => Nat.lt_trans (hB k) (by decide : (1048576 : Nat) < 2 ^ 31)
    have hY : ∀ p k, ct p k < 2 ^ 31 := fun p k => Nat.lt_trans (hG p k) (by decide)
    simp (disch := first | assumption | omega | exact hX _ | exact hY _ _ | exact hZ _ | fail) only [X8_hiccupAll_2, hc, hi, hns, sp_pl, sp_ckt, sp_bd_s, sp_bv_s, qn_l, nI_add, qn_sub, pk_mul, qn_le, qn_lt, qn_eq, qn_in, qn_g, nI_clamp, qn_and31, qn_sl, qn_sr, qn_b0, qn_b1, sp_zb0, sp_zb1, if_true, if_false, if_pos, if_neg, reduceIte, not_true_eq_false, not_false_eq_true, decide_true, decide_false, Bool.false_eq_true, Bool.not_true, Bool.not_false, Bool.true_eq_false, eq_self, qn_meq, qn_of, Nat.reduceEqDiff, Nat.reduceLT, Nat.reduceLeDiff, Nat.reduceAdd, Nat.reduceSub, Nat.reduceMul, Nat.reducePow, or_self, or_false, or_true, false_or, true_or, and_true, true_and, and_false, false_and, and_self, Nat.le_refl]
    exact wp_some.mpr hI
  · have h47 := h.2.2.2.2.2.2 47
    have h := hI.1
    have h0 := h
    obtain ⟨ht, hc, hi, ⟨hnb, hns, hpt, hA1, hA2, hA3, hA4, hA5, hA6, hA7, hR1, hR2⟩, hS, ⟨hb10, hs5, hG, hH, hL, hU, hO⟩, hB⟩ := h
    have hX := fun k => Nat.lt_trans (hB k) (by decide : (1048576 : Nat) < 2 ^ 31)
    have hY : ∀ p k, ct p k < 2 ^ 31 := fun p k => Nat.lt_trans (hG p k) (by decide)
    have e1 : qhic ct sc i 47 = sc 47 := qhic_oth (by omega) i
    have hu := hU i
    simp (disch := first | assumption | omega | exact hX _ | exact hY _ _ | exact hZ _ | fail) only [X8_hiccupAll_2, X8_hiccupAll_46, hc, hi, hns, hA6, sp_pl, sp_ckt, sp_bd_s, sp_bv_s, qn_l, nI_add, qn_sub, pk_mul, qn_le, qn_lt, qn_eq, qn_in, qn_g, nI_clamp, qn_and31, qn_sl, qn_sr, qn_b0, qn_b1, sp_zb0, sp_zb1, if_true, if_false, if_pos, if_neg, reduceIte, not_true_eq_false, not_false_eq_true, decide_true, decide_false, Bool.false_eq_true, Bool.not_true, Bool.not_false, Bool.true_eq_false, eq_self, qn_meq, qn_of, Nat.reduceEqDiff, Nat.reduceLT, Nat.reduceLeDiff, Nat.reduceAdd, Nat.reduceSub, Nat.reduceMul, Nat.reducePow, or_self, or_false, or_true, false_or, true_or, and_true, true_and, and_false, false_and, and_self, Nat.not_le.mpr hi2, hS, e1]
    by_cases p : ct 6 i = 0
    · simp only [p, Nat.le_refl, if_true]
      refine k _ ⟨?_, hI.2⟩
      unfold qhic
      rw [if_pos p]
      exact h0
    · have hm : (sc 47 + 1) % ct 6 i < 2 ^ 31 := Nat.lt_trans (Nat.mod_lt _ (by omega)) (by omega)
      simp (disch := first | assumption | omega | exact hX _ | exact hY _ _ | exact hZ _ | fail) only [p, show ¬ ct 6 i ≤ 0 by omega, sp_pl, sp_ckt, sp_bd_s, sp_bv_s, qn_l, nI_add, qn_sub, pk_mul, qn_le, qn_lt, qn_eq, qn_in, qn_g, nI_clamp, qn_and31, qn_sl, qn_sr, qn_b0, qn_b1, sp_zb0, sp_zb1, if_true, if_false, if_pos, if_neg, reduceIte, not_true_eq_false, not_false_eq_true, decide_true, decide_false, Bool.false_eq_true, Bool.not_true, Bool.not_false, Bool.true_eq_false, eq_self, qn_meq, qn_of, Nat.reduceEqDiff, Nat.reduceLT, Nat.reduceLeDiff, Nat.reduceAdd, Nat.reduceSub, Nat.reduceMul, Nat.reducePow, or_self, or_false, or_true, false_or, true_or, and_true, true_and, and_false, false_and, and_self, pk_rem]
      by_cases z : (sc 47 + 1) % ct 6 i = 0
      · simp only [z, if_true]
        refine wp_bv (wp_mono (sq_letTopOut h0 hn (by omega)) ?_)
        rintro τ ⟨g1, g2⟩
        refine k _ ⟨?_, qfp_trans hI.2 g2⟩
        unfold qhic
        rw [if_neg p, if_pos z]
        exact g1
      · simp only [z, if_false]
        refine k _ ⟨?_, hI.2⟩
        unfold qhic
        rw [if_neg p, if_neg z]
        exact h0
end
