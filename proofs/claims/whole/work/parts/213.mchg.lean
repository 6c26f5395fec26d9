-- ===== THE REFERENCE: by how much one changes; one is taken out =====
section
variable {μ : sp_St} {n : Nat} {ct : Nat → Nat → Nat} {cd : List Nat × List Nat} {sc : Nat → Nat} {stk : Nat → List Nat}
theorem rq_ch129 (h : mSC μ ct cd sc stk) (hn : 1000 ≤ n) (hD : qcd cd) {b x : Nat} (hb : b < ct 0 13) (r : Bool) (hr : r = true ↔ sc (10 + b) = 0) (hne : sc (10 + b) ≠ 6) (hl : (if r then cd.2 else cd.1).length ≠ 0) (hv : ∀ k, k < 4 → μ.2.2.1 21 k = qval ct sc b k) (hx : r = false → nI x = qval ct sc b 4) : sp_wp (X12_changeOf_129 n μ (nI b) (if r then nI 0 else nI 1) (nI x) 4) (fun y => y.2 = nI (qclamp (qrv (qval ct sc b) (if r then cd.2 else cd.1))) ∧ mfs μ y.1) := by
  have hb10 := h.2.2.2.1.1
  have w : sp_in (4 : Int32) 6 = true := by decide
  have w4 : (4 : Int32).toNatClampNeg = 4 := by decide
  have w5 : (5 : Int32).toNatClampNeg = 5 := by decide
  have f1 : mfs μ (sp_sa μ 21 4 (nI x)) := mfs_sa (by omega) (by omega)
  have h1 := mSC_fs h f1
  rw [X12_changeOf_129, w, sp_ckt, sp_pl, w4, rq_aboveSet h1 (by omega) hb, sp_bd_s]
  cases r with
  | true =>
    have e0 : sc (10 + b) = 0 := hr.mp rfl
    rw [if_pos (Or.inl e0), rq_bitsOf (by omega) (by omega : 0 < 1024), sp_bd_s, sp_pl, w5]
    have f2 : ∀ y, mfs μ (sp_sa (sp_sa μ 21 4 (nI x)) 21 5 y) := fun y => mfs_trans f1 (mfs_sa (by omega) (by omega))
    generalize nI (qc (fun k => Nat.testBit 0 k) 10) = y
    have h2 := mSC_fs h (f2 y)
    simp only [if_true]
    rw [if_pos (show nI 0 = 0 from rfl)]
    refine wp_mono (rq_ch163 h2 hn hD (b := b) true hl (fun k hk => ?_)) ?_
    · simp only [if_true] at hk
      rw [sp_sa_nj (by omega), sp_sa_nj (by omega)]
      exact hv k hk
    · rintro z ⟨g1, g2⟩
      exact ⟨g1, mfs_trans (f2 y) g2⟩
  | false =>
    have e0 : ¬ sc (10 + b) = 0 := fun e => by have := hr.mpr e; cases this
    rw [if_neg (by omega), rq_bits_bs (by omega) _ hb10, sp_bd_s, sp_pl, w5]
    rw [← qval_5]
    have f2 : ∀ y, mfs μ (sp_sa (sp_sa μ 21 4 (nI x)) 21 5 y) := fun y => mfs_trans f1 (mfs_sa (by omega) (by omega))
    have h2 := mSC_fs h (f2 (qval ct sc b 5))
    simp only [Bool.false_eq_true, if_false] at hl ⊢
    rw [if_neg (show ¬ nI 1 = 0 by decide)]
    refine wp_mono (rq_ch163 h2 hn hD (b := b) false hl (fun k hk => ?_)) ?_
    · simp only [Bool.false_eq_true, if_false] at hk
      by_cases k5 : k = 5
      · subst k5; rw [sp_sa_eq]
      · rw [sp_sa_nj k5]
        by_cases k4 : k = 4
        · subst k4; rw [sp_sa_eq]; exact hx rfl
        · rw [sp_sa_nj k4]
          exact hv k (by omega)
    · rintro z ⟨g1, g2⟩
      exact ⟨g1, mfs_trans (f2 _) g2⟩
theorem rq_changeOf (h : mSC μ ct cd sc stk) (hn : 1000 ≤ n) (hD : qcd cd) {b : Nat} (hb : b < ct 0 13) : sp_wp (X12_changeOf n μ (nI b)) (fun r => r.2 = nI (qchg ct cd sc b) ∧ mfs μ r.1) := by
  have h0 := h
  have h0 := h
  obtain ⟨⟨hns, hnb, hpt, hl4, hl5, hA1, hA2, hA6, hE1, hE2, hl7, hl8⟩, ⟨h47, h48, hAn, hWh, hRo, hMa, hSt, hFe⟩, hQ, ⟨hb10, hs5, hG, hH, hL, hU, hO⟩, hB, hPl⟩ := h
  have hX := fun k => Nat.lt_trans (hB k) (by decide : (1048576 : Nat) < 2 ^ 31)
  have hY : ∀ p k, ct p k < 2 ^ 31 := fun p k => Nat.lt_trans (hG p k) (by decide)
  have hf := qfoe_le ct sc b
  have hn1 : 100 ≤ n := by omega
  obtain ⟨ν, eν⟩ : ∃ x, x = sp_sa (sp_sa (sp_sa (sp_sa μ 21 0 (nI (sc b))) 21 1 (nI (ct 2 b))) 21 2 (nI (sc 47))) 21 3 (nI (qfoe ct sc b)) := ⟨_, rfl⟩
  have fν : mfs μ ν := by
    rw [eν]
    exact mfs_trans (mfs_trans (mfs_trans (mfs_sa (by omega) (by omega)) (mfs_sa (by omega) (by omega))) (mfs_sa (by omega) (by omega))) (mfs_sa (by omega) (by omega))
  have hν := mSC_fs h0 fν
  have v4 : ∀ k, k < 4 → ν.2.2.1 21 k = qval ct sc b k := by
    intro k hk
    rcases (show k = 0 ∨ k = 1 ∨ k = 2 ∨ k = 3 by omega) with rfl | rfl | rfl | rfl
    · rw [eν, sp_sa_nj (by decide), sp_sa_nj (by decide), sp_sa_nj (by decide), sp_sa_eq]; rfl
    · rw [eν, sp_sa_nj (by decide), sp_sa_nj (by decide), sp_sa_eq]; rfl
    · rw [eν, sp_sa_nj (by decide), sp_sa_eq]; rfl
    · rw [eν, sp_sa_eq]; rfl
  simp (disch := first | assumption | omega | exact hX _ | exact hY _ _ | exact hZ _ | fail) only [X12_changeOf, hWh, sp_pl, sp_ckt, sp_bd_s, sp_bv_s, qn_l, nI_add, qn_sub, pk_mul, qn_le, qn_lt, qn_eq, qn_in, qn_g, nI_clamp, qn_and31, qn_sl, qn_sr, qn_b0, qn_b1, sp_zb0, sp_zb1, if_true, if_false, if_pos, if_neg, reduceIte, not_true_eq_false, not_false_eq_true, decide_true, decide_false, Bool.false_eq_true, Bool.not_true, Bool.not_false, Bool.true_eq_false, eq_self, qn_meq, qn_of, Nat.reduceEqDiff, Nat.reduceLT, Nat.reduceLeDiff, Nat.reduceAdd, Nat.reduceSub, Nat.reduceMul, Nat.reducePow, or_self, or_false, or_true, false_or, true_or, and_true, true_and, and_false, false_and, and_self]
  by_cases e6 : sc (10 + b) = 6
  · simp (disch := first | assumption | omega | exact hX _ | exact hY _ _ | exact hZ _ | fail) only [sqs2.mpr e6, sp_pl, sp_ckt, sp_bd_s, sp_bv_s, qn_l, nI_add, qn_sub, pk_mul, qn_le, qn_lt, qn_eq, qn_in, qn_g, nI_clamp, qn_and31, qn_sl, qn_sr, qn_b0, qn_b1, sp_zb0, sp_zb1, if_true, if_false, if_pos, if_neg, reduceIte, not_true_eq_false, not_false_eq_true, decide_true, decide_false, Bool.false_eq_true, Bool.not_true, Bool.not_false, Bool.true_eq_false, eq_self, qn_meq, qn_of, Nat.reduceEqDiff, Nat.reduceLT, Nat.reduceLeDiff, Nat.reduceAdd, Nat.reduceSub, Nat.reduceMul, Nat.reducePow, or_self, or_false, or_true, false_or, true_or, and_true, true_and, and_false, false_and, and_self]
    exact wp_of rfl ⟨by unfold qchg; rw [if_pos e6], mfs_refl μ⟩
  · by_cases e0 : sc (10 + b) = 0
    · simp (disch := first | assumption | omega | exact hX _ | exact hY _ _ | exact hZ _ | fail) only [sqs0.mpr e0, sp_pl, sp_ckt, sp_bd_s, sp_bv_s, qn_l, nI_add, qn_sub, pk_mul, qn_le, qn_lt, qn_eq, qn_in, qn_g, nI_clamp, qn_and31, qn_sl, qn_sr, qn_b0, qn_b1, sp_zb0, sp_zb1, if_true, if_false, if_pos, if_neg, reduceIte, not_true_eq_false, not_false_eq_true, decide_true, decide_false, Bool.false_eq_true, Bool.not_true, Bool.not_false, Bool.true_eq_false, eq_self, qn_meq, qn_of, Nat.reduceEqDiff, Nat.reduceLT, Nat.reduceLeDiff, Nat.reduceAdd, Nat.reduceSub, Nat.reduceMul, Nat.reducePow, or_self, or_false, or_true, false_or, true_or, and_true, true_and, and_false, false_and, and_self, rq_foesOf h0 hn1 hb, hl5]
      by_cases el : cd.2.length = 0
      · simp (disch := first | assumption | omega | exact hX _ | exact hY _ _ | exact hZ _ | fail) only [el, sp_pl, sp_ckt, sp_bd_s, sp_bv_s, qn_l, nI_add, qn_sub, pk_mul, qn_le, qn_lt, qn_eq, qn_in, qn_g, nI_clamp, qn_and31, qn_sl, qn_sr, qn_b0, qn_b1, sp_zb0, sp_zb1, if_true, if_false, if_pos, if_neg, reduceIte, not_true_eq_false, not_false_eq_true, decide_true, decide_false, Bool.false_eq_true, Bool.not_true, Bool.not_false, Bool.true_eq_false, eq_self, qn_meq, qn_of, Nat.reduceEqDiff, Nat.reduceLT, Nat.reduceLeDiff, Nat.reduceAdd, Nat.reduceSub, Nat.reduceMul, Nat.reducePow, or_self, or_false, or_true, false_or, true_or, and_true, true_and, and_false, false_and, and_self]
        exact wp_of rfl ⟨by unfold qchg; rw [if_neg e6, if_pos e0, if_pos el], mfs_refl μ⟩
      · simp (disch := first | assumption | omega | exact hX _ | exact hY _ _ | exact hZ _ | fail) only [el, sp_pl, sp_ckt, sp_bd_s, sp_bv_s, qn_l, nI_add, qn_sub, pk_mul, qn_le, qn_lt, qn_eq, qn_in, qn_g, nI_clamp, qn_and31, qn_sl, qn_sr, qn_b0, qn_b1, sp_zb0, sp_zb1, if_true, if_false, if_pos, if_neg, reduceIte, not_true_eq_false, not_false_eq_true, decide_true, decide_false, Bool.false_eq_true, Bool.not_true, Bool.not_false, Bool.true_eq_false, eq_self, qn_meq, qn_of, Nat.reduceEqDiff, Nat.reduceLT, Nat.reduceLeDiff, Nat.reduceAdd, Nat.reduceSub, Nat.reduceMul, Nat.reducePow, or_self, or_false, or_true, false_or, true_or, and_true, true_and, and_false, false_and, and_self, hAn, hA2, sp_sa_np, sp_sa_1, h47]
        rw [← eν]
        refine wp_mono (rq_ch129 hν hn hD hb true (by simp [e0]) e6 el v4 (fun x => by cases x)) ?_
        rintro r ⟨g1, g2⟩
        exact ⟨by unfold qchg; rw [g1, if_neg e6, if_pos e0, if_neg el]; rfl, mfs_trans fν g2⟩
    · have hp := hPl b hb
      have e1 : ¬ (sc (10 + b) = 0 ∨ sc (10 + b) = 6) := by omega
      simp (disch := first | assumption | omega | exact hX _ | exact hY _ _ | exact hZ _ | fail) only [sqs1.mpr e1, sp_pl, sp_ckt, sp_bd_s, sp_bv_s, qn_l, nI_add, qn_sub, pk_mul, qn_le, qn_lt, qn_eq, qn_in, qn_g, nI_clamp, qn_and31, qn_sl, qn_sr, qn_b0, qn_b1, sp_zb0, sp_zb1, if_true, if_false, if_pos, if_neg, reduceIte, not_true_eq_false, not_false_eq_true, decide_true, decide_false, Bool.false_eq_true, Bool.not_true, Bool.not_false, Bool.true_eq_false, eq_self, qn_meq, qn_of, Nat.reduceEqDiff, Nat.reduceLT, Nat.reduceLeDiff, Nat.reduceAdd, Nat.reduceSub, Nat.reduceMul, Nat.reducePow, or_self, or_false, or_true, false_or, true_or, and_true, true_and, and_false, false_and, and_self, rq_foesOf h0 hn1 hb, hl4]
      by_cases el : cd.1.length = 0
      · simp (disch := first | assumption | omega | exact hX _ | exact hY _ _ | exact hZ _ | fail) only [el, sp_pl, sp_ckt, sp_bd_s, sp_bv_s, qn_l, nI_add, qn_sub, pk_mul, qn_le, qn_lt, qn_eq, qn_in, qn_g, nI_clamp, qn_and31, qn_sl, qn_sr, qn_b0, qn_b1, sp_zb0, sp_zb1, if_true, if_false, if_pos, if_neg, reduceIte, not_true_eq_false, not_false_eq_true, decide_true, decide_false, Bool.false_eq_true, Bool.not_true, Bool.not_false, Bool.true_eq_false, eq_self, qn_meq, qn_of, Nat.reduceEqDiff, Nat.reduceLT, Nat.reduceLeDiff, Nat.reduceAdd, Nat.reduceSub, Nat.reduceMul, Nat.reducePow, or_self, or_false, or_true, false_or, true_or, and_true, true_and, and_false, false_and, and_self]
        exact wp_of rfl ⟨by unfold qchg; rw [if_neg e6, if_neg e0, if_pos el], mfs_refl μ⟩
      · simp (disch := first | assumption | omega | exact hX _ | exact hY _ _ | exact hZ _ | fail) only [el, sp_pl, sp_ckt, sp_bd_s, sp_bv_s, qn_l, nI_add, qn_sub, pk_mul, qn_le, qn_lt, qn_eq, qn_in, qn_g, nI_clamp, qn_and31, qn_sl, qn_sr, qn_b0, qn_b1, sp_zb0, sp_zb1, if_true, if_false, if_pos, if_neg, reduceIte, not_true_eq_false, not_false_eq_true, decide_true, decide_false, Bool.false_eq_true, Bool.not_true, Bool.not_false, Bool.true_eq_false, eq_self, qn_meq, qn_of, Nat.reduceEqDiff, Nat.reduceLT, Nat.reduceLeDiff, Nat.reduceAdd, Nat.reduceSub, Nat.reduceMul, Nat.reducePow, or_self, or_false, or_true, false_or, true_or, and_true, true_and, and_false, false_and, and_self, hAn, hA2, sp_sa_np, sp_sa_1, h47]
        rw [← eν]
        have hsn : sc (10 + b) - 1 < ct 0 14 := by omega
        have hlen := stk_len hQ hsn
        have hle := stk_le hQ hsn
        have hc1 : 1 ≤ qc (fun k => decide (sc (10 + k) = sc (10 + b))) (ct 0 13) := qc_pos hb (by simp)
        rw [show sc (10 + b) - 1 + 1 = sc (10 + b) by omega] at hlen
        have hM' : ν.2.2.1 17 (sc (10 + b) - 1) = nI (stk (sc (10 + b) - 1)).length := by rw [fν.2.1 17 (by omega)]; exact hMa _ hsn
        simp (disch := first | assumption | omega | exact hX _ | exact hY _ _ | exact hZ _ | fail) only [rq_throatOf hν hn1 hb, e1, sp_pl, sp_ckt, sp_bd_s, sp_bv_s, qn_l, nI_add, qn_sub, pk_mul, qn_le, qn_lt, qn_eq, qn_in, qn_g, nI_clamp, qn_and31, qn_sl, qn_sr, qn_b0, qn_b1, sp_zb0, sp_zb1, if_true, if_false, if_pos, if_neg, reduceIte, not_true_eq_false, not_false_eq_true, decide_true, decide_false, Bool.false_eq_true, Bool.not_true, Bool.not_false, Bool.true_eq_false, eq_self, qn_meq, qn_of, Nat.reduceEqDiff, Nat.reduceLT, Nat.reduceLeDiff, Nat.reduceAdd, Nat.reduceSub, Nat.reduceMul, Nat.reducePow, or_self, or_false, or_true, false_or, true_or, and_true, true_and, and_false, false_and, and_self, hM']
        refine wp_mono (rq_ch129 hν hn hD hb false (by simp [e0]) e6 el v4 (fun _ => ?_)) ?_
        · rw [qval_4, hlen]
        · rintro r ⟨g1, g2⟩
          exact ⟨by unfold qchg; rw [g1, if_neg e6, if_neg e0, if_neg el]; rfl, mfs_trans fν g2⟩
/-- one leaves its swallower: the stacks -/
def qrem (stk : Nat → List Nat) (b : Nat) : Nat → List Nat := fun s => (stk s).filter (fun x => decide (x ≠ b))
theorem qStk_rem (hQ : qStk ct sc stk) (hb10 : ct 0 13 ≤ 10) {b v : Nat} (hb : b < ct 0 13) (hv : v = 0 ∨ v = 6) (h5 : ct 0 14 ≤ 5) : qStk ct (qu sc (10 + b) v) (qrem stk b) := by
  intro s hs
  refine ⟨?_, ?_⟩
  · unfold qrem
    refine List.Pairwise.imp_of_mem ?_ (List.Pairwise.filter _ (hQ s hs).1)
    intro x y hx hy hxy
    have h1 := ((hQ s hs).2 x).mp (List.mem_filter.mp hx).1
    have h2 := ((hQ s hs).2 y).mp (List.mem_filter.mp hy).1
    rw [qu_n (by omega), qu_n (by omega)]
    exact hxy
  · intro x
    unfold qrem
    rw [List.mem_filter, (hQ s hs).2 x, decide_eq_true_iff]
    by_cases e : x = b
    · subst e
      rw [qu_e]
      constructor
      · intro h; exact absurd rfl h.2
      · intro h; omega
    · by_cases hx : x < ct 0 13
      · rw [qu_n (by omega)]
        constructor
        · intro h; exact h.1
        · intro h; exact ⟨h, e⟩
      · constructor
        · intro h; exact absurd h.1.1 hx
        · intro h; exact absurd h.1 hx
theorem fl_tk {L : List Nat} {b k : Nat} (hk : k < L.length) : (L.take (k + 1)).filter (fun x => decide (x ≠ b)) = if L.getD k 0 = b then (L.take k).filter (fun x => decide (x ≠ b)) else (L.take k).filter (fun x => decide (x ≠ b)) ++ [L.getD k 0] := by
  rw [tk_s hk, List.filter_append]
  generalize L.getD k 0 = y
  by_cases e : y = b
  · rw [if_pos e]
    simp [List.filter_cons, e]
  · rw [if_neg e]
    simp [List.filter_cons, e]
theorem fl_le {L : List Nat} {b k : Nat} : ((L.take k).filter (fun x => decide (x ≠ b))).length ≤ k := Nat.le_trans (List.length_filter_le _ _) (by rw [List.length_take]; omega)
theorem gd_app1 {L : List Nat} {x k : Nat} (h : k < L.length) : (L ++ [x]).getD k 0 = L.getD k 0 := by
  simp [List.getD_eq_getElem?_getD, List.getElem?_append_left h]
theorem gd_app2 {L : List Nat} {x : Nat} : (L ++ [x]).getD L.length 0 = x := by
  simp [List.getD_eq_getElem?_getD]
theorem rq_takeOut (h : mSC μ ct cd sc stk) (hn : 100 ≤ n) {b p v : Nat} (hb : b < ct 0 13) (hin : ¬ (sc (10 + b) = 0 ∨ sc (10 + b) = 6)) (hpv : p = 0 ∧ v = 0 ∨ p = 2 ∧ v = 6) : sp_wp (X12_takeOut n μ (nI b) (nI p)) (fun ν => mSC ν ct cd (qu sc (10 + b) v) (qrem stk b) ∧ mfl μ ν) := by
  have h0 := h
  have h0 := h
  obtain ⟨⟨hns, hnb, hpt, hl4, hl5, hA1, hA2, hA6, hE1, hE2, hl7, hl8⟩, ⟨h47, h48, hAn, hWh, hRo, hMa, hSt, hFe⟩, hQ, ⟨hb10, hs5, hG, hH, hL, hU, hO⟩, hB, hPl⟩ := h
  have hX := fun k => Nat.lt_trans (hB k) (by decide : (1048576 : Nat) < 2 ^ 31)
  have hY : ∀ p k, ct p k < 2 ^ 31 := fun p k => Nat.lt_trans (hG p k) (by decide)
  have hp := hPl b hb
  obtain ⟨s, hs⟩ : ∃ s, sc (10 + b) = s + 1 := ⟨sc (10 + b) - 1, by omega⟩
  have hsn : s < ct 0 14 := by omega
  have hlen := stk_le hQ hsn
  have hmem := ((hQ s hsn).2 b).mpr ⟨hb, hs⟩
  have hfl : ((stk s).filter (fun x => decide (x ≠ b))).length < 10 := by
    have h1 : ((stk s).filter (fun x => decide (x ≠ b))).length < (stk s).length := by
      rcases Nat.lt_or_ge ((stk s).filter (fun x => decide (x ≠ b))).length (stk s).length with hh | hh
      · exact hh
      · have := List.length_filter_eq_length_iff.mp (Nat.le_antisymm (List.length_filter_le _ _) hh) b hmem
        simp at this
    omega
  simp (disch := first | assumption | omega | exact hX _ | exact hY _ _ | exact hZ _ | fail) only [X12_takeOut, rq_throatOf h0 hn hb, hin, sp_pl, sp_ckt, sp_bd_s, sp_bv_s, qn_l, nI_add, qn_sub, pk_mul, qn_le, qn_lt, qn_eq, qn_in, qn_g, nI_clamp, qn_and31, qn_sl, qn_sr, qn_b0, qn_b1, sp_zb0, sp_zb1, if_true, if_false, if_pos, if_neg, reduceIte, not_true_eq_false, not_false_eq_true, decide_true, decide_false, Bool.false_eq_true, Bool.not_true, Bool.not_false, Bool.true_eq_false, eq_self, qn_meq, qn_of, Nat.reduceEqDiff, Nat.reduceLT, Nat.reduceLeDiff, Nat.reduceAdd, Nat.reduceSub, Nat.reduceMul, Nat.reducePow, or_self, or_false, or_true, false_or, true_or, and_true, true_and, and_false, false_and, and_self, hs, Nat.add_sub_cancel]
  refine lp_inv (fun f i (S : sp_St × Nat) => X12_takeOut_12 n f S.1 (nI b) (nI p) (nI s) (nI S.2) (nI i)) (fun i S => S.2 = (((stk s).take i).filter (fun x => decide (x ≠ b))).length ∧ S.1.1 = μ.1 ∧ S.1.2.1 = μ.2.1 ∧ (∀ q, q ≠ 18 → S.1.2.2.1 q = μ.2.2.1 q) ∧ (∀ j, j < 10 * s ∨ 10 * s + S.2 ≤ j → S.1.2.2.1 18 j = μ.2.2.1 18 j) ∧ ∀ j, j < S.2 → S.1.2.2.1 18 (10 * s + j) = nI ((((stk s).take i).filter (fun x => decide (x ≠ b))).getD j 0)) (stk s).length _ (fun f S hI => ?_) (fun f i S hi2 hI k => ?_) n 0 (μ, 0) (by omega) (by omega) ⟨by simp, rfl, rfl, fun _ _ => rfl, fun _ _ => rfl, fun j hj => by omega⟩
  · obtain ⟨ν, m⟩ := S
    obtain ⟨g1, g2, g3, g4, g5, g6⟩ := hI
    dsimp only at g1 g2 g3 g4 g5 g6 ⊢
    rw [List.take_length] at g1 g6
    have hm10 : m < 10 := by omega
    have e17 : ν.2.2.1 17 s = nI (stk s).length := by rw [g4 17 (by omega)]; exact hMa s hsn
    simp (disch := first | assumption | omega | exact hX _ | exact hY _ _ | exact hZ _ | fail) only [X12_takeOut_12, X12_takeOut_69, e17, sp_pl, sp_ckt, sp_bd_s, sp_bv_s, qn_l, nI_add, qn_sub, pk_mul, qn_le, qn_lt, qn_eq, qn_in, qn_g, nI_clamp, qn_and31, qn_sl, qn_sr, qn_b0, qn_b1, sp_zb0, sp_zb1, if_true, if_false, if_pos, if_neg, reduceIte, not_true_eq_false, not_false_eq_true, decide_true, decide_false, Bool.false_eq_true, Bool.not_true, Bool.not_false, Bool.true_eq_false, eq_self, qn_meq, qn_of, Nat.reduceEqDiff, Nat.reduceLT, Nat.reduceLeDiff, Nat.reduceAdd, Nat.reduceSub, Nat.reduceMul, Nat.reducePow, or_self, or_false, or_true, false_or, true_or, and_true, true_and, and_false, false_and, and_self, Nat.le_refl]
    refine wp_some.mpr ?_
    have hf : mfl μ (sp_sa (sp_sa (sp_sa ν 18 (10 * s + m) (-nI 1)) 17 s (nI m)) 15 b (nI p)) := by
      refine mfl_trans (ν := ν) ⟨g2, g3, fun q h1 h2 h3 => g4 q h3⟩ ?_
      exact mfl_trans (mfl_trans (mfl_sa (by omega)) (mfl_sa (by omega))) (mfl_sa (by omega))
    refine ⟨⟨mC_fd (mfl_fd hf) h0.1, ?_, qStk_rem hQ hb10 hb (by omega) hs5, h0.2.2.2.1, qu_lt hB (by omega), ?_⟩, hf⟩
    · refine ⟨?_, ?_, ?_, ?_, ?_, ?_, ?_, ?_⟩
      · rw [hf.1, qu_n (by omega)]; exact h47
      · rw [hf.1, qu_n (by omega)]; exact h48
      · intro x hx
        rw [hf.2.2 14 (by omega) (by omega) (by omega), qu_n (by omega)]
        exact hAn x hx
      · intro x hx
        rw [sp_sa_g]
        by_cases e : x = b
        · subst e
          simp only [and_self, if_true]
          have : sqState (qu sc (10 + x) v) x = p := by
            unfold sqState
            rw [qu_e]
            rcases hpv with ⟨rfl, rfl⟩ | ⟨rfl, rfl⟩ <;> rfl
          rw [this]
        · simp only [e, and_false, if_false]
          rw [sp_sa_np (by omega), sp_sa_np (by omega), g4 15 (by omega), hWh x hx]
          unfold sqState
          rw [qu_n (by omega)]
      · intro x hx
        rw [hf.2.2 16 (by omega) (by omega) (by omega), qu_n (by omega)]
        exact hRo x hx
      · intro x hx
        rw [sp_sa_np (by omega), sp_sa_g]
        by_cases e : x = s
        · subst e
          simp only [and_self, if_true]
          rw [g1]
          rfl
        · simp only [e, and_false, if_false]
          rw [sp_sa_np (by omega), g4 17 (by omega), hMa x hx]
          congr 1
          unfold qrem
          rw [List.filter_eq_self.mpr]
          intro y hy
          rw [decide_eq_true_iff]
          intro e2
          subst e2
          have := ((hQ x hx).2 y).mp hy
          omega
      · intro x hx k hk
        rw [sp_sa_np (by omega), sp_sa_np (by omega)]
        by_cases e : x = s
        · subst e
          have hk2 : k < ((stk x).filter (fun x => decide (x ≠ b))).length := hk
          rw [sp_sa_nj (by omega), g6 k (by omega)]
          rfl
        · have e3 : qrem stk b x = stk x := by
            unfold qrem
            rw [List.filter_eq_self.mpr]
            intro y hy
            rw [decide_eq_true_iff]
            intro e2
            subst e2
            have := ((hQ x hx).2 y).mp hy
            omega
          rw [e3] at hk ⊢
          have hlx := stk_le hQ hx
          rw [sp_sa_nj (by omega), g5 _ (by omega)]
          exact hSt x hx k hk
      · intro x hx
        rw [hf.2.2 19 (by omega) (by omega) (by omega), qu_n (by omega)]
        exact hFe x hx
    · intro x hx
      by_cases e : x = b
      · subst e; rw [qu_e]; omega
      · rw [qu_n (by omega)]; exact hPl x hx
  · obtain ⟨ν, m⟩ := S
    obtain ⟨g1, g2, g3, g4, g5, g6⟩ := hI
    dsimp only at g1 g2 g3 g4 g5 g6 ⊢
    have hmi : m ≤ i := by rw [g1]; exact fl_le
    have e17 : ν.2.2.1 17 s = nI (stk s).length := by rw [g4 17 (by omega)]; exact hMa s hsn
    have e18 : ν.2.2.1 18 (10 * s + i) = nI ((stk s).getD i 0) := by rw [g5 _ (by omega)]; exact hSt s hsn i hi2
    have h3 := stk_gd hQ hsn hi2
    simp (disch := first | assumption | omega | exact hX _ | exact hY _ _ | exact hZ _ | fail) only [X12_takeOut_12, X12_takeOut_63, e17, e18, sp_pl, sp_ckt, sp_bd_s, sp_bv_s, qn_l, nI_add, qn_sub, pk_mul, qn_le, qn_lt, qn_eq, qn_in, qn_g, nI_clamp, qn_and31, qn_sl, qn_sr, qn_b0, qn_b1, sp_zb0, sp_zb1, if_true, if_false, if_pos, if_neg, reduceIte, not_true_eq_false, not_false_eq_true, decide_true, decide_false, Bool.false_eq_true, Bool.not_true, Bool.not_false, Bool.true_eq_false, eq_self, qn_meq, qn_of, Nat.reduceEqDiff, Nat.reduceLT, Nat.reduceLeDiff, Nat.reduceAdd, Nat.reduceSub, Nat.reduceMul, Nat.reducePow, or_self, or_false, or_true, false_or, true_or, and_true, true_and, and_false, false_and, and_self, Nat.not_le.mpr hi2]
    have ft := fl_tk (b := b) hi2
    by_cases e : (stk s).getD i 0 = b
    · simp only [e, if_true]
      rw [if_pos e] at ft
      exact k (ν, m) ⟨by rw [ft]; exact g1, g2, g3, g4, g5, by rw [ft]; exact g6⟩
    · simp only [e, if_false]
      rw [if_neg e] at ft
      refine k (sp_sa ν 18 (10 * s + m) (nI ((stk s).getD i 0)), m + 1) ⟨by rw [ft, List.length_append, g1]; rfl, g2, g3, fun q hq => ?_, fun j hj => ?_, fun j hj => ?_⟩
      · funext y
        dsimp only
        rw [sp_sa_np hq, g4 q hq]
      · dsimp only at hj ⊢
        rw [sp_sa_nj (by omega)]
        exact g5 j (by omega)
      · dsimp only at hj ⊢
        rw [ft]
        by_cases ej : j = m
        · subst ej
          rw [sp_sa_eq, g1, gd_app2]
        · rw [sp_sa_nj (by omega), gd_app1 (by omega)]
          exact g6 j (by omega)
end
