-- ===== THE REFERENCE'S STATE: its city, its scene =====
theorem qc_ins {P : Nat → Bool} {a : Nat} (hp : P a = false) : ∀ {N : Nat}, a < N → qc (fun b => decide (b = a) || P b) N = qc P N + 1 := by
  intro N
  induction N with
  | zero => intro h; omega
  | succ N ih =>
    intro h
    rw [qc_s, qc_s]
    by_cases e : N = a
    · subst e
      have : qc (fun b => decide (b = N) || P b) N = qc P N := qc_cong fun k hk => by simp [show ¬ k = N by omega]
      rw [this]; simp [hp]
    · rw [ih (by omega)]
      simp only [e, decide_false, Bool.false_or]
      exact Nat.add_right_comm _ _ _
theorem qc_zero : ∀ {N : Nat}, qc (fun _ => false) N = 0 := by
  intro N
  induction N with
  | zero => rfl
  | succ N ih => rw [qc_s, ih]; rfl
theorem qc_len : ∀ {L : List Nat} {N : Nat}, L.Nodup → (∀ x, x ∈ L → x < N) → qc (fun b => decide (b ∈ L)) N = L.length := by
  intro L
  induction L with
  | nil => intro N _ _; simp only [List.not_mem_nil, decide_false, List.length_nil]; exact qc_zero
  | cons a l ih =>
    intro N h1 h2
    obtain ⟨h3, h4⟩ := List.nodup_cons.mp h1
    have e : (fun b => decide (b ∈ a :: l)) = fun b => decide (b = a) || decide (b ∈ l) := by
      funext b
      simp [List.mem_cons]
    rw [e, qc_ins (by simp [h3]) (h2 a (by simp)), ih h4 (fun x hx => h2 x (List.mem_cons_of_mem _ hx)), List.length_cons]
theorem gd_get {L : List Nat} {k : Nat} (h : k < L.length) : L.getD k 0 = L[k] := by simp [List.getD_eq_getElem?_getD, h]
theorem gd_mem {L : List Nat} {k : Nat} (h : k < L.length) : L.getD k 0 ∈ L := by rw [gd_get h]; exact List.getElem_mem h
theorem mem_gd {L : List Nat} {b : Nat} (h : b ∈ L) : ∃ k, k < L.length ∧ L.getD k 0 = b := by
  obtain ⟨i, hi, he⟩ := List.mem_iff_getElem.mp h
  exact ⟨i, hi, by rw [gd_get hi]; exact he⟩
theorem qf_mem {L : List Nat} {b : Nat} (h : b ∈ L) : ∃ j, qf (fun k => decide (L.getD k 0 = b)) L.length 0 = some j := by
  cases e : qf (fun k => decide (L.getD k 0 = b)) L.length 0 with
  | none =>
    obtain ⟨i, hi, he⟩ := mem_gd h
    have h2 : decide (L.getD i 0 = b) = false := qf_none e i (by omega) (by omega)
    rw [he, decide_eq_true rfl] at h2
    cases h2
  | some j => exact ⟨j, rfl⟩
theorem qf_nmem {L : List Nat} {b : Nat} (h : ¬ b ∈ L) : qf (fun k => decide (L.getD k 0 = b)) L.length 0 = none := by
  refine qf_no fun m _ hm => ?_
  rw [decide_eq_false_iff_not]
  intro e
  exact h (e ▸ gd_mem (by omega))
theorem tk_s : ∀ {L : List Nat} {i : Nat}, i < L.length → L.take (i + 1) = L.take i ++ [L.getD i 0] := by
  intro L
  induction L with
  | nil => intro i h; simp at h
  | cons a l ih =>
    intro i h
    cases i with
    | zero => simp
    | succ i =>
      have := ih (i := i) (by simpa using h)
      simp only [List.take_succ_cons, List.getD_cons_succ, List.cons_append]
      rw [this]
theorem dr_s : ∀ {L : List Nat} {i : Nat}, i < L.length → L.drop i = L.getD i 0 :: L.drop (i + 1) := by
  intro L
  induction L with
  | nil => intro i h; simp at h
  | cons a l ih =>
    intro i h
    cases i with
    | zero => simp
    | succ i =>
      have := ih (i := i) (by simpa using h)
      simp only [List.drop_succ_cons, List.getD_cons_succ]
      exact this
theorem pw_gd {R : Nat → Nat → Prop} {L : List Nat} (h : L.Pairwise R) {i j : Nat} (hij : i < j) (hj : j < L.length) : R (L.getD i 0) (L.getD j 0) := by
  rw [gd_get hj, gd_get (by omega)]
  exact List.pairwise_iff_getElem.mp h i j (by omega) hj hij
def mC (μ : sp_St) (ct : Nat → Nat → Nat) (cd : List Nat × List Nat) : Prop := μ.2.2.1 3 1 = nI (ct 0 14) ∧ μ.2.2.1 3 2 = nI (ct 0 13) ∧ μ.2.2.1 3 3 = nI (ct 0 16) ∧ μ.2.2.1 3 4 = nI cd.1.length ∧ μ.2.2.1 3 5 = nI cd.2.length ∧ (∀ b, b < ct 0 13 → μ.2.2.1 7 b = nI (ct 1 b)) ∧ (∀ b, b < ct 0 13 → μ.2.2.1 8 b = nI (ct 2 b)) ∧ (∀ s, s < ct 0 14 → μ.2.2.1 6 s = nI (ct 6 s)) ∧ (∀ k, k < cd.1.length → μ.2.2.1 10 k = encM (cd.1.getD k 0)) ∧ (∀ k, k < cd.2.length → μ.2.2.1 11 k = encM (cd.2.getD k 0)) ∧ cd.1.length ≤ 700 ∧ cd.2.length ≤ 700
def mL (μ : sp_St) (ct : Nat → Nat → Nat) (sc : Nat → Nat) (stk : Nat → List Nat) : Prop := μ.1 0 33 = nI (sc 47) ∧ μ.1 0 34 = nI (sc 48) ∧ (∀ b, b < ct 0 13 → μ.2.2.1 14 b = nI (sc b)) ∧ (∀ b, b < ct 0 13 → μ.2.2.1 15 b = nI (sqState sc b)) ∧ (∀ s, s < ct 0 14 → μ.2.2.1 16 s = nI (sc (30 + s))) ∧ (∀ s, s < ct 0 14 → μ.2.2.1 17 s = nI (stk s).length) ∧ (∀ s, s < ct 0 14 → ∀ k, k < (stk s).length → μ.2.2.1 18 (10 * s + k) = nI ((stk s).getD k 0)) ∧ (∀ h, h < 6 → μ.2.2.1 19 h = nI (sc (35 + h)))
def qStk (ct : Nat → Nat → Nat) (sc : Nat → Nat) (stk : Nat → List Nat) : Prop := ∀ s, s < ct 0 14 → (stk s).Pairwise (fun a b => sc (20 + a) < sc (20 + b)) ∧ ∀ b, b ∈ stk s ↔ b < ct 0 13 ∧ sc (10 + b) = s + 1
def mSC (μ : sp_St) (ct : Nat → Nat → Nat) (cd : List Nat × List Nat) (sc : Nat → Nat) (stk : Nat → List Nat) : Prop := mC μ ct cd ∧ mL μ ct sc stk ∧ qStk ct sc stk ∧ qK ct ∧ (∀ k, sc k < 1048576) ∧ ∀ b, b < ct 0 13 → sc (10 + b) ≤ ct 0 14 ∨ sc (10 + b) = 6
/-- what a day and its like leave as it was -/
def mfd (μ ν : sp_St) : Prop := ν.2.1 = μ.2.1 ∧ (∀ p, p < 14 ∨ p = 20 ∨ 24 < p → ν.2.2.1 p = μ.2.2.1 p) ∧ ∀ k, k ≠ 33 → k ≠ 34 → ν.1 0 k = μ.1 0 k
theorem mfd_refl (μ : sp_St) : mfd μ μ := ⟨rfl, fun _ _ => rfl, fun _ _ _ => rfl⟩
theorem mfd_trans {μ ν ξ : sp_St} (h : mfd μ ν) (g : mfd ν ξ) : mfd μ ξ := ⟨g.1.trans h.1, fun p hp => (g.2.1 p hp).trans (h.2.1 p hp), fun k h1 h2 => (g.2.2 k h1 h2).trans (h.2.2 k h1 h2)⟩
theorem mfd_sa {μ : sp_St} {p i : Nat} {v : Int32} (h1 : 14 ≤ p) (h2 : p ≤ 24) (h3 : p ≠ 20) : mfd μ (sp_sa μ p i v) := by
  refine ⟨rfl, fun q hq => ?_, fun k _ _ => rfl⟩
  funext j
  show (if q = p ∧ j = i then v else μ.2.2.1 q j) = μ.2.2.1 q j
  rw [if_neg (by omega)]
theorem mfd_si {μ : sp_St} {i : Nat} {v : Int32} (h : i = 33 ∨ i = 34) : mfd μ (sp_si μ 0 i v) := by
  refine ⟨rfl, fun q hq => rfl, fun k h1 h2 => ?_⟩
  show (if 0 = 0 ∧ k = i then v else μ.1 0 k) = μ.1 0 k
  rw [if_neg (by omega)]
theorem mC_fd {μ ν : sp_St} {ct : Nat → Nat → Nat} {cd : List Nat × List Nat} (h : mfd μ ν) (g : mC μ ct cd) : mC ν ct cd := by
  unfold mC at *
  rw [h.2.1 3 (by omega), h.2.1 7 (by omega), h.2.1 8 (by omega), h.2.1 6 (by omega), h.2.1 10 (by omega), h.2.1 11 (by omega)]
  exact g
/-- the scene's own cells as they were -/
def mfs (μ ν : sp_St) : Prop := mfd μ ν ∧ (∀ p, ¬ (p = 21 ∨ p = 22) → ν.2.2.1 p = μ.2.2.1 p) ∧ ν.1 0 = μ.1 0
theorem mfs_refl (μ : sp_St) : mfs μ μ := ⟨mfd_refl μ, fun _ _ => rfl, rfl⟩
theorem mfs_trans {μ ν ξ : sp_St} (h : mfs μ ν) (g : mfs ν ξ) : mfs μ ξ := ⟨mfd_trans h.1 g.1, fun p hp => (g.2.1 p hp).trans (h.2.1 p hp), g.2.2.trans h.2.2⟩
theorem mfs_sa {μ : sp_St} {p i : Nat} {v : Int32} (h1 : 21 ≤ p) (h2 : p ≤ 22) : mfs μ (sp_sa μ p i v) := by
  refine ⟨mfd_sa (by omega) (by omega) (by omega), fun q hq => ?_, rfl⟩
  funext j
  show (if q = p ∧ j = i then v else μ.2.2.1 q j) = μ.2.2.1 q j
  rw [if_neg (by omega)]
theorem mSC_fs {μ ν : sp_St} {ct : Nat → Nat → Nat} {cd : List Nat × List Nat} {sc : Nat → Nat} {stk : Nat → List Nat} (h : mSC μ ct cd sc stk) (g : mfs μ ν) : mSC ν ct cd sc stk := by
  refine ⟨mC_fd g.1 h.1, ?_, h.2.2⟩
  have := h.2.1
  unfold mL at *
  rw [g.2.2, g.2.1 14 (by omega), g.2.1 15 (by omega), g.2.1 16 (by omega), g.2.1 17 (by omega), g.2.1 18 (by omega), g.2.1 19 (by omega)]
  exact this
section
variable {μ : sp_St} {n : Nat} {ct : Nat → Nat → Nat} {cd : List Nat × List Nat} {sc : Nat → Nat} {stk : Nat → List Nat}
theorem stk_nd (hQ : qStk ct sc stk) {s : Nat} (hs : s < ct 0 14) : (stk s).Nodup := by
  refine List.Pairwise.imp ?_ (hQ s hs).1
  intro a b hab e
  subst e
  exact Nat.lt_irrefl _ hab
theorem stk_gd (hQ : qStk ct sc stk) {s k : Nat} (hs : s < ct 0 14) (hk : k < (stk s).length) : (stk s).getD k 0 < ct 0 13 ∧ sc (10 + (stk s).getD k 0) = s + 1 := ((hQ s hs).2 _).mp (gd_mem hk)
theorem stk_len (hQ : qStk ct sc stk) {s : Nat} (hs : s < ct 0 14) : (stk s).length = qc (fun b => decide (sc (10 + b) = s + 1)) (ct 0 13) := by
  rw [← qc_len (stk_nd hQ hs) (fun x hx => (((hQ s hs).2 x).mp hx).1)]
  refine qc_cong fun k hk => ?_
  have := (hQ s hs).2 k
  by_cases e : sc (10 + k) = s + 1
  · simp [e, this, hk]
  · simp [e, this]
theorem stk_le (hQ : qStk ct sc stk) {s : Nat} (hs : s < ct 0 14) : (stk s).length ≤ ct 0 13 := by
  rw [stk_len hQ hs]
  exact qc_le _ _
theorem rq_isOf {a i : Nat} (ha : a < 2 ^ 31) (hi : i < 32) : X12_isOf n μ (nI a) (nI i) = some (μ, if a.testBit i then nI 1 else nI 0) := by
  simp (disch := first | assumption | omega | exact hX _ | exact hY _ _ | exact hZ _ | fail) only [X12_isOf, sp_pl, sp_ckt, sp_bd_s, sp_bv_s, qn_l, nI_add, qn_sub, pk_mul, qn_le, qn_lt, qn_eq, qn_in, qn_g, nI_clamp, qn_and31, qn_sl, qn_sr, qn_b0, qn_b1, sp_zb0, sp_zb1, if_true, if_false, if_pos, if_neg, reduceIte, not_true_eq_false, not_false_eq_true, decide_true, decide_false, Bool.false_eq_true, Bool.not_true, Bool.not_false, Bool.true_eq_false, eq_self, qn_meq, qn_of, Nat.reduceEqDiff, Nat.reduceLT, Nat.reduceLeDiff, Nat.reduceAdd, Nat.reduceSub, Nat.reduceMul, Nat.reducePow, or_self, or_false, or_true, false_or, true_or, and_true, true_and, and_false, false_and, and_self]
  cases a.testBit i <;> simp (disch := first | assumption | omega | exact hX _ | exact hY _ _ | exact hZ _ | fail) only [sp_pl, sp_ckt, sp_bd_s, sp_bv_s, qn_l, nI_add, qn_sub, pk_mul, qn_le, qn_lt, qn_eq, qn_in, qn_g, nI_clamp, qn_and31, qn_sl, qn_sr, qn_b0, qn_b1, sp_zb0, sp_zb1, if_true, if_false, if_pos, if_neg, reduceIte, not_true_eq_false, not_false_eq_true, decide_true, decide_false, Bool.false_eq_true, Bool.not_true, Bool.not_false, Bool.true_eq_false, eq_self, qn_meq, qn_of, Nat.reduceEqDiff, Nat.reduceLT, Nat.reduceLeDiff, Nat.reduceAdd, Nat.reduceSub, Nat.reduceMul, Nat.reducePow, or_self, or_false, or_true, false_or, true_or, and_true, true_and, and_false, false_and, and_self]
theorem rq_whereSet (h : mSC μ ct cd sc stk) (hn : 100 ≤ n) {p : Nat} (hp : p < 100) : X12_whereSet n μ (nI p) = some (μ, nI (bs (fun b => decide (sqState sc b = p)) (ct 0 13))) := by
  have h0 := h
  obtain ⟨⟨hns, hnb, hpt, hl4, hl5, hA1, hA2, hA6, hE1, hE2, hl7, hl8⟩, ⟨h47, h48, hAn, hWh, hRo, hMa, hSt, hFe⟩, hQ, ⟨hb10, hs5, hG, hH, hL, hU, hO⟩, hB, hPl⟩ := h
  have hX := fun k => Nat.lt_trans (hB k) (by decide : (1048576 : Nat) < 2 ^ 31)
  have hY : ∀ p k, ct p k < 2 ^ 31 := fun p k => Nat.lt_trans (hG p k) (by decide)
  have hw : ∀ b, sqState sc b < 3 := fun b => by unfold sqState; split <;> (try split) <;> omega
  simp (disch := first | assumption | omega | exact hX _ | exact hY _ _ | exact hZ _ | fail) only [X12_whereSet, sp_pl, sp_ckt, sp_bd_s, sp_bv_s, qn_l, nI_add, qn_sub, pk_mul, qn_le, qn_lt, qn_eq, qn_in, qn_g, nI_clamp, qn_and31, qn_sl, qn_sr, qn_b0, qn_b1, sp_zb0, sp_zb1, if_true, if_false, if_pos, if_neg, reduceIte, not_true_eq_false, not_false_eq_true, decide_true, decide_false, Bool.false_eq_true, Bool.not_true, Bool.not_false, Bool.true_eq_false, eq_self, qn_meq, qn_of, Nat.reduceEqDiff, Nat.reduceLT, Nat.reduceLeDiff, Nat.reduceAdd, Nat.reduceSub, Nat.reduceMul, Nat.reducePow, or_self, or_false, or_true, false_or, true_or, and_true, true_and, and_false, false_and, and_self]
  refine lp_up (fun f i => X12_whereSet_4 n f μ (nI p) (nI (bs (fun b => decide (sqState sc b = p)) i)) (nI i)) (ct 0 13) _ (fun f => ?_) (fun f i hi2 => ?_) n 0 (by omega) (by omega)
  · simp (disch := first | assumption | omega | exact hX _ | exact hY _ _ | exact hZ _ | fail) only [X12_whereSet_4, X12_whereSet_40, hnb, sp_pl, sp_ckt, sp_bd_s, sp_bv_s, qn_l, nI_add, qn_sub, pk_mul, qn_le, qn_lt, qn_eq, qn_in, qn_g, nI_clamp, qn_and31, qn_sl, qn_sr, qn_b0, qn_b1, sp_zb0, sp_zb1, if_true, if_false, if_pos, if_neg, reduceIte, not_true_eq_false, not_false_eq_true, decide_true, decide_false, Bool.false_eq_true, Bool.not_true, Bool.not_false, Bool.true_eq_false, eq_self, qn_meq, qn_of, Nat.reduceEqDiff, Nat.reduceLT, Nat.reduceLeDiff, Nat.reduceAdd, Nat.reduceSub, Nat.reduceMul, Nat.reducePow, or_self, or_false, or_true, false_or, true_or, and_true, true_and, and_false, false_and, and_self, Nat.le_refl]
  · have := hw i
    simp (disch := first | assumption | omega | exact hX _ | exact hY _ _ | exact hZ _ | fail) only [X12_whereSet_4, hnb, hWh, sp_pl, sp_ckt, sp_bd_s, sp_bv_s, qn_l, nI_add, qn_sub, pk_mul, qn_le, qn_lt, qn_eq, qn_in, qn_g, nI_clamp, qn_and31, qn_sl, qn_sr, qn_b0, qn_b1, sp_zb0, sp_zb1, if_true, if_false, if_pos, if_neg, reduceIte, not_true_eq_false, not_false_eq_true, decide_true, decide_false, Bool.false_eq_true, Bool.not_true, Bool.not_false, Bool.true_eq_false, eq_self, qn_meq, qn_of, Nat.reduceEqDiff, Nat.reduceLT, Nat.reduceLeDiff, Nat.reduceAdd, Nat.reduceSub, Nat.reduceMul, Nat.reducePow, or_self, or_false, or_true, false_or, true_or, and_true, true_and, and_false, false_and, and_self, Nat.not_le.mpr hi2]
    by_cases e : sqState sc i = p
    · simp (disch := first | assumption | omega | exact hX _ | exact hY _ _ | exact hZ _ | fail) only [e, sp_pl, sp_ckt, sp_bd_s, sp_bv_s, qn_l, nI_add, qn_sub, pk_mul, qn_le, qn_lt, qn_eq, qn_in, qn_g, nI_clamp, qn_and31, qn_sl, qn_sr, qn_b0, qn_b1, sp_zb0, sp_zb1, if_true, if_false, if_pos, if_neg, reduceIte, not_true_eq_false, not_false_eq_true, decide_true, decide_false, Bool.false_eq_true, Bool.not_true, Bool.not_false, Bool.true_eq_false, eq_self, qn_meq, qn_of, Nat.reduceEqDiff, Nat.reduceLT, Nat.reduceLeDiff, Nat.reduceAdd, Nat.reduceSub, Nat.reduceMul, Nat.reducePow, or_self, or_false, or_true, false_or, true_or, and_true, true_and, and_false, false_and, and_self, qn_or, bs]
    · simp (disch := first | assumption | omega | exact hX _ | exact hY _ _ | exact hZ _ | fail) only [e, sp_pl, sp_ckt, sp_bd_s, sp_bv_s, qn_l, nI_add, qn_sub, pk_mul, qn_le, qn_lt, qn_eq, qn_in, qn_g, nI_clamp, qn_and31, qn_sl, qn_sr, qn_b0, qn_b1, sp_zb0, sp_zb1, if_true, if_false, if_pos, if_neg, reduceIte, not_true_eq_false, not_false_eq_true, decide_true, decide_false, Bool.false_eq_true, Bool.not_true, Bool.not_false, Bool.true_eq_false, eq_self, qn_meq, qn_of, Nat.reduceEqDiff, Nat.reduceLT, Nat.reduceLeDiff, Nat.reduceAdd, Nat.reduceSub, Nat.reduceMul, Nat.reducePow, or_self, or_false, or_true, false_or, true_or, and_true, true_and, and_false, false_and, and_self, qn_or, bs, Nat.or_zero]
theorem rq_throatOf (h : mSC μ ct cd sc stk) (hn : 100 ≤ n) {b : Nat} (hb : b < ct 0 13) : X12_throatOf n μ (nI b) = some (μ, if sc (10 + b) = 0 ∨ sc (10 + b) = 6 then -nI 1 else nI (sc (10 + b) - 1)) := by
  have h0 := h
  obtain ⟨⟨hns, hnb, hpt, hl4, hl5, hA1, hA2, hA6, hE1, hE2, hl7, hl8⟩, ⟨h47, h48, hAn, hWh, hRo, hMa, hSt, hFe⟩, hQ, ⟨hb10, hs5, hG, hH, hL, hU, hO⟩, hB, hPl⟩ := h
  have hX := fun k => Nat.lt_trans (hB k) (by decide : (1048576 : Nat) < 2 ^ 31)
  have hY : ∀ p k, ct p k < 2 ^ 31 := fun p k => Nat.lt_trans (hG p k) (by decide)
  simp (disch := first | assumption | omega | exact hX _ | exact hY _ _ | exact hZ _ | fail) only [X12_throatOf, sp_pl, sp_ckt, sp_bd_s, sp_bv_s, qn_l, nI_add, qn_sub, pk_mul, qn_le, qn_lt, qn_eq, qn_in, qn_g, nI_clamp, qn_and31, qn_sl, qn_sr, qn_b0, qn_b1, sp_zb0, sp_zb1, if_true, if_false, if_pos, if_neg, reduceIte, not_true_eq_false, not_false_eq_true, decide_true, decide_false, Bool.false_eq_true, Bool.not_true, Bool.not_false, Bool.true_eq_false, eq_self, qn_meq, qn_of, Nat.reduceEqDiff, Nat.reduceLT, Nat.reduceLeDiff, Nat.reduceAdd, Nat.reduceSub, Nat.reduceMul, Nat.reducePow, or_self, or_false, or_true, false_or, true_or, and_true, true_and, and_false, false_and, and_self]
  have key := lp_find (fun f s => X12_throatOf_2 n f μ (nI b) (nI s)) (ct 0 14) (fun s => decide (sc (10 + b) = s + 1)) (some (μ, -nI 1)) (fun s => some (μ, nI s)) (fun f => ?_) (fun f s hs => ?_) n 0 (by omega) (by omega)
  · rw [key]
    have hp := hPl b hb
    by_cases e : sc (10 + b) = 0 ∨ sc (10 + b) = 6
    · rw [qf_no (fun m _ hm => by rw [decide_eq_false_iff_not]; omega), if_pos e]
    · rw [qf_is (j := sc (10 + b) - 1) (by omega) (by omega) (by rw [decide_eq_true_iff]; omega) (fun m _ hm => by rw [decide_eq_false_iff_not]; omega), if_neg e]
  · simp (disch := first | assumption | omega | exact hX _ | exact hY _ _ | exact hZ _ | fail) only [X12_throatOf_2, X12_throatOf_53, hns, sp_pl, sp_ckt, sp_bd_s, sp_bv_s, qn_l, nI_add, qn_sub, pk_mul, qn_le, qn_lt, qn_eq, qn_in, qn_g, nI_clamp, qn_and31, qn_sl, qn_sr, qn_b0, qn_b1, sp_zb0, sp_zb1, if_true, if_false, if_pos, if_neg, reduceIte, not_true_eq_false, not_false_eq_true, decide_true, decide_false, Bool.false_eq_true, Bool.not_true, Bool.not_false, Bool.true_eq_false, eq_self, qn_meq, qn_of, Nat.reduceEqDiff, Nat.reduceLT, Nat.reduceLeDiff, Nat.reduceAdd, Nat.reduceSub, Nat.reduceMul, Nat.reducePow, or_self, or_false, or_true, false_or, true_or, and_true, true_and, and_false, false_and, and_self, Nat.le_refl]
  · have hlen := stk_le hQ hs
    simp (disch := first | assumption | omega | exact hX _ | exact hY _ _ | exact hZ _ | fail) only [X12_throatOf_2, hns, sp_pl, sp_ckt, sp_bd_s, sp_bv_s, qn_l, nI_add, qn_sub, pk_mul, qn_le, qn_lt, qn_eq, qn_in, qn_g, nI_clamp, qn_and31, qn_sl, qn_sr, qn_b0, qn_b1, sp_zb0, sp_zb1, if_true, if_false, if_pos, if_neg, reduceIte, not_true_eq_false, not_false_eq_true, decide_true, decide_false, Bool.false_eq_true, Bool.not_true, Bool.not_false, Bool.true_eq_false, eq_self, qn_meq, qn_of, Nat.reduceEqDiff, Nat.reduceLT, Nat.reduceLeDiff, Nat.reduceAdd, Nat.reduceSub, Nat.reduceMul, Nat.reducePow, or_self, or_false, or_true, false_or, true_or, and_true, true_and, and_false, false_and, and_self, Nat.not_le.mpr hs]
    have key := lp_find (fun g k => X12_throatOf_14 n (X12_throatOf_2 n f) g μ (nI b) (nI s) (nI k)) (stk s).length (fun k => decide ((stk s).getD k 0 = b)) (X12_throatOf_2 n f μ (nI b) (nI (s + 1))) (fun _ => some (μ, nI s)) (fun g => ?_) (fun g k hk => ?_) n 0 (by omega) (by omega)
    · rw [key, Nat.sub_zero]
      by_cases e : sc (10 + b) = s + 1
      · obtain ⟨j, hj⟩ := qf_mem (((hQ s hs).2 b).mpr ⟨hb, e⟩)
        rw [hj]
        simp [e]
      · rw [qf_nmem (fun x => e (((hQ s hs).2 b).mp x).2)]
        simp [e]
    · simp (disch := first | assumption | omega | exact hX _ | exact hY _ _ | exact hZ _ | fail) only [X12_throatOf_14, X12_throatOf_47, hMa, sp_pl, sp_ckt, sp_bd_s, sp_bv_s, qn_l, nI_add, qn_sub, pk_mul, qn_le, qn_lt, qn_eq, qn_in, qn_g, nI_clamp, qn_and31, qn_sl, qn_sr, qn_b0, qn_b1, sp_zb0, sp_zb1, if_true, if_false, if_pos, if_neg, reduceIte, not_true_eq_false, not_false_eq_true, decide_true, decide_false, Bool.false_eq_true, Bool.not_true, Bool.not_false, Bool.true_eq_false, eq_self, qn_meq, qn_of, Nat.reduceEqDiff, Nat.reduceLT, Nat.reduceLeDiff, Nat.reduceAdd, Nat.reduceSub, Nat.reduceMul, Nat.reducePow, or_self, or_false, or_true, false_or, true_or, and_true, true_and, and_false, false_and, and_self, Nat.le_refl]
    · have h3 := stk_gd hQ hs hk
      simp (disch := first | assumption | omega | exact hX _ | exact hY _ _ | exact hZ _ | fail) only [X12_throatOf_14, X12_throatOf_39, hMa, hSt, sp_pl, sp_ckt, sp_bd_s, sp_bv_s, qn_l, nI_add, qn_sub, pk_mul, qn_le, qn_lt, qn_eq, qn_in, qn_g, nI_clamp, qn_and31, qn_sl, qn_sr, qn_b0, qn_b1, sp_zb0, sp_zb1, if_true, if_false, if_pos, if_neg, reduceIte, not_true_eq_false, not_false_eq_true, decide_true, decide_false, Bool.false_eq_true, Bool.not_true, Bool.not_false, Bool.true_eq_false, eq_self, qn_meq, qn_of, Nat.reduceEqDiff, Nat.reduceLT, Nat.reduceLeDiff, Nat.reduceAdd, Nat.reduceSub, Nat.reduceMul, Nat.reducePow, or_self, or_false, or_true, false_or, true_or, and_true, true_and, and_false, false_and, and_self, Nat.not_le.mpr hk]
      by_cases e : (stk s).getD k 0 = b
      · simp only [e, if_true, decide_true]
      · simp (disch := first | assumption | omega | exact hX _ | exact hY _ _ | exact hZ _ | fail) only [e, sp_pl, sp_ckt, sp_bd_s, sp_bv_s, qn_l, nI_add, qn_sub, pk_mul, qn_le, qn_lt, qn_eq, qn_in, qn_g, nI_clamp, qn_and31, qn_sl, qn_sr, qn_b0, qn_b1, sp_zb0, sp_zb1, if_true, if_false, if_pos, if_neg, reduceIte, not_true_eq_false, not_false_eq_true, decide_true, decide_false, Bool.false_eq_true, Bool.not_true, Bool.not_false, Bool.true_eq_false, eq_self, qn_meq, qn_of, Nat.reduceEqDiff, Nat.reduceLT, Nat.reduceLeDiff, Nat.reduceAdd, Nat.reduceSub, Nat.reduceMul, Nat.reducePow, or_self, or_false, or_true, false_or, true_or, and_true, true_and, and_false, false_and, and_self]
theorem rq_inside (h : mSC μ ct cd sc stk) (hn : 100 ≤ n) {s : Nat} (hs : s < ct 0 14) : X12_inside n μ (nI s) = some (μ, nI (bs (fun b => decide (sc (10 + b) = s + 1)) (ct 0 13))) := by
  have h0 := h
  obtain ⟨⟨hns, hnb, hpt, hl4, hl5, hA1, hA2, hA6, hE1, hE2, hl7, hl8⟩, ⟨h47, h48, hAn, hWh, hRo, hMa, hSt, hFe⟩, hQ, ⟨hb10, hs5, hG, hH, hL, hU, hO⟩, hB, hPl⟩ := h
  have hX := fun k => Nat.lt_trans (hB k) (by decide : (1048576 : Nat) < 2 ^ 31)
  have hY : ∀ p k, ct p k < 2 ^ 31 := fun p k => Nat.lt_trans (hG p k) (by decide)
  have hlen := stk_le hQ hs
  simp (disch := first | assumption | omega | exact hX _ | exact hY _ _ | exact hZ _ | fail) only [X12_inside, sp_pl, sp_ckt, sp_bd_s, sp_bv_s, qn_l, nI_add, qn_sub, pk_mul, qn_le, qn_lt, qn_eq, qn_in, qn_g, nI_clamp, qn_and31, qn_sl, qn_sr, qn_b0, qn_b1, sp_zb0, sp_zb1, if_true, if_false, if_pos, if_neg, reduceIte, not_true_eq_false, not_false_eq_true, decide_true, decide_false, Bool.false_eq_true, Bool.not_true, Bool.not_false, Bool.true_eq_false, eq_self, qn_meq, qn_of, Nat.reduceEqDiff, Nat.reduceLT, Nat.reduceLeDiff, Nat.reduceAdd, Nat.reduceSub, Nat.reduceMul, Nat.reducePow, or_self, or_false, or_true, false_or, true_or, and_true, true_and, and_false, false_and, and_self]
  have key := lp_up (fun f i => X12_inside_4 n f μ (nI s) (nI (bs (fun b => decide (b ∈ (stk s).take i)) (ct 0 13))) (nI i)) (stk s).length (some (μ, nI (bs (fun b => decide (b ∈ (stk s).take (stk s).length)) (ct 0 13)))) (fun f => ?_) (fun f i hi2 => ?_) n 0 (by omega) (by omega)
  · have e0 : bs (fun b => decide (b ∈ (stk s).take 0)) (ct 0 13) = 0 := by
      apply Nat.eq_of_testBit_eq
      intro k
      rw [bs_t]
      simp
    rw [e0] at key
    rw [key]
    congr 3
    refine bs_cong fun k hk => ?_
    rw [List.take_length]
    have := (hQ s hs).2 k
    by_cases e : sc (10 + k) = s + 1
    · simp [e, this, hk]
    · simp [e, this]
  · simp (disch := first | assumption | omega | exact hX _ | exact hY _ _ | exact hZ _ | fail) only [X12_inside_4, X12_inside_36, hMa, sp_pl, sp_ckt, sp_bd_s, sp_bv_s, qn_l, nI_add, qn_sub, pk_mul, qn_le, qn_lt, qn_eq, qn_in, qn_g, nI_clamp, qn_and31, qn_sl, qn_sr, qn_b0, qn_b1, sp_zb0, sp_zb1, if_true, if_false, if_pos, if_neg, reduceIte, not_true_eq_false, not_false_eq_true, decide_true, decide_false, Bool.false_eq_true, Bool.not_true, Bool.not_false, Bool.true_eq_false, eq_self, qn_meq, qn_of, Nat.reduceEqDiff, Nat.reduceLT, Nat.reduceLeDiff, Nat.reduceAdd, Nat.reduceSub, Nat.reduceMul, Nat.reducePow, or_self, or_false, or_true, false_or, true_or, and_true, true_and, and_false, false_and, and_self, Nat.le_refl]
  · have h3 := stk_gd hQ hs hi2
    simp (disch := first | assumption | omega | exact hX _ | exact hY _ _ | exact hZ _ | fail) only [X12_inside_4, hMa, hSt, sp_pl, sp_ckt, sp_bd_s, sp_bv_s, qn_l, nI_add, qn_sub, pk_mul, qn_le, qn_lt, qn_eq, qn_in, qn_g, nI_clamp, qn_and31, qn_sl, qn_sr, qn_b0, qn_b1, sp_zb0, sp_zb1, if_true, if_false, if_pos, if_neg, reduceIte, not_true_eq_false, not_false_eq_true, decide_true, decide_false, Bool.false_eq_true, Bool.not_true, Bool.not_false, Bool.true_eq_false, eq_self, qn_meq, qn_of, Nat.reduceEqDiff, Nat.reduceLT, Nat.reduceLeDiff, Nat.reduceAdd, Nat.reduceSub, Nat.reduceMul, Nat.reducePow, or_self, or_false, or_true, false_or, true_or, and_true, true_and, and_false, false_and, and_self, Nat.not_le.mpr hi2, qn_or]
    congr 2
    apply Nat.eq_of_testBit_eq
    intro k
    rw [Nat.testBit_or, bs_t, bs_t, Nat.testBit_two_pow, tk_s hi2]
    generalize (stk s).getD i 0 = x at h3 ⊢
    by_cases e : x = k
    · have : k < ct 0 13 := by omega
      simp [e, this]
    · have e2 : ¬ k = x := fun x => e x.symm
      simp [e, e2]
theorem rq_topOf (h : mSC μ ct cd sc stk) {s : Nat} (hs : s < ct 0 14) : X12_topOf n μ (nI s) = some (μ, qe (qtop sc s (ct 0 13))) := by
  have h0 := h
  obtain ⟨⟨hns, hnb, hpt, hl4, hl5, hA1, hA2, hA6, hE1, hE2, hl7, hl8⟩, ⟨h47, h48, hAn, hWh, hRo, hMa, hSt, hFe⟩, hQ, ⟨hb10, hs5, hG, hH, hL, hU, hO⟩, hB, hPl⟩ := h
  have hX := fun k => Nat.lt_trans (hB k) (by decide : (1048576 : Nat) < 2 ^ 31)
  have hY : ∀ p k, ct p k < 2 ^ 31 := fun p k => Nat.lt_trans (hG p k) (by decide)
  have hlen := stk_le hQ hs
  by_cases e : (stk s).length = 0
  · have : qtop sc s (ct 0 13) = none := by
      cases e2 : qtop sc s (ct 0 13) with
      | none => rfl
      | some x =>
        obtain ⟨a1, a2, _⟩ := qtop_lt e2
        have := ((hQ s hs).2 x).mpr ⟨a1, a2⟩
        rw [List.length_eq_zero_iff.mp e] at this
        cases this
    simp (disch := first | assumption | omega | exact hX _ | exact hY _ _ | exact hZ _ | fail) only [X12_topOf, X12_topOf_31, hMa, sp_pl, sp_ckt, sp_bd_s, sp_bv_s, qn_l, nI_add, qn_sub, pk_mul, qn_le, qn_lt, qn_eq, qn_in, qn_g, nI_clamp, qn_and31, qn_sl, qn_sr, qn_b0, qn_b1, sp_zb0, sp_zb1, if_true, if_false, if_pos, if_neg, reduceIte, not_true_eq_false, not_false_eq_true, decide_true, decide_false, Bool.false_eq_true, Bool.not_true, Bool.not_false, Bool.true_eq_false, eq_self, qn_meq, qn_of, Nat.reduceEqDiff, Nat.reduceLT, Nat.reduceLeDiff, Nat.reduceAdd, Nat.reduceSub, Nat.reduceMul, Nat.reducePow, or_self, or_false, or_true, false_or, true_or, and_true, true_and, and_false, false_and, and_self, e, this, qe]
  · have h3 := stk_gd hQ hs (show (stk s).length - 1 < (stk s).length by omega)
    have : qtop sc s (ct 0 13) = some ((stk s).getD ((stk s).length - 1) 0) := by
      cases e2 : qtop sc s (ct 0 13) with
      | none => exact absurd h3.2 (qtop_no e2 _ h3.1)
      | some x =>
        obtain ⟨a1, a2, a3⟩ := qtop_lt e2
        obtain ⟨j, hj, ej⟩ := mem_gd (((hQ s hs).2 x).mpr ⟨a1, a2⟩)
        by_cases hjl : j = (stk s).length - 1
        · rw [← hjl, ej]
        · have := pw_gd (hQ s hs).1 (show j < (stk s).length - 1 by omega) (by omega)
          rw [ej] at this
          have := a3 _ h3.1 h3.2
          omega
    have e4 : 10 * s + (stk s).length - 1 = 10 * s + ((stk s).length - 1) := by omega
    simp (disch := first | assumption | omega | exact hX _ | exact hY _ _ | exact hZ _ | fail) only [X12_topOf, X12_topOf_31, hMa, sp_pl, sp_ckt, sp_bd_s, sp_bv_s, qn_l, nI_add, qn_sub, pk_mul, qn_le, qn_lt, qn_eq, qn_in, qn_g, nI_clamp, qn_and31, qn_sl, qn_sr, qn_b0, qn_b1, sp_zb0, sp_zb1, if_true, if_false, if_pos, if_neg, reduceIte, not_true_eq_false, not_false_eq_true, decide_true, decide_false, Bool.false_eq_true, Bool.not_true, Bool.not_false, Bool.true_eq_false, eq_self, qn_meq, qn_of, Nat.reduceEqDiff, Nat.reduceLT, Nat.reduceLeDiff, Nat.reduceAdd, Nat.reduceSub, Nat.reduceMul, Nat.reducePow, or_self, or_false, or_true, false_or, true_or, and_true, true_and, and_false, false_and, and_self, e, this, qe, e4, hSt]
theorem rq_lengths (h : mSC μ ct cd sc stk) (hn : 100 ≤ n) {m : Nat} (hm : m < 2 ^ 31) : X12_lengths n μ (nI m) = some (μ, nI (qs (fun b => if m.testBit b then ct 2 b else 0) (ct 0 13))) := by
  have h0 := h
  obtain ⟨⟨hns, hnb, hpt, hl4, hl5, hA1, hA2, hA6, hE1, hE2, hl7, hl8⟩, ⟨h47, h48, hAn, hWh, hRo, hMa, hSt, hFe⟩, hQ, ⟨hb10, hs5, hG, hH, hL, hU, hO⟩, hB, hPl⟩ := h
  have hX := fun k => Nat.lt_trans (hB k) (by decide : (1048576 : Nat) < 2 ^ 31)
  have hY : ∀ p k, ct p k < 2 ^ 31 := fun p k => Nat.lt_trans (hG p k) (by decide)
  simp (disch := first | assumption | omega | exact hX _ | exact hY _ _ | exact hZ _ | fail) only [X12_lengths, sp_pl, sp_ckt, sp_bd_s, sp_bv_s, qn_l, nI_add, qn_sub, pk_mul, qn_le, qn_lt, qn_eq, qn_in, qn_g, nI_clamp, qn_and31, qn_sl, qn_sr, qn_b0, qn_b1, sp_zb0, sp_zb1, if_true, if_false, if_pos, if_neg, reduceIte, not_true_eq_false, not_false_eq_true, decide_true, decide_false, Bool.false_eq_true, Bool.not_true, Bool.not_false, Bool.true_eq_false, eq_self, qn_meq, qn_of, Nat.reduceEqDiff, Nat.reduceLT, Nat.reduceLeDiff, Nat.reduceAdd, Nat.reduceSub, Nat.reduceMul, Nat.reducePow, or_self, or_false, or_true, false_or, true_or, and_true, true_and, and_false, false_and, and_self]
  refine lp_up (fun f i => X12_lengths_4 n f μ (nI m) (nI (qs (fun b => if m.testBit b then ct 2 b else 0) i)) (nI i)) (ct 0 13) _ (fun f => ?_) (fun f i hi2 => ?_) n 0 (by omega) (by omega)
  · simp (disch := first | assumption | omega | exact hX _ | exact hY _ _ | exact hZ _ | fail) only [X12_lengths_4, X12_lengths_41, hnb, sp_pl, sp_ckt, sp_bd_s, sp_bv_s, qn_l, nI_add, qn_sub, pk_mul, qn_le, qn_lt, qn_eq, qn_in, qn_g, nI_clamp, qn_and31, qn_sl, qn_sr, qn_b0, qn_b1, sp_zb0, sp_zb1, if_true, if_false, if_pos, if_neg, reduceIte, not_true_eq_false, not_false_eq_true, decide_true, decide_false, Bool.false_eq_true, Bool.not_true, Bool.not_false, Bool.true_eq_false, eq_self, qn_meq, qn_of, Nat.reduceEqDiff, Nat.reduceLT, Nat.reduceLeDiff, Nat.reduceAdd, Nat.reduceSub, Nat.reduceMul, Nat.reducePow, or_self, or_false, or_true, false_or, true_or, and_true, true_and, and_false, false_and, and_self, Nat.le_refl]
  · simp (disch := first | assumption | omega | exact hX _ | exact hY _ _ | exact hZ _ | fail) only [X12_lengths_4, X12_lengths_33, hnb, hA2, sp_pl, sp_ckt, sp_bd_s, sp_bv_s, qn_l, nI_add, qn_sub, pk_mul, qn_le, qn_lt, qn_eq, qn_in, qn_g, nI_clamp, qn_and31, qn_sl, qn_sr, qn_b0, qn_b1, sp_zb0, sp_zb1, if_true, if_false, if_pos, if_neg, reduceIte, not_true_eq_false, not_false_eq_true, decide_true, decide_false, Bool.false_eq_true, Bool.not_true, Bool.not_false, Bool.true_eq_false, eq_self, qn_meq, qn_of, Nat.reduceEqDiff, Nat.reduceLT, Nat.reduceLeDiff, Nat.reduceAdd, Nat.reduceSub, Nat.reduceMul, Nat.reducePow, or_self, or_false, or_true, false_or, true_or, and_true, true_and, and_false, false_and, and_self, Nat.not_le.mpr hi2, rq_isOf hm (show i < 32 by omega)]
    by_cases e : m.testBit i = true
    · simp (disch := first | assumption | omega | exact hX _ | exact hY _ _ | exact hZ _ | fail) only [e, sp_pl, sp_ckt, sp_bd_s, sp_bv_s, qn_l, nI_add, qn_sub, pk_mul, qn_le, qn_lt, qn_eq, qn_in, qn_g, nI_clamp, qn_and31, qn_sl, qn_sr, qn_b0, qn_b1, sp_zb0, sp_zb1, if_true, if_false, if_pos, if_neg, reduceIte, not_true_eq_false, not_false_eq_true, decide_true, decide_false, Bool.false_eq_true, Bool.not_true, Bool.not_false, Bool.true_eq_false, eq_self, qn_meq, qn_of, Nat.reduceEqDiff, Nat.reduceLT, Nat.reduceLeDiff, Nat.reduceAdd, Nat.reduceSub, Nat.reduceMul, Nat.reducePow, or_self, or_false, or_true, false_or, true_or, and_true, true_and, and_false, false_and, and_self, qs]
    · simp (disch := first | assumption | omega | exact hX _ | exact hY _ _ | exact hZ _ | fail) only [e, sp_pl, sp_ckt, sp_bd_s, sp_bv_s, qn_l, nI_add, qn_sub, pk_mul, qn_le, qn_lt, qn_eq, qn_in, qn_g, nI_clamp, qn_and31, qn_sl, qn_sr, qn_b0, qn_b1, sp_zb0, sp_zb1, if_true, if_false, if_pos, if_neg, reduceIte, not_true_eq_false, not_false_eq_true, decide_true, decide_false, Bool.false_eq_true, Bool.not_true, Bool.not_false, Bool.true_eq_false, eq_self, qn_meq, qn_of, Nat.reduceEqDiff, Nat.reduceLT, Nat.reduceLeDiff, Nat.reduceAdd, Nat.reduceSub, Nat.reduceMul, Nat.reducePow, or_self, or_false, or_true, false_or, true_or, and_true, true_and, and_false, false_and, and_self, qs]
theorem rq_leftOf (h : mSC μ ct cd sc stk) (hn : 100 ≤ n) {s : Nat} (hs : s < ct 0 14) (hu : qus ct sc s ≤ sc (30 + s)) : X12_leftOf n μ (nI s) = some (μ, nI (sc (30 + s) - qus ct sc s)) := by
  have h0 := h
  have h0 := h
  obtain ⟨⟨hns, hnb, hpt, hl4, hl5, hA1, hA2, hA6, hE1, hE2, hl7, hl8⟩, ⟨h47, h48, hAn, hWh, hRo, hMa, hSt, hFe⟩, hQ, ⟨hb10, hs5, hG, hH, hL, hU, hO⟩, hB, hPl⟩ := h
  have hX := fun k => Nat.lt_trans (hB k) (by decide : (1048576 : Nat) < 2 ^ 31)
  have hY : ∀ p k, ct p k < 2 ^ 31 := fun p k => Nat.lt_trans (hG p k) (by decide)
  have hb := bs_lt (fun b => decide (sc (10 + b) = s + 1)) (ct 0 13)
  have hb2 : (2 : Nat) ^ ct 0 13 ≤ 2 ^ 10 := Nat.pow_le_pow_right (by decide) hb10
  have e : qs (fun b => if (bs (fun b => decide (sc (10 + b) = s + 1)) (ct 0 13)).testBit b then ct 2 b else 0) (ct 0 13) = qus ct sc s := by
    unfold qus
    refine qs_cong fun k hk => ?_
    rw [bs_t]
    simp [hk]
  simp (disch := first | assumption | omega | exact hX _ | exact hY _ _ | exact hZ _ | fail) only [X12_leftOf, sp_pl, sp_ckt, sp_bd_s, sp_bv_s, qn_l, nI_add, qn_sub, pk_mul, qn_le, qn_lt, qn_eq, qn_in, qn_g, nI_clamp, qn_and31, qn_sl, qn_sr, qn_b0, qn_b1, sp_zb0, sp_zb1, if_true, if_false, if_pos, if_neg, reduceIte, not_true_eq_false, not_false_eq_true, decide_true, decide_false, Bool.false_eq_true, Bool.not_true, Bool.not_false, Bool.true_eq_false, eq_self, qn_meq, qn_of, Nat.reduceEqDiff, Nat.reduceLT, Nat.reduceLeDiff, Nat.reduceAdd, Nat.reduceSub, Nat.reduceMul, Nat.reducePow, or_self, or_false, or_true, false_or, true_or, and_true, true_and, and_false, false_and, and_self, rq_inside h0 hn hs, rq_lengths h0 hn (show bs (fun b => decide (sc (10 + b) = s + 1)) (ct 0 13) < 2 ^ 31 by omega), e, hRo]
theorem rq_isFeud (h : mSC μ ct cd sc stk) {a b : Nat} (ha : a < ct 0 13) (hb : b < ct 0 13) : X12_isFeud n μ (nI a) (nI b) = some (μ, if (sc (35 + ct 1 a)).testBit (ct 1 b) then nI 1 else nI 0) := by
  have h0 := h
  obtain ⟨⟨hns, hnb, hpt, hl4, hl5, hA1, hA2, hA6, hE1, hE2, hl7, hl8⟩, ⟨h47, h48, hAn, hWh, hRo, hMa, hSt, hFe⟩, hQ, ⟨hb10, hs5, hG, hH, hL, hU, hO⟩, hB, hPl⟩ := h
  have hX := fun k => Nat.lt_trans (hB k) (by decide : (1048576 : Nat) < 2 ^ 31)
  have hY : ∀ p k, ct p k < 2 ^ 31 := fun p k => Nat.lt_trans (hG p k) (by decide)
  have h1 := hH a
  have h2 := hH b
  simp (disch := first | assumption | omega | exact hX _ | exact hY _ _ | exact hZ _ | fail) only [X12_isFeud, hA1, hFe, sp_pl, sp_ckt, sp_bd_s, sp_bv_s, qn_l, nI_add, qn_sub, pk_mul, qn_le, qn_lt, qn_eq, qn_in, qn_g, nI_clamp, qn_and31, qn_sl, qn_sr, qn_b0, qn_b1, sp_zb0, sp_zb1, if_true, if_false, if_pos, if_neg, reduceIte, not_true_eq_false, not_false_eq_true, decide_true, decide_false, Bool.false_eq_true, Bool.not_true, Bool.not_false, Bool.true_eq_false, eq_self, qn_meq, qn_of, Nat.reduceEqDiff, Nat.reduceLT, Nat.reduceLeDiff, Nat.reduceAdd, Nat.reduceSub, Nat.reduceMul, Nat.reducePow, or_self, or_false, or_true, false_or, true_or, and_true, true_and, and_false, false_and, and_self, rq_isOf (hX (35 + ct 1 a)) (show ct 1 b < 32 by omega)]
  split <;> simp (disch := first | assumption | omega | exact hX _ | exact hY _ _ | exact hZ _ | fail) only [sp_pl, sp_ckt, sp_bd_s, sp_bv_s, qn_l, nI_add, qn_sub, pk_mul, qn_le, qn_lt, qn_eq, qn_in, qn_g, nI_clamp, qn_and31, qn_sl, qn_sr, qn_b0, qn_b1, sp_zb0, sp_zb1, if_true, if_false, if_pos, if_neg, reduceIte, not_true_eq_false, not_false_eq_true, decide_true, decide_false, Bool.false_eq_true, Bool.not_true, Bool.not_false, Bool.true_eq_false, eq_self, qn_meq, qn_of, Nat.reduceEqDiff, Nat.reduceLT, Nat.reduceLeDiff, Nat.reduceAdd, Nat.reduceSub, Nat.reduceMul, Nat.reducePow, or_self, or_false, or_true, false_or, true_or, and_true, true_and, and_false, false_and, and_self]
end
