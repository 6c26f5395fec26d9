-- ===== A CITY and a SCENE of the class, as numbers =====
def qK (ct : Nat → Nat → Nat) : Prop := ct 0 13 ≤ 10 ∧ ct 0 14 ≤ 5 ∧ (∀ p k, ct p k < 1024) ∧ (∀ b, ct 1 b < 6) ∧ (∀ b, 1 ≤ ct 2 b ∧ ct 2 b ≤ 40) ∧ (∀ s, ct 6 s ≤ 30) ∧ (∀ h, h < 6 → ct 4 h = bs (fun b => decide (ct 1 b = h)) (ct 0 13))
/-- a rule's signs: numbers below 10000, values from 10000 on, what joins from 10010 on (6 is not) -/
def encC (k : Nat) : Int32 := if k < 10000 then nI k else if k < 10010 then -nI (k - 9999) else -nI (k - 10003)
def encM (k : Nat) : Int32 := if k < 10000 then nI k else if k < 10010 then -nI (k - 9999) else if k = 10016 then -nI 28 else if 10016 < k then -nI (k - 9991) else -nI (k - 9990)
def qok (m lv : Nat) : List Nat → Nat → Prop
  | [], h => h = 1
  | k :: L, h => if k < 10000 + lv then h + 1 ≤ m ∧ qok m lv L (h + 1) else if k = 10016 then 1 ≤ h ∧ qok m lv L h else (10010 ≤ k ∧ k ≤ 10018 ∧ 2 ≤ h) ∧ qok m lv L (h - 1)
def qjoin (k : Nat) (a b : Int32) : Int32 := if k = 10010 then a + b else if k = 10011 then a - b else if k = 10012 then a * b else if k = 10013 then (if b = 0 then 0 else a / b) else if k = 10014 then (if b ≤ a then 0 else 1) else if k = 10015 then (if a = b then 1 else 0) else if k = 10017 then (if a = 0 then 0 else if b = 0 then 0 else 1) else (if a = 0 then if b = 0 then 0 else 1 else 1)
def qstep (v : Nat → Int32) (k : Nat) (st : List Int32) : List Int32 := if k < 10000 then nI k :: st else if k < 10010 then v (k - 10000) :: st else if k = 10016 then (if st.headD 0 = 0 then 1 else 0) :: st.tail else qjoin k (st.tail.headD 0) (st.headD 0) :: st.tail.tail
def qev (v : Nat → Int32) : List Nat → List Int32 → List Int32
  | [], st => st
  | k :: L, st => qev v L (qstep v k st)
/-- a rule's codes in the city's row, from its first to its last -/
def qR (σ : sp_St) (c i j : Nat) (L : List Nat) : Prop := ∃ a : Nat, σ.1 c i = nI a ∧ σ.1 c j = nI (a + L.length) ∧ a + L.length ≤ 700 ∧ ∀ k, k < L.length → σ.2.2.1 (c + 8) (a + k) = encC (L.getD k 0)
def qC (σ : sp_St) (c : Nat) (ct : Nat → Nat → Nat) (cd : List Nat × List Nat) : Prop := σ.1 c 13 = nI (ct 0 13) ∧ σ.1 c 14 = nI (ct 0 14) ∧ σ.1 c 16 = nI (ct 0 16) ∧ (∀ b, b < ct 0 13 → σ.2.2.1 (c + 1) b = nI (ct 1 b)) ∧ (∀ b, b < ct 0 13 → σ.2.2.1 (c + 2) b = nI (ct 2 b)) ∧ (∀ b, b < ct 0 13 → σ.2.2.1 (c + 3) b = nI (ct 3 b)) ∧ (∀ h, h < 6 → σ.2.2.1 (c + 4) h = nI (ct 4 h)) ∧ (∀ s, s < ct 0 14 → σ.2.2.1 (c + 5) s = nI (ct 5 s)) ∧ (∀ s, s < ct 0 14 → σ.2.2.1 (c + 6) s = nI (ct 6 s)) ∧ (∀ h, h < 6 → σ.2.2.1 (c + 7) h = nI (ct 7 h)) ∧ qR σ c 9 10 cd.1 ∧ qR σ c 11 12 cd.2
def qSC (σ : sp_St) (t c : Nat) (ct : Nat → Nat → Nat) (cd : List Nat × List Nat) (sc : Nat → Nat) : Prop := 20 ≤ t ∧ σ.2.1 t 0 = c ∧ sp_isc c = true ∧ qC σ c ct cd ∧ (∀ k, k < 50 → σ.2.2.1 (t + 1) k = nI (sc k)) ∧ qK ct ∧ (∀ k, sc k < 1048576)
theorem isc_le {c : Nat} (h : sp_isc c = true) : c ≤ 11 := by
  simp [sp_isc] at h
  omega
/-- all other places are as they were -/
def qfr (t : Nat) (σ τ : sp_St) : Prop := τ.2.1 = σ.2.1 ∧ τ.2.2.2 = σ.2.2.2 ∧ ∀ p, p < t ∨ t + 6 < p → τ.1 p = σ.1 p ∧ τ.2.2.1 p = σ.2.2.1 p
theorem qfr_refl (t : Nat) (σ : sp_St) : qfr t σ σ := ⟨rfl, rfl, fun _ _ => ⟨rfl, rfl⟩⟩
theorem qfr_trans {t : Nat} {σ τ υ : sp_St} (h : qfr t σ τ) (g : qfr t τ υ) : qfr t σ υ := ⟨g.1.trans h.1, g.2.1.trans h.2.1, fun p hp => ⟨(g.2.2 p hp).1.trans (h.2.2 p hp).1, (g.2.2 p hp).2.trans (h.2.2 p hp).2⟩⟩
theorem qfr_sa {t p i : Nat} {σ : sp_St} {v : Int32} (h1 : t ≤ p) (h2 : p ≤ t + 6) : qfr t σ (sp_sa σ p i v) := by
  refine ⟨rfl, rfl, fun q hq => ⟨rfl, ?_⟩⟩
  funext j
  show (if q = p ∧ j = i then v else σ.2.2.1 q j) = σ.2.2.1 q j
  rw [if_neg (by omega)]
theorem qfr_si {t p i : Nat} {σ : sp_St} {v : Int32} (h1 : t ≤ p) (h2 : p ≤ t + 6) : qfr t σ (sp_si σ p i v) := by
  refine ⟨rfl, rfl, fun q hq => ⟨?_, rfl⟩⟩
  funext j
  show (if q = p ∧ j = i then v else σ.1 q j) = σ.1 q j
  rw [if_neg (by omega)]
theorem qC_fr {t c : Nat} {σ τ : sp_St} {ct : Nat → Nat → Nat} {cd : List Nat × List Nat} (h : qfr t σ τ) (hc : c ≤ 11) (ht : 20 ≤ t) (g : qC σ c ct cd) : qC τ c ct cd := by
  have e0 := (h.2.2 c (by omega)).1
  have e : ∀ k, k ≤ 8 → τ.2.2.1 (c + k) = σ.2.2.1 (c + k) := fun k hk => (h.2.2 (c + k) (by omega)).2
  unfold qC qR at *
  rw [e0, e 1 (by decide), e 2 (by decide), e 3 (by decide), e 4 (by decide), e 5 (by decide), e 6 (by decide), e 7 (by decide), e 8 (by decide)]
  exact g
theorem qSC_fr {t c : Nat} {σ τ : sp_St} {ct : Nat → Nat → Nat} {cd : List Nat × List Nat} {sc sc' : Nat → Nat} (g : qSC σ t c ct cd sc) (h : qfr t σ τ) (hs : ∀ k, k < 50 → τ.2.2.1 (t + 1) k = nI (sc' k)) (hB : ∀ k, sc' k < 1048576) : qSC τ t c ct cd sc' := by
  obtain ⟨ht, hc, hi, hC, hS, hK, _⟩ := g
  exact ⟨ht, by rw [h.1]; exact hc, hi, qC_fr h (isc_le hi) ht hC, hs, hK, hB⟩
section
variable {σ : sp_St} {t c n : Nat} {ct : Nat → Nat → Nat} {cd : List Nat × List Nat} {sc : Nat → Nat}
theorem sq_isOut (h : qSC σ t c ct cd sc) {b : Nat} (hb : b < 10) : X8_isOut n σ t (nI b) = some (σ, if sc (10 + b) = 0 then nI 1 else nI 0) := by
  have h0 := h
  obtain ⟨ht, hc, hi, ⟨hnb, hns, hpt, hA1, hA2, hA3, hA4, hA5, hA6, hA7, hR1, hR2⟩, hS, ⟨hb10, hs5, hG, hH, hL, hU, hO⟩, hB⟩ := h
  have hX := fun k => Nat.lt_trans (hB k) (by decide : (1048576 : Nat) < 2 ^ 31)
  have hY : ∀ p k, ct p k < 2 ^ 31 := fun p k => Nat.lt_trans (hG p k) (by decide)
  simp (disch := first | assumption | omega | exact hX _ | exact hY _ _ | exact hZ _ | fail) only [X8_isOut, sp_pl, sp_ckt, sp_bd_s, sp_bv_s, qn_l, nI_add, qn_sub, pk_mul, qn_le, qn_lt, qn_eq, qn_in, qn_g, nI_clamp, qn_and31, qn_sl, qn_sr, qn_b0, qn_b1, sp_zb0, sp_zb1, if_true, if_false, if_pos, if_neg, reduceIte, not_true_eq_false, not_false_eq_true, decide_true, decide_false, Bool.false_eq_true, Bool.not_true, Bool.not_false, Bool.true_eq_false, eq_self, qn_meq, qn_of, hS]
  split <;> simp (disch := first | assumption | omega | exact hX _ | exact hY _ _ | exact hZ _ | fail) only [sp_pl, sp_ckt, sp_bd_s, sp_bv_s, qn_l, nI_add, qn_sub, pk_mul, qn_le, qn_lt, qn_eq, qn_in, qn_g, nI_clamp, qn_and31, qn_sl, qn_sr, qn_b0, qn_b1, sp_zb0, sp_zb1, if_true, if_false, if_pos, if_neg, reduceIte, not_true_eq_false, not_false_eq_true, decide_true, decide_false, Bool.false_eq_true, Bool.not_true, Bool.not_false, Bool.true_eq_false, eq_self, qn_meq, qn_of]
theorem sq_isIn (h : qSC σ t c ct cd sc) {b : Nat} (hb : b < 10) : X8_isIn n σ t (nI b) = some (σ, if sc (10 + b) = 0 ∨ sc (10 + b) = 6 then nI 0 else nI 1) := by
  have h0 := h
  obtain ⟨ht, hc, hi, ⟨hnb, hns, hpt, hA1, hA2, hA3, hA4, hA5, hA6, hA7, hR1, hR2⟩, hS, ⟨hb10, hs5, hG, hH, hL, hU, hO⟩, hB⟩ := h
  have hX := fun k => Nat.lt_trans (hB k) (by decide : (1048576 : Nat) < 2 ^ 31)
  have hY : ∀ p k, ct p k < 2 ^ 31 := fun p k => Nat.lt_trans (hG p k) (by decide)
  simp (disch := first | assumption | omega | exact hX _ | exact hY _ _ | exact hZ _ | fail) only [X8_isIn, X8_isIn_30, X8_isIn_31, sp_pl, sp_ckt, sp_bd_s, sp_bv_s, qn_l, nI_add, qn_sub, pk_mul, qn_le, qn_lt, qn_eq, qn_in, qn_g, nI_clamp, qn_and31, qn_sl, qn_sr, qn_b0, qn_b1, sp_zb0, sp_zb1, if_true, if_false, if_pos, if_neg, reduceIte, not_true_eq_false, not_false_eq_true, decide_true, decide_false, Bool.false_eq_true, Bool.not_true, Bool.not_false, Bool.true_eq_false, eq_self, qn_meq, qn_of, hS]
  by_cases h1 : sc (10 + b) = 0
  · simp [h1]
  · by_cases h2 : sc (10 + b) = 6
    · simp [h2]
    · simp [h1, h2]
def sqState (sc : Nat → Nat) (b : Nat) : Nat := if sc (10 + b) = 0 then 0 else if sc (10 + b) = 6 then 2 else 1
theorem sq_state (h : qSC σ t c ct cd sc) {b : Nat} (hb : b < 10) : X8_state n σ t (nI b) = some (σ, nI (sqState sc b)) := by
  simp (disch := first | assumption | omega | exact hX _ | exact hY _ _ | exact hZ _ | fail) only [X8_state, sq_isOut h hb, sq_isIn h hb, sp_pl, sp_ckt, sp_bd_s, sp_bv_s, qn_l, nI_add, qn_sub, pk_mul, qn_le, qn_lt, qn_eq, qn_in, qn_g, nI_clamp, qn_and31, qn_sl, qn_sr, qn_b0, qn_b1, sp_zb0, sp_zb1, if_true, if_false, if_pos, if_neg, reduceIte, not_true_eq_false, not_false_eq_true, decide_true, decide_false, Bool.false_eq_true, Bool.not_true, Bool.not_false, Bool.true_eq_false, eq_self, qn_meq, qn_of]
  unfold sqState
  by_cases h1 : sc (10 + b) = 0
  · simp (disch := first | assumption | omega | exact hX _ | exact hY _ _ | exact hZ _ | fail) only [h1, sp_pl, sp_ckt, sp_bd_s, sp_bv_s, qn_l, nI_add, qn_sub, pk_mul, qn_le, qn_lt, qn_eq, qn_in, qn_g, nI_clamp, qn_and31, qn_sl, qn_sr, qn_b0, qn_b1, sp_zb0, sp_zb1, if_true, if_false, if_pos, if_neg, reduceIte, not_true_eq_false, not_false_eq_true, decide_true, decide_false, Bool.false_eq_true, Bool.not_true, Bool.not_false, Bool.true_eq_false, eq_self, qn_meq, qn_of]
  · by_cases h2 : sc (10 + b) = 6
    · simp (disch := first | assumption | omega | exact hX _ | exact hY _ _ | exact hZ _ | fail) [h2, qn_eq]
    · simp (disch := first | assumption | omega | exact hX _ | exact hY _ _ | exact hZ _ | fail) [h1, h2, qn_eq]
theorem sq_swallowerOf (h : qSC σ t c ct cd sc) {b : Nat} (hb : b < 10) : X8_swallowerOf n σ t (nI b) = some (σ, if sc (10 + b) = 0 ∨ sc (10 + b) = 6 then -nI 1 else nI (sc (10 + b) - 1)) := by
  have h0 := h
  obtain ⟨ht, hc, hi, ⟨hnb, hns, hpt, hA1, hA2, hA3, hA4, hA5, hA6, hA7, hR1, hR2⟩, hS, ⟨hb10, hs5, hG, hH, hL, hU, hO⟩, hB⟩ := h
  have hX := fun k => Nat.lt_trans (hB k) (by decide : (1048576 : Nat) < 2 ^ 31)
  have hY : ∀ p k, ct p k < 2 ^ 31 := fun p k => Nat.lt_trans (hG p k) (by decide)
  simp (disch := first | assumption | omega | exact hX _ | exact hY _ _ | exact hZ _ | fail) only [X8_swallowerOf, X8_swallowerOf_23, sq_isIn h0 hb, sp_pl, sp_ckt, sp_bd_s, sp_bv_s, qn_l, nI_add, qn_sub, pk_mul, qn_le, qn_lt, qn_eq, qn_in, qn_g, nI_clamp, qn_and31, qn_sl, qn_sr, qn_b0, qn_b1, sp_zb0, sp_zb1, if_true, if_false, if_pos, if_neg, reduceIte, not_true_eq_false, not_false_eq_true, decide_true, decide_false, Bool.false_eq_true, Bool.not_true, Bool.not_false, Bool.true_eq_false, eq_self, qn_meq, qn_of, hS]
  by_cases h1 : sc (10 + b) = 0 ∨ sc (10 + b) = 6
  · simp (disch := first | assumption | omega | exact hX _ | exact hY _ _ | exact hZ _ | fail) only [h1, sp_pl, sp_ckt, sp_bd_s, sp_bv_s, qn_l, nI_add, qn_sub, pk_mul, qn_le, qn_lt, qn_eq, qn_in, qn_g, nI_clamp, qn_and31, qn_sl, qn_sr, qn_b0, qn_b1, sp_zb0, sp_zb1, if_true, if_false, if_pos, if_neg, reduceIte, not_true_eq_false, not_false_eq_true, decide_true, decide_false, Bool.false_eq_true, Bool.not_true, Bool.not_false, Bool.true_eq_false, eq_self, qn_meq, qn_of]
  · simp (disch := first | assumption | omega | exact hX _ | exact hY _ _ | exact hZ _ | fail) only [h1, sp_pl, sp_ckt, sp_bd_s, sp_bv_s, qn_l, nI_add, qn_sub, pk_mul, qn_le, qn_lt, qn_eq, qn_in, qn_g, nI_clamp, qn_and31, qn_sl, qn_sr, qn_b0, qn_b1, sp_zb0, sp_zb1, if_true, if_false, if_pos, if_neg, reduceIte, not_true_eq_false, not_false_eq_true, decide_true, decide_false, Bool.false_eq_true, Bool.not_true, Bool.not_false, Bool.true_eq_false, eq_self, qn_meq, qn_of]
theorem sq_bladesAt (h : qSC σ t c ct cd sc) (hn : 100 ≤ n) {p : Nat} (hp : p < 100) : X8_bladesAt n σ t (nI p) = some (σ, nI (bs (fun b => decide (sc (10 + b) = p)) (ct 0 13))) := by
  have h0 := h
  obtain ⟨ht, hc, hi, ⟨hnb, hns, hpt, hA1, hA2, hA3, hA4, hA5, hA6, hA7, hR1, hR2⟩, hS, ⟨hb10, hs5, hG, hH, hL, hU, hO⟩, hB⟩ := h
  have hX := fun k => Nat.lt_trans (hB k) (by decide : (1048576 : Nat) < 2 ^ 31)
  have hY : ∀ p k, ct p k < 2 ^ 31 := fun p k => Nat.lt_trans (hG p k) (by decide)
  simp (disch := first | assumption | omega | exact hX _ | exact hY _ _ | exact hZ _ | fail) only [X8_bladesAt, sp_pl, sp_ckt, sp_bd_s, sp_bv_s, qn_l, nI_add, qn_sub, pk_mul, qn_le, qn_lt, qn_eq, qn_in, qn_g, nI_clamp, qn_and31, qn_sl, qn_sr, qn_b0, qn_b1, sp_zb0, sp_zb1, if_true, if_false, if_pos, if_neg, reduceIte, not_true_eq_false, not_false_eq_true, decide_true, decide_false, Bool.false_eq_true, Bool.not_true, Bool.not_false, Bool.true_eq_false, eq_self, qn_meq, qn_of]
  refine lp_up (fun f i => X8_bladesAt_4 n t f σ (nI p) (nI (bs (fun b => decide (sc (10 + b) = p)) i)) (nI i)) (ct 0 13) _ (fun f => ?_) (fun f i hi2 => ?_) n 0 (by omega) (by omega)
  · simp (disch := first | assumption | omega | exact hX _ | exact hY _ _ | exact hZ _ | fail) only [X8_bladesAt_4, X8_bladesAt_40, hc, hi, hnb, sp_pl, sp_ckt, sp_bd_s, sp_bv_s, qn_l, nI_add, qn_sub, pk_mul, qn_le, qn_lt, qn_eq, qn_in, qn_g, nI_clamp, qn_and31, qn_sl, qn_sr, qn_b0, qn_b1, sp_zb0, sp_zb1, if_true, if_false, if_pos, if_neg, reduceIte, not_true_eq_false, not_false_eq_true, decide_true, decide_false, Bool.false_eq_true, Bool.not_true, Bool.not_false, Bool.true_eq_false, eq_self, qn_meq, qn_of, Nat.le_refl]
  · simp (disch := first | assumption | omega | exact hX _ | exact hY _ _ | exact hZ _ | fail) only [X8_bladesAt_4, X8_bladesAt_34, hc, hi, hnb, sp_pl, sp_ckt, sp_bd_s, sp_bv_s, qn_l, nI_add, qn_sub, pk_mul, qn_le, qn_lt, qn_eq, qn_in, qn_g, nI_clamp, qn_and31, qn_sl, qn_sr, qn_b0, qn_b1, sp_zb0, sp_zb1, if_true, if_false, if_pos, if_neg, reduceIte, not_true_eq_false, not_false_eq_true, decide_true, decide_false, Bool.false_eq_true, Bool.not_true, Bool.not_false, Bool.true_eq_false, eq_self, qn_meq, qn_of, hS, qn_or, Nat.not_le.mpr hi2]
    by_cases h1 : sc (10 + i) = p
    · simp (disch := first | assumption | omega | exact hX _ | exact hY _ _ | exact hZ _ | fail) only [h1, sp_pl, sp_ckt, sp_bd_s, sp_bv_s, qn_l, nI_add, qn_sub, pk_mul, qn_le, qn_lt, qn_eq, qn_in, qn_g, nI_clamp, qn_and31, qn_sl, qn_sr, qn_b0, qn_b1, sp_zb0, sp_zb1, if_true, if_false, if_pos, if_neg, reduceIte, not_true_eq_false, not_false_eq_true, decide_true, decide_false, Bool.false_eq_true, Bool.not_true, Bool.not_false, Bool.true_eq_false, eq_self, qn_meq, qn_of, bs]
    · simp (disch := first | assumption | omega | exact hX _ | exact hY _ _ | exact hZ _ | fail) only [h1, sp_pl, sp_ckt, sp_bd_s, sp_bv_s, qn_l, nI_add, qn_sub, pk_mul, qn_le, qn_lt, qn_eq, qn_in, qn_g, nI_clamp, qn_and31, qn_sl, qn_sr, qn_b0, qn_b1, sp_zb0, sp_zb1, if_true, if_false, if_pos, if_neg, reduceIte, not_true_eq_false, not_false_eq_true, decide_true, decide_false, Bool.false_eq_true, Bool.not_true, Bool.not_false, Bool.true_eq_false, eq_self, qn_meq, qn_of, bs]
theorem sq_bladesOut (h : qSC σ t c ct cd sc) (hn : 100 ≤ n) : X8_bladesOut n σ t = some (σ, nI (bs (fun b => decide (sc (10 + b) = 0)) (ct 0 13))) := by
  simp (disch := first | assumption | omega | exact hX _ | exact hY _ _ | exact hZ _ | fail) only [X8_bladesOut, qn_l, sq_bladesAt h hn, sp_pl, sp_ckt, sp_bd_s, sp_bv_s, qn_l, nI_add, qn_sub, pk_mul, qn_le, qn_lt, qn_eq, qn_in, qn_g, nI_clamp, qn_and31, qn_sl, qn_sr, qn_b0, qn_b1, sp_zb0, sp_zb1, if_true, if_false, if_pos, if_neg, reduceIte, not_true_eq_false, not_false_eq_true, decide_true, decide_false, Bool.false_eq_true, Bool.not_true, Bool.not_false, Bool.true_eq_false, eq_self, qn_meq, qn_of]
theorem sq_bladesAtRest (h : qSC σ t c ct cd sc) (hn : 100 ≤ n) : X8_bladesAtRest n σ t = some (σ, nI (bs (fun b => decide (sc (10 + b) = 6)) (ct 0 13))) := by
  simp (disch := first | assumption | omega | exact hX _ | exact hY _ _ | exact hZ _ | fail) only [X8_bladesAtRest, qn_l, sq_bladesAt h hn, sp_pl, sp_ckt, sp_bd_s, sp_bv_s, qn_l, nI_add, qn_sub, pk_mul, qn_le, qn_lt, qn_eq, qn_in, qn_g, nI_clamp, qn_and31, qn_sl, qn_sr, qn_b0, qn_b1, sp_zb0, sp_zb1, if_true, if_false, if_pos, if_neg, reduceIte, not_true_eq_false, not_false_eq_true, decide_true, decide_false, Bool.false_eq_true, Bool.not_true, Bool.not_false, Bool.true_eq_false, eq_self, qn_meq, qn_of]
theorem sq_bladesIn (h : qSC σ t c ct cd sc) (hn : 100 ≤ n) : X8_bladesIn n σ t = some (σ, nI (bs (fun b => decide (¬ sc (10 + b) = 0 ∧ ¬ sc (10 + b) = 6)) (ct 0 13))) := by
  have h0 := h
  obtain ⟨ht, hc, hi, ⟨hnb, hns, hpt, hA1, hA2, hA3, hA4, hA5, hA6, hA7, hR1, hR2⟩, hS, ⟨hb10, hs5, hG, hH, hL, hU, hO⟩, hB⟩ := h
  have hX := fun k => Nat.lt_trans (hB k) (by decide : (1048576 : Nat) < 2 ^ 31)
  have hY : ∀ p k, ct p k < 2 ^ 31 := fun p k => Nat.lt_trans (hG p k) (by decide)
  have hp : 1 ≤ 2 ^ ct 0 13 := Nat.one_le_two_pow
  simp (disch := first | assumption | omega | exact hX _ | exact hY _ _ | exact hZ _ | fail) only [X8_bladesIn, sq_bladesOut h0 hn, sq_bladesAtRest h0 hn, hc, hi, hnb, sp_pl, sp_ckt, sp_bd_s, sp_bv_s, qn_l, nI_add, qn_sub, pk_mul, qn_le, qn_lt, qn_eq, qn_in, qn_g, nI_clamp, qn_and31, qn_sl, qn_sr, qn_b0, qn_b1, sp_zb0, sp_zb1, if_true, if_false, if_pos, if_neg, reduceIte, not_true_eq_false, not_false_eq_true, decide_true, decide_false, Bool.false_eq_true, Bool.not_true, Bool.not_false, Bool.true_eq_false, eq_self, qn_meq, qn_of]
  rw [qn_dif, qn_dif]
  congr 3
  apply Nat.eq_of_testBit_eq
  intro k
  rw [qd_t, qd_t, bs_t, bs_t, bs_t, Nat.testBit_two_pow_sub_one]
  by_cases hk : k < ct 0 13
  · simp [hk]
  · simp [hk]
theorem sq_left (h : qSC σ t c ct cd sc) (hn : 100 ≤ n) {s : Nat} (hs : s < 5) : X8_left n σ t (nI s) = some (σ, nI (sc (30 + s)) - nI (qs (fun b => if sc (10 + b) = s + 1 then ct 2 b else 0) (ct 0 13))) := by
  have h0 := h
  obtain ⟨ht, hc, hi, ⟨hnb, hns, hpt, hA1, hA2, hA3, hA4, hA5, hA6, hA7, hR1, hR2⟩, hS, ⟨hb10, hs5, hG, hH, hL, hU, hO⟩, hB⟩ := h
  have hX := fun k => Nat.lt_trans (hB k) (by decide : (1048576 : Nat) < 2 ^ 31)
  have hY : ∀ p k, ct p k < 2 ^ 31 := fun p k => Nat.lt_trans (hG p k) (by decide)
  simp (disch := first | assumption | omega | exact hX _ | exact hY _ _ | exact hZ _ | fail) only [X8_left, sp_pl, sp_ckt, sp_bd_s, sp_bv_s, qn_l, nI_add, qn_sub, pk_mul, qn_le, qn_lt, qn_eq, qn_in, qn_g, nI_clamp, qn_and31, qn_sl, qn_sr, qn_b0, qn_b1, sp_zb0, sp_zb1, if_true, if_false, if_pos, if_neg, reduceIte, not_true_eq_false, not_false_eq_true, decide_true, decide_false, Bool.false_eq_true, Bool.not_true, Bool.not_false, Bool.true_eq_false, eq_self, qn_meq, qn_of, hS]
  have := lp_up (fun f i => X8_left_12 n t f σ (nI s) (nI (sc (30 + s)) - nI (qs (fun b => if sc (10 + b) = s + 1 then ct 2 b else 0) i)) (nI i)) (ct 0 13) (some (σ, nI (sc (30 + s)) - nI (qs (fun b => if sc (10 + b) = s + 1 then ct 2 b else 0) (ct 0 13)))) (fun f => ?_) (fun f i hi2 => ?_) n 0 (by omega) (by omega)
  · simpa only [qs, qn_sub (Nat.zero_le _), Nat.sub_zero] using this
  · simp (disch := first | assumption | omega | exact hX _ | exact hY _ _ | exact hZ _ | fail) only [X8_left_12, X8_left_56, hc, hi, hnb, sp_pl, sp_ckt, sp_bd_s, sp_bv_s, qn_l, nI_add, qn_sub, pk_mul, qn_le, qn_lt, qn_eq, qn_in, qn_g, nI_clamp, qn_and31, qn_sl, qn_sr, qn_b0, qn_b1, sp_zb0, sp_zb1, if_true, if_false, if_pos, if_neg, reduceIte, not_true_eq_false, not_false_eq_true, decide_true, decide_false, Bool.false_eq_true, Bool.not_true, Bool.not_false, Bool.true_eq_false, eq_self, qn_meq, qn_of, Nat.le_refl]
  · simp (disch := first | assumption | omega | exact hX _ | exact hY _ _ | exact hZ _ | fail) only [X8_left_12, X8_left_50, hc, hi, hnb, sp_pl, sp_ckt, sp_bd_s, sp_bv_s, qn_l, nI_add, qn_sub, pk_mul, qn_le, qn_lt, qn_eq, qn_in, qn_g, nI_clamp, qn_and31, qn_sl, qn_sr, qn_b0, qn_b1, sp_zb0, sp_zb1, if_true, if_false, if_pos, if_neg, reduceIte, not_true_eq_false, not_false_eq_true, decide_true, decide_false, Bool.false_eq_true, Bool.not_true, Bool.not_false, Bool.true_eq_false, eq_self, qn_meq, qn_of, hS, hA2, Nat.not_le.mpr hi2]
    by_cases h1 : sc (10 + i) = s + 1
    · simp (disch := first | assumption | omega | exact hX _ | exact hY _ _ | exact hZ _ | fail) only [h1, sp_pl, sp_ckt, sp_bd_s, sp_bv_s, qn_l, nI_add, qn_sub, pk_mul, qn_le, qn_lt, qn_eq, qn_in, qn_g, nI_clamp, qn_and31, qn_sl, qn_sr, qn_b0, qn_b1, sp_zb0, sp_zb1, if_true, if_false, if_pos, if_neg, reduceIte, not_true_eq_false, not_false_eq_true, decide_true, decide_false, Bool.false_eq_true, Bool.not_true, Bool.not_false, Bool.true_eq_false, eq_self, qn_meq, qn_of, qs]
      rw [Int32.sub_sub, nI_add]
    · simp (disch := first | assumption | omega | exact hX _ | exact hY _ _ | exact hZ _ | fail) only [h1, sp_pl, sp_ckt, sp_bd_s, sp_bv_s, qn_l, nI_add, qn_sub, pk_mul, qn_le, qn_lt, qn_eq, qn_in, qn_g, nI_clamp, qn_and31, qn_sl, qn_sr, qn_b0, qn_b1, sp_zb0, sp_zb1, if_true, if_false, if_pos, if_neg, reduceIte, not_true_eq_false, not_false_eq_true, decide_true, decide_false, Bool.false_eq_true, Bool.not_true, Bool.not_false, Bool.true_eq_false, eq_self, qn_meq, qn_of, qs, Nat.add_zero]
end
