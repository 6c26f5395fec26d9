-- ===== what a token is: words, marks, numbers; faults =====
def eqd (T : Nat → Nat) (b s : Nat) : Nat → Nat → Bool
  | 0, _ => true
  | k + 1, i => decide (sp_tb s (nI i) = nI (T (b + i))) && eqd T b s k (i + 1)
def wdB (T : Nat → Nat) (e b kd s : Nat) : Bool := decide (kd = 1) && decide (e - b = sp_tl s) && eqd T b s (sp_tl s) 0
theorem wdB_1 {T : Nat → Nat} {e b kd s : Nat} (h : wdB T e b kd s = true) : kd = 1 ∧ e - b = sp_tl s ∧ eqd T b s (sp_tl s) 0 = true := by
  unfold wdB at h
  simp only [Bool.and_eq_true, decide_eq_true_eq] at h
  exact ⟨h.1.1, h.1.2, h.2⟩
theorem wdB_n {T : Nat → Nat} {e b kd s : Nat} (h : kd ≠ 1) : wdB T e b kd s = false := by
  unfold wdB
  simp [h]
theorem tl_pos : ∀ s, s < 16 → 1 ≤ sp_tl s := by decide
theorem wdB_0 {T : Nat → Nat} {e b kd s : Nat} (hs : s < 16) (h : wdB T e b kd s = true) : sp_tb s (nI 0) = nI (T b) := by
  have h2 := (wdB_1 h).2.2
  have h1 := tl_pos s hs
  rw [show sp_tl s = (sp_tl s - 1) + 1 by omega, eqd] at h2
  simp only [Bool.and_eq_true, decide_eq_true_eq] at h2
  exact h2.1
/-- two words at once -/
theorem wd_x : ∀ s, s < 16 → ∀ t, t < 16 → (9 ≤ s ∧ s ≤ 14 ∧ 9 ≤ t ∧ t ≤ 14 ∧ s ≠ t) → ¬ (sp_tl s = sp_tl t ∧ sp_tb s (nI 0) = sp_tb t (nI 0)) := by decide +kernel
theorem wdB_x {T : Nat → Nat} {e b kd s t : Nat} (hs : 9 ≤ s ∧ s ≤ 14) (ht : 9 ≤ t ∧ t ≤ 14) (hst : s ≠ t) (h : wdB T e b kd s = true) : wdB T e b kd t = false := by
  cases g : wdB T e b kd t with
  | false => rfl
  | true => exact absurd ⟨(wdB_1 h).2.1.symm.trans (wdB_1 g).2.1, (wdB_0 (by omega) h).trans (wdB_0 (by omega) g).symm⟩ (wd_x s (by omega) t (by omega) ⟨hs.1, hs.2, ht.1, ht.2, hst⟩)
def cFl (σ : sp_St) (f : Nat) : sp_St := sp_si (sp_si σ 21 2 (nI f)) 21 4 (σ.1 20 3)
def mFl (μ : sp_St) (f : Nat) : sp_St := sp_si (sp_si μ 0 22 (nI f)) 0 23 (μ.1 0 20)
section
variable {n N e b kd v : Nat} {T : Nat → Nat} {σ μ : sp_St}
theorem cq_fail (f : Nat) : X7_fail n σ (nI f) = some (cFl σ f, 0) := rfl
theorem rq_amiss (f : Nat) (h : μ.1 0 22 = 0) : X12_amiss n μ (nI f) = some (mFl μ f) := by
  rw [X12_amiss, if_pos h]
  rfl
theorem rq_amissB (f : Int32) (h : μ.1 0 22 ≠ 0) : X12_amiss n μ f = some μ := by
  rw [X12_amiss, if_neg h]
theorem cq_w28 (h : cTx T N σ) {s : Nat} (hs : s < 16) (h3 : σ.1 20 3 = nI b) (hb : b + sp_tl s ≤ N) : ∀ k f i, i + k = sp_tl s → k < f → X10_isWord_28 n s f σ (nI i) = some (σ, bI (eqd T b s k i)) := by
  have h9 := tl_le s hs
  have hN := h.2.1
  intro k
  induction k with
  | zero =>
    intro f i hi hf
    obtain ⟨f, rfl⟩ : ∃ g, f = g + 1 := ⟨f - 1, by omega⟩
    rw [X10_isWord_28, jq_len hs, sp_bd_s, if_pos (by rw [qn_le (by omega) (by omega)]; omega)]
    rfl
  | succ k ih =>
    intro f i hi hf
    obtain ⟨f, rfl⟩ : ∃ g, f = g + 1 := ⟨f - 1, by omega⟩
    have hT := h.2.2 (b + i) (by omega)
    rw [X10_isWord_28, jq_len hs, sp_bd_s, if_neg (by rw [qn_le (by omega) (by omega)]; omega), jq_char hs (by omega), sp_bd_s, h3, nI_add, qn_in (by omega) (by omega), sp_ckt, qn_g (by omega), hT.1, eqd]
    by_cases p : sp_tb s (nI i) = nI (T (b + i))
    · rw [if_pos p, decide_eq_true p, Bool.true_and, sp_pl, show nI i + 1 = nI (i + 1) from nI_add i 1]
      exact ih f (i + 1) (by omega) (by omega)
    · rw [if_neg p, decide_eq_false p, Bool.false_and]
      rfl
theorem cq_word (hn : 1000 ≤ n) (h : TK T N σ μ e b kd v) {s : Nat} (hs : s < 16) : X10_isWord n σ s = some (σ, bI (wdB T e b kd s)) := by
  obtain ⟨⟨hc, hm, heN, h2, h16⟩, hbe, h3, h20, h21, h4, h18, hk, hk0, hk1, hk3, hk2⟩ := h
  have h9 := tl_le s hs
  have hN := hc.2.1
  rw [X10_isWord, h4]
  by_cases k1 : kd = 1
  · subst k1
    rw [if_pos (show nI 1 = 1 from rfl), jq_len hs, sp_bd_s, h2, h3, qn_sub hbe]
    by_cases k2 : e - b = sp_tl s
    · rw [if_pos (by rw [k2]), sp_pl]
      have := cq_w28 (n := n) hc hs h3 (by omega) (sp_tl s) n 0 (by omega) (by omega)
      show X10_isWord_28 n s n σ (nI 0) = _
      rw [this]
      unfold wdB
      rw [decide_eq_true rfl, decide_eq_true k2, Bool.true_and, Bool.true_and]
    · rw [if_neg (by rw [qn_eq (by omega) (by omega)]; exact k2)]
      unfold wdB
      rw [decide_eq_false k2, Bool.and_false, Bool.false_and]
      rfl
  · rw [if_neg (show ¬ nI kd = 1 by show ¬ nI kd = nI 1; rw [qn_eq (by omega) (by omega)]; exact k1), wdB_n k1]
    rfl
theorem rq_w39 (h : mTx T N μ) {s : Nat} (hs : s < 16) (h3 : μ.1 0 20 = nI b) (hb : b + sp_tl s ≤ N) : ∀ k f i, i + k = sp_tl s → k < f → X12_is_39 n s (f + 1) μ 1 (nI i) = some (μ, bI (eqd T b s k i)) := by
  have h9 := tl_le s hs
  have hN := h.2.1
  intro k
  induction k with
  | zero =>
    intro f i hi hf
    rw [X12_is_39, if_neg (by decide), jq_len hs, sp_bd_s, if_pos (by rw [qn_le (by omega) (by omega)]; omega)]
    rfl
  | succ k ih =>
    intro f i hi hf
    obtain ⟨f, rfl⟩ : ∃ g, f = g + 1 := ⟨f - 1, by omega⟩
    have hT := h.2.2 (b + i) (by omega)
    rw [X12_is_39, if_neg (by decide), jq_len hs, sp_bd_s, if_neg (by rw [qn_le (by omega) (by omega)]; omega), jq_char hs (by omega), sp_bd_s, h3, nI_add, qn_in (by omega) (by omega), sp_ckt, qn_g (by omega), hT.1, eqd]
    by_cases p : sp_tb s (nI i) = nI (T (b + i))
    · rw [if_pos p, decide_eq_true p, Bool.true_and, sp_pl, sp_pl, show nI i + 1 = nI (i + 1) from nI_add i 1]
      exact ih f (i + 1) (by omega) (by omega)
    · rw [if_neg p, decide_eq_false p, Bool.false_and, sp_pl, sp_pl, X12_is_39, if_pos rfl]
      rfl
theorem rq_35 {s : Nat} (hn : 1 ≤ n) : X12_is_35 n s μ = some (μ, bI false) := by
  obtain ⟨f, rfl⟩ : ∃ g, n = g + 1 := ⟨n - 1, by omega⟩
  rw [X12_is_35, X12_is_36, sp_pl, X12_is_39, if_pos rfl]
  rfl
theorem rq_word (hn : 1000 ≤ n) (h : TK T N σ μ e b kd v) (h0 : μ.1 0 22 = 0) {s : Nat} (hs : s < 16) : X12_is n μ s = some (μ, bI (wdB T e b kd s)) := by
  obtain ⟨⟨hc, hm, heN, h2, h16⟩, hbe, h3, h20, h21, h4, h18, hk, hk0, hk1, hk3, hk2⟩ := h
  have h9 := tl_le s hs
  have hN := hc.2.1
  rw [X12_is, if_pos h0, h18]
  by_cases k1 : kd = 1
  · subst k1
    rw [if_pos (show nI (mkd 1) = 1 from rfl), jq_len hs, sp_bd_s, h21, h20, qn_sub hbe]
    by_cases k2 : e - b = sp_tl s
    · obtain ⟨f, rfl⟩ : ∃ g, n = g + 1 := ⟨n - 1, by omega⟩
      rw [if_pos (by rw [k2]), X12_is_36, sp_pl]
      have := rq_w39 (n := f + 1) hm hs h20 (by omega) (sp_tl s) f 0 (by omega) (by omega)
      show X12_is_39 (f + 1) s (f + 1) μ 1 (nI 0) = _
      rw [this]
      unfold wdB
      rw [decide_eq_true rfl, decide_eq_true k2, Bool.true_and, Bool.true_and]
    · rw [if_neg (by rw [qn_eq (by omega) (by omega)]; omega), rq_35 (by omega)]
      unfold wdB
      rw [decide_eq_false k2, Bool.and_false, Bool.false_and]
  · have : mkd kd ≠ 1 := by unfold mkd; split <;> (try split) <;> omega
    have hm4 : mkd kd ≤ 4 := by unfold mkd; split <;> (try split) <;> omega
    rw [if_neg (show ¬ nI (mkd kd) = 1 by show ¬ nI (mkd kd) = nI 1; rw [qn_eq (by omega) (by omega)]; exact this), wdB_n k1, rq_35 (by omega)]
theorem rq_wordB (hn : 1 ≤ n) (h0 : μ.1 0 22 ≠ 0) {s : Nat} : X12_is n μ s = some (μ, bI false) := by
  rw [X12_is, if_neg h0, rq_35 hn]
theorem rq_mk (h : TK T N σ μ e b kd v) (h0 : μ.1 0 22 = 0) {x : Nat} (hx : 3 < x) (hx2 : x < 256) : X12_isMarked n μ (nI x) = some (μ, bI (decide (kd = x))) := by
  obtain ⟨⟨hc, hm, heN, h2, h16⟩, hbe, h3, h20, h21, h4, h18, hk, hk0, hk1, hk3, hk2⟩ := h
  have hN := hc.2.1
  rw [X12_isMarked, if_pos h0, h18]
  by_cases k3 : 3 < kd
  · have hb := hk1 (by omega)
    rw [show mkd kd = 3 by unfold mkd; rw [if_neg (by omega), if_neg (by omega)], if_pos (show nI 3 = 3 from rfl), h20, qn_in (by omega) (by omega), sp_ckt, qn_g (by omega), (hm.2.2 b (by omega)).1, (hk3 k3).1]
    by_cases p : kd = x
    · rw [if_pos (by rw [p]), decide_eq_true p]; rfl
    · rw [if_neg (by rw [qn_eq (by omega) (by omega)]; exact p), decide_eq_false p]; rfl
  · have : mkd kd ≠ 3 := by unfold mkd; split <;> (try split) <;> omega
    have hm4 : mkd kd ≤ 4 := by unfold mkd; split <;> (try split) <;> omega
    rw [if_neg (show ¬ nI (mkd kd) = 3 by show ¬ nI (mkd kd) = nI 3; rw [qn_eq (by omega) (by omega)]; exact this), decide_eq_false (by omega)]; rfl
theorem rq_mkB (h0 : μ.1 0 22 ≠ 0) {x : Int32} : X12_isMarked n μ x = some (μ, bI false) := by
  rw [X12_isMarked, if_neg h0]; rfl
theorem cq_kd (h : TK T N σ μ e b kd v) {x : Nat} (hx : x < 256) : (σ.1 20 4 = nI x) = (kd = x) := by
  rw [h.2.2.2.2.2.1, qn_eq (by have := h.2.2.2.2.2.2.2.1; omega) (by omega)]
theorem mFl_bad {f : Nat} (hf : f ≠ 0) (h1 : f < 10) : (mFl μ f).1 0 22 ≠ 0 := by
  unfold mFl
  rw [sp_si_ne (by omega), sp_si_eq]
  show ¬ nI f = nI 0
  rw [qn_eq (by omega) (by omega)]
  exact hf
/-- a number that may stand there -/
theorem nu_ok (h : TK T N σ μ e b kd v) (h0 : μ.1 0 22 = 0) {lo hi : Nat} (hh : hi ≤ 9999) (k2 : kd = 2) (k3 : lo ≤ v) (k4 : v ≤ hi) : X7_isNumber n σ (nI lo) (nI hi) = some (σ, 1) ∧ X12_numberNow n μ (nI lo) (nI hi) = some (μ, nI v) ∧ σ.1 20 5 = nI v := by
  obtain ⟨⟨hc, hm, heN, h2, h16⟩, hbe, h3, h20, h21, h4, h18, hk, hk0, hk1, hk3, hk2⟩ := h
  have hN := hc.2.1
  obtain ⟨a1, a2, a3, a4⟩ := hk2 k2
  have a5 : e - b ≤ 4 := by
    by_cases h : e - b ≤ 4
    · exact h
    · have := a4 (by omega); omega
  obtain ⟨a6, a7⟩ := a3 a5
  subst k2
  refine ⟨?_, ?_, a1⟩
  · rw [X7_isNumber, h4, if_pos (show nI 2 = 2 from rfl), a1, if_neg (by rw [qn_lt (by omega) (by omega)]; omega), if_pos (by rw [qn_le (by omega) (by omega)]; omega)]
  · rw [X12_numberNow, if_pos h0, h18, if_pos (show nI (mkd 2) = 2 from rfl), h21, h20, qn_sub hbe, if_neg (show ¬ (4 : Int32) < nI (e - b) by show ¬ nI 4 < nI (e - b); rw [qn_lt (by omega) (by omega)]; omega), a6, if_neg (by rw [qn_lt (by omega) (by omega)]; omega), if_pos (by rw [qn_le (by omega) (by omega)]; omega), X12_numberNow_59, if_pos h0, a6]
    rfl
theorem nu_no (h : TK T N σ μ e b kd v) (h0 : μ.1 0 22 = 0) {lo hi : Nat} (hl : lo < 1000) (hh : hi ≤ 9999) (k2 : ¬ (kd = 2 ∧ lo ≤ v ∧ v ≤ hi)) : ∃ f, f ≠ 0 ∧ f < 10 ∧ X7_isNumber n σ (nI lo) (nI hi) = some (cFl σ f, 0) ∧ X12_numberNow n μ (nI lo) (nI hi) = some (mFl μ f, 0) := by
  obtain ⟨⟨hc, hm, heN, h2, h16⟩, hbe, h3, h20, h21, h4, h18, hk, hk0, hk1, hk3, hk2⟩ := h
  have hN := hc.2.1
  have hm4 : mkd kd ≤ 4 := by unfold mkd; split <;> (try split) <;> omega
  have e59 : ∀ f, f ≠ 0 → f < 10 → X12_numberNow_59 n (mFl μ f) = some (mFl μ f, 0) := fun f hf h1 => by
    rw [X12_numberNow_59, if_neg (mFl_bad hf h1)]; rfl
  by_cases k : kd = 2
  · obtain ⟨a1, a2, a3, a4⟩ := hk2 k
    subst k
    refine ⟨2, by omega, by omega, ?_, ?_⟩
    · rw [X7_isNumber, h4, if_pos (show nI 2 = 2 from rfl), a1]
      by_cases c1 : v < lo
      · rw [if_pos (by rw [qn_lt (by omega) (by omega)]; omega)]; rfl
      · rw [if_neg (by rw [qn_lt (by omega) (by omega)]; omega), if_neg (by rw [qn_le (by omega) (by omega)]; omega)]; rfl
    · have e54 : X12_numberNow_54 n μ = some (mFl μ 2, 0) := by
        rw [X12_numberNow_54, show X12_amiss n μ 2 = some (mFl μ 2) from rq_amiss 2 h0, sp_bv_s]
        exact e59 2 (by omega) (by omega)
      rw [X12_numberNow, if_pos h0, h18, if_pos (show nI (mkd 2) = 2 from rfl), h21, h20, qn_sub hbe]
      by_cases c0 : 4 < e - b
      · rw [if_pos (show (4 : Int32) < nI (e - b) by show nI 4 < nI (e - b); rw [qn_lt (by omega) (by omega)]; omega)]; exact e54
      · obtain ⟨a6, a7⟩ := a3 (by omega)
        rw [if_neg (show ¬ (4 : Int32) < nI (e - b) by show ¬ nI 4 < nI (e - b); rw [qn_lt (by omega) (by omega)]; omega), a6]
        by_cases c1 : v < lo
        · rw [if_pos (by rw [qn_lt (by omega) (by omega)]; omega)]; exact e54
        · rw [if_neg (by rw [qn_lt (by omega) (by omega)]; omega), if_neg (by rw [qn_le (by omega) (by omega)]; omega)]; exact e54
  · have hm2 : mkd kd ≠ 2 := by unfold mkd; split <;> (try split) <;> omega
    refine ⟨1, by omega, by omega, ?_, ?_⟩
    · rw [X7_isNumber, h4, if_neg (show ¬ nI kd = 2 by show ¬ nI kd = nI 2; rw [qn_eq (by omega) (by omega)]; exact k)]; rfl
    · rw [X12_numberNow, if_pos h0, h18, if_neg (show ¬ nI (mkd kd) = 2 by show ¬ nI (mkd kd) = nI 2; rw [qn_eq (by omega) (by omega)]; exact hm2), show X12_amiss n μ 1 = some (mFl μ 1) from rq_amiss 1 h0, sp_bv_s]
      exact e59 1 (by omega) (by omega)
end
