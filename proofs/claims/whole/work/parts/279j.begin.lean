-- ===== the class begins anew =====
def scz (ct : Nat → Nat → Nat) : Nat → Nat := fun k => if k < ct 0 13 then ct 3 k else if 30 ≤ k ∧ k < 30 + ct 0 14 then ct 5 (k - 30) else 0
/-- which couples have been gone through -/
def pr (h i x y : Nat) : Bool := decide (x < h ∧ y < h) || (decide (x = h ∧ y < i) || decide (y = h ∧ x < i))
section
variable {n c : Nat} {σ μ : sp_St} {ct : Nat → Nat → Nat} {cd : List Nat × List Nat}
/-- what changes when the scene begins -/
def cfB (σ τ : sp_St) : Prop := (∀ p, p ≠ 23 → τ.2.1 p = σ.2.1 p) ∧ ∀ p, p ≠ 24 → τ.1 p = σ.1 p ∧ τ.2.2.1 p = σ.2.2.1 p
theorem cfB_tr {σ τ υ : sp_St} (h : cfB σ τ) (g : cfB τ υ) : cfB σ υ := ⟨fun p hp => (g.1 p hp).trans (h.1 p hp), fun p hp => ⟨(g.2 p hp).1.trans (h.2 p hp).1, (g.2 p hp).2.trans (h.2 p hp).2⟩⟩
theorem cfB_fp {σ τ : sp_St} (h : qfp 24 24 σ τ) : cfB σ τ := ⟨fun p _ => by rw [h.1], fun p hp => h.2.2 p (by omega)⟩
theorem scz_I (hG : gL ct cd) : qI ct (scz ct) := by
  obtain ⟨⟨k1, k2, k3, k4, k5, k6, k7⟩, g2, g3, g4, g5, g6, g7, g8, g9⟩ := hG
  have z10 : ∀ k, 10 ≤ k → k < 30 → scz ct k = 0 := fun k h1 h2 => by unfold scz; rw [if_neg (by omega), if_neg (by omega)]
  have z35 : ∀ k, 35 ≤ k → scz ct k = 0 := fun k h1 => by unfold scz; rw [if_neg (by omega), if_neg (by omega)]
  refine ⟨fun b hb => ?_, fun b hb => ?_, fun b hb => ?_, fun s hs => ?_, fun s hs => ?_, fun h hh => ?_, fun h o hh ho => ?_, fun h hh => ?_, fun h hh => ?_, ?_⟩
  · unfold scz; rw [if_pos hb]; exact g2 b
  · rw [z10 _ (by omega) (by omega)]; omega
  · rw [z10 _ (by omega) (by omega)]; omega
  · have : qus ct (scz ct) s = 0 := by
      unfold qus
      rw [qs_cong (g := fun _ => 0) fun k hk => by rw [z10 _ (by omega) (by omega), if_neg (by omega)]]
      generalize ct 0 13 = N
      induction N with
      | zero => rfl
      | succ N ih => unfold qs; rw [ih]
    omega
  · unfold scz; rw [if_neg (by omega), if_pos (by omega)]; exact g3 _
  · rw [z35 _ (by omega)]; omega
  · rw [z35 _ (by omega), z35 _ (by omega)]; simp
  · rw [z35 _ (by omega)]; simp
  · rw [z35 _ (by omega)]
    apply Nat.eq_of_testBit_eq
    intro i
    rw [bs_t, z35 _ (by omega)]
    simp
  · rw [z35 _ (by omega)]; omega
theorem scz_lt (hG : gL ct cd) (k : Nat) : scz ct k < 1048576 := by
  have h1 := hG.2.1 k
  have h2 := hG.2.2.1 (k - 30)
  unfold scz
  split
  · omega
  · split <;> omega
theorem sq_zero (hn : 1000 ≤ n) : ∀ k f i (s : sp_St), i + k = 50 → k < f → ∃ υ, X8_begin_7 n 23 c f s (nI i) = X8_begin_26 n 23 c υ ∧ υ.1 = s.1 ∧ υ.2.1 = s.2.1 ∧ (∀ p, p ≠ 24 → υ.2.2.1 p = s.2.2.1 p) ∧ (∀ x, x < i → υ.2.2.1 24 x = s.2.2.1 24 x) ∧ ∀ x, i ≤ x → x < 50 → υ.2.2.1 24 x = 0 := by
  intro k
  induction k with
  | zero =>
    intro f i s hi hf
    obtain ⟨f, rfl⟩ : ∃ x, f = x + 1 := ⟨f - 1, by omega⟩
    rw [X8_begin_7, if_pos (show (50 : Int32) ≤ nI i by show nI 50 ≤ nI i; rw [qn_le (by omega) (by omega)]; omega)]
    exact ⟨s, rfl, rfl, rfl, fun _ _ => rfl, fun _ _ => rfl, fun x h1 h2 => by omega⟩
  | succ k ih =>
    intro f i s hi hf
    obtain ⟨f, rfl⟩ : ∃ x, f = x + 1 := ⟨f - 1, by omega⟩
    rw [X8_begin_7, if_neg (show ¬ (50 : Int32) ≤ nI i by show ¬ nI 50 ≤ nI i; rw [qn_le (by omega) (by omega)]; omega), qn_in (by omega) (by omega), sp_ckt, sp_pl, sp_pl, nI_clamp (by omega), show nI i + 1 = nI (i + 1) from nI_add i 1]
    obtain ⟨υ, u1, u2, u3, u4, u5, u6⟩ := ih f (i + 1) (sp_sa s (23 + 1) i 0) (by omega) (by omega)
    refine ⟨υ, u1, u2, u3, fun p hp => ?_, fun x hx => ?_, fun x h1 h2 => ?_⟩
    · rw [u4 p hp]; funext j; rw [sp_sa_np (by omega)]
    · rw [u5 x (by omega)]; exact sp_sa_nj (by omega)
    · by_cases e : x = i
      · subst e; rw [u5 x (by omega)]; exact sp_sa_eq
      · exact u6 x (by omega) h2
/-- where the feuds are being set -/
def bJ (c : Nat) (ct : Nat → Nat → Nat) (cd : List Nat × List Nat) (σ0 σ : sp_St) (sc : Nat → Nat) (h i : Nat) : Prop := qSC σ 23 c ct cd sc ∧ qI ct sc ∧ (∀ k, k < 35 ∨ 47 ≤ k → sc k = scz ct k) ∧ (∀ x y, x < 6 → y < 6 → (sc (35 + x)).testBit y = ((ct 7 x).testBit y && pr h i x y)) ∧ cfB σ0 σ
theorem bJ_in {σ0 : sp_St} (hG : gL ct cd) {h : Nat} (hh : h < 6) {k75 : sp_St → Int32 → Option sp_St} : ∀ k f i σ sc, i + k = h → k < f → bJ c ct cd σ0 σ sc h i → ∃ τ sc', X8_begin_83 n 23 c k75 f σ (nI h) (nI i) = k75 τ (nI (h + 1)) ∧ bJ c ct cd σ0 τ sc' (h + 1) 0 := by
  obtain ⟨hK, g2, g3, g4, g5, g6, g7, g8, g9⟩ := hG
  intro k
  induction k with
  | zero =>
    intro f i σ sc hi hf hJ
    obtain ⟨f, rfl⟩ : ∃ x, f = x + 1 := ⟨f - 1, by omega⟩
    rw [X8_begin_83, if_pos (by rw [qn_le (by omega) (by omega)]; omega), X8_begin_116, sp_pl, show nI h + 1 = nI (h + 1) from nI_add h 1]
    obtain ⟨j1, j2, j3, j4, j5⟩ := hJ
    refine ⟨σ, sc, rfl, j1, j2, j3, fun x y hx hy => ?_, j5⟩
    rw [j4 x y hx hy]
    have hi2 : i = h := by omega
    subst hi2
    by_cases e : x = i ∧ y = i
    · have hx' : (ct 7 x).testBit y = false := by rw [e.1, e.2]; exact g6 _ (by omega)
      rw [hx', Bool.false_and, Bool.false_and]
    · congr 1
      unfold pr
      rw [Bool.eq_iff_iff]
      simp only [Bool.or_eq_true, decide_eq_true_eq, true_and]
      omega
  | succ k ih =>
    intro f i σ sc hi hf hJ
    obtain ⟨f, rfl⟩ : ∃ x, f = x + 1 := ⟨f - 1, by omega⟩
    obtain ⟨j1, j2, j3, j4, j5⟩ := hJ
    have hc := j1.2.1
    have hic := j1.2.2.1
    have h7 := j1.2.2.2.1.2.2.2.2.2.2.2.2.2.1 h hh
    have l7 := g4 h hh
    rw [X8_begin_83, if_neg (by rw [qn_le (by omega) (by omega)]; omega), sp_pl, hc, hic, sp_ckt, qn_in (by omega) (by omega), sp_ckt, qn_g (by omega), h7]
    have eb : ((nI (ct 7 h) >>> (nI i &&& 31)) &&& 1 = 0) = ((ct 7 h).testBit i = false) := qn_bit0 (by omega) (by omega)
    cases ht : (ct 7 h).testBit i with
    | false =>
      rw [if_pos (show (nI (ct 7 h) >>> (nI i &&& 31)) &&& 1 = 0 by rw [eb, ht]), X8_begin_110, sp_pl, show nI i + 1 = nI (i + 1) from nI_add i 1]
      refine ih f (i + 1) σ sc (by omega) (by omega) ⟨j1, j2, j3, fun x y hx hy => ?_, j5⟩
      rw [j4 x y hx hy]
      by_cases e1 : x = h ∧ y = i
      · obtain ⟨rfl, rfl⟩ := e1
        rw [ht, Bool.false_and, Bool.false_and]
      · by_cases e2 : x = i ∧ y = h
        · obtain ⟨rfl, rfl⟩ := e2
          rw [g5 x y hx hy, ht, Bool.false_and, Bool.false_and]
        · congr 1
          unfold pr
          rw [Bool.eq_iff_iff]
          simp only [Bool.or_eq_true, decide_eq_true_eq, true_and]
          omega
    | true =>
      obtain ⟨τ, t1, t2, t3⟩ := sq_turnFeud (n := n) j1 j2 (a := h) (o := i) hh (by omega) (by omega)
      rw [if_neg (show ¬ ((nI (ct 7 h) >>> (nI i &&& 31)) &&& 1 = 0) by rw [eb, ht]; decide), t1, sp_bv_s, X8_begin_110, sp_pl, show nI i + 1 = nI (i + 1) from nI_add i 1]
      refine ih f (i + 1) τ _ (by omega) (by omega) ⟨t2, qI_tf hK j2 hh (by omega) (by omega), fun k hk => by rw [qtf_oth hh (by omega) hk]; exact j3 k hk, fun x y hx hy => ?_, cfB_tr j5 (cfB_fp t3)⟩
      rw [qtf_f hh (by omega) hx (by omega)]
      by_cases e1 : x = h
      · subst e1
        rw [if_pos rfl, Nat.testBit_xor, Nat.testBit_two_pow, j4 x y hx hy]
        by_cases e2 : y = i
        · subst e2
          have p1 : pr x y x y = false := by
            unfold pr
            rw [Bool.eq_false_iff]
            simp only [ne_eq, Bool.or_eq_true, decide_eq_true_eq, true_and]
            omega
          have p2 : pr x (y + 1) x y = true := by
            unfold pr
            simp only [Bool.or_eq_true, decide_eq_true_eq, true_and]
            omega
          rw [ht, p1, p2]
          simp
        · have p1 : pr x (i + 1) x y = pr x i x y := by
            unfold pr
            rw [Bool.eq_iff_iff]
            simp only [Bool.or_eq_true, decide_eq_true_eq, true_and]
            omega
          rw [p1, decide_eq_false (show ¬ i = y by omega), Bool.xor_false]
      · rw [if_neg e1]
        by_cases e3 : x = i
        · subst e3
          rw [if_pos rfl, Nat.testBit_xor, Nat.testBit_two_pow, j4 x y hx hy]
          by_cases e2 : y = h
          · subst e2
            have p1 : pr y x x y = false := by
              unfold pr
              rw [Bool.eq_false_iff]
              simp only [ne_eq, Bool.or_eq_true, decide_eq_true_eq, true_and]
              omega
            have p2 : pr y (x + 1) x y = true := by
              unfold pr
              simp only [Bool.or_eq_true, decide_eq_true_eq, true_and]
              omega
            rw [g5 x y hx hy, ht, p1, p2]
            simp
          · have p1 : pr h (x + 1) x y = pr h x x y := by
              unfold pr
              rw [Bool.eq_iff_iff]
              simp only [Bool.or_eq_true, decide_eq_true_eq, true_and]
              omega
            rw [p1, decide_eq_false (show ¬ h = y by omega), Bool.xor_false]
        · rw [if_neg e3, j4 x y hx hy]
          congr 1
          unfold pr
          rw [Bool.eq_iff_iff]
          simp only [Bool.or_eq_true, decide_eq_true_eq, true_and]
          omega
theorem bJ_out {σ0 : sp_St} (hn : 1000 ≤ n) (hG : gL ct cd) : ∀ k f h σ sc, h + k = 6 → k < f → bJ c ct cd σ0 σ sc h 0 → ∃ τ sc', X8_begin_75 n 23 c f σ (nI h) = some τ ∧ bJ c ct cd σ0 τ sc' 6 0 := by
  intro k
  induction k with
  | zero =>
    intro f h σ sc hh hf hJ
    obtain ⟨f, rfl⟩ : ∃ x, f = x + 1 := ⟨f - 1, by omega⟩
    rw [X8_begin_75, if_pos (show (6 : Int32) ≤ nI h by show nI 6 ≤ nI h; rw [qn_le (by omega) (by omega)]; omega)]
    have h6 : h = 6 := by omega
    subst h6
    exact ⟨σ, sc, rfl, hJ⟩
  | succ k ih =>
    intro f h σ sc hh hf hJ
    obtain ⟨f, rfl⟩ : ∃ x, f = x + 1 := ⟨f - 1, by omega⟩
    rw [X8_begin_75, if_neg (show ¬ (6 : Int32) ≤ nI h by show ¬ nI 6 ≤ nI h; rw [qn_le (by omega) (by omega)]; omega), sp_pl]
    obtain ⟨τ, sc', t1, t2⟩ := bJ_in (n := n) (k75 := X8_begin_75 n 23 c f) hG (show h < 6 by omega) h n 0 σ sc (by omega) (by omega) hJ
    rw [show (0 : Int32) = nI 0 from rfl, t1]
    exact ih f (h + 1) τ sc' (by omega) (by omega) t2
theorem sq_begin (hn : 1000 ≤ n) (hic : sp_isc c = true) (hC : qC σ c ct cd) (hG : gL ct cd) : ∃ τ sc, X8_begin n σ 23 c = some τ ∧ qSC τ 23 c ct cd sc ∧ qI ct sc ∧ (∀ k, k < 35 ∨ 47 ≤ k → sc k = scz ct k) ∧ (∀ h, h < 6 → sc (35 + h) = ct 7 h) ∧ cfB σ τ := by
  have hc2 := isc_ge hic
  have hc11 := isc_le hic
  have hb10 := hG.1.1
  have hs5 := hG.1.2.1
  obtain ⟨υ, u1, u2, u3, u4, u5, u6⟩ := sq_zero (n := n) (c := c) hn 50 n 0 (sp_sr σ 23 0 c) (by omega) (by omega)
  have hC1 : qC υ c ct cd := by
    unfold qC qR at *
    rw [u2, u4 (c + 1) (by omega), u4 (c + 2) (by omega), u4 (c + 3) (by omega), u4 (c + 4) (by omega), u4 (c + 5) (by omega), u4 (c + 6) (by omega), u4 (c + 7) (by omega), u4 (c + 8) (by omega)]
    exact hC
  have r0 : υ.2.1 23 0 = c := by rw [u3, sp_sr_g, if_pos ⟨rfl, rfl⟩]
  have ok1 : sp_cpok 0 0 (nI (ct 0 13)) 10 50 = true := by
    unfold sp_cpok
    rw [nI_clamp (by omega), show (0 : Int32).toNatClampNeg = 0 by decide]
    simp [nI_pos' (show ct 0 13 < 2 ^ 31 by omega)]
    omega
  have ok2 : sp_cpok 0 30 (nI (ct 0 14)) 5 50 = true := by
    unfold sp_cpok
    rw [nI_clamp (by omega), show (0 : Int32).toNatClampNeg = 0 by decide, show (30 : Int32).toNatClampNeg = 30 by decide]
    simp [nI_pos' (show ct 0 14 < 2 ^ 31 by omega)]
    first | omega | exact ⟨by decide, by omega⟩ | exact ⟨⟨by decide, by omega⟩, by omega⟩
  have E : X8_begin n σ 23 c = X8_begin_75 n 23 c n (sp_cp (sp_cp υ (c + 3) 0 (23 + 1) 0 (nI (ct 0 13))) (c + 5) 0 (23 + 1) 30 (nI (ct 0 14))) (nI 0) := by
    rw [X8_begin, sp_pl, sp_pl, show (0 : Int32) = nI 0 from rfl, u1, X8_begin_26, sp_pl, r0, hic, sp_ckt, hC1.1]
    rw [show sp_cpok 0 0 (nI (ct 0 13)) 10 50 = true from ok1, sp_ckt, sp_pl, sp_pl, sp_cp_2, r0, hic, sp_ckt, sp_cp_1, hC1.2.1, ok2, sp_ckt, sp_pl, sp_pl]
    rfl
  have fB : cfB σ (sp_cp (sp_cp υ (c + 3) 0 (23 + 1) 0 (nI (ct 0 13))) (c + 5) 0 (23 + 1) 30 (nI (ct 0 14))) := by
    refine ⟨fun p hp => ?_, fun p hp => ⟨?_, ?_⟩⟩
    · rw [sp_cp_2, sp_cp_2, u3]; funext j; rw [sp_sr_g, if_neg (by omega)]
    · rw [sp_cp_1, sp_cp_1, u2]; rfl
    · rw [sp_cp_np (by omega), sp_cp_np (by omega), u4 p hp]; rfl
  have J0 : bJ c ct cd σ (sp_cp (sp_cp υ (c + 3) 0 (23 + 1) 0 (nI (ct 0 13))) (c + 5) 0 (23 + 1) 30 (nI (ct 0 14))) (scz ct) 0 0 := by
    refine ⟨⟨by omega, by rw [sp_cp_2, sp_cp_2]; exact r0, hic, ?_, fun k hk => ?_, hG.1, scz_lt hG⟩, scz_I hG, fun _ _ => rfl, fun x y hx hy => ?_, fB⟩
    · unfold qC qR at *
      rw [sp_cp_1, sp_cp_1]
      rw [sp_cp_np (q := c + 1) (by omega), sp_cp_np (q := c + 1) (by omega), sp_cp_np (q := c + 2) (by omega), sp_cp_np (q := c + 2) (by omega), sp_cp_np (q := c + 3) (by omega), sp_cp_np (q := c + 3) (by omega), sp_cp_np (q := c + 4) (by omega), sp_cp_np (q := c + 4) (by omega), sp_cp_np (q := c + 5) (by omega), sp_cp_np (q := c + 5) (by omega), sp_cp_np (q := c + 6) (by omega), sp_cp_np (q := c + 6) (by omega), sp_cp_np (q := c + 7) (by omega), sp_cp_np (q := c + 7) (by omega), sp_cp_np (q := c + 8) (by omega), sp_cp_np (q := c + 8) (by omega)]
      exact hC1
    · rw [sp_cp_g, if_pos rfl, sp_cp_np (q := c + 5) (by omega), sp_cp_g, if_pos rfl, nI_clamp (show ct 0 13 < 2 ^ 31 by omega), nI_clamp (show ct 0 14 < 2 ^ 31 by omega), show (30 : Int32).toNatClampNeg = 30 by decide, show (0 : Int32).toNatClampNeg = 0 by decide]
      unfold scz
      by_cases q1 : 30 ≤ k ∧ k < 30 + ct 0 14
      · rw [if_pos q1, if_neg (by omega), if_pos q1, Nat.zero_add]
        exact hC1.2.2.2.2.2.2.2.1 (k - 30) (by omega)
      · rw [if_neg q1]
        by_cases q2 : k < ct 0 13
        · rw [if_pos (by omega), if_pos q2, Nat.zero_add, Nat.sub_zero]
          exact hC1.2.2.2.2.2.1 k q2
        · rw [if_neg (by omega), if_neg q2, if_neg q1]
          exact u6 k (by omega) hk
    · have : scz ct (35 + x) = 0 := by unfold scz; rw [if_neg (by omega), if_neg (by omega)]
      rw [this]
      simp [pr]
  obtain ⟨τ, sc, t1, t2, t3, t4, t5, t6⟩ := bJ_out (n := n) hn hG 6 n 0 _ _ (by omega) (by omega) J0
  refine ⟨τ, sc, by rw [E]; exact t1, t2, t3, t4, fun h hh => ?_, t6⟩
  have s64 := t3.2.2.2.2.2.1 h hh
  have c64 := hG.2.2.2.1 h hh
  apply Nat.eq_of_testBit_eq
  intro i
  by_cases hi : i < 6
  · rw [t5 h i hh hi]
    have : pr 6 0 h i = true := by
      unfold pr
      simp only [Bool.or_eq_true, decide_eq_true_eq, true_and]
      omega
    rw [this, Bool.and_true]
  · rw [Nat.testBit_lt_two_pow (Nat.lt_of_lt_of_le s64 (Nat.pow_le_pow_right (n := 2) (by decide) (show 6 ≤ i by omega))), Nat.testBit_lt_two_pow (Nat.lt_of_lt_of_le c64 (Nat.pow_le_pow_right (n := 2) (by decide) (show 6 ≤ i by omega)))]
end
