-- ===== the reference takes over what was told =====
section
variable {n : Nat} {μ : sp_St}
theorem rq_half1 {p m hm : Nat} (hm2 : m = 2 * hm) (h7 : hm ≤ 700) (he : Int32.ofNat m / 2 = nI hm) : ∀ k f i (s : sp_St), i + k = hm → k < f → ∃ υ, X12_takeHalf_2 n p m f s (nI i) = some υ ∧ υ.1 = s.1 ∧ (∀ q, q ≠ p → υ.2.2.1 q = s.2.2.1 q) ∧ (∀ x, x < i ∨ hm ≤ x → υ.2.2.1 p x = s.2.2.1 p x) ∧ ∀ x, i ≤ x → x < hm → υ.2.2.1 p x = s.2.2.1 p (hm + x) := by
  have h2 : (!decide ((2 : Int32) = 0)) = true := by decide
  intro k
  induction k with
  | zero =>
    intro f i s hi hf
    obtain ⟨f, rfl⟩ : ∃ x, f = x + 1 := ⟨f - 1, by omega⟩
    rw [X12_takeHalf_2, h2, sp_ckt, he, if_pos (by rw [qn_le (by omega) (by omega)]; omega)]
    exact ⟨s, rfl, rfl, fun _ _ => rfl, fun _ _ => rfl, fun x h1 h2 => by omega⟩
  | succ k ih =>
    intro f i s hi hf
    obtain ⟨f, rfl⟩ : ∃ x, f = x + 1 := ⟨f - 1, by omega⟩
    rw [X12_takeHalf_2, h2, sp_ckt, he, if_neg (by rw [qn_le (by omega) (by omega)]; omega), sp_ckt, nI_add, qn_in (show hm + i < m by omega) (by omega), sp_ckt, qn_in (show i < m by omega) (by omega), sp_ckt, sp_pl, sp_pl, nI_clamp (by omega), qn_g (by omega), show nI i + 1 = nI (i + 1) from nI_add i 1]
    obtain ⟨υ, u1, u2, u3, u4, u5⟩ := ih f (i + 1) (sp_sa s p i (s.2.2.1 p (hm + i))) (by omega) (by omega)
    refine ⟨υ, u1, u2, fun q hq => ?_, fun x hx => ?_, fun x h1 h2 => ?_⟩
    · rw [u3 q hq]; funext j; rw [sp_sa_np hq]
    · rw [u4 x (by omega), sp_sa_nj (by omega)]
    · by_cases e : x = i
      · subst e; rw [u4 x (by omega)]; exact sp_sa_eq
      · rw [u5 x (by omega) h2, sp_sa_nj (by omega)]
theorem rq_half {p m hm : Nat} (hn : 1000 ≤ n) (hm2 : m = 2 * hm) (h7 : hm ≤ 700) (he : Int32.ofNat m / 2 = nI hm) (μ : sp_St) : ∃ υ, X12_takeHalf n μ p m = some υ ∧ υ.1 = μ.1 ∧ (∀ q, q ≠ p → υ.2.2.1 q = μ.2.2.1 q) ∧ ∀ x, x < hm → υ.2.2.1 p x = μ.2.2.1 p (hm + x) := by
  obtain ⟨υ, u1, u2, u3, u4, u5⟩ := rq_half1 (n := n) (p := p) hm2 h7 he hm n 0 μ (by omega) (by omega)
  exact ⟨υ, by rw [X12_takeHalf, sp_pl]; exact u1, u2, u3, fun x hx => u5 x (by omega) hx⟩
theorem rq_75 {nb : Nat} (hb : nb ≤ 10) : ∀ k f i (s : sp_St), i + k = 10 → k < f → s.2.2.1 3 2 = nI nb → ∃ υ, X12_takeOver_75 n f s (nI i) = X12_takeOver_120 n υ ∧ υ.1 = s.1 ∧ (∀ q, q ≠ 14 → q ≠ 15 → υ.2.2.1 q = s.2.2.1 q) ∧ (∀ x, x < i → υ.2.2.1 14 x = s.2.2.1 14 x ∧ υ.2.2.1 15 x = s.2.2.1 15 x) ∧ ∀ x, i ≤ x → x < 10 → υ.2.2.1 14 x = (if x < nb then s.2.2.1 9 x else 0) ∧ υ.2.2.1 15 x = 0 := by
  intro k
  induction k with
  | zero =>
    intro f i s hi hf h3
    obtain ⟨f, rfl⟩ : ∃ x, f = x + 1 := ⟨f - 1, by omega⟩
    rw [X12_takeOver_75, if_pos (show (10 : Int32) ≤ nI i by show nI 10 ≤ nI i; rw [qn_le (by omega) (by omega)]; omega)]
    exact ⟨s, rfl, rfl, fun _ _ _ => rfl, fun _ _ => ⟨rfl, rfl⟩, fun x h1 h2 => by omega⟩
  | succ k ih =>
    intro f i s hi hf h3
    obtain ⟨f, rfl⟩ : ∃ x, f = x + 1 := ⟨f - 1, by omega⟩
    have go : ∀ v : Int32, v = (if i < nb then s.2.2.1 9 i else 0) → ∃ υ, X12_takeOver_106 n (X12_takeOver_75 n f) s (nI i) v (nI i) = X12_takeOver_120 n υ ∧ υ.1 = s.1 ∧ (∀ q, q ≠ 14 → q ≠ 15 → υ.2.2.1 q = s.2.2.1 q) ∧ (∀ x, x < i → υ.2.2.1 14 x = s.2.2.1 14 x ∧ υ.2.2.1 15 x = s.2.2.1 15 x) ∧ ∀ x, i ≤ x → x < 10 → υ.2.2.1 14 x = (if x < nb then s.2.2.1 9 x else 0) ∧ υ.2.2.1 15 x = 0 := by
      intro v hv
      rw [X12_takeOver_106, qn_in (show i < 10 by omega) (by omega), sp_ckt, sp_pl, sp_ckt, sp_pl, sp_pl, nI_clamp (by omega), show nI i + 1 = nI (i + 1) from nI_add i 1]
      obtain ⟨υ, u1, u2, u3, u4, u5⟩ := ih f (i + 1) (sp_sa (sp_sa s 14 i v) 15 i 0) (by omega) (by omega) (by rw [sp_sa_np (by omega), sp_sa_np (by omega)]; exact h3)
      refine ⟨υ, u1, u2, fun q h1 h2 => ?_, fun x hx => ⟨?_, ?_⟩, fun x h1 h2 => ?_⟩
      · rw [u3 q h1 h2]; funext j; rw [sp_sa_np h2, sp_sa_np h1]
      · rw [(u4 x (by omega)).1, sp_sa_np (by omega), sp_sa_nj (by omega)]
      · rw [(u4 x (by omega)).2, sp_sa_nj (by omega), sp_sa_np (by omega)]
      · by_cases e : x = i
        · subst e
          refine ⟨?_, ?_⟩
          · rw [(u4 x (by omega)).1, sp_sa_np (by omega), ← hv]; exact sp_sa_eq
          · rw [(u4 x (by omega)).2]; exact sp_sa_eq
        · have := u5 x (by omega) h2
          rw [sp_sa_np (by omega), sp_sa_np (by omega)] at this
          exact this
    rw [X12_takeOver_75, if_neg (show ¬ (10 : Int32) ≤ nI i by show ¬ nI 10 ≤ nI i; rw [qn_le (by omega) (by omega)]; omega), show sp_g s 3 2 = nI nb from h3]
    by_cases hx : nb ≤ i
    · rw [if_pos (by rw [qn_le (by omega) (by omega)]; omega)]
      exact go 0 (by rw [if_neg (by omega)])
    · rw [if_neg (by rw [qn_le (by omega) (by omega)]; omega), qn_in (show i < 20 by omega) (by omega), sp_ckt, qn_g (by omega)]
      exact go _ (by rw [if_pos (by omega)])
theorem rq_148 {z : Nat} (hz : z < 5) {k122 : sp_St → Int32 → Option sp_St} : ∀ k f i (s : sp_St), i + k = 10 → k < f → ∃ υ, X12_takeOver_148 n k122 f s (nI z) (nI i) = k122 υ (nI (z + 1)) ∧ υ.1 = s.1 ∧ ∀ q, q ≠ 18 → υ.2.2.1 q = s.2.2.1 q := by
  intro k
  induction k with
  | zero =>
    intro f i s hi hf
    obtain ⟨f, rfl⟩ : ∃ x, f = x + 1 := ⟨f - 1, by omega⟩
    rw [X12_takeOver_148, if_pos (show (10 : Int32) ≤ nI i by show nI 10 ≤ nI i; rw [qn_le (by omega) (by omega)]; omega), X12_takeOver_172, sp_pl, show nI z + 1 = nI (z + 1) from nI_add z 1]
    exact ⟨s, rfl, rfl, fun _ _ => rfl⟩
  | succ k ih =>
    intro f i s hi hf
    obtain ⟨f, rfl⟩ : ∃ x, f = x + 1 := ⟨f - 1, by omega⟩
    rw [X12_takeOver_148, if_neg (show ¬ (10 : Int32) ≤ nI i by show ¬ nI 10 ≤ nI i; rw [qn_le (by omega) (by omega)]; omega), show (10 : Int32) * nI z + nI i = nI (10 * z + i) by show nI 10 * nI z + nI i = _; rw [pk_mul, nI_add], qn_in (by omega) (by omega), sp_ckt, sp_pl, sp_pl, show nI i + 1 = nI (i + 1) from nI_add i 1]
    obtain ⟨υ, u1, u2, u3⟩ := ih f (i + 1) (sp_sa s 18 ((nI (10 * z + i)).toNatClampNeg) (-1)) (by omega) (by omega)
    refine ⟨υ, u1, u2, fun q hq => ?_⟩
    rw [u3 q hq]; funext j; rw [sp_sa_np hq]
theorem rq_122 (hn : 1000 ≤ n) : ∀ k f i (s : sp_St), i + k = 5 → k < f → ∃ υ, X12_takeOver_122 n f s (nI i) = X12_takeOver_178 n υ ∧ υ.1 = s.1 ∧ (∀ q, q ≠ 16 → q ≠ 17 → q ≠ 18 → υ.2.2.1 q = s.2.2.1 q) ∧ (∀ x, x < i → υ.2.2.1 16 x = s.2.2.1 16 x ∧ υ.2.2.1 17 x = s.2.2.1 17 x) ∧ ∀ x, i ≤ x → x < 5 → υ.2.2.1 16 x = s.2.2.1 5 x ∧ υ.2.2.1 17 x = 0 := by
  intro k
  induction k with
  | zero =>
    intro f i s hi hf
    obtain ⟨f, rfl⟩ : ∃ x, f = x + 1 := ⟨f - 1, by omega⟩
    rw [X12_takeOver_122, if_pos (show (5 : Int32) ≤ nI i by show nI 5 ≤ nI i; rw [qn_le (by omega) (by omega)]; omega)]
    exact ⟨s, rfl, rfl, fun _ _ _ _ => rfl, fun _ _ => ⟨rfl, rfl⟩, fun x h1 h2 => by omega⟩
  | succ k ih =>
    intro f i s hi hf
    obtain ⟨f, rfl⟩ : ∃ x, f = x + 1 := ⟨f - 1, by omega⟩
    rw [X12_takeOver_122, if_neg (show ¬ (5 : Int32) ≤ nI i by show ¬ nI 5 ≤ nI i; rw [qn_le (by omega) (by omega)]; omega), qn_in (show i < 10 by omega) (by omega), sp_ckt, qn_in (show i < 5 by omega) (by omega), sp_ckt, sp_pl, sp_ckt, sp_pl, sp_pl, nI_clamp (by omega), qn_g (by omega)]
    obtain ⟨s2, v1, v2, v3⟩ := rq_148 (n := n) (z := i) (by omega) (k122 := X12_takeOver_122 n f) 10 n 0 (sp_sa (sp_sa s 16 i (s.2.2.1 5 i)) 17 i 0) (by omega) (by omega)
    rw [show (X12_takeOver_148 n (X12_takeOver_122 n f) n (sp_sa (sp_sa s 16 i (s.2.2.1 5 i)) 17 i 0) (nI i) 0) = _ from v1]
    obtain ⟨υ, u1, u2, u3, u4, u5⟩ := ih f (i + 1) s2 (by omega) (by omega)
    refine ⟨υ, u1, u2.trans v2, fun q h1 h2 h3 => ?_, fun x hx => ⟨?_, ?_⟩, fun x h1 h2 => ?_⟩
    · rw [u3 q h1 h2 h3, v3 q h3]; funext j; rw [sp_sa_np h2, sp_sa_np h1]
    · rw [(u4 x (by omega)).1, v3 16 (by omega), sp_sa_np (by omega), sp_sa_nj (by omega)]
    · rw [(u4 x (by omega)).2, v3 17 (by omega), sp_sa_nj (by omega), sp_sa_np (by omega)]
    · by_cases e : x = i
      · subst e
        refine ⟨?_, ?_⟩
        · rw [(u4 x (by omega)).1, v3 16 (by omega), sp_sa_np (by omega)]; exact sp_sa_eq
        · rw [(u4 x (by omega)).2, v3 17 (by omega)]; exact sp_sa_eq
      · have := u5 x (by omega) h2
        rw [v3 5 (by omega), sp_sa_np (by omega), sp_sa_np (by omega)] at this
        exact this
theorem rq_180 : ∀ k f i (s : sp_St), i + k = 6 → k < f → ∃ υ, X12_takeOver_180 n f s (nI i) = X12_takeOver_204 n υ ∧ υ.1 = s.1 ∧ (∀ q, q ≠ 19 → υ.2.2.1 q = s.2.2.1 q) ∧ (∀ x, x < i → υ.2.2.1 19 x = s.2.2.1 19 x) ∧ ∀ x, i ≤ x → x < 6 → υ.2.2.1 19 x = s.2.2.1 4 x := by
  intro k
  induction k with
  | zero =>
    intro f i s hi hf
    obtain ⟨f, rfl⟩ : ∃ x, f = x + 1 := ⟨f - 1, by omega⟩
    rw [X12_takeOver_180, if_pos (show (6 : Int32) ≤ nI i by show nI 6 ≤ nI i; rw [qn_le (by omega) (by omega)]; omega)]
    exact ⟨s, rfl, rfl, fun _ _ => rfl, fun _ _ => rfl, fun x h1 h2 => by omega⟩
  | succ k ih =>
    intro f i s hi hf
    obtain ⟨f, rfl⟩ : ∃ x, f = x + 1 := ⟨f - 1, by omega⟩
    rw [X12_takeOver_180, if_neg (show ¬ (6 : Int32) ≤ nI i by show ¬ nI 6 ≤ nI i; rw [qn_le (by omega) (by omega)]; omega), qn_in (show i < 12 by omega) (by omega), sp_ckt, qn_in (show i < 6 by omega) (by omega), sp_ckt, sp_pl, sp_pl, nI_clamp (by omega), qn_g (by omega), show nI i + 1 = nI (i + 1) from nI_add i 1]
    obtain ⟨υ, u1, u2, u3, u4, u5⟩ := ih f (i + 1) (sp_sa s 19 i (s.2.2.1 4 i)) (by omega) (by omega)
    refine ⟨υ, u1, u2, fun q hq => ?_, fun x hx => ?_, fun x h1 h2 => ?_⟩
    · rw [u3 q hq]; funext j; rw [sp_sa_np hq]
    · rw [u4 x (by omega), sp_sa_nj (by omega)]
    · by_cases e : x = i
      · subst e; rw [u4 x (by omega)]; exact sp_sa_eq
      · rw [u5 x (by omega) h2, sp_sa_np (by omega)]
theorem rq_over (hn : 1000 ≤ n) {nb : Nat} (hb : nb ≤ 10) (h8 : μ.2.2.1 3 8 = nI nb) : ∃ ν, X12_takeOver n μ = some ν ∧ (∀ k, ¬ (k = 33 ∨ k = 34 ∨ k = 35 ∨ k = 36 ∨ k = 55) → ν.1 0 k = μ.1 0 k) ∧ ν.1 0 33 = 0 ∧ ν.1 0 34 = 0 ∧ ν.1 0 35 = 0 ∧ ν.1 0 36 = 0 ∧ ν.1 0 55 = 0 ∧ (∀ p, p = 12 ∨ p = 13 ∨ 20 ≤ p → ν.2.2.1 p = μ.2.2.1 p) ∧ (∀ p x, 3 ≤ p → p ≤ 11 → x < hf p → ν.2.2.1 p x = μ.2.2.1 p (hf p + x)) ∧ (∀ x, x < nb → ν.2.2.1 14 x = μ.2.2.1 9 (10 + x)) ∧ (∀ x, x < 10 → ν.2.2.1 15 x = 0) ∧ (∀ x, x < 5 → ν.2.2.1 16 x = μ.2.2.1 5 (5 + x) ∧ ν.2.2.1 17 x = 0) ∧ ∀ x, x < 6 → ν.2.2.1 19 x = μ.2.2.1 4 (6 + x) := by
  obtain ⟨s1, a1, a2, a3, a4⟩ := rq_half (n := n) (p := 3) (m := 12) (hm := 6) hn (by omega) (by omega) (by decide) μ
  obtain ⟨s2, b1, b2, b3, b4⟩ := rq_half (n := n) (p := 4) (m := 12) (hm := 6) hn (by omega) (by omega) (by decide) s1
  obtain ⟨s3, c1, c2, c3, c4⟩ := rq_half (n := n) (p := 5) (m := 10) (hm := 5) hn (by omega) (by omega) (by decide) s2
  obtain ⟨s4, d1, d2, d3, d4⟩ := rq_half (n := n) (p := 6) (m := 10) (hm := 5) hn (by omega) (by omega) (by decide) s3
  obtain ⟨s5, e1, e2, e3, e4⟩ := rq_half (n := n) (p := 7) (m := 20) (hm := 10) hn (by omega) (by omega) (by decide) s4
  obtain ⟨s6, f1, f2, f3, f4⟩ := rq_half (n := n) (p := 8) (m := 20) (hm := 10) hn (by omega) (by omega) (by decide) s5
  obtain ⟨s7, g1, g2, g3, g4⟩ := rq_half (n := n) (p := 9) (m := 20) (hm := 10) hn (by omega) (by omega) (by decide) s6
  obtain ⟨s8, h1, h2, h3, h4⟩ := rq_half (n := n) (p := 10) (m := 1400) (hm := 700) hn (by omega) (by omega) (by decide) s7
  obtain ⟨s9, i1, i2, i3, i4⟩ := rq_half (n := n) (p := 11) (m := 1400) (hm := 700) hn (by omega) (by omega) (by decide) s8
  -- all nine together
  have S1 : s9.1 = μ.1 := by rw [i2, h2, g2, f2, e2, d2, c2, b2, a2]
  have SO : ∀ p, p < 3 ∨ 11 < p → s9.2.2.1 p = μ.2.2.1 p := fun p hp => by rw [i3 p (by omega), h3 p (by omega), g3 p (by omega), f3 p (by omega), e3 p (by omega), d3 p (by omega), c3 p (by omega), b3 p (by omega), a3 p (by omega)]
  have SH : ∀ p x, 3 ≤ p → p ≤ 11 → x < hf p → s9.2.2.1 p x = μ.2.2.1 p (hf p + x) := fun p x p1 p2 hx => by
    have hp : p = 3 ∨ p = 4 ∨ p = 5 ∨ p = 6 ∨ p = 7 ∨ p = 8 ∨ p = 9 ∨ p = 10 ∨ p = 11 := by omega
    rcases hp with rfl | rfl | rfl | rfl | rfl | rfl | rfl | rfl | rfl
    · rw [i3 3 (by omega), h3 3 (by omega), g3 3 (by omega), f3 3 (by omega), e3 3 (by omega), d3 3 (by omega), c3 3 (by omega), b3 3 (by omega)]; exact a4 x hx
    · rw [i3 4 (by omega), h3 4 (by omega), g3 4 (by omega), f3 4 (by omega), e3 4 (by omega), d3 4 (by omega), c3 4 (by omega), b4 x hx, a3 4 (by omega)]; rfl
    · rw [i3 5 (by omega), h3 5 (by omega), g3 5 (by omega), f3 5 (by omega), e3 5 (by omega), d3 5 (by omega), c4 x hx, b3 5 (by omega), a3 5 (by omega)]; rfl
    · rw [i3 6 (by omega), h3 6 (by omega), g3 6 (by omega), f3 6 (by omega), e3 6 (by omega), d4 x hx, c3 6 (by omega), b3 6 (by omega), a3 6 (by omega)]; rfl
    · rw [i3 7 (by omega), h3 7 (by omega), g3 7 (by omega), f3 7 (by omega), e4 x hx, d3 7 (by omega), c3 7 (by omega), b3 7 (by omega), a3 7 (by omega)]; rfl
    · rw [i3 8 (by omega), h3 8 (by omega), g3 8 (by omega), f4 x hx, e3 8 (by omega), d3 8 (by omega), c3 8 (by omega), b3 8 (by omega), a3 8 (by omega)]; rfl
    · rw [i3 9 (by omega), h3 9 (by omega), g4 x hx, f3 9 (by omega), e3 9 (by omega), d3 9 (by omega), c3 9 (by omega), b3 9 (by omega), a3 9 (by omega)]; rfl
    · rw [i3 10 (by omega), h4 x hx, g3 10 (by omega), f3 10 (by omega), e3 10 (by omega), d3 10 (by omega), c3 10 (by omega), b3 10 (by omega), a3 10 (by omega)]; rfl
    · rw [i4 x hx, h3 11 (by omega), g3 11 (by omega), f3 11 (by omega), e3 11 (by omega), d3 11 (by omega), c3 11 (by omega), b3 11 (by omega), a3 11 (by omega)]; rfl
  obtain ⟨t1, j1, j2, j3, _, j5⟩ := rq_75 (n := n) hb 10 n 0 (sp_si (sp_si s9 0 33 0) 0 34 0) (by omega) (by omega) (by show s9.2.2.1 3 2 = _; rw [SH 3 2 (by omega) (by omega) (by decide)]; exact h8)
  obtain ⟨t2, k1, k2, k3, _, k5⟩ := rq_122 (n := n) hn 5 n 0 t1 (by omega) (by omega)
  obtain ⟨t3, l1, l2, l3, _, l5⟩ := rq_180 (n := n) 6 n 0 t2 (by omega) (by omega)
  have E : X12_takeOver n μ = some (sp_si (sp_si (sp_si t3 0 35 0) 0 36 0) 0 55 0) := by
    rw [X12_takeOver, a1, sp_bv_s, b1, sp_bv_s, c1, sp_bv_s, d1, sp_bv_s, e1, sp_bv_s, f1, sp_bv_s, g1, sp_bv_s, h1, sp_bv_s, i1, sp_bv_s, sp_pl, sp_pl, sp_pl, show (X12_takeOver_75 n n (sp_si (sp_si s9 0 33 0) 0 34 0) 0) = _ from j1, X12_takeOver_120, sp_pl, show (X12_takeOver_122 n n t1 0) = _ from k1, X12_takeOver_178, sp_pl, show (X12_takeOver_180 n n t2 0) = _ from l1, X12_takeOver_204, sp_pl, sp_pl, sp_pl]
  have V : t3.1 = (sp_si (sp_si s9 0 33 0) 0 34 0).1 := by rw [l2, k2, j2]
  have R : ∀ p, ¬ (14 ≤ p ∧ p ≤ 19) → t3.2.2.1 p = s9.2.2.1 p := fun p hp => by rw [l3 p (by omega), k3 p (by omega) (by omega) (by omega), j3 p (by omega) (by omega)]; rfl
  refine ⟨_, E, fun k hk => ?_, ?_, ?_, ?_, ?_, sp_si_eq, fun p hp => ?_, fun p x p1 p2 hx => ?_, fun x hx => ?_, fun x hx => ?_, fun x hx => ⟨?_, ?_⟩, fun x hx => ?_⟩
  · rw [sp_si_ne (by omega), sp_si_ne (by omega), sp_si_ne (by omega), V, sp_si_ne (by omega), sp_si_ne (by omega), S1]
  · rw [sp_si_ne (by omega), sp_si_ne (by omega), sp_si_ne (by omega), V, sp_si_ne (by omega)]; exact sp_si_eq
  · rw [sp_si_ne (by omega), sp_si_ne (by omega), sp_si_ne (by omega), V]; exact sp_si_eq
  · rw [sp_si_ne (by omega), sp_si_ne (by omega)]; exact sp_si_eq
  · rw [sp_si_ne (by omega)]; exact sp_si_eq
  · show t3.2.2.1 p = _
    rw [R p (by omega), SO p (by omega)]
  · show t3.2.2.1 p x = _
    rw [R p (by omega)]; exact SH p x p1 p2 hx
  · show t3.2.2.1 14 x = _
    rw [l3 14 (by omega), k3 14 (by omega) (by omega) (by omega), (j5 x (by omega) (by omega)).1, if_pos hx]
    exact SH 9 x (by omega) (by omega) (by show x < 10; omega)
  · show t3.2.2.1 15 x = _
    rw [l3 15 (by omega), k3 15 (by omega) (by omega) (by omega)]
    exact (j5 x (by omega) hx).2
  · show t3.2.2.1 16 x = _
    rw [l3 16 (by omega), (k5 x (by omega) hx).1, j3 5 (by omega) (by omega)]
    exact SH 5 x (by omega) (by omega) hx
  · show t3.2.2.1 17 x = _
    rw [l3 17 (by omega)]
    exact (k5 x (by omega) hx).2
  · show t3.2.2.1 19 x = _
    rw [l5 x (by omega) hx, k3 4 (by omega) (by omega) (by omega), j3 4 (by omega) (by omega)]
    exact SH 4 x (by omega) (by omega) hx
end
