-- ===== sets, their sums, and what goes into the rooms =====
def Sb (T S : Nat) : Prop := ∀ k, T.testBit k = true → S.testBit k = true
theorem Sb_0 {S : Nat} : Sb 0 S := fun k h => by rw [Nat.zero_testBit] at h; cases h
theorem Sb_refl {S : Nat} : Sb S S := fun _ h => h
theorem Sb_trans {R S T : Nat} (h : Sb R S) (g : Sb S T) : Sb R T := fun k e => g k (h k e)
theorem qd_0 {T S : Nat} : qd T S = 0 ↔ Sb T S := by
  constructor
  · intro h k e
    have := congrArg (fun x => x.testBit k) h
    simp only [qd_t, Nat.zero_testBit, e, Bool.true_and] at this
    simpa using this
  · intro h
    apply Nat.eq_of_testBit_eq
    intro k
    rw [qd_t, Nat.zero_testBit]
    cases e : T.testBit k with
    | false => rfl
    | true => rw [h k e]; rfl
theorem Sb_qd {S T : Nat} : Sb (qd S T) S := fun k h => by rw [qd_t] at h; simp at h; exact h.1
theorem qd_qd (S T U : Nat) : qd (qd S T) U = qd (qd S U) T := by
  apply Nat.eq_of_testBit_eq
  intro k
  rw [qd_t, qd_t, qd_t, qd_t]
  cases S.testBit k <;> cases T.testBit k <;> cases U.testBit k <;> rfl
theorem qd_z (S : Nat) : qd S 0 = S := by
  apply Nat.eq_of_testBit_eq
  intro k
  rw [qd_t, Nat.zero_testBit]; simp
theorem Sb_z {T : Nat} (h : Sb T 0) : T = 0 := by rw [← qd_0, qd_z] at h; exact h
theorem Sb_le {T S : Nat} (h : Sb T S) : T ≤ S := by
  have e : T &&& S = T := by
    apply Nat.eq_of_testBit_eq
    intro k
    rw [Nat.testBit_and]
    cases q : T.testBit k with
    | false => rfl
    | true => rw [h k q]; rfl
  rw [← e]; exact Nat.and_le_right
theorem Sb_mem {S b : Nat} (h : S.testBit b = true) : Sb (2 ^ b) S := fun k e => by rw [Nat.testBit_two_pow] at e; simp at e; subst e; exact h
theorem qd_lt1 {S b : Nat} (h : S.testBit b = true) : qd S (2 ^ b) < S := by
  have le := Sb_le (Sb_qd (S := S) (T := 2 ^ b))
  refine Nat.lt_of_le_of_ne le fun e => ?_
  have : (qd S (2 ^ b)).testBit b = false := by rw [qd_b]; simp
  rw [e, h] at this; cases this
/-- the sum of a set -/
def sW (w : Nat → Nat) (N S : Nat) : Nat := qs (fun b => if S.testBit b then w b else 0) N
theorem sW_0 {w : Nat → Nat} : ∀ N, sW w N 0 = 0 := by
  intro N
  induction N with
  | zero => rfl
  | succ N ih => unfold sW at *; rw [qs_s, ih]; simp
theorem sW_sp {w : Nat → Nat} {T S : Nat} (h : Sb T S) : ∀ N, sW w N S = sW w N T + sW w N (qd S T) := by
  intro N
  induction N with
  | zero => rfl
  | succ N ih =>
    unfold sW at *
    rw [qs_s, qs_s, qs_s, ih, qd_t]
    cases e : T.testBit N with
    | false => cases S.testBit N <;> simp <;> omega
    | true => rw [h N e]; simp; omega
theorem sW_mono {w : Nat → Nat} {T S N : Nat} (h : Sb T S) : sW w N T ≤ sW w N S := by rw [sW_sp h]; omega
theorem sW_1 {w : Nat → Nat} {b : Nat} : ∀ N, b < N → sW w N (2 ^ b) = w b := by
  intro N
  induction N with
  | zero => intro h; omega
  | succ N ih =>
    intro h
    by_cases e : b = N
    · subst e
      have : ∀ M, M ≤ b → sW w M (2 ^ b) = 0 := by
        intro M
        induction M with
        | zero => intro _; rfl
        | succ M ih2 =>
          intro hM
          unfold sW at *
          rw [qs_s, ih2 (by omega), if_neg (by rw [Nat.testBit_two_pow]; simp; omega)]
      show sW w b (2 ^ b) + (if (2 ^ b).testBit b = true then w b else 0) = w b
      rw [this b (Nat.le_refl _), if_pos (by rw [Nat.testBit_two_pow]; simp)]; omega
    · have := ih (by omega)
      show sW w N (2 ^ b) + (if (2 ^ b).testBit N = true then w N else 0) = w b
      rw [this, if_neg (by rw [Nat.testBit_two_pow]; simp [e])]; omega
theorem sW_del {w : Nat → Nat} {S b N : Nat} (h : S.testBit b = true) (hb : b < N) : sW w N S = w b + sW w N (qd S (2 ^ b)) := by rw [sW_sp (Sb_mem h), sW_1 N hb]
section
variable {w : Nat → Nat} {N : Nat}
/-- the set goes into the rooms, each blade into one -/
def pk (w : Nat → Nat) (N : Nat) : List Nat → Nat → Prop
  | [], S => S = 0
  | r :: R, S => ∃ T, Sb T S ∧ sW w N T ≤ r ∧ pk w N R (qd S T)
theorem pk_mono : ∀ {R : List Nat} {S T : Nat}, Sb T S → pk w N R S → pk w N R T := by
  intro R
  induction R with
  | nil => intro S T h g; rw [pk] at *; subst g; exact Sb_z h
  | cons r R ih =>
    intro S T h g
    rw [pk] at *
    obtain ⟨U, u1, u2, u3⟩ := g
    refine ⟨U &&& T, fun k e => by rw [Nat.testBit_and] at e; simp at e; exact e.2, Nat.le_trans (sW_mono (fun k e => by rw [Nat.testBit_and] at e; simp at e; exact e.1)) u2, ih (fun k e => ?_) u3⟩
    rw [qd_t, Nat.testBit_and] at e
    rw [qd_t]
    cases a : T.testBit k with
    | false => rw [a] at e; cases e
    | true => rw [a] at e; rw [h k a]; simpa using e
theorem pk_0 : ∀ {R : List Nat}, pk w N R 0 := by
  intro R
  induction R with
  | nil => rfl
  | cons r R ih => exact ⟨0, Sb_0, by rw [sW_0]; exact Nat.zero_le _, by rw [qd_z]; exact ih⟩
theorem pk_snoc {r : Nat} : ∀ {R : List Nat} {S : Nat}, pk w N (R ++ [r]) S ↔ ∃ U, Sb U S ∧ sW w N U ≤ r ∧ pk w N R (qd S U) := by
  intro R
  induction R with
  | nil => intro S; exact Iff.rfl
  | cons r0 R ih =>
    intro S
    have sub : ∀ {T U : Nat}, Sb T S → Sb U (qd S T) → Sb T (qd S U) := fun {T U} h1 h2 k e => by
      rw [qd_t, h1 k e]
      cases q : U.testBit k with
      | false => rfl
      | true => have := h2 k q; rw [qd_t, e] at this; simp at this
    rw [List.cons_append, pk]
    constructor
    · rintro ⟨T, t1, t2, t3⟩
      obtain ⟨U, u1, u2, u3⟩ := ih.mp t3
      exact ⟨U, Sb_trans u1 Sb_qd, u2, T, sub t1 u1, t2, by rw [qd_qd]; exact u3⟩
    · rintro ⟨U, u1, u2, T, t1, t2, t3⟩
      exact ⟨T, Sb_trans t1 Sb_qd, t2, ih.mpr ⟨U, sub u1 t1, u2, by rw [qd_qd]; exact t3⟩⟩
theorem pk_sum : ∀ {R : List Nat} {S : Nat}, pk w N R S → sW w N S ≤ R.sum := by
  intro R
  induction R with
  | nil => intro S h; rw [pk] at h; subst h; rw [sW_0]; exact Nat.zero_le _
  | cons r R ih =>
    rintro S ⟨T, t1, t2, t3⟩
    have := ih t3
    rw [sW_sp t1, List.sum_cons]; omega
def rl (Rf : Nat → Nat) (m : Nat) : List Nat := (List.range m).map Rf
theorem rl_s (Rf : Nat → Nat) (m : Nat) : rl Rf (m + 1) = rl Rf m ++ [Rf m] := by unfold rl; rw [List.range_succ, List.map_append]; rfl
def pQ (w : Nat → Nat) (N : Nat) (Rf : Nat → Nat) (S i φ : Nat) : Prop := ∃ U, Sb U S ∧ sW w N U ≤ φ ∧ pk w N (rl Rf i) (qd S U)
variable {Rf : Nat → Nat} {m : Nat}
theorem pQ_s {S i : Nat} : pk w N (rl Rf (i + 1)) S ↔ pQ w N Rf S i (Rf i) := by rw [rl_s]; exact pk_snoc
theorem pQ_z {S i φ : Nat} (h : pk w N (rl Rf i) S) : pQ w N Rf S i φ := ⟨0, Sb_0, by rw [sW_0]; exact Nat.zero_le _, by rw [qd_z]; exact h⟩
theorem pQ_pk {S i φ : Nat} (h : pQ w N Rf S i φ) (hφ : φ ≤ Rf i) : pk w N (rl Rf (i + 1)) S := by
  obtain ⟨U, u1, u2, u3⟩ := h
  exact pQ_s.mpr ⟨U, u1, Nat.le_trans u2 hφ, u3⟩
theorem pk_more {S i : Nat} (h : pk w N (rl Rf i) S) : ∀ j, i ≤ j → pk w N (rl Rf j) S := by
  intro j
  induction j with
  | zero => intro hj; rw [show i = 0 by omega] at h; exact h
  | succ j ih =>
    intro hj
    by_cases e : i = j + 1
    · subst e; exact h
    · exact pQ_s.mpr (pQ_z (ih (by omega)))
/-- one blade more -/
def stp (Rf : Nat → Nat) (l : Nat) : Nat → Nat → Nat → Nat
  | 0, _, _ => 640
  | d + 1, i, φ => if Rf i < φ + l then stp Rf l d (i + 1) 0 else i * 128 + φ + l
theorem stp_ok (h99 : ∀ i, i < m → Rf i ≤ 99) {S b : Nat} (hS : S.testBit b = true) (hb : b < N) : ∀ d i φ, d = m - i → φ ≤ Rf i → pQ w N Rf (qd S (2 ^ b)) i φ → stp Rf (w b) d i φ = 640 ∨ ∃ i' φ', stp Rf (w b) d i φ = i' * 128 + φ' ∧ i' < m ∧ φ' ≤ Rf i' ∧ pQ w N Rf S i' φ' := by
  intro d
  induction d with
  | zero => intro i φ _ _ _; exact Or.inl rfl
  | succ d ih =>
    intro i φ hd hφ hq
    rw [stp]
    by_cases p : Rf i < φ + w b
    · rw [if_pos p]
      exact ih (i + 1) 0 (by omega) (Nat.zero_le _) (pQ_z (pQ_pk hq hφ))
    · rw [if_neg p]
      refine Or.inr ⟨i, φ + w b, by omega, by omega, by omega, ?_⟩
      obtain ⟨U, u1, u2, u3⟩ := hq
      have t : ∀ k, (U ||| 2 ^ b).testBit k = (U.testBit k || decide (b = k)) := fun k => by rw [Nat.testBit_or, Nat.testBit_two_pow]
      have e1 : qd (U ||| 2 ^ b) (2 ^ b) = U := by
        apply Nat.eq_of_testBit_eq
        intro k
        rw [qd_b, t]
        by_cases e : b = k
        · subst e
          cases q : U.testBit b with
          | false => simp
          | true => have := u1 b q; rw [qd_b] at this; simp at this
        · simp [e]
      have e2 : qd S (U ||| 2 ^ b) = qd (qd S (2 ^ b)) U := by
        apply Nat.eq_of_testBit_eq
        intro k
        rw [qd_t, qd_t, qd_b, t]
        cases S.testBit k <;> cases U.testBit k <;> simp
      refine ⟨U ||| 2 ^ b, fun k e => ?_, ?_, by rw [e2]; exact u3⟩
      · rw [t] at e
        by_cases e' : b = k
        · subst e'; exact hS
        · simp [e'] at e; exact Sb_qd k (u1 k e)
      · rw [sW_del (b := b) (by rw [t]; simp) hb, e1]; omega
theorem stp_le (h99 : ∀ i, i < m → Rf i ≤ 99) {l i2 φ2 : Nat} (h2 : i2 < m) (hφ2 : φ2 + l ≤ Rf i2) : ∀ d i φ, d = m - i → φ < 128 → i * 128 + φ ≤ i2 * 128 + φ2 → stp Rf l d i φ ≤ i2 * 128 + φ2 + l := by
  have h128 := h99 i2 h2
  intro d
  induction d with
  | zero => intro i φ hd hφ hle; omega
  | succ d ih =>
    intro i φ hd hφ hle
    rw [stp]
    by_cases p : Rf i < φ + l
    · rw [if_pos p]
      refine ih (i + 1) 0 (by omega) (by omega) ?_
      have : i ≠ i2 := fun e => by subst e; omega
      omega
    · rw [if_neg p]
      have := h99 i (by omega)
      by_cases e : i = i2
      · subst e; omega
      · omega
/-- what the table of fillings holds -/
def isF (w : Nat → Nat) (N : Nat) (Rf : Nat → Nat) (m S x : Nat) : Prop := (x = 640 ∨ ∃ i φ, x = i * 128 + φ ∧ (i < m ∧ φ ≤ Rf i ∧ pQ w N Rf S i φ ∨ i = 0 ∧ φ = 0 ∧ S = 0)) ∧ (∀ i φ, i < m → φ ≤ Rf i → pQ w N Rf S i φ → x ≤ i * 128 + φ) ∧ (S = 0 → x = 0)
theorem isF_le (h99 : ∀ i, i < m → Rf i ≤ 99) (hm : m ≤ 5) {S x : Nat} (h : isF w N Rf m S x) : x ≤ 640 := by
  rcases h.1 with h | ⟨i, φ, h, ⟨h1, h2, _⟩ | ⟨h1, h2, _⟩⟩
  · omega
  · have := h99 i h1; omega
  · omega
theorem isF_pk (h99 : ∀ i, i < m → Rf i ≤ 99) (hm : m ≤ 5) {S x : Nat} (h : isF w N Rf m S x) : x < 640 ↔ pk w N (rl Rf m) S := by
  constructor
  · intro hx
    rcases h.1 with h | ⟨i, φ, h, ⟨h1, h2, h3⟩ | ⟨h1, h2, h3⟩⟩
    · omega
    · exact pk_more (pQ_pk h3 h2) m (by omega)
    · subst h3; exact pk_0
  · intro hp
    cases m with
    | zero =>
      have : S = 0 := hp
      have := h.2.2 this; omega
    | succ m =>
      have := h.2.1 m (Rf m) (by omega) (Nat.le_refl _) (pQ_s.mp hp)
      have := h99 m (by omega)
      omega
theorem isF_0 : isF w N Rf m 0 0 := ⟨Or.inr ⟨0, 0, rfl, Or.inr ⟨rfl, rfl, rfl⟩⟩, fun _ _ _ _ _ => Nat.zero_le _, fun _ => rfl⟩
/-- the least over the set's blades -/
def lfm (w : Nat → Nat) (Rf : Nat → Nat) (m : Nat) (g : Nat → Nat) (S : Nat) : Nat → Nat
  | 0 => 640
  | b + 1 => if S.testBit b then min (lfm w Rf m g S b) (stp Rf (w b) (m - g (qd S (2 ^ b)) / 128) (g (qd S (2 ^ b)) / 128) (g (qd S (2 ^ b)) % 128)) else lfm w Rf m g S b
theorem lfm_at {g : Nat → Nat} {S : Nat} : ∀ M, lfm w Rf m g S M = 640 ∨ ∃ b, b < M ∧ S.testBit b = true ∧ lfm w Rf m g S M = stp Rf (w b) (m - g (qd S (2 ^ b)) / 128) (g (qd S (2 ^ b)) / 128) (g (qd S (2 ^ b)) % 128) := by
  intro M
  induction M with
  | zero => exact Or.inl rfl
  | succ M ih =>
    rw [lfm]
    cases e : S.testBit M with
    | false =>
      rw [if_neg (by simp)]
      rcases ih with ih | ⟨b, h1, h2⟩
      · exact Or.inl ih
      · exact Or.inr ⟨b, by omega, h2⟩
    | true =>
      rw [if_pos rfl]
      rcases Nat.le_total (lfm w Rf m g S M) (stp Rf (w M) (m - g (qd S (2 ^ M)) / 128) (g (qd S (2 ^ M)) / 128) (g (qd S (2 ^ M)) % 128)) with le | le
      · rw [Nat.min_eq_left le]
        rcases ih with ih | ⟨b, h1, h2⟩
        · exact Or.inl ih
        · exact Or.inr ⟨b, by omega, h2⟩
      · rw [Nat.min_eq_right le]
        exact Or.inr ⟨M, by omega, e, rfl⟩
theorem lfm_le {g : Nat → Nat} {S b : Nat} (hS : S.testBit b = true) : ∀ M, b < M → lfm w Rf m g S M ≤ stp Rf (w b) (m - g (qd S (2 ^ b)) / 128) (g (qd S (2 ^ b)) / 128) (g (qd S (2 ^ b)) % 128) := by
  intro M
  induction M with
  | zero => intro h; omega
  | succ M ih =>
    intro h
    rw [lfm]
    by_cases e : b = M
    · subst e; rw [if_pos hS]; exact Nat.min_le_right _ _
    · have := ih (by omega)
      split
      · exact Nat.le_trans (Nat.min_le_left _ _) this
      · exact this
theorem any_bit {S : Nat} (hS : S < 2 ^ N) (h0 : S ≠ 0) : ∃ b, b < N ∧ S.testBit b = true := by
  apply Classical.byContradiction
  intro hh
  apply h0
  apply Nat.eq_of_testBit_eq
  intro k
  rw [Nat.zero_testBit]
  cases e : S.testBit k with
  | false => rfl
  | true =>
    exfalso
    apply hh
    refine ⟨k, Nat.lt_of_not_le fun g => ?_, e⟩
    rw [Nat.testBit_lt_two_pow (Nat.lt_of_lt_of_le hS (Nat.pow_le_pow_right (by decide) g))] at e
    cases e
theorem isF_s (h99 : ∀ i, i < m → Rf i ≤ 99) (hm : m ≤ 5) {g : Nat → Nat} {S : Nat} (hS : S < 2 ^ N) (h0 : S ≠ 0) (hg : ∀ b, b < N → S.testBit b = true → isF w N Rf m (qd S (2 ^ b)) (g (qd S (2 ^ b)))) : isF w N Rf m S (lfm w Rf m g S N) := by
  refine ⟨?_, ?_, fun h => absurd h h0⟩
  · rcases lfm_at (w := w) (Rf := Rf) (m := m) (g := g) (S := S) N with h | ⟨b, hb, hSb, h⟩
    · exact Or.inl h
    · rw [h]
      have hF := hg b hb hSb
      rcases hF.1 with h | ⟨i, φ, h, ⟨h1, h2, h3⟩ | ⟨h1, h2, h3⟩⟩
      · rw [h, show m - 640 / 128 = 0 by omega]; exact Or.inl rfl
      · have := h99 i h1
        rw [h, show (i * 128 + φ) / 128 = i by omega, show (i * 128 + φ) % 128 = φ by omega]
        rcases stp_ok h99 hSb hb (m - i) i φ rfl h2 h3 with h | ⟨i', φ', a1, a2, a3, a4⟩
        · exact Or.inl h
        · exact Or.inr ⟨i', φ', a1, Or.inl ⟨a2, a3, a4⟩⟩
      · subst h1 h2
        rw [h]
        rcases stp_ok (w := w) (Rf := Rf) h99 hSb hb (m - 0) 0 0 rfl (Nat.zero_le _) (by rw [h3]; exact pQ_z pk_0) with h | ⟨i', φ', a1, a2, a3, a4⟩
        · exact Or.inl h
        · exact Or.inr ⟨i', φ', a1, Or.inl ⟨a2, a3, a4⟩⟩
  · intro i
    induction i with
    | zero =>
      intro φ hi hφ hq
      obtain ⟨U, u1, u2, u3⟩ := hq
      have : U ≠ 0 := fun e => by
        subst e
        rw [qd_z] at u3
        exact h0 u3
      obtain ⟨b, hb, hU⟩ := any_bit (Nat.lt_of_le_of_lt (Sb_le u1) hS) this
      have hSb := u1 b hU
      have d1 := sW_del (w := w) hU hb
      have hF := (hg b hb hSb).2.1 0 (φ - w b) hi (by omega) ⟨qd U (2 ^ b), fun k e => by
        rw [qd_b] at e ⊢
        cases q : U.testBit k with
        | false => rw [q] at e; cases e
        | true => rw [q] at e; rw [u1 k q]; exact e, by omega, by
        refine pk_mono (fun k e => ?_) u3
        rw [qd_t, qd_b, qd_b] at e
        rw [qd_t]
        cases a : S.testBit k <;> cases c : U.testBit k <;> simp [a, c] at e ⊢⟩
      have le := stp_le (l := w b) h99 hi (φ2 := φ - w b) (by omega) (m - g (qd S (2 ^ b)) / 128) (g (qd S (2 ^ b)) / 128) (g (qd S (2 ^ b)) % 128) rfl (Nat.mod_lt _ (by decide)) (by omega)
      have := lfm_le (w := w) (Rf := Rf) (m := m) (g := g) hSb N hb
      omega
    | succ i ih =>
      intro φ hi hφ hq
      obtain ⟨U, u1, u2, u3⟩ := hq
      by_cases e0 : U = 0
      · subst e0
        rw [qd_z] at u3
        have := ih (Rf i) (by omega) (Nat.le_refl _) (pQ_s.mp u3)
        have := h99 i (by omega)
        omega
      · obtain ⟨b, hb, hU⟩ := any_bit (Nat.lt_of_le_of_lt (Sb_le u1) hS) e0
        have hSb := u1 b hU
        have d1 := sW_del (w := w) hU hb
        have hF := (hg b hb hSb).2.1 (i + 1) (φ - w b) hi (by omega) ⟨qd U (2 ^ b), fun k e => by
          rw [qd_b] at e ⊢
          cases q : U.testBit k with
          | false => rw [q] at e; cases e
          | true => rw [q] at e; rw [u1 k q]; exact e, by omega, by
          refine pk_mono (fun k e => ?_) u3
          rw [qd_t, qd_b, qd_b] at e
          rw [qd_t]
          cases a : S.testBit k <;> cases c : U.testBit k <;> simp [a, c] at e ⊢⟩
        have le := stp_le (l := w b) h99 hi (φ2 := φ - w b) (by omega) (m - g (qd S (2 ^ b)) / 128) (g (qd S (2 ^ b)) / 128) (g (qd S (2 ^ b)) % 128) rfl (Nat.mod_lt _ (by decide)) (by omega)
        have := lfm_le (w := w) (Rf := Rf) (m := m) (g := g) hSb N hb
        omega
end
