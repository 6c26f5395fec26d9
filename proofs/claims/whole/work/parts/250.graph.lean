-- ===== FEUDS AS A GRAPH: sets of houses as bits =====
def foI (F : Nat → Nat) (S : Nat) : Nat → Nat
  | 0 => 0
  | i + 1 => if S.testBit i then foI F S i ||| F i else foI F S i
theorem foI_t {F : Nat → Nat} {S k : Nat} : ∀ i, (foI F S i).testBit k = true ↔ ∃ h, h < i ∧ S.testBit h = true ∧ (F h).testBit k = true := by
  intro i
  induction i with
  | zero =>
    rw [foI, Nat.zero_testBit]
    constructor
    · intro h; cases h
    · rintro ⟨h, h1, _⟩; omega
  | succ i ih =>
    rw [foI]
    by_cases p : S.testBit i = true
    · rw [if_pos p, Nat.testBit_or, Bool.or_eq_true, ih]
      constructor
      · rintro (⟨h, h1, h2, h3⟩ | h)
        · exact ⟨h, by omega, h2, h3⟩
        · exact ⟨i, by omega, p, h⟩
      · rintro ⟨h, h1, h2, h3⟩
        by_cases e : h = i
        · subst e; exact Or.inr h3
        · exact Or.inl ⟨h, by omega, h2, h3⟩
    · rw [if_neg p, ih]
      constructor
      · rintro ⟨h, h1, h2, h3⟩
        exact ⟨h, by omega, h2, h3⟩
      · rintro ⟨h, h1, h2, h3⟩
        by_cases e : h = i
        · subst e; exact absurd h2 p
        · exact ⟨h, by omega, h2, h3⟩
def fo (F : Nat → Nat) (S : Nat) : Nat := foI F S 6
theorem fo_t {F : Nat → Nat} {S k : Nat} : (fo F S).testBit k = true ↔ ∃ h, h < 6 ∧ S.testBit h = true ∧ (F h).testBit k = true := foI_t 6
theorem foI_lt {F : Nat → Nat} (hF : ∀ h, h < 6 → F h < 64) (S : Nat) : ∀ i, i ≤ 6 → foI F S i < 64 := by
  intro i
  induction i with
  | zero => intro _; rw [foI]; decide
  | succ i ih =>
    intro hi
    rw [foI]
    split
    · exact Nat.or_lt_two_pow (n := 6) (ih (by omega)) (hF i (by omega))
    · exact ih (by omega)
theorem fo_lt {F : Nat → Nat} (hF : ∀ h, h < 6 → F h < 64) (S : Nat) : fo F S < 64 := foI_lt hF S 6 (Nat.le_refl _)
theorem bit6 {S k : Nat} (h : S < 64) (hk : S.testBit k = true) : k < 6 := by
  rcases Nat.lt_or_ge k 6 with h1 | h1
  · exact h1
  · rw [Nat.testBit_lt_two_pow (Nat.lt_of_lt_of_le h (Nat.pow_le_pow_right (by decide) h1 : 2 ^ 6 ≤ 2 ^ k))] at hk
    cases hk
theorem set_eq {S T : Nat} (hS : S < 64) (hT : T < 64) (h : ∀ k, k < 6 → (S.testBit k = true ↔ T.testBit k = true)) : S = T := by
  apply Nat.eq_of_testBit_eq
  intro k
  rw [Bool.eq_iff_iff]
  constructor
  · intro hk; exact (h k (bit6 hS hk)).mp hk
  · intro hk; exact (h k (bit6 hT hk)).mpr hk
def cnt (S : Nat) : Nat := qc (fun k => S.testBit k) 6
theorem qc_le_of {P R : Nat → Bool} : ∀ {N : Nat}, (∀ k, k < N → P k = true → R k = true) → qc P N ≤ qc R N := by
  intro N h
  refine qs_mono fun k hk => ?_
  by_cases p : P k = true
  · rw [if_pos p, if_pos (h k hk p)]; exact Nat.le_refl _
  · rw [if_neg p]; exact Nat.zero_le _
theorem qc_lt_of {P R : Nat → Bool} {x : Nat} : ∀ {N : Nat}, (∀ k, k < N → P k = true → R k = true) → x < N → P x = false → R x = true → qc P N < qc R N := by
  intro N
  induction N with
  | zero => intro _ h; omega
  | succ N ih =>
    intro h hx h1 h2
    rw [qc_s, qc_s]
    by_cases e : x = N
    · subst e
      have := qc_le_of (P := P) (R := R) (N := x) (fun k hk => h k (by omega))
      rw [h1, h2]
      simp
      omega
    · have := ih (fun k hk => h k (by omega)) (by omega) h1 h2
      by_cases p : P N = true
      · rw [if_pos p, if_pos (h N (by omega) p)]; omega
      · rw [if_neg p]; omega
theorem cnt_lt {S T x : Nat} (h : ∀ k, k < 6 → S.testBit k = true → T.testBit k = true) (hx : x < 6) (h1 : ¬ S.testBit x = true) (h2 : T.testBit x = true) : cnt S < cnt T := qc_lt_of h hx (by simpa using h1) h2
theorem cnt_6 (S : Nat) : cnt S ≤ 6 := qc_le _ _
theorem grow5 {S : Nat → Nat} {C : Nat → Prop} (h0 : 1 ≤ cnt (S 0)) (hp : ∀ i, C i → C (i + 1)) (hg : ∀ i, ¬ C i → cnt (S i) < cnt (S (i + 1))) : C 5 := by
  apply Classical.byContradiction
  intro c5
  have c4 : ¬ C 4 := fun h => c5 (hp 4 h)
  have c3 : ¬ C 3 := fun h => c4 (hp 3 h)
  have c2 : ¬ C 2 := fun h => c3 (hp 2 h)
  have c1 : ¬ C 1 := fun h => c2 (hp 1 h)
  have c0 : ¬ C 0 := fun h => c1 (hp 0 h)
  have g0 := hg 0 c0
  have g1 := hg 1 c1
  have g2 := hg 2 c2
  have g3 := hg 3 c3
  have g4 := hg 4 c4
  have g5 := hg 5 c5
  have := cnt_6 (S 6)
  simp only [Nat.zero_add, Nat.reduceAdd] at g0 g1 g2 g3 g4 g5
  omega
theorem cnt_pos {S x : Nat} (hx : x < 6) (h : S.testBit x = true) : 1 ≤ cnt S := qc_pos hx h
section
variable {F : Nat → Nat}
/-- those to whom an even number of feuds leads -/
def cI (F : Nat → Nat) (h : Nat) : Nat → Nat
  | 0 => 2 ^ h
  | i + 1 => cI F h i ||| fo F (fo F (cI F h i))
theorem cI_lt (hF : ∀ h, h < 6 → F h < 64) {h : Nat} (hh : h < 6) : ∀ i, cI F h i < 64 := by
  intro i
  induction i with
  | zero => exact Nat.pow_lt_pow_right (by decide) hh
  | succ i ih => exact Nat.or_lt_two_pow (n := 6) ih (fo_lt hF _)
theorem cI_h {h : Nat} : ∀ i, (cI F h i).testBit h = true := by
  intro i
  induction i with
  | zero => rw [cI, Nat.testBit_two_pow]; simp
  | succ i ih => rw [cI, Nat.testBit_or, ih]; rfl
theorem cI_cl (hF : ∀ h, h < 6 → F h < 64) {h : Nat} (hh : h < 6) : ∀ k, (fo F (fo F (cI F h 6))).testBit k = true → (cI F h 6).testBit k = true := by
  have same : ∀ i, (∀ k, (fo F (fo F (cI F h i))).testBit k = true → (cI F h i).testBit k = true) → cI F h (i + 1) = cI F h i := fun i hc => by
    refine set_eq (cI_lt hF hh _) (cI_lt hF hh _) (fun k _ => ?_)
    rw [cI, Nat.testBit_or, Bool.or_eq_true]
    exact ⟨fun x => x.elim id (hc k), Or.inl⟩
  have hp : ∀ i, (∀ k, (fo F (fo F (cI F h i))).testBit k = true → (cI F h i).testBit k = true) → ∀ k, (fo F (fo F (cI F h (i + 1)))).testBit k = true → (cI F h (i + 1)).testBit k = true := fun i hc => by rw [same i hc]; exact hc
  have c5 := grow5 (S := cI F h) (C := fun i => ∀ k, (fo F (fo F (cI F h i))).testBit k = true → (cI F h i).testBit k = true) (cnt_pos hh (cI_h 0)) hp (fun i hn => by
    obtain ⟨k, hk⟩ := Classical.not_forall.mp hn
    obtain ⟨k1, k2⟩ := Classical.not_imp.mp hk
    refine cnt_lt (x := k) (fun q _ hq => ?_) (bit6 (fo_lt hF _) k1) k2 ?_
    · rw [cI, Nat.testBit_or, hq]; rfl
    · rw [cI, Nat.testBit_or, k1]; simp)
  exact hp 5 c5
theorem cI_min {h : Nat} {T : Nat → Prop} (hh : h < 6) (hT : T h) (hc : ∀ a b k, a < 6 → b < 6 → T a → (F a).testBit b = true → (F b).testBit k = true → T k) : ∀ i k, (cI F h i).testBit k = true → T k := by
  intro i
  induction i with
  | zero =>
    intro k hk
    rw [cI, Nat.testBit_two_pow] at hk
    have : h = k := by simpa using hk
    subst this; exact hT
  | succ i ih =>
    intro k hk
    rw [cI, Nat.testBit_or, Bool.or_eq_true] at hk
    rcases hk with hk | hk
    · exact ih k hk
    · obtain ⟨b, b1, b2, b3⟩ := fo_t.mp hk
      obtain ⟨a, a1, a2, a3⟩ := fo_t.mp b2
      exact hc a b k a1 b1 (ih a a2) a3 b3
def cmp (F : Nat → Nat) (h : Nat) : Nat := cI F h 6 ||| fo F (cI F h 6)
theorem cmp_lt (hF : ∀ h, h < 6 → F h < 64) {h : Nat} (hh : h < 6) : cmp F h < 64 := Nat.or_lt_two_pow (n := 6) (cI_lt hF hh 6) (fo_lt hF _)
/-- one round of the reference's parts -/
def pI (F : Nat → Nat) (S : Nat) : Nat → Nat
  | 0 => S
  | k + 1 => if (pI F S k).testBit k then pI F S k ||| F k else pI F S k
def pS (F : Nat → Nat) (h : Nat) : Nat → Nat
  | 0 => 2 ^ h
  | i + 1 => pI F (pS F h i) 6
theorem pI_lt (hF : ∀ h, h < 6 → F h < 64) {S : Nat} (hS : S < 64) : ∀ i, i ≤ 6 → pI F S i < 64 := by
  intro i
  induction i with
  | zero => intro _; exact hS
  | succ i ih =>
    intro hi
    rw [pI]
    split
    · exact Nat.or_lt_two_pow (n := 6) (ih (by omega)) (hF i (by omega))
    · exact ih (by omega)
theorem pS_lt (hF : ∀ h, h < 6 → F h < 64) {h : Nat} (hh : h < 6) : ∀ i, pS F h i < 64 := by
  intro i
  induction i with
  | zero => exact Nat.pow_lt_pow_right (by decide) hh
  | succ i ih => exact pI_lt hF ih 6 (Nat.le_refl _)
theorem pI_mono {S k : Nat} (h : S.testBit k = true) : ∀ i, (pI F S i).testBit k = true := by
  intro i
  induction i with
  | zero => exact h
  | succ i ih =>
    rw [pI]
    split
    · rw [Nat.testBit_or, ih]; rfl
    · exact ih
theorem pI_F {S x k : Nat} (hx : S.testBit x = true) (hk : (F x).testBit k = true) : ∀ i, x < i → (pI F S i).testBit k = true := by
  intro i
  induction i with
  | zero => intro h; omega
  | succ i ih =>
    intro hi
    rw [pI]
    by_cases e : x = i
    · subst e
      rw [if_pos (pI_mono hx x), Nat.testBit_or, hk]
      simp
    · have := ih (by omega)
      split
      · rw [Nat.testBit_or, this]; rfl
      · exact this
theorem pI_cl {S : Nat} {T : Nat → Prop} (hS : ∀ k, S.testBit k = true → T k) (hT : ∀ a k, a < 6 → T a → (F a).testBit k = true → T k) : ∀ i, i ≤ 6 → ∀ k, (pI F S i).testBit k = true → T k := by
  intro i
  induction i with
  | zero => intro _ k hk; exact hS k hk
  | succ i ih =>
    intro hi k hk
    have ih' := ih (by omega)
    rw [pI] at hk
    by_cases p : (pI F S i).testBit i = true
    · rw [if_pos p, Nat.testBit_or, Bool.or_eq_true] at hk
      rcases hk with hk | hk
      · exact ih' k hk
      · exact hT i k (by omega) (ih' i p) hk
    · rw [if_neg p] at hk
      exact ih' k hk
theorem pS_h {h : Nat} : ∀ i, (pS F h i).testBit h = true := by
  intro i
  induction i with
  | zero => rw [pS, Nat.testBit_two_pow]; simp
  | succ i ih => exact pI_mono ih 6
theorem pS_closed (hF : ∀ h, h < 6 → F h < 64) {h : Nat} (hh : h < 6) : ∀ a k, a < 6 → (pS F h 6).testBit a = true → (F a).testBit k = true → (pS F h 6).testBit k = true := by
  have hp : ∀ i, (∀ a k, a < 6 → (pS F h i).testBit a = true → (F a).testBit k = true → (pS F h i).testBit k = true) → ∀ a k, a < 6 → (pS F h (i + 1)).testBit a = true → (F a).testBit k = true → (pS F h (i + 1)).testBit k = true := fun i hc => by
    have : pS F h (i + 1) = pS F h i := by
      refine set_eq (pS_lt hF hh _) (pS_lt hF hh _) (fun k _ => ⟨fun x => ?_, fun x => pI_mono x 6⟩)
      exact pI_cl (T := fun k => (pS F h i).testBit k = true) (fun _ h => h) hc 6 (Nat.le_refl _) k x
    rw [this]; exact hc
  have c5 := grow5 (S := pS F h) (C := fun i => ∀ a k, a < 6 → (pS F h i).testBit a = true → (F a).testBit k = true → (pS F h i).testBit k = true) (cnt_pos hh (pS_h 0)) hp (fun i hn => by
    obtain ⟨a, ha⟩ := Classical.not_forall.mp hn
    obtain ⟨k, hk⟩ := Classical.not_forall.mp ha
    obtain ⟨a1, hk⟩ := Classical.not_imp.mp hk
    obtain ⟨k1, hk⟩ := Classical.not_imp.mp hk
    obtain ⟨k2, k3⟩ := Classical.not_imp.mp hk
    exact cnt_lt (x := k) (fun q _ hq => pI_mono hq 6) (bit6 (hF a a1) k2) k3 (pI_F k1 k2 6 a1))
  exact hp 5 c5
theorem pS_cmp (hF : ∀ h, h < 6 → F h < 64) {h : Nat} (hh : h < 6) : pS F h 6 = cmp F h := by
  refine set_eq (pS_lt hF hh 6) (cmp_lt hF hh) (fun k hk => ⟨fun x => ?_, fun x => ?_⟩)
  · have key : ∀ i k, (pS F h i).testBit k = true → (cmp F h).testBit k = true := by
      intro i
      induction i with
      | zero =>
        intro k hk
        rw [pS, Nat.testBit_two_pow] at hk
        have : h = k := by simpa using hk
        subst this
        rw [cmp, Nat.testBit_or, cI_h 6]; rfl
      | succ i ih =>
        refine pI_cl (T := fun k => (cmp F h).testBit k = true) ih (fun a k a1 a2 a3 => ?_) 6 (Nat.le_refl _)
        rw [cmp, Nat.testBit_or, Bool.or_eq_true] at a2 ⊢
        rcases a2 with a2 | a2
        · exact Or.inr (fo_t.mpr ⟨a, a1, a2, a3⟩)
        · exact Or.inl (cI_cl hF hh k (fo_t.mpr ⟨a, a1, a2, a3⟩))
    exact key 6 k x
  · have hc := pS_closed hF hh
    have hE : ∀ k, (cI F h 6).testBit k = true → (pS F h 6).testBit k = true := cI_min (T := fun k => (pS F h 6).testBit k = true) hh (pS_h 6) (fun a b k a1 b1 ta h1 h2 => hc b k b1 (hc a b a1 ta h1) h2) 6
    rw [cmp, Nat.testBit_or, Bool.or_eq_true] at x
    rcases x with x | x
    · exact hE k x
    · obtain ⟨a, a1, a2, a3⟩ := fo_t.mp x
      exact hc a k a1 (hE a a2) a3
/-- one round of the reference's camps -/
def wI (F : Nat → Nat) (x : Nat × Nat) : Nat → Nat × Nat
  | 0 => x
  | k + 1 => (if (if (wI F x k).1.testBit k then (wI F x k).2 ||| F k else (wI F x k).2).testBit k then (wI F x k).1 ||| F k else (wI F x k).1, if (wI F x k).1.testBit k then (wI F x k).2 ||| F k else (wI F x k).2)
def wS (F : Nat → Nat) (x : Nat × Nat) : Nat → Nat × Nat
  | 0 => x
  | i + 1 => wI F (wS F x i) 6
theorem wI_s1 {x : Nat × Nat} {k : Nat} : (wI F x (k + 1)).2 = if (wI F x k).1.testBit k then (wI F x k).2 ||| F k else (wI F x k).2 := rfl
theorem wI_s2 {x : Nat × Nat} {k : Nat} : (wI F x (k + 1)).1 = if (wI F x (k + 1)).2.testBit k then (wI F x k).1 ||| F k else (wI F x k).1 := rfl
theorem or_if_mono {P : Prop} [Decidable P] {a b k : Nat} (h : a.testBit k = true) : (if P then a ||| b else a).testBit k = true := by
  split
  · rw [Nat.testBit_or, h]; rfl
  · exact h
theorem wI_lt (hF : ∀ h, h < 6 → F h < 64) {x : Nat × Nat} (h1 : x.1 < 64) (h2 : x.2 < 64) : ∀ i, i ≤ 6 → (wI F x i).1 < 64 ∧ (wI F x i).2 < 64 := by
  intro i
  induction i with
  | zero => intro _; exact ⟨h1, h2⟩
  | succ i ih =>
    intro hi
    obtain ⟨i1, i2⟩ := ih (by omega)
    constructor
    · rw [wI_s2]
      split
      · exact Nat.or_lt_two_pow (n := 6) i1 (hF i (by omega))
      · exact i1
    · rw [wI_s1]
      split
      · exact Nat.or_lt_two_pow (n := 6) i2 (hF i (by omega))
      · exact i2
theorem wS_lt (hF : ∀ h, h < 6 → F h < 64) {x : Nat × Nat} (h1 : x.1 < 64) (h2 : x.2 < 64) : ∀ i, (wS F x i).1 < 64 ∧ (wS F x i).2 < 64 := by
  intro i
  induction i with
  | zero => exact ⟨h1, h2⟩
  | succ i ih => exact wI_lt hF ih.1 ih.2 6 (Nat.le_refl _)
theorem wI_m1 {x : Nat × Nat} {k : Nat} (h : x.1.testBit k = true) : ∀ i, (wI F x i).1.testBit k = true := by
  intro i
  induction i with
  | zero => exact h
  | succ i ih => rw [wI_s2]; exact or_if_mono ih
theorem wI_m2 {x : Nat × Nat} {k : Nat} (h : x.2.testBit k = true) : ∀ i, (wI F x i).2.testBit k = true := by
  intro i
  induction i with
  | zero => exact h
  | succ i ih => rw [wI_s1]; exact or_if_mono ih
theorem wI_f1 {x : Nat × Nat} {a k : Nat} (ha : x.1.testBit a = true) (hk : (F a).testBit k = true) : ∀ i, a < i → (wI F x i).2.testBit k = true := by
  intro i
  induction i with
  | zero => intro h; omega
  | succ i ih =>
    intro hi
    rw [wI_s1]
    by_cases e : a = i
    · subst e
      rw [if_pos (wI_m1 ha a), Nat.testBit_or, hk]; simp
    · exact or_if_mono (ih (by omega))
theorem wI_f2 {x : Nat × Nat} {a k : Nat} (ha : x.2.testBit a = true) (hk : (F a).testBit k = true) : ∀ i, a < i → (wI F x i).1.testBit k = true := by
  intro i
  induction i with
  | zero => intro h; omega
  | succ i ih =>
    intro hi
    rw [wI_s2]
    by_cases e : a = i
    · subst e
      rw [if_pos (wI_m2 ha (a + 1)), Nat.testBit_or, hk]; simp
    · exact or_if_mono (ih (by omega))
theorem wI_cl {x : Nat × Nat} {E O : Nat → Prop} (h1 : ∀ k, x.1.testBit k = true → E k) (h2 : ∀ k, x.2.testBit k = true → O k) (hE : ∀ a k, a < 6 → E a → (F a).testBit k = true → O k) (hO : ∀ a k, a < 6 → O a → (F a).testBit k = true → E k) : ∀ i, i ≤ 6 → (∀ k, (wI F x i).1.testBit k = true → E k) ∧ ∀ k, (wI F x i).2.testBit k = true → O k := by
  intro i
  induction i with
  | zero => intro _; exact ⟨h1, h2⟩
  | succ i ih =>
    intro hi
    obtain ⟨i1, i2⟩ := ih (by omega)
    have s2 : ∀ k, (wI F x (i + 1)).2.testBit k = true → O k := by
      intro k hk
      rw [wI_s1] at hk
      by_cases p : (wI F x i).1.testBit i = true
      · rw [if_pos p, Nat.testBit_or, Bool.or_eq_true] at hk
        rcases hk with hk | hk
        · exact i2 k hk
        · exact hE i k (by omega) (i1 i p) hk
      · rw [if_neg p] at hk; exact i2 k hk
    refine ⟨fun k hk => ?_, s2⟩
    rw [wI_s2] at hk
    by_cases p : (wI F x (i + 1)).2.testBit i = true
    · rw [if_pos p, Nat.testBit_or, Bool.or_eq_true] at hk
      rcases hk with hk | hk
      · exact i1 k hk
      · exact hO i k (by omega) (s2 i p) hk
    · rw [if_neg p] at hk; exact i1 k hk
theorem wS_m1 {x : Nat × Nat} {k : Nat} (h : x.1.testBit k = true) : ∀ i, (wS F x i).1.testBit k = true := by
  intro i
  induction i with
  | zero => exact h
  | succ i ih => exact wI_m1 ih 6
theorem wS_m2 {x : Nat × Nat} {k : Nat} (h : x.2.testBit k = true) : ∀ i, (wS F x i).2.testBit k = true := by
  intro i
  induction i with
  | zero => exact h
  | succ i ih => exact wI_m2 ih 6
theorem wS_cl {x : Nat × Nat} {E O : Nat → Prop} (h1 : ∀ k, x.1.testBit k = true → E k) (h2 : ∀ k, x.2.testBit k = true → O k) (hE : ∀ a k, a < 6 → E a → (F a).testBit k = true → O k) (hO : ∀ a k, a < 6 → O a → (F a).testBit k = true → E k) : ∀ i, (∀ k, (wS F x i).1.testBit k = true → E k) ∧ ∀ k, (wS F x i).2.testBit k = true → O k := by
  intro i
  induction i with
  | zero => exact ⟨h1, h2⟩
  | succ i ih => exact wI_cl ih.1 ih.2 hE hO 6 (Nat.le_refl _)
/-- after five rounds both together are closed -/
theorem wS_u (hF : ∀ h, h < 6 → F h < 64) {x : Nat × Nat} (x1 : x.1 < 64) (x2 : x.2 < 64) {h : Nat} (hh : h < 6) (hx : x.1.testBit h = true) : ∀ a k, a < 6 → ((wS F x 5).1 ||| (wS F x 5).2).testBit a = true → (F a).testBit k = true → ((wS F x 5).1 ||| (wS F x 5).2).testBit k = true := by
  refine grow5 (S := fun i => (wS F x i).1 ||| (wS F x i).2) (C := fun i => ∀ a k, a < 6 → ((wS F x i).1 ||| (wS F x i).2).testBit a = true → (F a).testBit k = true → ((wS F x i).1 ||| (wS F x i).2).testBit k = true) (cnt_pos hh (by show (x.1 ||| x.2).testBit h = true; rw [Nat.testBit_or, hx]; rfl)) (fun i hc => ?_) (fun i hn => ?_)
  · have hs := wI_cl (F := F) (x := wS F x i) (E := fun k => ((wS F x i).1 ||| (wS F x i).2).testBit k = true) (O := fun k => ((wS F x i).1 ||| (wS F x i).2).testBit k = true) (fun k hk => by rw [Nat.testBit_or, hk]; rfl) (fun k hk => by rw [Nat.testBit_or, hk]; simp) hc hc 6 (Nat.le_refl _)
    intro a k ha hu hf
    have h1 : ((wS F x i).1 ||| (wS F x i).2).testBit a = true := by
      rw [Nat.testBit_or, Bool.or_eq_true] at hu
      rcases hu with hu | hu
      · exact hs.1 a hu
      · exact hs.2 a hu
    have h2 := hc a k ha h1 hf
    rw [Nat.testBit_or, Bool.or_eq_true] at h2 ⊢
    rcases h2 with h2 | h2
    · exact Or.inl (wI_m1 h2 6)
    · exact Or.inr (wI_m2 h2 6)
  · obtain ⟨a, ha⟩ := Classical.not_forall.mp hn
    obtain ⟨k, hk⟩ := Classical.not_forall.mp ha
    obtain ⟨a1, hk⟩ := Classical.not_imp.mp hk
    obtain ⟨k1, hk⟩ := Classical.not_imp.mp hk
    obtain ⟨k2, k3⟩ := Classical.not_imp.mp hk
    refine cnt_lt (x := k) (fun q _ hq => ?_) (bit6 (hF a a1) k2) k3 ?_
    · rw [Nat.testBit_or, Bool.or_eq_true] at hq ⊢
      rcases hq with hq | hq
      · exact Or.inl (wI_m1 hq 6)
      · exact Or.inr (wI_m2 hq 6)
    · rw [Nat.testBit_or, Bool.or_eq_true] at k1 ⊢
      rcases k1 with k1 | k1
      · exact Or.inr (wI_f1 k1 k2 6 a1)
      · exact Or.inl (wI_f2 k1 k2 6 a1)
/-- where the two are apart after six rounds, they are closed -/
theorem wS_apart (hF : ∀ h, h < 6 → F h < 64) {x : Nat × Nat} (x1 : x.1 < 64) (x2 : x.2 < 64) {h : Nat} (hh : h < 6) (hx : x.1.testBit h = true) (hd : ∀ k, ¬ ((wS F x 6).1.testBit k = true ∧ (wS F x 6).2.testBit k = true)) : (∀ a k, a < 6 → (wS F x 6).1.testBit a = true → (F a).testBit k = true → (wS F x 6).2.testBit k = true) ∧ ∀ a k, a < 6 → (wS F x 6).2.testBit a = true → (F a).testBit k = true → (wS F x 6).1.testBit k = true := by
  have hu := wS_u hF x1 x2 hh hx
  have sub : ∀ k, (wS F x 6).1.testBit k = true ∨ (wS F x 6).2.testBit k = true → ((wS F x 5).1 ||| (wS F x 5).2).testBit k = true := fun k hk => by
    have hs := wI_cl (F := F) (x := wS F x 5) (E := fun k => ((wS F x 5).1 ||| (wS F x 5).2).testBit k = true) (O := fun k => ((wS F x 5).1 ||| (wS F x 5).2).testBit k = true) (fun k hk => by rw [Nat.testBit_or, hk]; rfl) (fun k hk => by rw [Nat.testBit_or, hk]; simp) hu hu 6 (Nat.le_refl _)
    exact hk.elim (hs.1 k) (hs.2 k)
  have e1 : ∀ k, (wS F x 6).1.testBit k = true → (wS F x 5).1.testBit k = true := fun k hk => by
    have := sub k (Or.inl hk)
    rw [Nat.testBit_or, Bool.or_eq_true] at this
    rcases this with h | h
    · exact h
    · exact absurd ⟨hk, wI_m2 h 6⟩ (hd k)
  have e2 : ∀ k, (wS F x 6).2.testBit k = true → (wS F x 5).2.testBit k = true := fun k hk => by
    have := sub k (Or.inr hk)
    rw [Nat.testBit_or, Bool.or_eq_true] at this
    rcases this with h | h
    · exact absurd ⟨wI_m1 h 6, hk⟩ (hd k)
    · exact h
  exact ⟨fun a k ha hk hf => wI_f1 (e1 a hk) hf 6 ha, fun a k ha hk hf => wI_f2 (e2 a hk) hf 6 ha⟩
theorem and_0 {a b : Nat} : a &&& b = 0 ↔ ∀ k, ¬ (a.testBit k = true ∧ b.testBit k = true) := by
  constructor
  · intro h k hk
    have : (a &&& b).testBit k = true := by rw [Nat.testBit_and, hk.1, hk.2]; rfl
    rw [h, Nat.zero_testBit] at this
    cases this
  · intro h
    apply Nat.eq_of_testBit_eq
    intro k
    rw [Nat.testBit_and, Nat.zero_testBit]
    by_cases p : a.testBit k = true
    · by_cases q : b.testBit k = true
      · exact absurd ⟨p, q⟩ (h k)
      · simp only [Bool.not_eq_true] at q; rw [q]; simp
    · simp only [Bool.not_eq_true] at p; rw [p]; rfl
/-- the class's camps, house by house; the reference's -/
def kc (F : Nat → Nat) : Nat → Option (Nat × Nat)
  | 0 => some (0, 0)
  | i + 1 => match kc F i with
    | none => none
    | some x => if F i = 0 ∨ x.2.testBit i = true then some x else if cI F i 6 &&& fo F (cI F i 6) = 0 then some (x.1 ||| cI F i 6, x.2 ||| cmp F i) else none
def rm (F : Nat → Nat) : Nat → Nat × Nat
  | 0 => (0, 0)
  | i + 1 => if F i = 0 ∨ ((rm F i).1 ||| (rm F i).2).testBit i = true then rm F i else wS F ((rm F i).1 ||| 2 ^ i, (rm F i).2) 6
theorem rm_lt (hF : ∀ h, h < 6 → F h < 64) : ∀ i, i ≤ 6 → (rm F i).1 < 64 ∧ (rm F i).2 < 64 := by
  intro i
  induction i with
  | zero => intro _; rw [rm]; exact ⟨by decide, by decide⟩
  | succ i ih =>
    intro hi
    obtain ⟨i1, i2⟩ := ih (by omega)
    rw [rm]
    split
    · exact ⟨i1, i2⟩
    · exact wS_lt (F := F) hF (x := ((rm F i).1 ||| 2 ^ i, (rm F i).2)) (Nat.or_lt_two_pow (n := 6) i1 (Nat.pow_lt_pow_right (by decide) (show i < 6 by omega))) i2 6
theorem kc_rm (hF : ∀ h, h < 6 → F h < 64) (hs : ∀ h o, h < 6 → o < 6 → (F h).testBit o = (F o).testBit h) : ∀ i, i ≤ 6 → match kc F i with
    | none => ¬ (rm F i).1 &&& (rm F i).2 = 0
    | some x => x.1 = (rm F i).1 ∧ x.2 = (rm F i).1 ||| (rm F i).2 ∧ (rm F i).1 &&& (rm F i).2 = 0 ∧ (∀ a k, a < 6 → (rm F i).1.testBit a = true → (F a).testBit k = true → (rm F i).2.testBit k = true) ∧ ∀ a k, a < 6 → (rm F i).2.testBit a = true → (F a).testBit k = true → (rm F i).1.testBit k = true := by
  intro i
  induction i with
  | zero =>
    intro _
    rw [kc, rm]
    exact ⟨rfl, rfl, by decide, fun a k _ h => absurd h (by rw [Nat.zero_testBit]; decide), fun a k _ h => absurd h (by rw [Nat.zero_testBit]; decide)⟩
  | succ i ih =>
    intro hi
    have ih := ih (by omega)
    have hh : i < 6 := by omega
    obtain ⟨l1, l2⟩ := rm_lt hF i (by omega)
    rw [kc]
    cases e : kc F i with
    | none =>
      rw [e] at ih
      dsimp only at ih ⊢
      rw [rm]
      split
      · exact ih
      · intro h0
        apply ih
        rw [and_0] at h0 ⊢
        exact fun k hk => h0 k ⟨wS_m1 (F := F) (x := ((rm F i).1 ||| 2 ^ i, (rm F i).2)) (by rw [Nat.testBit_or, hk.1]; rfl) 6, wS_m2 (F := F) (x := ((rm F i).1 ||| 2 ^ i, (rm F i).2)) hk.2 6⟩
    | some x =>
      rw [e] at ih
      obtain ⟨j1, j2, j3, j4, j5⟩ := ih
      dsimp only
      rw [j2]
      by_cases p : F i = 0 ∨ ((rm F i).1 ||| (rm F i).2).testBit i = true
      · rw [if_pos p, rm, if_pos p]
        exact ⟨j1, j2, j3, j4, j5⟩
      · rw [if_neg p, rm, if_neg p]
        have pn : ¬ ((rm F i).1 ||| (rm F i).2).testBit i = true := fun h => p (Or.inr h)
        have x1 : (rm F i).1 ||| 2 ^ i < 64 := Nat.or_lt_two_pow (n := 6) l1 (Nat.pow_lt_pow_right (by decide) hh)
        have hb : ((rm F i).1 ||| 2 ^ i).testBit i = true := by rw [Nat.testBit_or, Nat.testBit_two_pow]; simp
        obtain ⟨y1, y2⟩ := wS_lt (F := F) hF (x := ((rm F i).1 ||| 2 ^ i, (rm F i).2)) x1 l2 6
        have ap := wS_apart (F := F) hF (x := ((rm F i).1 ||| 2 ^ i, (rm F i).2)) x1 l2 hh hb
        -- the other part
        have comp : ∀ a k, a < 6 → k < 6 → ¬ ((rm F i).1 ||| (rm F i).2).testBit a = true → (F a).testBit k = true → ¬ ((rm F i).1 ||| (rm F i).2).testBit k = true := fun a k ha hk h1 h2 h3 => by
          apply h1
          rw [Nat.testBit_or, Bool.or_eq_true] at h3 ⊢
          have h4 : (F k).testBit a = true := by rw [hs k a hk ha]; exact h2
          rcases h3 with h3 | h3
          · exact Or.inr (j4 k a hk h3 h4)
          · exact Or.inl (j5 k a hk h3 h4)
        have cE : ∀ k, (cI F i 6).testBit k = true → k < 6 ∧ ¬ ((rm F i).1 ||| (rm F i).2).testBit k = true := cI_min (T := fun k => k < 6 ∧ ¬ ((rm F i).1 ||| (rm F i).2).testBit k = true) hh ⟨hh, pn⟩ (fun a b k a1 b1 ta h1 h2 => by
          have hk := bit6 (hF b b1) h2
          exact ⟨hk, comp b k b1 hk (comp a b a1 b1 ta.2 h1) h2⟩) 6
        have cO : ∀ k, (fo F (cI F i 6)).testBit k = true → ¬ ((rm F i).1 ||| (rm F i).2).testBit k = true := fun k hk => by
          obtain ⟨a, a1, a2, a3⟩ := fo_t.mp hk
          exact comp a k a1 (bit6 (hF a a1) a3) (cE a a2).2 a3
        have inE : ∀ (hd : ∀ k, ¬ ((wS F ((rm F i).1 ||| 2 ^ i, (rm F i).2) 6).1.testBit k = true ∧ (wS F ((rm F i).1 ||| 2 ^ i, (rm F i).2) 6).2.testBit k = true)), (∀ k, (cI F i 6).testBit k = true → (wS F ((rm F i).1 ||| 2 ^ i, (rm F i).2) 6).1.testBit k = true) ∧ ∀ k, (fo F (cI F i 6)).testBit k = true → (wS F ((rm F i).1 ||| 2 ^ i, (rm F i).2) 6).2.testBit k = true := fun hd => by
          obtain ⟨q1, q2⟩ := ap hd
          have h1 : ∀ k, (cI F i 6).testBit k = true → (wS F ((rm F i).1 ||| 2 ^ i, (rm F i).2) 6).1.testBit k = true := cI_min (T := fun k => (wS F ((rm F i).1 ||| 2 ^ i, (rm F i).2) 6).1.testBit k = true) hh (wS_m1 (F := F) (x := ((rm F i).1 ||| 2 ^ i, (rm F i).2)) hb 6) (fun a b k a1 b1 ta r1 r2 => q2 b k b1 (q1 a b a1 ta r1) r2) 6
          exact ⟨h1, fun k hk => by obtain ⟨a, a1, a2, a3⟩ := fo_t.mp hk; exact q1 a k a1 (h1 a a2) a3⟩
        by_cases z : cI F i 6 &&& fo F (cI F i 6) = 0
        · rw [if_pos z]
          have zz := and_0.mp z
          have snd := wS_cl (F := F) (x := ((rm F i).1 ||| 2 ^ i, (rm F i).2)) (E := fun k => (rm F i).1.testBit k = true ∨ (cI F i 6).testBit k = true) (O := fun k => (rm F i).2.testBit k = true ∨ (fo F (cI F i 6)).testBit k = true) (fun k hk => by
            rw [Nat.testBit_or, Bool.or_eq_true, Nat.testBit_two_pow] at hk
            rcases hk with hk | hk
            · exact Or.inl hk
            · have : i = k := by simpa using hk
              subst this; exact Or.inr (cI_h 6)) (fun k hk => Or.inl hk) (fun a k ha h1 h2 => by
              rcases h1 with h1 | h1
              · exact Or.inl (j4 a k ha h1 h2)
              · exact Or.inr (fo_t.mpr ⟨a, ha, h1, h2⟩)) (fun a k ha h1 h2 => by
              rcases h1 with h1 | h1
              · exact Or.inl (j5 a k ha h1 h2)
              · exact Or.inr (cI_cl hF hh k (fo_t.mpr ⟨a, ha, h1, h2⟩))) 6
          have hd : ∀ k, ¬ ((wS F ((rm F i).1 ||| 2 ^ i, (rm F i).2) 6).1.testBit k = true ∧ (wS F ((rm F i).1 ||| 2 ^ i, (rm F i).2) 6).2.testBit k = true) := fun k hk => by
            rcases snd.1 k hk.1 with h1 | h1
            · rcases snd.2 k hk.2 with h2 | h2
              · exact (and_0.mp j3) k ⟨h1, h2⟩
              · exact cO k h2 (by rw [Nat.testBit_or, h1]; rfl)
            · rcases snd.2 k hk.2 with h2 | h2
              · exact (cE k h1).2 (by rw [Nat.testBit_or, h2]; simp)
              · exact zz k ⟨h1, h2⟩
          obtain ⟨e1, e2⟩ := inE hd
          obtain ⟨q1, q2⟩ := ap hd
          have E1 : (wS F ((rm F i).1 ||| 2 ^ i, (rm F i).2) 6).1 = (rm F i).1 ||| cI F i 6 := set_eq y1 (Nat.or_lt_two_pow (n := 6) l1 (cI_lt hF hh 6)) (fun k _ => by
            rw [Nat.testBit_or, Bool.or_eq_true]
            exact ⟨snd.1 k, fun h => h.elim (fun h => wS_m1 (F := F) (x := ((rm F i).1 ||| 2 ^ i, (rm F i).2)) (by rw [Nat.testBit_or, h]; rfl) 6) (e1 k)⟩)
          have E2 : (wS F ((rm F i).1 ||| 2 ^ i, (rm F i).2) 6).2 = (rm F i).2 ||| fo F (cI F i 6) := set_eq y2 (Nat.or_lt_two_pow (n := 6) l2 (fo_lt hF _)) (fun k _ => by
            rw [Nat.testBit_or, Bool.or_eq_true]
            exact ⟨snd.2 k, fun h => h.elim (fun h => wS_m2 (F := F) (x := ((rm F i).1 ||| 2 ^ i, (rm F i).2)) h 6) (e2 k)⟩)
          refine ⟨?_, ?_, and_0.mpr hd, q1, q2⟩
          · show x.1 ||| cI F i 6 = _
            rw [E1, j1]
          · show (rm F i).1 ||| (rm F i).2 ||| cmp F i = _
            rw [E1, E2, cmp]
            apply Nat.eq_of_testBit_eq
            intro k
            simp only [Nat.testBit_or]
            cases (rm F i).1.testBit k <;> cases (rm F i).2.testBit k <;> cases (cI F i 6).testBit k <;> cases (fo F (cI F i 6)).testBit k <;> rfl
        · rw [if_neg z]
          dsimp only
          intro h0
          apply z
          obtain ⟨e1, e2⟩ := inE (and_0.mp h0)
          exact and_0.mpr (fun k hk => (and_0.mp h0) k ⟨e1 k hk.1, e2 k hk.2⟩)
end
