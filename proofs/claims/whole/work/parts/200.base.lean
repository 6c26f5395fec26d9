-- ===== PURE BASE: a run that comes to an end, loops, numbers =====
def sp_wp {α : Type} (x : Option α) (Q : α → Prop) : Prop := ∃ r, x = some r ∧ Q r
theorem wp_some {α : Type} {a : α} {Q : α → Prop} : sp_wp (some a) Q ↔ Q a := ⟨fun ⟨r, h, q⟩ => by cases h; exact q, fun h => ⟨a, rfl, h⟩⟩
theorem wp_of {α : Type} {x : Option α} {a : α} {Q : α → Prop} (h : x = some a) (q : Q a) : sp_wp x Q := ⟨a, h, q⟩
theorem wp_mono {α : Type} {x : Option α} {Q R : α → Prop} (h : sp_wp x Q) (hq : ∀ a, Q a → R a) : sp_wp x R := by
  obtain ⟨a, e, q⟩ := h
  exact ⟨a, e, hq a q⟩
theorem wp_ck {α : Type} {b : Bool} {x : Option α} {Q : α → Prop} : sp_wp (sp_ck b x) Q ↔ b = true ∧ sp_wp x Q := by
  unfold sp_ck
  cases b with
  | true => simp
  | false => simp [sp_wp]
theorem wp_pl {α β : Type} {e : α} {k : α → Option β} {Q : β → Prop} : sp_wp (sp_pl e k) Q ↔ sp_wp (k e) Q := Iff.rfl
theorem wp_bd {α β γ : Type} {e : Option (α × β)} {k : α → β → Option γ} {Q : γ → Prop} (h : sp_wp e (fun r => sp_wp (k r.1 r.2) Q)) : sp_wp (sp_bd e k) Q := by
  obtain ⟨⟨a, b⟩, rfl, q⟩ := h
  exact q
theorem wp_bv {α γ : Type} {e : Option α} {k : α → Option γ} {Q : γ → Prop} (h : sp_wp e (fun r => sp_wp (k r) Q)) : sp_wp (sp_bv e k) Q := by
  obtain ⟨a, rfl, q⟩ := h
  exact q
theorem wp_ite {α : Type} {c : Prop} [Decidable c] {x y : Option α} {Q : α → Prop} : sp_wp (if c then x else y) Q ↔ (c → sp_wp x Q) ∧ (¬ c → sp_wp y Q) := by
  by_cases h : c
  · simp [h]
  · simp [h]
theorem sp_ckt {α : Type} {k : Option α} : sp_ck true k = k := rfl
theorem sp_bd_s {α β γ : Type} {a : α} {b : β} {k : α → β → Option γ} : sp_bd (some (a, b)) k = k a b := rfl
theorem sp_bv_s {α γ : Type} {a : α} {k : α → Option γ} : sp_bv (some a) k = k a := rfl
-- loops
theorem lp_up {α : Type} (F : Nat → Nat → Option α) (N : Nat) (r : Option α) (hx : ∀ f, F (f + 1) N = r) (hs : ∀ f i, i < N → F (f + 1) i = F f (i + 1)) : ∀ f i, i ≤ N → N - i < f → F f i = r := by
  intro f
  induction f with
  | zero => intro i _ h; omega
  | succ f ih =>
    intro i hi hf
    by_cases h : i = N
    · subst h; exact hx f
    · rw [hs f i (by omega)]
      exact ih (i + 1) (by omega) (by omega)
/-- first place from i on where P holds -/
def qf (P : Nat → Bool) : Nat → Nat → Option Nat
  | 0, _ => none
  | k + 1, i => if P i then some i else qf P k (i + 1)
def qfind (P : Nat → Bool) (N : Nat) : Option Nat := qf P N 0
theorem lp_find {α : Type} (F : Nat → Nat → Option α) (N : Nat) (P : Nat → Bool) (r : Option α) (g : Nat → Option α) (hx : ∀ f, F (f + 1) N = r) (hs : ∀ f i, i < N → F (f + 1) i = if P i then g i else F f (i + 1)) : ∀ f i, i ≤ N → N - i < f → F f i = match qf P (N - i) i with
    | some j => g j
    | none => r := by
  intro f
  induction f with
  | zero => intro i _ h; omega
  | succ f ih =>
    intro i hi hf
    by_cases h : i = N
    · subst h
      rw [Nat.sub_self, hx f]
      rfl
    · rw [hs f i (by omega), show N - i = (N - (i + 1)) + 1 by omega]
      unfold qf
      by_cases hp : P i = true
      · simp [hp]
      · simp only [hp]
        exact ih (i + 1) (by omega) (by omega)
theorem lp_inv {α S : Type} (F : Nat → Nat → S → Option α) (I : Nat → S → Prop) (N : Nat) (Q : α → Prop) (hx : ∀ f s, I N s → sp_wp (F (f + 1) N s) Q) (hs : ∀ f i s, i < N → I i s → (∀ s', I (i + 1) s' → sp_wp (F f (i + 1) s') Q) → sp_wp (F (f + 1) i s) Q) : ∀ f i s, i ≤ N → N - i < f → I i s → sp_wp (F f i s) Q := by
  intro f
  induction f with
  | zero => intro i _ _ h; omega
  | succ f ih =>
    intro i s hi hf hI
    by_cases h : i = N
    · subst h; exact hx f s hI
    · exact hs f i s (by omega) hI (fun s' h' => ih (i + 1) s' (by omega) (by omega) h')
theorem qf_some {P : Nat → Bool} : ∀ {k i j : Nat}, qf P k i = some j → i ≤ j ∧ j < i + k ∧ P j = true ∧ ∀ m, i ≤ m → m < j → P m = false := by
  intro k
  induction k with
  | zero => intro i j h; cases h
  | succ k ih =>
    intro i j h
    unfold qf at h
    by_cases hp : P i = true
    · simp [hp] at h
      subst h
      exact ⟨by omega, by omega, hp, fun m h1 h2 => by omega⟩
    · simp [hp] at h
      obtain ⟨h1, h2, h3, h4⟩ := ih h
      refine ⟨by omega, by omega, h3, fun m h5 h6 => ?_⟩
      by_cases hm : m = i
      · subst hm; simpa using hp
      · exact h4 m (by omega) h6
theorem qf_none {P : Nat → Bool} : ∀ {k i : Nat}, qf P k i = none → ∀ m, i ≤ m → m < i + k → P m = false := by
  intro k
  induction k with
  | zero => intro i h m h1 h2; omega
  | succ k ih =>
    intro i h m h1 h2
    unfold qf at h
    by_cases hp : P i = true
    · simp [hp] at h
    · simp [hp] at h
      by_cases hm : m = i
      · subst hm; simpa using hp
      · exact ih h m (by omega) (by omega)
theorem qf_is {P : Nat → Bool} {k i j : Nat} (h1 : i ≤ j) (h2 : j < i + k) (h3 : P j = true) (h4 : ∀ m, i ≤ m → m < j → P m = false) : qf P k i = some j := by
  cases h : qf P k i with
  | none => have := qf_none h j h1 h2; rw [h3] at this; cases this
  | some m =>
    obtain ⟨a1, a2, a3, a4⟩ := qf_some h
    by_cases hm : m < j
    · rw [h4 m a1 hm] at a3; cases a3
    · by_cases hj : j < m
      · rw [a4 j h1 hj] at h3; cases h3
      · rw [show m = j by omega]
theorem qf_no {P : Nat → Bool} {k i : Nat} (h : ∀ m, i ≤ m → m < i + k → P m = false) : qf P k i = none := by
  cases e : qf P k i with
  | none => rfl
  | some m =>
    obtain ⟨a1, a2, a3, a4⟩ := qf_some e
    rw [h m a1 a2] at a3; cases a3
theorem qf_cong {P R : Nat → Bool} {k i : Nat} (h : ∀ m, i ≤ m → m < i + k → P m = R m) : qf P k i = qf R k i := by
  cases e : qf R k i with
  | none => exact qf_no fun m h1 h2 => by rw [h m h1 h2]; exact qf_none e m h1 h2
  | some m =>
    obtain ⟨a1, a2, a3, a4⟩ := qf_some e
    exact qf_is a1 a2 (by rw [h m a1 a2]; exact a3) (fun j h1 h2 => by rw [h j h1 (by omega)]; exact a4 j h1 h2)
-- numbers
theorem qn_l (k : Nat) : (OfNat.ofNat k : Int32) = nI (OfNat.ofNat k) := rfl
theorem qn_of (k : Nat) : Int32.ofNat k = nI k := rfl
theorem qn_sub {a b : Nat} (h : b ≤ a) : nI a - nI b = nI (a - b) := pk_sub h
theorem qn_le {a b : Nat} (ha : a < 2 ^ 31) (hb : b < 2 ^ 31) : (nI a ≤ nI b) = (a ≤ b) := propext (nI_leI ha hb)
theorem qn_lt {a b : Nat} (ha : a < 2 ^ 31) (hb : b < 2 ^ 31) : (nI a < nI b) = (a < b) := propext (nI_ltI ha hb)
theorem qn_eq {a b : Nat} (ha : a < 2 ^ 31) (hb : b < 2 ^ 31) : (nI a = nI b) = (a = b) := propext (nI_eq ha hb)
theorem qn_in {i N : Nat} (h : i < N) (hi : i < 2 ^ 31) : sp_in (nI i) N = true := by
  unfold sp_in
  rw [nI_clamp hi]
  simp [nI_pos' hi, h]
theorem qn_g {σ : sp_St} {p i : Nat} (hi : i < 2 ^ 31) : sp_g σ p (nI i) = σ.2.2.1 p i := by
  unfold sp_g
  rw [nI_clamp hi]
theorem qn_mle {a : Nat} (ha : a < 2 ^ 31) : (nI a ≤ -nI 1) = False := by
  refine propext ⟨fun h => ?_, False.elim⟩
  have h1 := Int32.le_iff_toInt_le.mp h
  rw [nI_toInt ha, sb_negT (by decide)] at h1
  omega
theorem qn_meq {a : Nat} (ha : a < 2 ^ 31) : (nI a = -nI 1) = False := by
  refine propext ⟨fun h => ?_, False.elim⟩
  have h1 := congrArg Int32.toInt h
  rw [nI_toInt ha, sb_negT (by decide)] at h1
  omega
theorem qn_mlt {a : Nat} (ha : a < 2 ^ 31) : (nI a < -nI 1) = False := by
  refine propext ⟨fun h => ?_, False.elim⟩
  have h1 := Int32.lt_iff_toInt_lt.mp h
  rw [nI_toInt ha, sb_negT (by decide)] at h1
  omega
theorem qn_ltm {a : Nat} (ha : a < 2 ^ 31) : (-nI 1 < nI a) = True := by
  refine propext ⟨fun _ => trivial, fun _ => ?_⟩
  refine Int32.lt_iff_toInt_lt.mpr ?_
  rw [nI_toInt ha, sb_negT (by decide)]
  omega
theorem qn_and31 {i : Nat} (h : i < 32) : nI i &&& nI 31 = nI i := by
  rw [pk_andN (k := 5) (by omega) rfl, Nat.mod_eq_of_lt (by omega)]
theorem qn_smod : ∀ i, i < 32 → ((nI i).toBitVec.smod 32).toNat = i := by decide +kernel
theorem qn_shl {a i : Nat} (h : i < 32) (ha : a * 2 ^ i < 2 ^ 32) : nI a <<< (nI i &&& nI 31) = nI (a * 2 ^ i) := by
  rw [qn_and31 h]
  exact pk_shlN (nI i) i (qn_smod i h) ha
theorem qn_sh1 {i : Nat} (h : i < 31) : nI 1 <<< (nI i &&& nI 31) = nI (2 ^ i) := by
  rw [qn_shl (by omega) (by rw [Nat.one_mul]; exact Nat.pow_lt_pow_right (by decide) (by omega)), Nat.one_mul]
theorem qn_shr {a i : Nat} (ha : a < 2 ^ 31) (h : i < 32) : nI a >>> (nI i &&& nI 31) = nI (a / 2 ^ i) := by
  rw [qn_and31 h]
  exact pk_shrN ha (nI i) i (qn_smod i h)
theorem qn_bv (n : Nat) : (nI n).toBitVec = BitVec.ofNat 32 n := rfl
theorem qn_or (a b : Nat) : nI a ||| nI b = nI (a ||| b) := by
  apply Int32.toBitVec_inj.mp
  rw [Int32.toBitVec_or, qn_bv, qn_bv, qn_bv]
  apply BitVec.eq_of_toNat_eq
  simp [BitVec.toNat_or, Nat.or_mod_two_pow]
theorem qn_and (a b : Nat) : nI a &&& nI b = nI (a &&& b) := by
  apply Int32.toBitVec_inj.mp
  rw [Int32.toBitVec_and, qn_bv, qn_bv, qn_bv]
  apply BitVec.eq_of_toNat_eq
  simp [BitVec.toNat_and, Nat.and_mod_two_pow]
theorem qn_xor (a b : Nat) : nI a ^^^ nI b = nI (a ^^^ b) := by
  apply Int32.toBitVec_inj.mp
  rw [Int32.toBitVec_xor, qn_bv, qn_bv, qn_bv]
  apply BitVec.eq_of_toNat_eq
  simp [BitVec.toNat_xor, Nat.xor_mod_two_pow]
/-- what is of a and not of b -/
def qd (a b : Nat) : Nat := a ^^^ (a &&& b)
theorem qd_t (a b k : Nat) : (qd a b).testBit k = (a.testBit k && !(b.testBit k)) := by
  unfold qd
  rw [Nat.testBit_xor, Nat.testBit_and]
  cases a.testBit k <;> cases b.testBit k <;> rfl
theorem qn_dif (a b : Nat) : nI a &&& (nI b ^^^ -nI 1) = nI (qd a b) := by
  unfold qd
  rw [← qn_xor, ← qn_and]
  apply Int32.toBitVec_inj.mp
  rw [show (-nI 1 : Int32) = nI 4294967295 by decide, Int32.toBitVec_and, Int32.toBitVec_xor, Int32.toBitVec_xor, Int32.toBitVec_and, show (nI 4294967295).toBitVec = BitVec.allOnes 32 by decide]
  apply BitVec.eq_of_getLsbD_eq
  intro i hi
  rw [BitVec.getLsbD_and, BitVec.getLsbD_xor, BitVec.getLsbD_xor, BitVec.getLsbD_and, BitVec.getLsbD_allOnes]
  cases (nI a).toBitVec.getLsbD i <;> cases (nI b).toBitVec.getLsbD i <;> simp [hi]
theorem qn_bit {a i : Nat} (ha : a < 2 ^ 31) (h : i < 32) : (nI a >>> (nI i &&& nI 31)) &&& nI 1 = if a.testBit i then nI 1 else nI 0 := by
  rw [qn_shr ha h, qn_and]
  have : a / 2 ^ i &&& 1 = if a.testBit i then 1 else 0 := by
    rw [Nat.and_one_is_mod, ← Nat.shiftRight_eq_div_pow, Nat.testBit_eq_decide_div_mod_eq, Nat.shiftRight_eq_div_pow]
    rcases Nat.mod_two_eq_zero_or_one (a / 2 ^ i) with h | h <;> simp [h]
  rw [this]
  split <;> rfl
theorem qn_bit0 {a i : Nat} (ha : a < 2 ^ 31) (h : i < 32) : ((nI a >>> (nI i &&& nI 31)) &&& nI 1 = nI 0) = (a.testBit i = false) := by
  rw [qn_bit ha h]
  cases a.testBit i with
  | true => simp; decide
  | false => simp
theorem qn_bit1 {a i : Nat} (ha : a < 2 ^ 31) (h : i < 32) : ((nI a >>> (nI i &&& nI 31)) &&& nI 1 = nI 1) = (a.testBit i = true) := by
  rw [qn_bit ha h]
  cases a.testBit i with
  | true => simp
  | false => simp; decide
theorem qn_sl {i : Nat} (h : i < 31) : nI 1 <<< nI i = nI (2 ^ i) := by
  have := qn_sh1 h
  rwa [qn_and31 (by omega)] at this
theorem qn_sr {a i : Nat} (ha : a < 2 ^ 31) (h : i < 32) : nI a >>> nI i = nI (a / 2 ^ i) := by
  have := qn_shr ha h
  rwa [qn_and31 h] at this
theorem qn_t (a i : Nat) : a / 2 ^ i % 2 = if a.testBit i then 1 else 0 := by
  rw [Nat.testBit_eq_decide_div_mod_eq]
  rcases Nat.mod_two_eq_zero_or_one (a / 2 ^ i) with h | h <;> simp [h]
theorem qn_b (a i : Nat) : nI (a / 2 ^ i) &&& nI 1 = if a.testBit i then nI 1 else nI 0 := by
  rw [qn_and, Nat.and_one_is_mod, qn_t]
  split <;> rfl
theorem qn_b0 (a i : Nat) : (nI (a / 2 ^ i) &&& nI 1 = nI 0) = (a.testBit i = false) := by
  rw [qn_b]
  cases a.testBit i with
  | true => simp; decide
  | false => simp
theorem qn_b1 (a i : Nat) : (nI (a / 2 ^ i) &&& nI 1 = nI 1) = (a.testBit i = true) := by
  rw [qn_b]
  cases a.testBit i with
  | true => simp
  | false => simp; decide
def qe : Option Nat → Int32
  | none => -nI 1
  | some b => nI b
theorem sp_zb0 : sp_zb (nI 0) = true := by decide
theorem sp_zb1 : sp_zb (nI 1) = true := by decide
-- state: reads after writes
theorem sp_sa_g {σ : sp_St} {p i q j : Nat} {v : Int32} : (sp_sa σ p i v).2.2.1 q j = if q = p ∧ j = i then v else σ.2.2.1 q j := rfl
theorem sp_sa_1 {σ : sp_St} {p i : Nat} {v : Int32} : (sp_sa σ p i v).1 = σ.1 := rfl
theorem sp_sa_2 {σ : sp_St} {p i : Nat} {v : Int32} : (sp_sa σ p i v).2.1 = σ.2.1 := rfl
theorem sp_sa_4 {σ : sp_St} {p i : Nat} {v : Int32} : (sp_sa σ p i v).2.2.2 = σ.2.2.2 := rfl
theorem sp_si_g {σ : sp_St} {p i q j : Nat} {v : Int32} : (sp_si σ p i v).1 q j = if q = p ∧ j = i then v else σ.1 q j := rfl
theorem sp_si_2 {σ : sp_St} {p i : Nat} {v : Int32} : (sp_si σ p i v).2 = σ.2 := rfl
theorem sp_sr_1 {σ : sp_St} {p i v : Nat} : (sp_sr σ p i v).1 = σ.1 := rfl
theorem sp_sr_g {σ : sp_St} {p i q j v : Nat} : (sp_sr σ p i v).2.1 q j = if q = p ∧ j = i then v else σ.2.1 q j := rfl
theorem sp_sr_3 {σ : sp_St} {p i v : Nat} : (sp_sr σ p i v).2.2 = σ.2.2 := rfl
theorem sp_sl_1 {σ : sp_St} {p i : Nat} {v : Int64} : (sp_sl σ p i v).1 = σ.1 := rfl
theorem sp_sl_2 {σ : sp_St} {p i : Nat} {v : Int64} : (sp_sl σ p i v).2.1 = σ.2.1 := rfl
theorem sp_sl_3 {σ : sp_St} {p i : Nat} {v : Int64} : (sp_sl σ p i v).2.2.1 = σ.2.2.1 := rfl
theorem sp_sl_g {σ : sp_St} {p i q j : Nat} {v : Int64} : (sp_sl σ p i v).2.2.2 q j = if q = p ∧ j = i then v else σ.2.2.2 q j := rfl
-- sums, counts, sets by a predicate
def qs (f : Nat → Nat) : Nat → Nat
  | 0 => 0
  | k + 1 => qs f k + f k
def bs (P : Nat → Bool) : Nat → Nat
  | 0 => 0
  | k + 1 => if P k then bs P k ||| 2 ^ k else bs P k
theorem bs_s (P : Nat → Bool) (k : Nat) : bs P (k + 1) = if P k then bs P k ||| 2 ^ k else bs P k := rfl
theorem qs_s (f : Nat → Nat) (k : Nat) : qs f (k + 1) = qs f k + f k := rfl
def qc (P : Nat → Bool) (N : Nat) : Nat := qs (fun b => if P b then 1 else 0) N
theorem bs_t (P : Nat → Bool) : ∀ N k, (bs P N).testBit k = (decide (k < N) && P k) := by
  intro N
  induction N with
  | zero => intro k; simp [bs]
  | succ N ih =>
    intro k
    unfold bs
    by_cases hp : P N = true
    · rw [if_pos hp, Nat.testBit_or, ih, Nat.testBit_two_pow]
      by_cases hk : N = k
      · subst hk; simp [hp]
      · have : (k < N + 1) ↔ k < N := by omega
        simp [hk, this]
    · rw [if_neg hp, ih]
      by_cases hk : k = N
      · subst hk; simp [hp]
      · have : (k < N + 1) ↔ k < N := by omega
        simp [this]
theorem bs_lt (P : Nat → Bool) (N : Nat) : bs P N < 2 ^ N := by
  apply Nat.lt_pow_two_of_testBit
  intro i hi
  rw [bs_t]
  simp [Nat.not_lt.mpr hi]
theorem bs_cong {P R : Nat → Bool} : ∀ {N : Nat}, (∀ k, k < N → P k = R k) → bs P N = bs R N := by
  intro N h
  apply Nat.eq_of_testBit_eq
  intro i
  rw [bs_t, bs_t]
  by_cases hi : i < N
  · simp [h i hi]
  · simp [hi]
theorem qs_cong {f g : Nat → Nat} : ∀ {N : Nat}, (∀ k, k < N → f k = g k) → qs f N = qs g N := by
  intro N
  induction N with
  | zero => intro _; rfl
  | succ N ih => intro h; unfold qs; rw [ih fun k hk => h k (by omega), h N (by omega)]
theorem qc_cong {P R : Nat → Bool} {N : Nat} (h : ∀ k, k < N → P k = R k) : qc P N = qc R N := qs_cong fun k hk => by rw [h k hk]
theorem qc_le (P : Nat → Bool) : ∀ N, qc P N ≤ N := by
  intro N
  induction N with
  | zero => exact Nat.le_refl 0
  | succ N ih => unfold qc qs; unfold qc at ih; split <;> omega
theorem qs_le {f : Nat → Nat} {m : Nat} : ∀ {N : Nat}, (∀ k, k < N → f k ≤ m) → qs f N ≤ N * m := by
  intro N
  induction N with
  | zero => intro _; simp [qs]
  | succ N ih => intro h; unfold qs; have := ih fun k hk => h k (by omega); have := h N (by omega); rw [Nat.add_mul]; omega
theorem qc_s (P : Nat → Bool) (k : Nat) : qc P (k + 1) = qc P k + if P k then 1 else 0 := rfl
