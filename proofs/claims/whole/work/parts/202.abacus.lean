-- ===== bit counts =====
def bc32 (a0 : Int32) : Int32 :=
  let x1 := a0 - (((a0.toUInt32 >>> (((1 : Int32)).toUInt32 &&& Int32.toUInt32 31)).toInt32) &&& ((1431655765 : Int32)))
  let x3 := (x1 &&& ((858993459 : Int32))) + (((x1.toUInt32 >>> (((2 : Int32)).toUInt32 &&& Int32.toUInt32 31)).toInt32) &&& ((858993459 : Int32)))
  let x5 := (x3 + ((x3.toUInt32 >>> (((4 : Int32)).toUInt32 &&& Int32.toUInt32 31)).toInt32)) &&& ((252645135 : Int32))
  let x7 := x5 + ((x5.toUInt32 >>> (((8 : Int32)).toUInt32 &&& Int32.toUInt32 31)).toInt32)
  let x9 := x7 + ((x7.toUInt32 >>> (((16 : Int32)).toUInt32 &&& Int32.toUInt32 31)).toInt32)
  x9 &&& ((63 : Int32))
theorem bc_is (n : Nat) (σ : sp_St) (a : Int32) : J6_bitCount_0f7a4 n σ a = some (σ, bc32 a) := rfl
theorem bc_all : (List.range 1024).all (fun m => decide (bc32 (nI m) = nI (qc (fun k => m.testBit k) 10))) = true := by decide +kernel
theorem bc_10 {m : Nat} (h : m < 1024) : bc32 (nI m) = nI (qc (fun k => m.testBit k) 10) := by
  have := List.all_eq_true.mp bc_all m (List.mem_range.mpr h)
  simpa using this
theorem qc_ext (P : Nat → Bool) {N : Nat} : ∀ M, N ≤ M → qc (fun k => decide (k < N) && P k) M = qc P N := by
  intro M
  induction M with
  | zero => intro h; obtain rfl : N = 0 := (by omega); rfl
  | succ M ih =>
    intro h
    by_cases hM : N = M + 1
    · subst hM
      exact qc_cong fun k hk => by simp [hk]
    · have h1 := ih (by omega)
      have h2 : ¬ M < N := by omega
      have h3 : qc (fun k => decide (k < N) && P k) (M + 1) = qc (fun k => decide (k < N) && P k) M + if (decide (M < N) && P M) then 1 else 0 := rfl
      rw [h3, h1]
      simp [h2]
theorem bc_bs (n : Nat) (σ : sp_St) (P : Nat → Bool) {N : Nat} (h : N ≤ 10) : J6_bitCount_0f7a4 n σ (nI (bs P N)) = some (σ, nI (qc P N)) := by
  rw [bc_is, bc_10 (Nat.lt_of_lt_of_le (bs_lt P N) (Nat.pow_le_pow_right (by decide) h : 2 ^ N ≤ 2 ^ 10))]
  rw [← qc_ext P 10 h]
  congr 3
  exact qc_cong fun k _ => bs_t P N k
theorem bs_and (P R : Nat → Bool) (N : Nat) : bs P N &&& bs R N = bs (fun k => P k && R k) N := by
  apply Nat.eq_of_testBit_eq
  intro k
  rw [Nat.testBit_and, bs_t, bs_t, bs_t]
  by_cases h : k < N <;> simp [h]
-- ===== the class's abacus =====
theorem encC_n {k : Nat} (h : k < 10000) : encC k = nI k := by simp [encC, h]
theorem ab_join {n : Nat} {σ : sp_St} {k : Nat} (h1 : 10010 ≤ k) (h2 : k ≤ 10018) (h3 : k ≠ 10016) (a b : Int32) : X0_join n σ (encC k) a b = some (σ, qjoin k a b) := by
  rcases (show k = 10010 ∨ k = 10011 ∨ k = 10012 ∨ k = 10013 ∨ k = 10014 ∨ k = 10015 ∨ k = 10017 ∨ k = 10018 by omega) with rfl | rfl | rfl | rfl | rfl | rfl | rfl | rfl
  · rw [show encC 10010 = -7 by decide]; simp [X0_join, qjoin]
  · rw [show encC 10011 = -8 by decide]; simp [X0_join, qjoin]
  · rw [show encC 10012 = -9 by decide]; simp [X0_join, qjoin]
  · rw [show encC 10013 = -10 by decide]
    by_cases hb : b = 0
    · simp [X0_join, qjoin, X0_join_71, hb]
    · simp [X0_join, qjoin, X0_join_71, hb, sp_ck]
  · rw [show encC 10014 = -11 by decide]; simp [X0_join, qjoin, sp_pl]
  · rw [show encC 10015 = -12 by decide]; simp [X0_join, qjoin, sp_pl]
  · rw [show encC 10017 = -14 by decide]
    by_cases ha : a = 0
    · simp [X0_join, qjoin, X0_join_106, X0_join_107, ha]
    · by_cases hb : b = 0
      · simp [X0_join, qjoin, X0_join_106, X0_join_107, ha, hb]
      · simp [X0_join, qjoin, X0_join_106, X0_join_107, ha, hb]
  · rw [show encC 10018 = -15 by decide]
    by_cases ha : a = 0
    · by_cases hb : b = 0
      · simp [X0_join, qjoin, X0_join_116, X0_join_121, ha, hb]
      · simp [X0_join, qjoin, X0_join_116, X0_join_121, ha, hb]
    · simp [X0_join, qjoin, X0_join_116, X0_join_121, ha]
theorem ab_val {n t : Nat} {σ : sp_St} {k : Nat} (h : k < 6) : X0_valueOf n σ t (encC (10000 + k)) = some (σ, σ.1 t (k + 1)) := by
  rcases (show k = 0 ∨ k = 1 ∨ k = 2 ∨ k = 3 ∨ k = 4 ∨ k = 5 by omega) with rfl | rfl | rfl | rfl | rfl | rfl
  · rw [show encC (10000 + 0) = -1 by decide]; simp [X0_valueOf]
  · rw [show encC (10000 + 1) = -2 by decide]; simp [X0_valueOf]
  · rw [show encC (10000 + 2) = -3 by decide]; simp [X0_valueOf]
  · rw [show encC (10000 + 3) = -4 by decide]; simp [X0_valueOf]
  · rw [show encC (10000 + 4) = -5 by decide]; simp [X0_valueOf]
  · rw [show encC (10000 + 5) = -6 by decide]; simp [X0_valueOf]
theorem encC_v {k : Nat} (h : k < 10006) : ¬ encC k < -6 := by
  by_cases h1 : k < 10000
  · rw [encC_n h1]
    intro h
    have := Int32.lt_iff_toInt_lt.mp h
    rw [nI_toInt (by omega)] at this
    have e : (-6 : Int32).toInt = -6 := by decide
    omega
  · rcases (show k = 10000 ∨ k = 10001 ∨ k = 10002 ∨ k = 10003 ∨ k = 10004 ∨ k = 10005 by omega) with rfl | rfl | rfl | rfl | rfl | rfl <;> decide
theorem encC_o : ∀ k, 10010 ≤ k → k ≤ 10018 → encC k < -6 ∧ (encC k = -13 ↔ k = 10016) := by
  intro k h1 h2
  rcases (show k = 10010 ∨ k = 10011 ∨ k = 10012 ∨ k = 10013 ∨ k = 10014 ∨ k = 10015 ∨ k = 10016 ∨ k = 10017 ∨ k = 10018 by omega) with rfl | rfl | rfl | rfl | rfl | rfl | rfl | rfl | rfl <;> decide
/-- a row that holds a stack, its top last -/
def qst (rods : Nat → Int32) (st : List Int32) : Prop := ∀ i, i < st.length → rods (st.length - 1 - i) = st.getD i 0
theorem qst_push {rods : Nat → Int32} {st : List Int32} (h : qst rods st) (x : Int32) : qst (fun j => if j = st.length then x else rods j) (x :: st) := by
  intro i hi
  cases i with
  | zero => simp
  | succ i =>
    simp only [List.length_cons] at hi
    have h1 := h i (by omega)
    simp only [List.length_cons, List.getD_cons_succ]
    rw [if_neg (by omega), ← h1]
    congr 1
    omega
theorem qst_pop {rods : Nat → Int32} {x : Int32} {st : List Int32} (h : qst rods (x :: st)) : qst rods st := by
  intro i hi
  have h1 := h (i + 1) (by simp only [List.length_cons]; omega)
  simp only [List.length_cons, List.getD_cons_succ] at h1
  rw [← h1]
  congr 1
  omega
theorem qst_top {rods : Nat → Int32} {x : Int32} {st : List Int32} (h : qst rods (x :: st)) : rods st.length = x := by
  have h1 := h 0 (by simp)
  simpa using h1
theorem qst_set {rods : Nat → Int32} {st : List Int32} {k : Nat} (x : Int32) (h : qst rods st) (hk : st.length ≤ k) : qst (fun j => if j = k then x else rods j) st := by
  intro i hi
  show (if st.length - 1 - i = k then x else rods (st.length - 1 - i)) = _
  rw [if_neg (by omega)]
  exact h i hi
section
variable {n t p e i f h : Nat} {σ : sp_St}
theorem ab_65 {x : Int32} {k10 : sp_St → Int32 → Int32 → Int32 → Option (sp_St × Int32)} (hh : h < 40) : X0_work_65 n t p 700 k10 σ (nI e) (nI h) (nI i) x (nI h) = k10 (sp_sa σ (t + 1) h x) (nI e) (nI (h + 1)) (nI (i + 1)) := by
  have w6 : sp_in (nI h) 40 = true := qn_in (by omega) (by omega)
  simp only [X0_work_65, X0_work_153, w6, sp_ckt, sp_pl, nI_clamp (show h < 2 ^ 31 by omega), nI_1]
theorem ab_s1 {k : Nat} (he : e ≤ 700) (hi : i < e) (hk : σ.2.2.1 p i = encC k) (hh : h < 40) (h1 : k < 10000) : X0_work_10 n t p 700 (f + 1) σ (nI e) (nI h) (nI i) = X0_work_10 n t p 700 f (sp_sa σ (t + 1) h (nI k)) (nI e) (nI (h + 1)) (nI (i + 1)) := by
  have w1 : ¬ nI e ≤ nI i := nI_ge (by omega) (by omega)
  have w2 : ¬ Int32.ofNat 700 ≤ nI i := nI_ge (a := i) (b := 700) (by omega) (by omega)
  have w3 : sp_in (nI i) 700 = true := qn_in (by omega) (by omega)
  have w4 : sp_g σ p (nI i) = encC k := by rw [qn_g (by omega)]; exact hk
  have w5 : ¬ (40 : Int32) ≤ nI h := nI_ge (a := h) (b := 40) (by omega) (by omega)
  have w8 : ¬ encC k < -6 := encC_v (by omega)
  have w9 : ¬ encC k < 0 := by rw [encC_n h1]; exact nI_pos (by omega)
  rw [← ab_65 (k10 := X0_work_10 n t p 700 f) hh, X0_work_10, if_neg w1, if_neg w2, w3, sp_ckt, w4, sp_pl, if_neg w8, if_neg w5, if_neg w9, encC_n h1]
theorem ab_s1v {m : Nat} (he : e ≤ 700) (hi : i < e) (hk : σ.2.2.1 p i = encC (10000 + m)) (hh : h < 40) (h1 : m < 6) : X0_work_10 n t p 700 (f + 1) σ (nI e) (nI h) (nI i) = X0_work_10 n t p 700 f (sp_sa σ (t + 1) h (σ.1 t (m + 1))) (nI e) (nI (h + 1)) (nI (i + 1)) := by
  have w1 : ¬ nI e ≤ nI i := nI_ge (by omega) (by omega)
  have w2 : ¬ Int32.ofNat 700 ≤ nI i := nI_ge (a := i) (b := 700) (by omega) (by omega)
  have w3 : sp_in (nI i) 700 = true := qn_in (by omega) (by omega)
  have w4 : sp_g σ p (nI i) = encC (10000 + m) := by rw [qn_g (by omega)]; exact hk
  have w5 : ¬ (40 : Int32) ≤ nI h := nI_ge (a := h) (b := 40) (by omega) (by omega)
  have w8 : ¬ encC (10000 + m) < -6 := encC_v (by omega)
  have w7 : encC (10000 + m) < 0 := by
    rcases (show m = 0 ∨ m = 1 ∨ m = 2 ∨ m = 3 ∨ m = 4 ∨ m = 5 by omega) with rfl | rfl | rfl | rfl | rfl | rfl <;> decide
  rw [← ab_65 (k10 := X0_work_10 n t p 700 f) hh, X0_work_10, if_neg w1, if_neg w2, w3, sp_ckt, w4, sp_pl, if_neg w8, if_neg w5, if_pos w7, ab_val h1, sp_bd_s]
theorem ab_s2 (he : e ≤ 700) (hi : i < e) (hk : σ.2.2.1 p i = encC 10016) (hh : h < 40) : X0_work_10 n t p 700 (f + 1) σ (nI e) (nI (h + 1)) (nI i) = X0_work_10 n t p 700 f (sp_sa σ (t + 1) h (if σ.2.2.1 (t + 1) h = 0 then 1 else 0)) (nI e) (nI (h + 1)) (nI (i + 1)) := by
  have w1 : ¬ nI e ≤ nI i := nI_ge (by omega) (by omega)
  have w2 : ¬ Int32.ofNat 700 ≤ nI i := nI_ge (a := i) (b := 700) (by omega) (by omega)
  have w3 : sp_in (nI i) 700 = true := qn_in (by omega) (by omega)
  have w4 : sp_g σ p (nI i) = -13 := by rw [qn_g (by omega), hk]; decide
  have w5 : ¬ nI (h + 1) < 1 := nI_nlt (a := h + 1) (b := 1) (by omega) (by omega)
  have w6 : nI (h + 1) - 1 = nI h := nI_pred _
  have w7 : sp_in (nI h) 40 = true := qn_in (by omega) (by omega)
  have w8 : (-13 : Int32) < -6 := by decide
  rw [X0_work_10, if_neg w1, if_neg w2, w3, sp_ckt, w4, sp_pl, if_pos w8, if_pos rfl, if_neg w5, w6, w7, sp_ckt, sp_pl, sp_ckt, sp_pl, X0_work_153, sp_pl, nI_clamp (show h < 2 ^ 31 by omega), qn_g (show h < 2 ^ 31 by omega), nI_1]
theorem ab_s3 {k : Nat} (he : e ≤ 700) (hi : i < e) (h1 : 10010 ≤ k) (h2 : k ≤ 10018) (h3 : k ≠ 10016) (hk : σ.2.2.1 p i = encC k) (hh : h + 1 < 40) : X0_work_10 n t p 700 (f + 1) σ (nI e) (nI (h + 2)) (nI i) = X0_work_10 n t p 700 f (sp_sa σ (t + 1) h (qjoin k (σ.2.2.1 (t + 1) h) (σ.2.2.1 (t + 1) (h + 1)))) (nI e) (nI (h + 1)) (nI (i + 1)) := by
  have w1 : ¬ nI e ≤ nI i := nI_ge (by omega) (by omega)
  have w2 : ¬ Int32.ofNat 700 ≤ nI i := nI_ge (a := i) (b := 700) (by omega) (by omega)
  have w3 : sp_in (nI i) 700 = true := qn_in (by omega) (by omega)
  have w4 : sp_g σ p (nI i) = encC k := by rw [qn_g (by omega)]; exact hk
  have w5 : ¬ nI (h + 2) < 2 := nI_nlt (a := h + 2) (b := 2) (by omega) (by omega)
  have w6 : nI (h + 2) + (-1) = nI (h + 1) := pk_m1 (h + 1)
  have w6' : nI (h + 1) - 1 = nI h := nI_pred _
  have w7 : sp_in (nI h) 40 = true := qn_in (by omega) (by omega)
  have w7' : sp_in (nI (h + 1)) 40 = true := qn_in (by omega) (by omega)
  have w9 : ¬ encC k = -13 := fun hh => h3 ((encC_o k h1 h2).2.mp hh)
  rw [X0_work_10, if_neg w1, if_neg w2, w3, sp_ckt, w4, sp_pl, if_pos (encC_o k h1 h2).1, if_neg w9, if_neg w5, w6, sp_pl, w6', w7, w7', sp_ckt, sp_ckt, ab_join h1 h2 h3, sp_bd_s, sp_ckt, sp_pl, X0_work_153, sp_pl, nI_clamp (show h < 2 ^ 31 by omega), qn_g (show h < 2 ^ 31 by omega), qn_g (show h + 1 < 2 ^ 31 by omega), nI_1]
end
theorem ab_work {n t p : Nat} (hp : p ≠ t + 1) (v : Nat → Int32) {e lv : Nat} (he : e ≤ 700) (hlv : lv ≤ 6) : ∀ (L : List Nat) (st : List Int32) (f i : Nat) (σ : sp_St), L.length < f → i + L.length = e → st.length ≤ 40 → qok 40 lv L st.length → (∀ k, k < lv → σ.1 t (k + 1) = v k) → (∀ k, k < L.length → σ.2.2.1 p (i + k) = encC (L.getD k 0)) → qst (σ.2.2.1 (t + 1)) st → sp_wp (X0_work_10 n t p 700 f σ (nI e) (nI st.length) (nI i)) (fun r => r.2 = (qev v L st).headD 0 ∧ r.1.1 = σ.1 ∧ r.1.2.1 = σ.2.1 ∧ r.1.2.2.2 = σ.2.2.2 ∧ ∀ q, q ≠ t + 1 → r.1.2.2.1 q = σ.2.2.1 q) := by
  intro L
  induction L with
  | nil =>
    intro st f i σ hf hi hm hq hv hc hs
    obtain ⟨f, rfl⟩ : ∃ g, f = g + 1 := ⟨f - 1, by simp at hf; omega⟩
    simp only [List.length_nil, Nat.add_zero] at hi
    subst hi
    unfold qok at hq
    have h1 := hs 0 (by omega)
    rw [hq] at h1 ⊢
    rw [X0_work_10]
    rw [if_pos (Int32.le_refl _), X0_work_159, if_pos (show nI 1 = 1 from rfl), X0_work_175]
    refine wp_of rfl ⟨?_, rfl, rfl, rfl, fun _ _ => rfl⟩
    show σ.2.2.1 (t + 1) 0 = _
    rw [h1]
    unfold qev
    cases st <;> rfl
  | cons k L ih =>
    intro st f i σ hf hi hm hq hv hc hs
    simp only [List.length_cons] at hf hi
    obtain ⟨f, rfl⟩ : ∃ g, f = g + 1 := ⟨f - 1, by omega⟩
    have hk := hc 0 (by simp)
    simp only [Nat.add_zero, List.getD_cons_zero] at hk
    have hc' : ∀ j, j < L.length → σ.2.2.1 p (i + 1 + j) = encC (L.getD j 0) := fun j hj => by
      have := hc (j + 1) (by simp only [List.length_cons]; omega)
      rw [List.getD_cons_succ] at this
      rw [show i + 1 + j = i + (j + 1) by omega]
      exact this
    unfold qok at hq
    have go : ∀ (st' : List Int32) (x : Int32) (j : Nat), st'.length ≤ 40 → qst (fun m => if m = j then x else σ.2.2.1 (t + 1) m) st' → qok 40 lv L st'.length → qstep v k st = st' → sp_wp (X0_work_10 n t p 700 f (sp_sa σ (t + 1) j x) (nI e) (nI st'.length) (nI (i + 1))) (fun r => r.2 = (qev v (k :: L) st).headD 0 ∧ r.1.1 = σ.1 ∧ r.1.2.1 = σ.2.1 ∧ r.1.2.2.2 = σ.2.2.2 ∧ ∀ q, q ≠ t + 1 → r.1.2.2.1 q = σ.2.2.1 q) := by
      intro st' x j h0 h1 h2 h3
      have hg := ih st' f (i + 1) (sp_sa σ (t + 1) j x) (by omega) (by omega) h0 h2 hv (fun m hm => by rw [sp_sa_g, if_neg (fun hh => hp hh.1)]; exact hc' m hm) (by
        intro m hm
        rw [sp_sa_g]
        have := h1 m hm
        simpa using this)
      refine wp_mono hg ?_
      rintro ⟨τ, r⟩ ⟨g1, g2, g3, g4, g5⟩
      refine ⟨?_, g2, g3, g4, fun q hq2 => ?_⟩
      · rw [g1, ← h3]; rfl
      · rw [g5 q hq2]
        funext m
        rw [sp_sa_g, if_neg (fun hh => hq2 hh.1)]
    by_cases hv6 : k < 10000 + lv
    · rw [if_pos hv6] at hq
      by_cases h1 : k < 10000
      · rw [ab_s1 he (by omega) hk (by omega) h1]
        exact go (nI k :: st) (nI k) st.length (by simp only [List.length_cons]; omega) (qst_push hs _) hq.2 (by simp [qstep, h1])
      · obtain ⟨m, rfl⟩ : ∃ m, k = 10000 + m := ⟨k - 10000, by omega⟩
        rw [ab_s1v he (by omega) hk (by omega) (by omega)]
        refine go (σ.1 t (m + 1) :: st) _ st.length (by simp only [List.length_cons]; omega) (qst_push hs _) hq.2 ?_
        unfold qstep
        rw [if_neg h1, if_pos (by omega), hv m (by omega), Nat.add_sub_cancel_left]
    · rw [if_neg hv6] at hq
      by_cases h16 : k = 10016
      · subst h16
        rw [if_pos rfl] at hq
        obtain ⟨x, st, rfl⟩ : ∃ x s2, st = x :: s2 := by
          cases st with
          | nil => simp at hq
          | cons x s2 => exact ⟨x, s2, rfl⟩
        simp only [List.length_cons] at hq hm ⊢
        rw [ab_s2 he (by omega) hk (by omega), qst_top hs]
        refine go ((if x = 0 then 1 else 0) :: st) _ st.length hm (qst_push (qst_pop hs) _) hq.2 ?_
        unfold qstep
        rfl
      · rw [if_neg h16] at hq
        obtain ⟨y, x, st, rfl⟩ : ∃ y x s2, st = y :: x :: s2 := by
          cases st with
          | nil => simp at hq
          | cons y s2 => cases s2 with
            | nil => simp at hq
            | cons x s3 => exact ⟨y, x, s3, rfl⟩
        simp only [List.length_cons] at hq hm ⊢
        rw [ab_s3 he (by omega) hq.1.1 hq.1.2.1 h16 hk (by omega), qst_top (qst_pop hs), show σ.2.2.1 (t + 1) (st.length + 1) = y from qst_top hs]
        refine go (qjoin k x y :: st) _ st.length (by simp only [List.length_cons]; omega) (qst_push (qst_pop (qst_pop hs)) _) hq.2 ?_
        unfold qstep
        rw [if_neg (by omega), if_neg (by omega), if_neg h16]
        rfl
