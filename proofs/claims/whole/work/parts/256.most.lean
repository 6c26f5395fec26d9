-- ===== the most anger that goes into the rooms =====
def isM (w A : Nat → Nat) (N : Nat) (R : List Nat) (S v : Nat) : Prop := (∃ P, Sb P S ∧ pk w N R P ∧ sW A N P = v) ∧ ∀ P, Sb P S → pk w N R P → sW A N P ≤ v
section
variable {w A : Nat → Nat} {N : Nat} {R : List Nat}
theorem isM_u {S v u : Nat} (h : isM w A N R S v) (g : isM w A N R S u) : v = u := by
  obtain ⟨⟨P, p1, p2, p3⟩, h2⟩ := h
  obtain ⟨⟨Q, q1, q2, q3⟩, g2⟩ := g
  have := h2 Q q1 q2
  have := g2 P p1 p2
  omega
theorem isM_nil {S : Nat} : isM w A N [] S 0 := ⟨⟨0, Sb_0, rfl, sW_0 N⟩, fun P _ h => by rw [pk] at h; subst h; rw [sW_0]; exact Nat.le_refl _⟩
theorem isM_pk {S : Nat} (h : pk w N R S) : isM w A N R S (sW A N S) := ⟨⟨S, Sb_refl, h, rfl⟩, fun _ hP _ => sW_mono hP⟩
theorem isM_990 (hA : ∀ b, b < N → A b ≤ 99) (hN : N ≤ 10) {S v : Nat} (h : isM w A N R S v) : v ≤ 990 := by
  obtain ⟨⟨P, _, _, p3⟩, _⟩ := h
  have : sW A N P ≤ N * 99 := qs_le (fun k hk => by
    have := hA k hk
    split <;> omega)
  omega
def mwo (g : Nat → Nat) (S : Nat) : Nat → Nat
  | 0 => 0
  | b + 1 => if S.testBit b then max (mwo g S b) (g (qd S (2 ^ b))) else mwo g S b
theorem mwo_ge {g : Nat → Nat} {S b : Nat} (hS : S.testBit b = true) : ∀ M, b < M → g (qd S (2 ^ b)) ≤ mwo g S M := by
  intro M
  induction M with
  | zero => intro h; omega
  | succ M ih =>
    intro h
    rw [mwo]
    by_cases e : b = M
    · subst e; rw [if_pos hS]; exact Nat.le_max_right _ _
    · have := ih (by omega)
      split
      · exact Nat.le_trans this (Nat.le_max_left _ _)
      · exact this
theorem mwo_at {g : Nat → Nat} {S : Nat} : ∀ M, mwo g S M = 0 ∨ ∃ b, b < M ∧ S.testBit b = true ∧ mwo g S M = g (qd S (2 ^ b)) := by
  intro M
  induction M with
  | zero => exact Or.inl rfl
  | succ M ih =>
    rw [mwo]
    cases e : S.testBit M with
    | false =>
      rw [if_neg (by simp)]
      rcases ih with ih | ⟨b, h1, h2⟩
      · exact Or.inl ih
      · exact Or.inr ⟨b, by omega, h2⟩
    | true =>
      rw [if_pos rfl]
      rcases Nat.le_total (g (qd S (2 ^ M))) (mwo g S M) with le | le
      · rw [Nat.max_eq_left le]
        rcases ih with ih | ⟨b, h1, h2⟩
        · exact Or.inl ih
        · exact Or.inr ⟨b, by omega, h2⟩
      · rw [Nat.max_eq_right le]
        exact Or.inr ⟨M, by omega, e, rfl⟩
theorem mwo_le {g : Nat → Nat} {S B : Nat} : ∀ M, (∀ b, b < M → S.testBit b = true → g (qd S (2 ^ b)) ≤ B) → mwo g S M ≤ B := by
  intro M h
  rcases mwo_at (g := g) (S := S) M with e | ⟨b, h1, h2, e⟩
  · omega
  · rw [e]; exact h b h1 h2
theorem isM_s {g : Nat → Nat} {S : Nat} (hS : S < 2 ^ N) (hp : ¬ pk w N R S) (hg : ∀ b, b < N → S.testBit b = true → isM w A N R (qd S (2 ^ b)) (g (qd S (2 ^ b)))) : isM w A N R S (mwo g S N) := by
  constructor
  · rcases mwo_at (g := g) (S := S) N with e | ⟨b, h1, h2, e⟩
    · rw [e]; exact ⟨0, Sb_0, pk_0, sW_0 N⟩
    · obtain ⟨⟨P, p1, p2, p3⟩, _⟩ := hg b h1 h2
      exact ⟨P, Sb_trans p1 Sb_qd, p2, by rw [e, p3]⟩
  · intro P p1 p2
    have : P ≠ S := fun e => by subst e; exact hp p2
    have nz : qd S P ≠ 0 := fun e => by
      apply this
      have := qd_0.mp e
      exact Nat.le_antisymm (Sb_le p1) (Sb_le this)
    obtain ⟨b, hb, hbt⟩ := any_bit (qd_le2 S P hS) nz
    rw [qd_t] at hbt
    simp at hbt
    refine Nat.le_trans ((hg b hb hbt.1).2 P (fun k hk => ?_) p2) (mwo_ge hbt.1 N hb)
    rw [qd_b, p1 k hk]
    have : b ≠ k := fun e => by subst e; rw [hbt.2] at hk; cases hk
    simp [this]
/-- room by room, from the front -/
theorem isM_c {r S v : Nat} {g : Nat → Nat} (hg : ∀ T, Sb T S → isM w A N R (qd S T) (g (qd S T))) (h1 : ∃ T, Sb T S ∧ sW w N T ≤ r ∧ sW A N T + g (qd S T) = v) (h2 : ∀ T, Sb T S → sW w N T ≤ r → sW A N T + g (qd S T) ≤ v) : isM w A N (r :: R) S v := by
  constructor
  · obtain ⟨T, t1, t2, t3⟩ := h1
    obtain ⟨⟨P, p1, p2, p3⟩, _⟩ := hg T t1
    have dis : ∀ k, P.testBit k = true → T.testBit k = false := fun k hk => by have := p1 k hk; rw [qd_t] at this; simp at this; exact this.2
    have e1 : qd (T ||| P) T = P := by
      apply Nat.eq_of_testBit_eq
      intro k
      rw [qd_t, Nat.testBit_or]
      cases q : P.testBit k with
      | false => cases T.testBit k <;> rfl
      | true => rw [dis k q]; rfl
    have s1 : Sb T (T ||| P) := fun k hk => by rw [Nat.testBit_or, hk]; rfl
    refine ⟨T ||| P, fun k hk => ?_, ⟨T, s1, t2, by rw [e1]; exact p2⟩, ?_⟩
    · rw [Nat.testBit_or] at hk
      simp at hk
      rcases hk with hk | hk
      · exact t1 k hk
      · exact Sb_qd k (p1 k hk)
    · rw [sW_sp s1, e1]; omega
  · rintro P p1 ⟨T, t1, t2, t3⟩
    have := h2 T (Sb_trans t1 p1) t2
    have := (hg T (Sb_trans t1 p1)).2 (qd P T) (fun k hk => by
      rw [qd_t] at hk ⊢
      simp at hk ⊢
      exact ⟨p1 k hk.1, hk.2⟩) t3
    rw [sW_sp t1]; omega
end
def rr (lf : Nat → Nat) : Nat → Nat → List Nat
  | _, 0 => []
  | s, d + 1 => lf s :: rr lf (s + 1) d
theorem rr_sn (lf : Nat → Nat) : ∀ d s, rr lf s (d + 1) = rr lf s d ++ [lf (s + d)] := by
  intro d
  induction d with
  | zero => intro s; rfl
  | succ d ih =>
    intro s
    rw [rr, ih (s + 1), rr, List.cons_append, show s + 1 + d = s + (d + 1) by omega]
theorem mkL_rr {lf : Nat → Nat} {s ns : Nat} : ∀ i, i ≤ ns → mkL lf (bs (fun i => decide (s ≤ i)) ns) i = rr lf s (i - s) := by
  intro i
  induction i with
  | zero => intro _; rw [Nat.zero_sub]; rfl
  | succ i ih =>
    intro hi
    rw [mkL, bs_t, ih (by omega)]
    by_cases e : s ≤ i
    · rw [if_pos (by simp [e]; omega), show i + 1 - s = (i - s) + 1 by omega, rr_sn, show s + (i - s) = i by omega]
    · rw [if_neg (by simp [e]), show i + 1 - s = i - s by omega]
theorem mask_is : ∀ ns, ns < 6 → ∀ s, s < 6 → (((1 : Int32) <<< (nI ns &&& 31)) - 1) &&& ((-1 : Int32) <<< (nI s &&& 31)) = nI (bs (fun i => decide (s ≤ i)) ns) := by decide +kernel
section
variable {n j c : Nat} {σ μ : sp_St} {ct : Nat → Nat → Nat} {cd : List Nat × List Nat} {sc : Nat → Nat} {stk : Nat → List Nat}
theorem sq_angerOf (h : qSC σ 23 c ct cd sc) (hn : 100 ≤ n) {S : Nat} (hS : S < 1024) : X5_angerOf n σ (nI S) = some (σ, nI (sW sc (ct 0 13) S)) := by
  obtain ⟨_, hc, hisc, ⟨hnb, hns, _, _, hA2, _⟩, hS50, ⟨hb10, hs5, _, _, hL, _⟩, _⟩ := h
  rw [X5_angerOf, sp_pl, sp_pl]
  refine lp_up (fun f b => X5_angerOf_4 n f σ (nI S) (nI (sW sc b S)) (nI b)) (ct 0 13) _ (fun f => ?_) (fun f b hb => ?_) n 0 (by omega) (by omega)
  · rw [X5_angerOf_4, sp_pl, hc, hisc, sp_ckt, hnb, if_pos (Int32.le_refl _), X5_angerOf_44]
  · have e38 : ∀ (z : Int32), X5_angerOf_38 n (X5_angerOf_4 n f) σ (nI S) z (nI b) = X5_angerOf_4 n f σ (nI S) z (nI (b + 1)) := fun z => by rw [X5_angerOf_38, sp_pl, nI_1]
    have es : sW sc (b + 1) S = sW sc b S + if S.testBit b then sc b else 0 := rfl
    rw [X5_angerOf_4, sp_pl, hc, hisc, sp_ckt, hnb, if_neg (nI_ge hb (by omega)), es]
    cases p : S.testBit b with
    | false => rw [if_pos (by rw [show (nI S >>> (nI b &&& 31) &&& 1 = 0) = (S.testBit b = false) from qn_bit0 (by omega) (by omega)]; exact p), e38, if_neg (by decide)]; rfl
    | true => rw [if_neg (by rw [show (nI S >>> (nI b &&& 31) &&& 1 = 0) = (S.testBit b = false) from qn_bit0 (by omega) (by omega), p]; decide), qn_in (by omega) (by omega), sp_ckt, qn_g (by omega), hS50 b (by omega), sp_pl, nI_add, e38, if_pos rfl]
theorem sq_lengthOf (h : qSC σ 23 c ct cd sc) (hn : 100 ≤ n) {S : Nat} (hS : S < 1024) : X5_lengthOf n σ (nI S) = some (σ, nI (sW (ct 2) (ct 0 13) S)) := by
  obtain ⟨_, hc, hisc, ⟨hnb, hns, _, _, hA2, _⟩, hS50, ⟨hb10, hs5, _, _, hL, _⟩, _⟩ := h
  rw [X5_lengthOf, sp_pl, sp_pl]
  refine lp_up (fun f b => X5_lengthOf_4 n f σ (nI S) (nI (sW (ct 2) b S)) (nI b)) (ct 0 13) _ (fun f => ?_) (fun f b hb => ?_) n 0 (by omega) (by omega)
  · rw [X5_lengthOf_4, sp_pl, hc, hisc, sp_ckt, hnb, if_pos (Int32.le_refl _), X5_lengthOf_47]
  · have e38 : ∀ (z : Int32), X5_lengthOf_41 n (X5_lengthOf_4 n f) σ (nI S) z (nI b) = X5_lengthOf_4 n f σ (nI S) z (nI (b + 1)) := fun z => by rw [X5_lengthOf_41, sp_pl, nI_1]
    have es : sW (ct 2) (b + 1) S = sW (ct 2) b S + if S.testBit b then ct 2 b else 0 := rfl
    rw [X5_lengthOf_4, sp_pl, hc, hisc, sp_ckt, hnb, if_neg (nI_ge hb (by omega)), es]
    cases p : S.testBit b with
    | false => rw [if_pos (by rw [show (nI S >>> (nI b &&& 31) &&& 1 = 0) = (S.testBit b = false) from qn_bit0 (by omega) (by omega)]; exact p), e38, if_neg (by decide)]; rfl
    | true => rw [if_neg (by rw [show (nI S >>> (nI b &&& 31) &&& 1 = 0) = (S.testBit b = false) from qn_bit0 (by omega) (by omega), p]; decide), qn_in (by omega) (by omega), sp_ckt, qn_g (by omega), hA2 b hb, sp_pl, nI_add, e38, if_pos rfl]
theorem sq_mwo (h : qSC σ 23 c ct cd sc) (hn : 100 ≤ n) {g : Nat → Nat} {S : Nat} (hS : S < 1024) (hg : ∀ b, b < ct 0 13 → S.testBit b = true → σ.2.2.1 62 (qd S (2 ^ b)) = nI (g (qd S (2 ^ b))) ∧ g (qd S (2 ^ b)) ≤ 990) : X5_mostWithoutOne n σ (nI S) = some (σ, nI (mwo g S (ct 0 13))) := by
  obtain ⟨_, hc, hisc, ⟨hnb, hns, _, _, hA2, _⟩, hS50, ⟨hb10, hs5, _, _, hL, _⟩, _⟩ := h
  rw [X5_mostWithoutOne, sp_pl, sp_pl]
  refine lp_up (fun f b => X5_mostWithoutOne_4 n f σ (nI S) (nI (mwo g S b)) (nI b)) (ct 0 13) _ (fun f => ?_) (fun f b hb => ?_) n 0 (by omega) (by omega)
  · rw [X5_mostWithoutOne_4, sp_pl, hc, hisc, sp_ckt, hnb, if_pos (Int32.le_refl _), X5_mostWithoutOne_49]
  · have e43 : ∀ (z : Int32), X5_mostWithoutOne_43 n (X5_mostWithoutOne_4 n f) σ (nI S) z (nI b) = X5_mostWithoutOne_4 n f σ (nI S) z (nI (b + 1)) := fun z => by rw [X5_mostWithoutOne_43, sp_pl, nI_1]
    rw [X5_mostWithoutOne_4, sp_pl, hc, hisc, sp_ckt, hnb, if_neg (nI_ge hb (by omega)), mwo]
    cases p : S.testBit b with
    | false => rw [if_pos (by rw [show (nI S >>> (nI b &&& 31) &&& 1 = 0) = (S.testBit b = false) from qn_bit0 (by omega) (by omega)]; exact p), e43, if_neg (by decide)]
    | true =>
      obtain ⟨g1, g2⟩ := hg b hb p
      have l1 : qd S (2 ^ b) < 1024 := qd_le2 (m := 10) _ _ hS
      have l4 := mwo_le (g := g) (S := S) (B := 990) b (fun b' h1 h2 => (hg b' (by omega) h2).2)
      have x1 : nI S &&& (((1 : Int32) <<< (nI b &&& 31)) ^^^ (-1 : Int32)) = nI (qd S (2 ^ b)) := by
        rw [show (1 : Int32) <<< (nI b &&& 31) = nI (2 ^ b) from qn_sh1 (by omega)]
        exact qn_dif _ _
      rw [if_neg (by rw [show (nI S >>> (nI b &&& 31) &&& 1 = 0) = (S.testBit b = false) from qn_bit0 (by omega) (by omega), p]; decide), x1, qn_in (by omega) (by omega), sp_ckt, qn_g (by omega), g1, qn_max (by omega) (by omega), sp_pl, e43, if_pos rfl]
/-- the table of the most, for all sets of the blades that are out -/
def tM (σ : sp_St) (w A : Nat → Nat) (N : Nat) (R : List Nat) (O k : Nat) : Prop := ∀ T, T < k → Sb T O → ∃ v, v ≤ 990 ∧ σ.2.2.1 62 T = nI v ∧ isM w A N R T v
theorem sq_weigh (h : qSC σ 23 c ct cd sc) (hn : 1100 ≤ n) (hA : ∀ b, b < ct 0 13 → sc b ≤ 99) (hu : ∀ s, s < ct 0 14 → qus ct sc s ≤ sc (30 + s)) (h99 : ∀ s, s < ct 0 14 → lfO ct sc s ≤ 99) {s O : Nat} (hs : s < 6) (hO : O < 2 ^ ct 0 13) : ∃ τ, X5_weighFrom n σ (nI s) (nI O) = some τ ∧ qfp 60 63 σ τ ∧ tM τ (ct 2) sc (ct 0 13) (rr (lfO ct sc) s (ct 0 14 - s)) O 1024 := by
  have hO2 : O < 1024 := Nat.lt_of_lt_of_le hO (Nat.pow_le_pow_right (by decide) h.2.2.2.2.2.1.1 : 2 ^ ct 0 13 ≤ 2 ^ 10)
  have hb10 := h.2.2.2.2.2.1.1
  have hs5 := h.2.2.2.2.2.1.2.1
  have hc := h.2.1
  have hisc := h.2.2.1
  have hns := h.2.2.2.1.2.1
  have lZ := bs_lt (fun i => decide (s ≤ i)) (ct 0 14)
  have lZ2 : 2 ^ ct 0 14 ≤ 2 ^ 5 := Nat.pow_le_pow_right (by decide) hs5
  rw [X5_weighFrom, sp_pl, hc, hisc, sp_ckt, hns, mask_is _ (by omega) s hs]
  obtain ⟨τ1, t1, t2, t3, t4⟩ := sq_roomIn h (by omega : 100 ≤ n) hu (show bs (fun i => decide (s ≤ i)) (ct 0 14) < 2 ^ 31 by omega)
  rw [t1, sp_bd_s]
  have hL := mkL_rr (lf := lfO ct sc) (s := s) (ns := ct 0 14) (ct 0 14) (Nat.le_refl _)
  have lenL := mkL_len (lf := lfO ct sc) (Z := bs (fun i => decide (s ≤ i)) (ct 0 14)) (ct 0 14)
  have mem99 := mkL_99 (Z := bs (fun i => decide (s ≤ i)) (ct 0 14)) (ct 0 14) h99
  generalize mkL (lfO ct sc) (bs (fun i => decide (s ≤ i)) (ct 0 14)) (ct 0 14) = L at *
  have r99 : ∀ k, k < L.length → L.getD k 0 ≤ 99 := fun k _ => gd_99 mem99 k
  obtain ⟨τ2, f1, f2, f3⟩ := sq_fill (qSC_pk h t2) hn (Rf := fun k => L.getD k 0) (by omega) t3 t4 r99 hO
  have eR : rl (fun k => L.getD k 0) L.length = L := rl_list L _ (fun _ _ => rfl)
  rw [f1, sp_bv_s, sp_pl, ← hL]
  have g2 : qfp 60 63 σ τ2 := qfp_trans t2 (qfp_mono f2 (by omega) (by omega))
  have key : ∀ f k τ, k ≤ O + 1 → O + 1 - k < f → qfp 62 62 τ2 τ → tM τ (ct 2) sc (ct 0 13) L O k → ∃ υ, X5_weighFrom_30 n f τ (nI O) (nI k) = some υ ∧ qfp 62 62 τ2 υ ∧ tM υ (ct 2) sc (ct 0 13) L O 1024 := by
    intro f
    induction f with
    | zero => intro k τ _ hf; omega
    | succ f ih =>
      intro k τ k2 hf g gT
      rw [X5_weighFrom_30]
      by_cases e : O < k
      · refine ⟨τ, by rw [if_pos (by rw [qn_lt (by omega) (by omega)]; exact e), X5_weighFrom_87], g, fun T _ hT => gT T (Nat.lt_of_le_of_lt (Sb_le hT) e) hT⟩
      · have e81 : ∀ (υ : sp_St), X5_weighFrom_81 n (X5_weighFrom_30 n f) υ (nI O) (nI k) = X5_weighFrom_30 n f υ (nI O) (nI (k + 1)) := fun υ => by rw [X5_weighFrom_81, sp_pl, nI_1]
        have e80 : ∀ (z : Int32), X5_weighFrom_80 n (X5_weighFrom_30 n f) τ (nI O) (nI k) z (nI k) = X5_weighFrom_30 n f (sp_sa τ 62 k z) (nI O) (nI (k + 1)) := fun z => by rw [X5_weighFrom_80, qn_in (by omega) (by omega), sp_ckt, nI_clamp (by omega), sp_pl, e81]
        rw [if_neg (by rw [qn_lt (by omega) (by omega)]; exact e), if_neg (show ¬ (1024 : Int32) ≤ nI k from nI_ge (b := 1024) (by omega) (by omega))]
        by_cases p : Sb k O
        · have hτ := qSC_pk h (qfp_trans g2 (qfp_mono g (by omega) (by omega)))
          have gg : ∀ T, T < k → Sb T O → τ.2.2.1 62 T = nI (τ.2.2.1 62 T).toNatClampNeg ∧ (τ.2.2.1 62 T).toNatClampNeg ≤ 990 ∧ isM (ct 2) sc (ct 0 13) L T (τ.2.2.1 62 T).toNatClampNeg := fun T h1 h2 => by
            obtain ⟨x, x1, x2, x3⟩ := gT T h1 h2
            rw [x2, nI_clamp (by omega)]
            exact ⟨rfl, x1, x3⟩
          have sub : ∀ b, k.testBit b = true → qd k (2 ^ b) < k ∧ Sb (qd k (2 ^ b)) O := fun b hb => ⟨qd_lt1 hb, Sb_trans Sb_qd p⟩
          have step : ∀ v, isM (ct 2) sc (ct 0 13) L k v → ∃ υ, X5_weighFrom_30 n f (sp_sa τ 62 k (nI v)) (nI O) (nI (k + 1)) = some υ ∧ qfp 62 62 τ2 υ ∧ tM υ (ct 2) sc (ct 0 13) L O 1024 := fun v hv => by
            refine ih (k + 1) _ (by omega) (by omega) (qfp_trans g (qfp_sa (by omega) (by omega))) (fun T hT hTO => ?_)
            by_cases eT : T = k
            · subst eT
              exact ⟨v, isM_990 hA hb10 hv, sp_sa_eq, hv⟩
            · rw [sp_sa_nj eT]; exact gT T (by omega) hTO
          obtain ⟨x, x1, x2, x3⟩ := f3 k (by omega) p
          have hpk := isF_pk r99 (by omega) x3
          rw [eR] at hpk
          rw [if_pos (by rw [qn_dif0 (by omega)]; exact p), qn_in (by omega) (by omega), sp_ckt, qn_g (by omega), (g.2.2 61 (by omega)).2, x2]
          by_cases q : 640 ≤ x
          · rw [if_pos (show (640 : Int32) ≤ nI x from nI_le (a := 640) q (by omega)), sq_mwo hτ (by omega) (g := fun T => (τ.2.2.1 62 T).toNatClampNeg) (by omega) (fun b hb hb2 => ⟨(gg _ (sub b hb2).1 (sub b hb2).2).1, (gg _ (sub b hb2).1 (sub b hb2).2).2.1⟩), sp_bd_s, e80]
            exact step _ (isM_s (Nat.lt_of_le_of_lt (Sb_le p) hO) (fun hh => by have := hpk.mpr hh; omega) (fun b hb hb2 => (gg _ (sub b hb2).1 (sub b hb2).2).2.2))
          · rw [if_neg (show ¬ (640 : Int32) ≤ nI x from nI_ge (b := 640) (by omega) (by omega)), sq_angerOf hτ (by omega) (by omega), sp_bd_s, e80]
            exact step _ (isM_pk (hpk.mp (by omega)))
        · rw [if_neg (by rw [qn_dif0 (by omega)]; exact p), e81]
          refine ih (k + 1) τ (by omega) (by omega) g (fun T hT hTO => gT T ?_ hTO)
          have : T ≠ k := fun e => by subst e; exact p hTO
          omega
  obtain ⟨υ, u1, u2, u3⟩ := key n 0 τ2 (by omega) (by omega) (qfp_refl _) (fun T hT => by omega)
  exact ⟨υ, u1, qfp_trans g2 (qfp_mono u2 (by omega) (by omega)), u3⟩
end
