-- ===== what was seen: does it fit =====
/-- one of the first i that are seen is for this day, and isn't so -/
def bdS (sb sd sa : Nat → Nat) (sc : Nat → Nat) (d : Nat) : Nat → Bool
  | 0 => false
  | i + 1 => bdS sb sd sa sc d i || (decide (sd i = d) && !decide (sc (sb i) = sa i))
def ldS (sd : Nat → Nat) : Nat → Nat
  | 0 => 0
  | i + 1 => max (ldS sd i) (sd i + 1)
def fitO (ct : Nat → Nat → Nat) (cd : List Nat × List Nat) (s : Nat) (sb sd sa : Nat → Nat) (sc : Nat → Nat) : Option Nat := qf (fun d => bdS sb sd sa (qdn ct cd sc d) d s) (ldS sd s) 0
def fitB (ct : Nat → Nat → Nat) (cd : List Nat × List Nat) (s : Nat) (sb sd sa : Nat → Nat) (sc : Nat → Nat) : Bool := (fitO ct cd s sb sd sa sc).isNone
theorem ldS_le {sd : Nat → Nat} {s : Nat} (h : ∀ i, i < s → sd i ≤ 30) : ∀ i, i ≤ s → ldS sd i ≤ 31 := by
  intro i
  induction i with
  | zero => intro _; exact Nat.zero_le _
  | succ i ih =>
    intro hi
    have h1 := ih (by omega)
    have h2 := h i (by omega)
    show max (ldS sd i) (sd i + 1) ≤ 31
    omega
theorem mx_ld {a d : Nat} (ha : a < 100) (hd : d < 100) : sp_max (nI a - 1) (nI d) = nI (max a (d + 1)) - 1 := by
  rw [show nI (max a (d + 1)) - 1 = nI (max a (d + 1) - 1) from pk_sub (b := 1) (by omega)]
  by_cases h : a = 0
  · subst h
    have e : sp_max (nI 0 - 1) (nI d) = nI d := by
      unfold sp_max
      rw [if_pos]
      have h5 : ((-nI 1 : Int32) < nI d) = True := qn_ltm (by omega)
      have : (-nI 1 : Int32) < nI d := by rw [h5]; trivial
      exact this
    rw [e]
    congr 1
    try omega
  · rw [show nI a - 1 = nI (a - 1) from pk_sub (b := 1) (by omega), qn_max (by omega) (by omega)]
    congr 1
    try omega
theorem lt_ld {a d : Nat} (ha : a < 100) (hd : d < 1000) : (nI a - 1 < nI d) ↔ a ≤ d := by
  by_cases h : a = 0
  · subst h
    have h5 : ((-nI 1 : Int32) < nI d) = True := qn_ltm (by omega)
    have : (-nI 1 : Int32) < nI d := by rw [h5]; trivial
    exact ⟨fun _ => by omega, fun _ => this⟩
  · rw [show nI a - 1 = nI (a - 1) from pk_sub (b := 1) (by omega), nI_ltI (by omega) (by omega)]
    omega
section
variable {n j c t s : Nat} {σ μ : sp_St} {ct : Nat → Nat → Nat} {cd : List Nat × List Nat} {sc : Nat → Nat} {stk : Nat → List Nat} {sb sd sa : Nat → Nat}
/-- what is seen, in the class -/
def cS (σ : sp_St) (ct : Nat → Nat → Nat) (s : Nat) (sb sd sa : Nat → Nat) : Prop := s ≤ 8 ∧ σ.1 30 3 = nI s ∧ ∀ i, i < s → σ.2.2.1 31 i = nI (sb i) ∧ σ.2.2.1 32 i = nI (sd i) ∧ σ.2.2.1 33 i = nI (sa i) ∧ sb i < ct 0 13 ∧ sd i ≤ 30 ∧ sa i ≤ 99
def mS (μ : sp_St) (ct : Nat → Nat → Nat) (s : Nat) (sb sd sa : Nat → Nat) : Prop := s ≤ 8 ∧ μ.1 0 36 = nI s ∧ ∀ i, i < s → μ.2.2.1 29 i = nI (sb i) ∧ μ.2.2.1 30 i = nI (sd i) ∧ μ.2.2.1 31 i = nI (sa i) ∧ sb i < ct 0 13 ∧ sd i ≤ 30 ∧ sa i ≤ 99
theorem cS_D {τ : sp_St} (h : cS σ ct s sb sd sa) (g : cD σ τ) : cS τ ct s sb sd sa := by
  unfold cS at *
  rw [(g 30 (by omega)).1, (g 31 (by omega)).2.2, (g 32 (by omega)).2.2, (g 33 (by omega)).2.2]
  exact h
theorem sq_lastDay (h : cS σ ct s sb sd sa) (hn : 100 ≤ n) : X9_lastDay n σ 30 = some (σ, nI (ldS sd s) - 1) := by
  obtain ⟨h1, h2, h3⟩ := h
  have hl := ldS_le (sd := sd) (s := s) (fun i hi => (h3 i hi).2.2.2.2.1)
  rw [X9_lastDay, sp_pl, sp_pl]
  refine lp_up (fun f i => X9_lastDay_4 n 30 f σ (nI (ldS sd i) - 1) (nI i)) s _ (fun f => ?_) (fun f i hi => ?_) n 0 (by omega) (by omega)
  · rw [X9_lastDay_4, h2, if_pos (Int32.le_refl _), X9_lastDay_29]
  · have g1 : sp_g σ (30 + 2) (nI i) = nI (sd i) := by rw [qn_g (by omega)]; exact (h3 i hi).2.1
    have h4 := (h3 i hi).2.2.2.2.1
    have h5 := hl i (by omega)
    rw [X9_lastDay_4, h2, if_neg (nI_ge hi (by omega)), qn_in (by omega) (by omega), sp_ckt, g1, sp_pl, sp_pl, nI_1, mx_ld (by omega) (by omega)]
    rfl
theorem sq_fitsOn (h : cS σ ct s sb sd sa) (hS : qSC σ 50 c ct cd sc) (hn : 100 ≤ n) {d : Nat} (hd : d < 100) : X3_dreamFitsOn n σ (nI d) = some (σ, if bdS sb sd sa sc d s then nI 0 else nI 1) := by
  obtain ⟨h1, h2, h3⟩ := h
  have hb10 := hS.2.2.2.2.2.1.1
  have key : ∀ f i, i ≤ s → s - i < f → bdS sb sd sa sc d i = false → X3_dreamFitsOn_2 n f σ (nI d) (nI i) = some (σ, if bdS sb sd sa sc d s then nI 0 else nI 1) := by
    intro f
    induction f with
    | zero => intro i _ hf; omega
    | succ f ih =>
      intro i hi hf hb
      by_cases e : i = s
      · subst e
        rw [X3_dreamFitsOn_2, h2, if_pos (Int32.le_refl _), X3_dreamFitsOn_63, hb]
        rfl
      · obtain ⟨q1, q2, q3, q4, q5, q6⟩ := h3 i (by omega)
        have hB := hS.2.2.2.2.2.2 (sb i)
        have g31 : sp_g σ 31 (nI i) = nI (sb i) := by rw [qn_g (by omega)]; exact q1
        have g32 : sp_g σ 32 (nI i) = nI (sd i) := by rw [qn_g (by omega)]; exact q2
        have g33 : sp_g σ 33 (nI i) = nI (sa i) := by rw [qn_g (by omega)]; exact q3
        have g51 : sp_g σ 51 (nI (sb i)) = nI (sc (sb i)) := by rw [qn_g (by omega)]; exact hS.2.2.2.2.1 (sb i) (by omega)
        have w8 : sp_in (nI i) 8 = true := qn_in (by omega) (by omega)
        have e57 : X3_dreamFitsOn_57 n (X3_dreamFitsOn_2 n f) σ (nI d) (nI i) = X3_dreamFitsOn_2 n f σ (nI d) (nI (i + 1)) := by rw [X3_dreamFitsOn_57, sp_pl, nI_1]
        rw [X3_dreamFitsOn_2, h2, if_neg (nI_ge (show i < s by omega) (by omega)), w8, sp_ckt, sp_ckt, sp_ckt, g32, g31, qn_in (by omega) (by omega), sp_ckt, g51, g33, e57]
        by_cases p : sd i = d
        · rw [if_pos (by rw [p])]
          by_cases q : sc (sb i) = sa i
          · rw [if_pos (by rw [q])]
            exact ih (i + 1) (by omega) (by omega) (by show (bdS sb sd sa sc d i || _) = false; rw [hb]; simp [q])
          · rw [if_neg (show ¬ nI (sc (sb i)) = nI (sa i) by rw [qn_eq (by omega) (by omega)]; exact q), X3_dreamFitsOn_55]
            have hbs : bdS sb sd sa sc d s = true := by
              have hm : ∀ k, i < k → k ≤ s → bdS sb sd sa sc d k = true := by
                intro k
                induction k with
                | zero => intro h; omega
                | succ k ihk =>
                  intro h1 h2
                  show (bdS sb sd sa sc d k || _) = true
                  by_cases ek : k = i
                  · subst ek; simp [p, q]
                  · rw [ihk (by omega) (by omega)]; rfl
              exact hm s (by omega) (Nat.le_refl _)
            rw [hbs]
            rfl
        · rw [if_neg (show ¬ nI (sd i) = nI d by rw [qn_eq (by omega) (by omega)]; exact p)]
          exact ih (i + 1) (by omega) (by omega) (by show (bdS sb sd sa sc d i || _) = false; rw [hb]; simp [p])
  rw [X3_dreamFitsOn, sp_pl]
  exact key n 0 (by omega) (by omega) rfl
theorem sq_fits26 (h : cS σ ct s sb sd sa) (hS : qSC σ 50 c ct cd sc) (hn : 1000 ≤ n) (hI : qI ct sc) (hD : qcd cd) (h47 : sc 47 ≤ 999) : sp_wp (X3_fits_26 n σ) (fun r => r.2 = (if fitB ct cd s sb sd sa sc then nI 1 else nI 0) ∧ qfp 51 56 σ r.1) := by
  have hK := hS.2.2.2.2.2.1
  have hn1 : 100 ≤ n := by omega
  have hl := ldS_le (sd := sd) (s := s) (fun i hi => (h.2.2 i hi).2.2.2.2.1) s (Nat.le_refl _)
  rw [X3_fits_26, sq_lastDay h hn1, sp_bd_s, sp_pl]
  refine lp_inv (fun f i u => X3_fits_37 n f u (nI (ldS sd s) - 1) (nI i)) (fun i u => qfp 51 56 σ u ∧ qSC u 50 c ct cd (qdn ct cd sc (i - 1)) ∧ ∀ k, k < i → bdS sb sd sa (qdn ct cd sc k) k s = false) (ldS sd s) _ (fun f u hJ => ?_) (fun f i u hi hJ kk => ?_) n 0 σ (by omega) (by omega) ⟨qfp_refl σ, hS, fun k hk => by omega⟩
  · obtain ⟨g1, g2, g3⟩ := hJ
    rw [X3_fits_37, if_pos ((lt_ld (by omega) (by omega)).mpr (Nat.le_refl _)), X3_fits_72]
    refine wp_some.mpr ⟨?_, g1⟩
    have : fitO ct cd s sb sd sa sc = none := qf_no fun k h1 h2 => g3 k (by omega)
    rw [fitB, this]
    rfl
  · obtain ⟨g1, g2, g3⟩ := hJ
    have step : ∀ v, qfp 51 56 σ v → qSC v 50 c ct cd (qdn ct cd sc i) → sp_wp (X3_fits_55 n (X3_fits_37 n f) v (nI (ldS sd s) - 1) (nI i)) (fun r => r.2 = (if fitB ct cd s sb sd sa sc then nI 1 else nI 0) ∧ qfp 51 56 σ r.1) := by
      intro v v1 v2
      rw [X3_fits_55, sq_fitsOn (cS_D h (cD_fp v1 (by omega))) v2 hn1 (by omega), sp_bd_s]
      cases e : bdS sb sd sa (qdn ct cd sc i) i s with
      | true =>
        rw [show (if true = true then nI 0 else nI 1) = nI 0 from rfl, if_pos n00, X3_fits_64]
        refine wp_some.mpr ⟨?_, v1⟩
        have : fitO ct cd s sb sd sa sc = some i := qf_is (by omega) (by omega) e (fun m h1 h2 => g3 m h2)
        rw [fitB, this]
        rfl
      | false =>
        rw [show (if false = true then nI 0 else nI 1) = nI 1 from rfl, if_neg n10, sp_pl, nI_1]
        refine kk v ⟨v1, by rw [Nat.add_sub_cancel]; exact v2, fun k hk => ?_⟩
        by_cases ek : k = i
        · subst ek; exact e
        · exact g3 k (by omega)
    rw [X3_fits_37, if_neg (fun hh => by have := (lt_ld (by omega) (by omega)).mp hh; omega)]
    by_cases i0 : i = 0
    · subst i0
      rw [if_pos (show nI 0 ≤ 0 by decide)]
      exact step u g1 g2
    · have hq := qdn_I (cd := cd) hK hI (i - 1)
      rw [if_neg (show ¬ nI i ≤ 0 from by show ¬ nI i ≤ nI 0; rw [qn_le (by omega) (by omega)]; omega)]
      refine wp_bv (wp_mono (sq_day g2 hn hq.1 hD (by omega)) ?_)
      rintro v ⟨r1, r2, _⟩
      rw [← qdn_s, show i - 1 + 1 = i by omega] at r1
      exact step v (qfp_trans g1 r2) r1
theorem rq_asSeen (h : mS μ ct s sb sd sa) (hM : mSC μ ct cd sc stk) (hn : 1000 ≤ n) (hI : qI ct sc) (hD : qcd cd) (h47 : sc 47 ≤ 999) : sp_wp (X12_isAsSeen n μ) (fun r => r.2 = (if fitB ct cd s sb sd sa sc then nI 1 else nI 0) ∧ mw μ r.1 ∧ (∀ p, p = 25 ∨ p = 33 ∨ p = 34 → r.1.2.2.1 p = μ.2.2.1 p) ∧ r.1.1 0 51 = μ.1 0 51) := by
  have hK := hM.2.2.2.1
  have hb10 := hK.1
  have hn1 : 100 ≤ n := by omega
  obtain ⟨h1, h2, h3⟩ := h
  have hl := ldS_le (sd := sd) (s := s) (fun i hi => (h3 i hi).2.2.2.2.1)
  have hls := hl s (Nat.le_refl _)
  rw [X12_isAsSeen, sp_pl, sp_pl]
  have k1 : X12_isAsSeen_4 n n μ (-1) 0 = X12_isAsSeen_29 n μ (nI (ldS sd s) - 1) := by
    refine lp_up (fun f i => X12_isAsSeen_4 n f μ (nI (ldS sd i) - 1) (nI i)) s _ (fun f => ?_) (fun f i hi => ?_) n 0 (by omega) (by omega)
    · rw [X12_isAsSeen_4, h2, if_pos (Int32.le_refl _)]
    · have g1 : sp_g μ 30 (nI i) = nI (sd i) := by rw [qn_g (by omega)]; exact (h3 i hi).2.1
      have h4 := (h3 i hi).2.2.2.2.1
      have h5 := hl i (by omega)
      rw [X12_isAsSeen_4, h2, if_neg (nI_ge hi (by omega)), qn_in (by omega) (by omega), sp_ckt, g1, sp_pl, sp_pl, nI_1, mx_ld (by omega) (by omega)]
      rfl
  rw [k1, X12_isAsSeen_29]
  obtain ⟨ν, b1, b2, b3, b4, b5⟩ := md_start hM hn1 (p := 32) (by omega) (by omega)
  rw [b1, sp_bv_s, sp_pl, sp_pl]
  have fin : ∀ (u : sp_St) (v : Bool), mD 32 μ u → (∀ p, p = 25 ∨ p = 33 ∨ p = 34 → u.2.2.1 p = μ.2.2.1 p) → u.1 0 51 = μ.1 0 51 → v = fitB ct cd s sb sd sa sc → sp_wp (X12_isAsSeen_122 n u (if v then nI 1 else nI 0)) (fun r => r.2 = (if fitB ct cd s sb sd sa sc then nI 1 else nI 0) ∧ mw μ r.1 ∧ (∀ p, p = 25 ∨ p = 33 ∨ p = 34 → r.1.2.2.1 p = μ.2.2.1 p) ∧ r.1.1 0 51 = μ.1 0 51) := by
    intro u v d1 d2 d3 hv
    obtain ⟨ν3, u1, u2, u3, u4⟩ := md_end d1 hn1 (by omega)
    have hz : sp_zb (if v then nI 1 else nI 0) = true := by cases v <;> rfl
    rw [X12_isAsSeen_122, u1, sp_bv_s, hz, sp_ckt, hv]
    exact wp_some.mpr ⟨rfl, u2, fun p hp => by rw [u3 p (by omega)]; exact d2 p hp, by rw [u4 51 (by omega) (by omega)]; exact d3⟩
  refine lp_inv (fun f i (S : sp_St × Bool) => X12_isAsSeen_42 n f S.1 (nI (ldS sd s) - 1) (if S.2 then nI 1 else nI 0) (nI i)) (fun i S => mD 32 μ S.1 ∧ (∀ p, p = 25 ∨ p = 33 ∨ p = 34 → S.1.2.2.1 p = μ.2.2.1 p) ∧ S.1.1 0 51 = μ.1 0 51 ∧ (∃ stk', mSC S.1 ct cd (qdn ct cd sc i) stk') ∧ match S.2 with
      | true => ∀ k, k < i → bdS sb sd sa (qdn ct cd sc k) k s = false
      | false => fitB ct cd s sb sd sa sc = false) (ldS sd s) _ (fun f S hJ => ?_) (fun f i S hi hJ kk => ?_) n 0 (ν, true) (by omega) (by omega) ⟨b2, fun p hp => b4 p (by omega), by rw [b5], ⟨stk, b3⟩, fun k hk => by omega⟩
  · obtain ⟨u, v⟩ := S
    obtain ⟨g1, g2, g3, _, g5⟩ := hJ
    dsimp only at g1 g2 g3 g5 ⊢
    rw [X12_isAsSeen_42, if_pos ((lt_ld (by omega) (by omega)).mpr (Nat.le_refl _))]
    refine fin u v g1 g2 g3 ?_
    cases v with
    | true =>
      have : fitO ct cd s sb sd sa sc = none := qf_no fun k h1 h2 => g5 k (by omega)
      rw [fitB, this]
      rfl
    | false => exact g5.symm
  · obtain ⟨u, v⟩ := S
    obtain ⟨g1, g2, g3, ⟨stk', g4⟩, g5⟩ := hJ
    dsimp only at g1 g2 g3 g4 g5 ⊢
    rw [X12_isAsSeen_42, if_neg (fun hh => by have := (lt_ld (by omega) (by omega)).mp hh; omega)]
    cases v with
    | false =>
      rw [show (if false = true then nI 1 else nI 0) = nI 0 from rfl, if_pos n00]
      exact fin u false g1 g2 g3 (by have g5' : fitB ct cd s sb sd sa sc = false := g5; exact g5'.symm)
    | true =>
      have hq := qdn_I (cd := cd) hK hI i
      have i36 : u.1 0 36 = nI s := by rw [g1.2.2 36 (by omega)]; exact h2
      have u29 : u.2.2.1 29 = μ.2.2.1 29 := g1.2.1 29 (by omega)
      have u30 : u.2.2.1 30 = μ.2.2.1 30 := g1.2.1 30 (by omega)
      have u31 : u.2.2.1 31 = μ.2.2.1 31 := g1.2.1 31 (by omega)
      have inner : X12_isAsSeen_54 n (X12_isAsSeen_42 n f) n u (nI (ldS sd s) - 1) (nI 1) (nI i) 0 = X12_isAsSeen_112 n (X12_isAsSeen_42 n f) u (nI (ldS sd s) - 1) (if bdS sb sd sa (qdn ct cd sc i) i s then nI 0 else nI 1) (nI i) := by
        refine lp_up (fun f2 q => X12_isAsSeen_54 n (X12_isAsSeen_42 n f) f2 u (nI (ldS sd s) - 1) (if bdS sb sd sa (qdn ct cd sc i) i q then nI 0 else nI 1) (nI i) (nI q)) s _ (fun f2 => ?_) (fun f2 q hq2 => ?_) n 0 (by omega) (by omega)
        · rw [X12_isAsSeen_54, i36, if_pos (Int32.le_refl _)]
        · obtain ⟨q1, q2, q3, q4, q5, q6⟩ := h3 q hq2
          have hB := g4.2.2.2.2.1 (sb q)
          have g29 : sp_g u 29 (nI q) = nI (sb q) := by rw [qn_g (by omega), u29]; exact q1
          have g30 : sp_g u 30 (nI q) = nI (sd q) := by rw [qn_g (by omega), u30]; exact q2
          have g31 : sp_g u 31 (nI q) = nI (sa q) := by rw [qn_g (by omega), u31]; exact q3
          have g14 : sp_g u 14 (nI (sb q)) = nI (qdn ct cd sc i (sb q)) := by rw [qn_g (by omega)]; exact g4.2.1.2.2.1 (sb q) q4
          have w8 : sp_in (nI q) 8 = true := qn_in (by omega) (by omega)
          have e105 : ∀ x, X12_isAsSeen_105 n (X12_isAsSeen_42 n f) (X12_isAsSeen_54 n (X12_isAsSeen_42 n f) f2) u (nI (ldS sd s) - 1) (nI i) (nI q) x = X12_isAsSeen_54 n (X12_isAsSeen_42 n f) f2 u (nI (ldS sd s) - 1) x (nI i) (nI (q + 1)) := fun x => by rw [X12_isAsSeen_105, sp_pl, nI_1]
          rw [X12_isAsSeen_54, i36, if_neg (nI_ge hq2 (by omega)), w8, sp_ckt, sp_ckt, sp_ckt, g30, g29, qn_in (by omega) (by omega), sp_ckt, g14, g31, X12_isAsSeen_104, X12_isAsSeen_100, e105, e105]
          show _ = X12_isAsSeen_54 n (X12_isAsSeen_42 n f) f2 u (nI (ldS sd s) - 1) (if (bdS sb sd sa (qdn ct cd sc i) i q || (decide (sd q = i) && !decide (qdn ct cd sc i (sb q) = sa q))) then nI 0 else nI 1) (nI i) (nI (q + 1))
          cases e : bdS sb sd sa (qdn ct cd sc i) i q with
          | true => rw [show (if true = true then nI 0 else nI 1) = nI 0 from rfl, if_pos n00]; rfl
          | false =>
            rw [show (if false = true then nI 0 else nI 1) = nI 1 from rfl, if_neg n10, Bool.false_or]
            by_cases p : sd q = i
            · rw [if_pos (by rw [p])]
              by_cases p2 : qdn ct cd sc i (sb q) = sa q
              · rw [if_pos (by rw [p2]), decide_eq_true p2]; simp; rfl
              · rw [if_neg (show ¬ nI (qdn ct cd sc i (sb q)) = nI (sa q) by rw [qn_eq (by omega) (by omega)]; exact p2), decide_eq_true p, decide_eq_false p2]; rfl
            · rw [if_neg (show ¬ nI (sd q) = nI i by rw [qn_eq (by omega) (by omega)]; exact p), decide_eq_false p]; rfl
      rw [show (if true = true then nI 1 else nI 0) = nI 1 from rfl, if_neg n10, sp_pl, inner, X12_isAsSeen_112]
      refine wp_bv (wp_mono (rq_day g4 hn hq.1 hD (by omega)) ?_)
      rintro w ⟨r1, r2, _⟩
      rw [sp_pl, nI_1]
      have d1 := mD_fd (by omega) g1 r2
      have d2 : ∀ p, p = 25 ∨ p = 33 ∨ p = 34 → w.2.2.1 p = μ.2.2.1 p := fun p hp => by rw [r2.2.1 p (by omega)]; exact g2 p hp
      have d3 : w.1 0 51 = μ.1 0 51 := by rw [r2.2.2 51 (by omega) (by omega)]; exact g3
      have g5' : ∀ k, k < i → bdS sb sd sa (qdn ct cd sc k) k s = false := g5
      cases e : bdS sb sd sa (qdn ct cd sc i) i s with
      | true =>
        refine kk (w, false) ⟨d1, d2, d3, r1, ?_⟩
        have : fitO ct cd s sb sd sa sc = some i := qf_is (by omega) (by omega) e (fun m h1 h2 => g5' m h2)
        show fitB ct cd s sb sd sa sc = false
        rw [fitB, this]
        rfl
      | false =>
        refine kk (w, true) ⟨d1, d2, d3, r1, fun k hk => ?_⟩
        by_cases ek : k = i
        · subst ek; exact e
        · exact g5' k (by omega)
end
