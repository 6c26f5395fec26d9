-- ===== peace, rests =====
/-- a day's fights are at least none -/
theorem qfa_48ge {ct : Nat → Nat → Nat} {sc : Nat → Nat} (h10 : ct 0 13 ≤ 10) : ∀ b, b ≤ ct 0 13 → sc 48 ≤ (qfa ct sc b).1 48 := by
  intro b
  induction b with
  | zero => intro _; exact Nat.le_refl _
  | succ b ih =>
    intro hb
    have := ih (by omega)
    unfold qfa
    cases e : qfoe1 ct (qfa ct sc b).1 (qfa ct sc b).2.1 b with
    | none => exact this
    | some o =>
      show _ ≤ qfig (qfa ct sc b).1 b o 48
      unfold qfig qu
      rw [if_pos rfl]
      omega
section
variable {n j c t : Nat} {σ μ : sp_St} {ct : Nat → Nat → Nat} {cd : List Nat × List Nat} {sc : Nat → Nat} {stk : Nat → List Nat}
theorem qday_48ge (hb10 : ct 0 13 ≤ 10) : sc 48 ≤ qday ct cd sc 48 := by
  unfold qday
  rw [qu_n (by omega)]
  have := qfa_48ge (sc := qd3 ct cd sc) hb10 (ct 0 13) (Nat.le_refl _)
  rw [qd3_k hb10 (by omega)] at this
  exact this
theorem qdn_48 (hb10 : ct 0 13 ≤ 10) : ∀ k, sc 48 ≤ qdn ct cd sc k 48 := by
  intro k
  induction k with
  | zero => exact Nat.le_refl _
  | succ k ih => rw [qdn_s]; exact Nat.le_trans ih (qday_48ge hb10)
def pfn (ct : Nat → Nat → Nat) (cd : List Nat × List Nat) (sc : Nat → Nat) : Option Nat := qf (fun k => decide (sc 48 < qdn ct cd sc k 48)) 60 1
theorem pfn_le {k : Nat} (h : pfn ct cd sc = some k) : 1 ≤ k ∧ k ≤ 60 := by
  have := qf_some h
  omega
theorem sq_dff (h : qSC σ 50 c ct cd sc) (hn : 1000 ≤ n) (hI : qI ct sc) (hD : qcd cd) (h47 : sc 47 ≤ 999) (h24 : σ.2.2.1 24 48 = nI (sc 48)) : sp_wp (X4_dreamFirstFight n σ) (fun r => r.2 = nI ((pfn ct cd sc).getD 61) ∧ qfp 51 56 σ r.1) := by
  have hK := h.2.2.2.2.2.1
  rw [X4_dreamFirstFight, sp_pl]
  refine lp_inv (fun f i s => X4_dreamFirstFight_2 n f s (nI i)) (fun i s => 1 ≤ i ∧ qfp 51 56 σ s ∧ qSC s 50 c ct cd (qdn ct cd sc (i - 1)) ∧ ∀ k, 1 ≤ k → k < i → ¬ sc 48 < qdn ct cd sc k 48) 61 _ (fun f s hJ => ?_) (fun f i s hi hJ kk => ?_) n 1 σ (by omega) (by omega) ⟨by omega, qfp_refl σ, h, fun k h1 h2 => by omega⟩
  · obtain ⟨_, g1, g2, g3⟩ := hJ
    rw [X4_dreamFirstFight_2, if_pos (show (60 : Int32) < nI 61 by decide), X4_dreamFirstFight_30]
    refine wp_some.mpr ⟨?_, g1⟩
    have : pfn ct cd sc = none := qf_no fun m h1 h2 => by rw [decide_eq_false_iff_not]; exact g3 m h1 (by omega)
    rw [this]
    rfl
  · obtain ⟨i1, g1, g2, g3⟩ := hJ
    have hq := qdn_I (cd := cd) hK hI (i - 1)
    have hq2 := qdn_I (cd := cd) hK hI i
    have ei : qday ct cd (qdn ct cd sc (i - 1)) = qdn ct cd sc i := by
      rw [← qdn_s, show i - 1 + 1 = i by omega]
    have h48 := hq2.1.2.2.2.2.2.2.2.2.2
    have hge := qdn_48 (cd := cd) (sc := sc) hK.1 i
    rw [X4_dreamFirstFight_2, if_neg (show ¬ (60 : Int32) < nI i from fun h => by
      have := (nI_ltI (a := 60) (b := i) (by omega) (by omega)).mp h
      omega)]
    refine wp_bv (wp_mono (sq_day g2 hn hq.1 hD (by omega)) ?_)
    rintro υ ⟨r1, r2, _⟩
    rw [ei] at r1
    have e1 : sp_g υ 51 (48 : Int32) = nI (qdn ct cd sc i 48) := r1.2.2.2.2.1 48 (by omega)
    have e2 : sp_g υ 24 (48 : Int32) = nI (sc 48) := by
      show υ.2.2.1 24 48 = _
      rw [(r2.2.2 24 (by omega)).2, (g1.2.2 24 (by omega)).2]; exact h24
    have gg : qfp 51 56 σ υ := qfp_trans g1 r2
    rw [X4_fightsDreamt, sp_bd_s, e1, e2, pk_sub hge]
    by_cases p : sc 48 < qdn ct cd sc i 48
    · rw [if_neg (show ¬ nI (qdn ct cd sc i 48 - sc 48) ≤ 0 from fun h => by
        have := (nI_leI (a := qdn ct cd sc i 48 - sc 48) (b := 0) (by omega) (by omega)).mp h
        omega), X4_dreamFirstFight_22]
      refine wp_some.mpr ⟨?_, gg⟩
      have : pfn ct cd sc = some i := qf_is (by omega) (by omega) (by rw [decide_eq_true_iff]; exact p) (fun m h1 h2 => by rw [decide_eq_false_iff_not]; exact g3 m h1 h2)
      rw [this]
      rfl
    · rw [if_pos (show nI (qdn ct cd sc i 48 - sc 48) ≤ 0 from (nI_leI (a := qdn ct cd sc i 48 - sc 48) (b := 0) (by omega) (by omega)).mpr (by omega)), sp_pl, nI_1]
      refine kk υ ⟨by omega, gg, by rw [Nat.add_sub_cancel]; exact r1, fun k h1 h2 => ?_⟩
      by_cases ek : k = i
      · subst ek; exact p
      · exact g3 k h1 (by omega)
/-- the reference asks when a fight is first, and all is as it was -/
def mP (μ ν : sp_St) : Prop := (∀ x, x < 88 → rowOf ν x = rowOf μ x) ∧ (∀ p, p < 14 ∨ p = 20 ∨ p = 25 ∨ 27 ≤ p → ν.2.2.1 p = μ.2.2.1 p) ∧ ∀ k, k ≠ 33 → k ≠ 34 → ν.1 0 k = μ.1 0 k
theorem mP_w {μ ν : sp_St} (h : mP μ ν) : mw μ ν := ⟨h.1, fun p hp => h.2.1 p (by omega), fun k hk => h.2.2 k (by omega) (by omega)⟩
theorem rq_peaceOf (h : mSC μ ct cd sc stk) (hn : 1000 ≤ n) (hI : qI ct sc) (hD : qcd cd) (h47 : sc 47 ≤ 999) : sp_wp (X12_peaceOf n μ) (fun r => r.2 = nI ((pfn ct cd sc).getD 1000) ∧ mP μ r.1) := by
  have hK := h.2.2.2.1
  have hn1 : 100 ≤ n := by omega
  obtain ⟨ν, b1, b2, b3, b4, b5⟩ := md_start h hn1 (p := 26) (by omega) (by omega)
  rw [X12_peaceOf, b1, sp_bv_s, sp_pl, sp_pl, sp_pl, b5, h.2.1.2.1]
  have fin : ∀ (s : sp_St) (v : Int32), mD 26 μ s → (∀ p, p < 14 ∨ p = 20 ∨ p = 25 ∨ 27 ≤ p → s.2.2.1 p = μ.2.2.1 p) → (∀ k, k ≠ 33 → k ≠ 34 → s.1 0 k = μ.1 0 k) → v = nI ((pfn ct cd sc).getD 1000) → sp_wp (X12_peaceOf_53 n s v) (fun r => r.2 = nI ((pfn ct cd sc).getD 1000) ∧ mP μ r.1) := by
    intro s v d1 d2 d3 hv
    obtain ⟨ν3, u1, u2, u3, u4⟩ := md_end d1 hn1 (by omega)
    rw [X12_peaceOf_53, u1, sp_bv_s]
    exact wp_some.mpr ⟨hv, u2.1, fun p hp => by rw [u3 p (by omega)]; exact d2 p hp, fun k h1 h2 => by rw [u4 k h1 h2]; exact d3 k h1 h2⟩
  refine lp_inv (fun f i (S : sp_St × Option Nat) => X12_peaceOf_20 n f S.1 (nI (sc 48)) (nI (S.2.getD 1000)) (nI i)) (fun i S => 1 ≤ i ∧ mD 26 μ S.1 ∧ (∀ p, p < 14 ∨ p = 20 ∨ p = 25 ∨ 27 ≤ p → S.1.2.2.1 p = μ.2.2.1 p) ∧ (∀ k, k ≠ 33 → k ≠ 34 → S.1.1 0 k = μ.1 0 k) ∧ match S.2 with
      | none => (∃ stk', mSC S.1 ct cd (qdn ct cd sc (i - 1)) stk') ∧ ∀ k, 1 ≤ k → k < i → ¬ sc 48 < qdn ct cd sc k 48
      | some k => pfn ct cd sc = some k) 61 _ (fun f S hJ => ?_) (fun f i S hi hJ kk => ?_) n 1 (ν, none) (by omega) (by omega) ⟨by omega, b2, fun p hp => b4 p (by omega), fun k _ _ => by rw [b5], ⟨stk, b3⟩, fun k h1 h2 => by omega⟩
  · obtain ⟨s, o⟩ := S
    obtain ⟨_, g1, g2, g3, g4⟩ := hJ
    dsimp only at g1 g2 g3 g4 ⊢
    rw [X12_peaceOf_20, if_pos (show (60 : Int32) < nI 61 by decide)]
    refine fin s _ g1 g2 g3 ?_
    cases o with
    | none =>
      have : pfn ct cd sc = none := qf_no fun m h1 h2 => by rw [decide_eq_false_iff_not]; exact g4.2 m h1 (by omega)
      rw [this]
    | some k =>
      have g4' : pfn ct cd sc = some k := g4
      rw [g4']
  · obtain ⟨s, o⟩ := S
    obtain ⟨i1, g1, g2, g3, g4⟩ := hJ
    dsimp only at g1 g2 g3 g4 ⊢
    rw [X12_peaceOf_20, if_neg (show ¬ (60 : Int32) < nI i from fun h => by
      have := (nI_ltI (a := 60) (b := i) (by omega) (by omega)).mp h
      omega)]
    cases o with
    | some k =>
      have g4' : pfn ct cd sc = some k := g4
      have := pfn_le g4'
      rw [if_neg (show ¬ nI ((some k).getD 1000) = 1000 from by
        show ¬ nI k = nI 1000
        rw [qn_eq (by omega) (by omega)]
        omega)]
      exact fin s _ g1 g2 g3 (by rw [g4'])
    | none =>
      obtain ⟨⟨stk', g5⟩, g6⟩ := g4
      have hq := qdn_I (cd := cd) hK hI (i - 1)
      have hq2 := qdn_I (cd := cd) hK hI i
      have ei : qday ct cd (qdn ct cd sc (i - 1)) = qdn ct cd sc i := by
        rw [← qdn_s, show i - 1 + 1 = i by omega]
      have h48 := hq2.1.2.2.2.2.2.2.2.2.2
      rw [if_pos (show nI (Option.getD none 1000) = 1000 from rfl)]
      refine wp_bv (wp_mono (rq_day g5 hn hq.1 hD (by omega)) ?_)
      rintro υ ⟨⟨stk2, r1⟩, r2, _⟩
      rw [ei] at r1
      have d1 := mD_fd (by omega) g1 r2
      have d2 : ∀ p, p < 14 ∨ p = 20 ∨ p = 25 ∨ 27 ≤ p → υ.2.2.1 p = μ.2.2.1 p := fun p hp => by rw [r2.2.1 p (by omega)]; exact g2 p hp
      have d3 : ∀ k, k ≠ 33 → k ≠ 34 → υ.1 0 k = μ.1 0 k := fun k h1 h2 => by rw [r2.2.2 k h1 h2]; exact g3 k h1 h2
      have h0 := hI.2.2.2.2.2.2.2.2.2
      rw [r1.2.1.2.1]
      by_cases p : sc 48 < qdn ct cd sc i 48
      · rw [if_neg (nI_ge p (by omega)), X12_peaceOf_47, sp_pl, nI_1]
        refine kk (υ, some i) ⟨by omega, d1, d2, d3, ?_⟩
        exact qf_is (by omega) (by omega) (by rw [decide_eq_true_iff]; exact p) (fun m h1 h2 => by rw [decide_eq_false_iff_not]; exact g6 m h1 h2)
      · rw [if_pos ((nI_leI (by omega) (by omega)).mpr (by omega)), X12_peaceOf_47, sp_pl, nI_1]
        refine kk (υ, none) ⟨by omega, d1, d2, d3, ⟨stk2, by rw [Nat.add_sub_cancel]; exact r1⟩, fun k h1 h2 => ?_⟩
        by_cases ek : k = i
        · subst ek; exact p
        · exact g6 k h1 (by omega)
end
section
variable {n j : Nat} {σ μ : sp_St}
theorem op_peace (hn : 5000 ≤ n) (h : Inv j σ μ) : agi j (X11_peace n σ) (X12_peace n μ) := by
  obtain ⟨c, ct, cd, sc, stk, hI, h3, hS, hM, hG, hD, hc⟩ := Inv_now h
  rw [X12_peace, sp_pl, X11_peace]
  generalize sp_si μ 0 3 0 = μ1 at *
  obtain ⟨τ, a1, a2, a3, a4, _⟩ := sq_dream hS (by omega : 100 ≤ n)
  obtain ⟨⟨τ2, r⟩, b1, b2, b3⟩ := sq_dff a3 (by omega : 1000 ≤ n) hG.1 hD hG.2.2.2.1 (by rw [(a2 24 (by omega)).2.2]; exact hS.2.2.2.2.1 48 (by omega))
  obtain ⟨⟨ν, v⟩, d1, d2, d3⟩ := rq_peaceOf hM (by omega : 1000 ≤ n) hG.1 hD hG.2.2.2.1
  dsimp only at b2 b3 d2 d3
  have hf : X4_firstFight n σ = some (τ2, if r = 61 then -1 else r) := by
    rw [X4_firstFight, a1, sp_bv_s, b1, sp_bd_s, sp_pl]
  rw [hf, sp_bd_s, d1, sp_bd_s, sp_pl]
  refine ⟨τ2, ν, _, rfl, ?_, Inv_w hI (cD_q (cD_trans a2 (cD_fp b3 (by omega)))) (mP_w d3)⟩
  rw [b2, d2]
  cases e : pfn ct cd sc with
  | none => rfl
  | some k =>
    have := pfn_le e
    rw [if_neg (show ¬ nI ((some k).getD 1000) = 1000 from by show ¬ nI k = nI 1000; rw [qn_eq (by omega) (by omega)]; omega), if_neg (show ¬ nI ((some k).getD 61) = 61 from by show ¬ nI k = nI 61; rw [qn_eq (by omega) (by omega)]; omega)]
    rfl
end
