-- ===== A DAY OF THE REFERENCE: all of it =====
section
variable {μ : sp_St} {n : Nat} {ct : Nat → Nat → Nat} {cd : List Nat × List Nat} {sc : Nat → Nat} {stk : Nat → List Nat}
theorem mfstate_24 {a o h : Nat} : (mfstate μ ct sc a o).2.2.1 24 h = μ.2.2.1 24 h + nI ((if h = ct 1 a then 1 else 0) + if h = ct 1 o then 1 else 0) := by
  have q3 : ∀ p j, p ≠ 14 → (sp_si (sp_sa (sp_sa μ 14 a (nI (sc a / 2))) 14 o (nI (sc o / 2))) 0 34 (nI (sc 48 + 1))).2.2.1 p j = μ.2.2.1 p j := fun p j hp => by
    show (sp_sa (sp_sa μ 14 a (nI (sc a / 2))) 14 o (nI (sc o / 2))).2.2.1 p j = _
    rw [sp_sa_np hp, sp_sa_np hp]
  unfold mfstate
  by_cases u1 : h = ct 1 o
  · subst u1
    rw [sp_sa_eq, if_pos rfl]
    by_cases u2 : ct 1 o = ct 1 a
    · rw [if_pos u2, if_pos u2, Int32.add_assoc, nI_add, u2]
    · rw [if_neg u2, if_neg u2]
  · rw [sp_sa_nj u1, if_neg u1]
    by_cases u2 : h = ct 1 a
    · rw [u2, sp_sa_eq, if_pos rfl]
    · rw [sp_sa_nj u2, q3 _ _ (by omega), if_neg u2]
      exact (Int32.add_zero _).symm
theorem mfstate_fd {a o : Nat} : mfd μ (mfstate μ ct sc a o) := mfd_trans (mfd_trans (mfd_trans (mfd_trans (mfd_sa (by omega) (by omega) (by omega)) (mfd_sa (by omega) (by omega) (by omega))) (mfd_si (by omega))) (mfd_sa (by omega) (by omega) (by omega))) (mfd_sa (by omega) (by omega) (by omega))
theorem rq_fight (h : mSC μ ct cd sc stk) (hn : 100 ≤ n) (h48 : sc 48 < 100000) : sp_wp (X12_fight n μ) (fun ν => mSC ν ct cd (qfa ct sc (ct 0 13)).1 stk ∧ mfd μ ν ∧ ∀ h, h < 6 → ν.2.2.1 24 h = μ.2.2.1 24 h + nI ((qfa ct sc (ct 0 13)).2.2 h)) := by
  have hb10 := h.2.2.2.1.1
  simp only [X12_fight, sp_pl, qn_l]
  refine lp_inv (fun f i (S : sp_St × Nat) => X12_fight_4 n f S.1 (nI S.2) (nI i)) (fun i S => mSC S.1 ct cd (qfa ct sc i).1 stk ∧ S.2 < 1024 ∧ (∀ b, b < ct 0 13 → (qfa ct sc i).2.1.testBit b = qangry ct (qfa ct sc i).1 S.2 b) ∧ mfd μ S.1 ∧ ∀ h, h < 6 → S.1.2.2.1 24 h = μ.2.2.1 24 h + nI ((qfa ct sc i).2.2 h)) (ct 0 13) _ (fun f S hI => ?_) (fun f i S hi2 hI k => ?_) n 0 (μ, 0) (by omega) (by omega) ⟨h, (by decide : 0 < 1024), fun b hb => ?_, mfd_refl μ, fun h _ => (Int32.add_zero _).symm⟩
  · obtain ⟨s, hd⟩ := S
    obtain ⟨g1, g2, g3, g4, g5⟩ := hI
    dsimp only at g1 g2 g3 g4 g5 ⊢
    have w3 : sp_g s 3 (2 : Int32) = nI (ct 0 13) := g1.1.2.1
    rw [X12_fight_4, w3, if_pos (Int32.le_refl _)]
    exact wp_some.mpr ⟨g1, g4, g5⟩
  · obtain ⟨s, hd⟩ := S
    obtain ⟨g1, g2, g3, g4, g5⟩ := hI
    dsimp only at g1 g2 g3 g4 g5 ⊢
    have w3 : sp_g s 3 (2 : Int32) = nI (ct 0 13) := g1.1.2.1
    have h48' := qfa_48 (sc := sc) hb10 i (by omega)
    rw [X12_fight_4, w3, if_neg (nI_ge hi2 (by omega)), sp_pl, nI_1]
    have hg := g3 i hi2
    by_cases e : qangry ct (qfa ct sc i).1 hd i = true
    · rw [e] at hg
      rw [rq_fight1 g1 hi2 g2 (by omega) e n (i + 1) (by omega) (by omega) (by omega)]
      have ec : qf (fun o => qangry ct (qfa ct sc i).1 hd o && ((qfa ct sc i).1 (35 + ct 1 i)).testBit (ct 1 o)) (ct 0 13 - (i + 1)) (i + 1) = qfoe1 ct (qfa ct sc i).1 (qfa ct sc i).2.1 i := by
        unfold qfoe1
        rw [if_pos hg]
        refine qf_cong fun m h1 h2 => ?_
        rw [g3 m (by omega)]
      rw [ec]
      cases e2 : qfoe1 ct (qfa ct sc i).1 (qfa ct sc i).2.1 i with
      | none =>
        have e3 : qfa ct sc (i + 1) = qfa ct sc i := by rw [qfa, e2]
        exact k (s, hd) (by rw [e3]; exact ⟨g1, g2, g3, g4, g5⟩)
      | some o =>
        obtain ⟨a1, a2, a3, a4, a5⟩ := qfoe1_lt e2
        have e3 : qfa ct sc (i + 1) = (qfig (qfa ct sc i).1 i o, qd (qd (qfa ct sc i).2.1 (2 ^ i)) (2 ^ o), fun h => ((qfa ct sc i).2.2 h + if h = ct 1 i then 1 else 0) + if h = ct 1 o then 1 else 0) := by rw [qfa, e2]
        refine k (mfstate s ct (qfa ct sc i).1 i o, hd ||| (2 ^ i ||| 2 ^ o)) ?_
        rw [e3]
        refine ⟨rq_fstate g1 hi2 a2 (by omega) (by omega), or_lt10 g2 (by omega) (by omega), fun b hb => ?_, mfd_trans g4 mfstate_fd, fun h hh => ?_⟩
        · dsimp only
          unfold qangry
          rw [qd_t, qd_t, Nat.testBit_two_pow, Nat.testBit_two_pow, tb_or2, g3 b hb]
          unfold qangry
          by_cases b1 : i = b
          · simp [b1]
          · by_cases b2 : o = b
            · simp [b2]
            · rw [qfig_hi (by omega) (by omega) (by omega) (by omega)]
              have : qfig (qfa ct sc i).1 i o b = (qfa ct sc i).1 b := by
                unfold qfig
                rw [qu_n (by omega), qu_n (by omega), qu_n (by omega)]
              rw [this]
              simp [b1, b2]
        · dsimp only
          rw [mfstate_24, g5 h hh, Int32.add_assoc, nI_add, ← Nat.add_assoc]
    · have e' : qangry ct (qfa ct sc i).1 hd i = false := by simpa using e
      rw [e'] at hg
      rw [rq_fight0 g1 hi2 (by omega) e' n (i + 1) (by omega) (by omega)]
      have e3 : qfa ct sc (i + 1) = qfa ct sc i := by
        rw [qfa]
        unfold qfoe1
        rw [if_neg (by rw [hg]; decide)]
      exact k (s, hd) (by rw [e3]; exact ⟨g1, g2, g3, g4, g5⟩)
  · show (qrd ct sc).testBit b = qangry ct sc 0 b
    unfold qrd qangry
    rw [bs_t]
    simp [hb]
theorem rq_hic (h : mSC μ ct cd sc stk) (hn : 100 ≤ n) {Q : sp_St → Prop} (hQQ : ∀ ν stk', mSC ν ct cd (qhic ct sc (ct 0 14)) stk' → mfx μ ν → sp_wp (X12_aDay_66 n ν) Q) : sp_wp (X12_aDay_6 n n μ 0) Q := by
  have hb10 := h.2.2.2.1.1
  have hs5 := h.2.2.2.1.2.1
  refine lp_inv (fun f i s => X12_aDay_6 n f s (nI i)) (fun i s => (∃ stk', mSC s ct cd (qhic ct sc i) stk') ∧ mfx μ s) (ct 0 14) _ (fun f s hI => ?_) (fun f i s hi2 hI k => ?_) n 0 μ (by omega) (by omega) ⟨⟨stk, h⟩, mfx_refl μ⟩
  · obtain ⟨⟨stk', h⟩, hx⟩ := hI
    have w3 : sp_g s 3 (1 : Int32) = nI (ct 0 14) := h.1.1
    rw [X12_aDay_6, w3, if_pos (Int32.le_refl _)]
    exact hQQ s stk' h hx
  · obtain ⟨⟨stk', h⟩, hx⟩ := hI
    have h47b := h.2.2.2.2.1 47
    have w3 : sp_g s 3 (1 : Int32) = nI (ct 0 14) := h.1.1
    have h0 := h
    obtain ⟨⟨hns, hnb, hpt, hl4, hl5, hA1, hA2, hA6, hE1, hE2, hl7, hl8⟩, ⟨h47, h48, hAn, hWh, hRo, hMa, hSt, hFe⟩, hQ, ⟨hb10, hs5, hG, hH, hL, hU, hO⟩, hB, hPl⟩ := h
    have hX := fun k => Nat.lt_trans (hB k) (by decide : (1048576 : Nat) < 2 ^ 31)
    have hY : ∀ p k, ct p k < 2 ^ 31 := fun p k => Nat.lt_trans (hG p k) (by decide)
    have e47 : qhic ct sc i 47 = sc 47 := qhic_oth (by omega) i
    rw [e47] at h47b h47
    have hu := hU i
    have w1 : sp_in (nI i) 10 = true := qn_in (by omega) (by omega)
    have w5 : sp_in (nI i) 5 = true := qn_in (by omega) (by omega)
    have g6 : sp_g s 6 (nI i) = nI (ct 6 i) := by rw [qn_g (by omega)]; exact hA6 i hi2
    have g17 : sp_g s 17 (nI i) = nI (stk' i).length := by rw [qn_g (by omega)]; exact hMa i hi2
    have hle := stk_le hQ hi2
    have f60 : ∀ τ, X12_aDay_60 n (X12_aDay_6 n f) τ (nI i) = X12_aDay_6 n f τ (nI (i + 1)) := fun τ => by rw [X12_aDay_60, sp_pl, nI_1]
    rw [X12_aDay_6, w3, if_neg (nI_ge hi2 (by omega)), w1, sp_ckt, g6]
    by_cases p : ct 6 i = 0
    · rw [p, if_pos (show nI 0 ≤ 0 by decide), f60]
      refine k s ⟨⟨stk', ?_⟩, hx⟩
      rw [qhic, if_pos p]
      exact h0
    · have c1 : ¬ nI (ct 6 i) ≤ 0 := by
        show ¬ nI (ct 6 i) ≤ nI 0
        rw [qn_le (by omega) (by omega)]
        omega
      have c2 : (!decide (nI (ct 6 i) = 0)) = true := by
        have : ¬ nI (ct 6 i) = 0 := by
          show ¬ nI (ct 6 i) = nI 0
          rw [qn_eq (by omega) (by omega)]
          exact p
        simp [this]
      have hm : (sc 47 + 1) % ct 6 i < 2 ^ 31 := Nat.lt_trans (Nat.mod_lt _ (by omega)) (by omega)
      have c3 : s.1 0 33 + 1 - (s.1 0 33 + 1) / nI (ct 6 i) * nI (ct 6 i) = nI ((sc 47 + 1) % ct 6 i) := by
        rw [h47, nI_1]
        exact pk_rem (by omega) (by omega) (by omega)
      rw [if_neg c1, sp_ckt, c2, sp_ckt, c3]
      by_cases z : (sc 47 + 1) % ct 6 i = 0
      · rw [z, if_pos (show nI 0 = 0 from rfl), w5, sp_ckt, g17]
        by_cases l0 : (stk' i).length = 0
        · rw [l0, if_pos (show nI 0 ≤ 0 by decide), f60]
          refine k s ⟨⟨stk', ?_⟩, hx⟩
          have : qtop (qhic ct sc i) i (ct 0 13) = none := by
            cases e2 : qtop (qhic ct sc i) i (ct 0 13) with
            | none => rfl
            | some x =>
              obtain ⟨a1, a2, _⟩ := qtop_lt e2
              have := ((hQ i hi2).2 x).mpr ⟨a1, a2⟩
              rw [List.length_eq_zero_iff.mp l0] at this
              cases this
          rw [qhic, if_neg p, if_pos z, qlet, this]
          exact h0
        · have c4 : ¬ nI (stk' i).length ≤ 0 := by
            show ¬ nI (stk' i).length ≤ nI 0
            rw [qn_le (by omega) (by omega)]
            omega
          have h3 := stk_gd hQ hi2 (show 0 < (stk' i).length by omega)
          rw [if_neg c4, rq_topOf h0 hi2, sp_bd_s]
          cases e2 : qtop (qhic ct sc i) i (ct 0 13) with
          | none => exact absurd h3.2 (qtop_no e2 _ h3.1)
          | some x =>
            obtain ⟨a1, a2, _⟩ := qtop_lt e2
            refine wp_bv (wp_mono (rq_takeOut (p := 0) (v := 0) h0 hn a1 (by omega) (Or.inl ⟨rfl, rfl⟩)) ?_)
            rintro τ ⟨t1, t2⟩
            rw [f60]
            refine k τ ⟨⟨qrem stk' x, ?_⟩, mfx_trans hx (mfl_x t2)⟩
            rw [qhic, if_neg p, if_pos z, qlet, e2]
            exact t1
      · rw [if_neg (show ¬ nI ((sc 47 + 1) % ct 6 i) = 0 by show ¬ nI ((sc 47 + 1) % ct 6 i) = nI 0; rw [qn_eq hm (by decide)]; exact z), f60]
        refine k s ⟨⟨stk', ?_⟩, hx⟩
        rw [qhic, if_neg p, if_neg z]
        exact h0
theorem rq_aDay (h : mSC μ ct cd sc stk) (hn : 1000 ≤ n) (hD : qcd cd) (hA : ∀ b, b < ct 0 13 → sc b ≤ 99) (h48 : sc 48 < 100000) (h47 : sc 47 < 100000) : sp_wp (X12_aDay n μ) (fun ν => (∃ stk', mSC ν ct cd (qday ct cd sc) stk') ∧ mfd μ ν ∧ ∀ h, h < 6 → ν.2.2.1 24 h = μ.2.2.1 24 h + nI (qfts ct cd sc h)) := by
  have hb10 := h.2.2.2.1.1
  have hk : ∀ k, 20 ≤ k → qd3 ct cd sc k = sc k := fun k hk => by
    unfold qd3
    rw [qhic_oth (by omega), qres_lo (by omega), qang_hi (by omega)]
  rw [X12_aDay]
  refine wp_bv (wp_mono (rq_change h hn hD hA) ?_)
  rintro ν1 ⟨⟨stk1, g1⟩, f1⟩
  rw [sp_pl]
  refine rq_hic g1 (by omega) (fun ν2 stk2 g2 f2 => ?_)
  rw [X12_aDay_66]
  have g2' : mSC ν2 ct cd (qd3 ct cd sc) stk2 := g2
  refine wp_bv (wp_mono (rq_fight g2' (by omega) (by rw [hk 48 (by omega)]; exact h48)) ?_)
  rintro ν3 ⟨g3, f3, c3⟩
  have e47 : (qfa ct (qd3 ct cd sc) (ct 0 13)).1 47 = sc 47 := by rw [qfa_hi hb10 (by omega) (by omega) _ (Nat.le_refl _), hk 47 (by omega)]
  rw [sp_pl, g3.2.1.1, nI_1]
  refine wp_some.mpr ⟨⟨stk2, ?_⟩, ?_, fun h hh => ?_⟩
  · unfold qday
    refine mSC_ang g3 (mfd_si (by omega)) (fun _ _ _ => rfl) ?_ ?_ (fun b hb => ?_) (fun k h1 h2 h3 => ?_) (qu_lt g3.2.2.2.2.1 (by omega))
    · rw [sp_si_eq, qu_e]
    · rw [sp_si_ne (by decide), qu_n (by decide)]; exact g3.2.1.2.1
    · rw [qu_n (by omega)]; exact g3.2.1.2.2.1 b hb
    · rw [qu_n h2]
  · exact mfd_trans f1.1 (mfd_trans f2.1 (mfd_trans f3 (mfd_si (by omega))))
  · show ν3.2.2.1 24 h = _
    rw [c3 h hh, f2.2, f1.2]
    rfl
end
