-- ===== see, image, restore =====
theorem sp_sr_2 {σ : sp_St} {p k v : Nat} : (sp_sr σ p k v).2.2 = σ.2.2 := rfl
section
variable {n j c d m nr : Nat} {σ μ : sp_St} {ct : Nat → Nat → Nat} {cd : List Nat × List Nat} {sc : Nat → Nat} {stk : Nat → List Nat} {hs : Nat → Nat → Nat} {ht : Nat → Nat → List Nat}
theorem op_see (hn : 5000 ≤ n) (h : Inv j σ μ) (a1 a2 a3 : Int32) : agr (j + 1) kd1 (X11_see n σ a1 a2 a3) (X12_see n μ a1 a2 a3) := by
  have h' := Inv_code (v := 0) h
  have h3 : (sp_si μ 0 3 0).1 0 3 = 0 := sp_si_eq
  rw [X12_see, sp_pl, X11_see]
  generalize sp_si μ 0 3 0 = μ1 at *
  obtain ⟨c, d, ct, cd, sc, stk, m, nr, hs, ht, hO⟩ := Inv_O h'
  obtain ⟨hS, hM, hG, hD, hc⟩ := O_now hO
  have hO2 := hO
  obtain ⟨_, _, _, _, _, ⟨_, _, _, _, _, ⟨s, sb, sd, sa, f6, f7⟩, _⟩, _⟩ := hO2
  obtain ⟨f61, f62, f63⟩ := f6
  have f62 : σ.1 30 3 = nI s := f62
  rcases b_cases (n := n) hS hc hM a1 with ⟨b, hb, rfl⟩ | ⟨e1, e2⟩
  · rw [nb_ok hS hc hb, sp_bx_n, ib_ok hM hb, sp_bd_s, if_neg n10, f7]
    have hr : agr (j + 1) kd1 (X11_see_52 n σ) (X12_see_52 n μ1) := agr_refuse (k := 2) (by omega) (by omega) h' h3
    have hr29 : X11_see_29 n σ (nI b) a2 a3 = X11_see_52 n σ := rfl
    by_cases s8 : s = 8
    · have c1 : nI s = 8 := by rw [s8]; rfl
      have c2 : X11_see_30 n σ (nI b) a2 a3 1 = X11_see_52 n σ := by
        rw [X11_see_30, if_neg (by decide), f62, if_neg (show ¬ nI s < 8 by rw [c1]; decide)]
      rw [if_pos c1, c2, hr29]
      split
      · exact hr
      · split
        · exact hr
        · split
          · exact hr
          · split <;> exact hr
    · have c1 : ¬ nI s = (8 : Int32) := by
        show ¬ nI s = nI 8
        rw [qn_eq (by omega) (by omega)]
        exact s8
      have c2 : nI s < (8 : Int32) := (nI_ltI (a := s) (b := 8) (by omega) (by omega)).mpr (by omega)
      rw [if_neg c1]
      rcases isin_c (a := a2) (lo := 0) (hi := 30) (by omega) (by omega) with ⟨k, k1, k2, rfl⟩ | ⟨e1, e2⟩
      · rw [is_y (lo := 0) (hi := 30) (by decide) (by decide) (by rw [nI_toInt (by omega)]; omega), sp_bd_s, if_neg n10, if_neg (nI_pos (show k < 2 ^ 31 by omega)), if_neg (show ¬ (30 : Int32) < nI k from fun h => by
          have := (nI_ltI (a := 30) (b := k) (by omega) (by omega)).mp h
          omega)]
        rcases isin_c (a := a3) (lo := 0) (hi := 99) (by omega) (by omega) with ⟨v, v1, v2, rfl⟩ | ⟨e1, e2⟩
        · rw [is_y (lo := 0) (hi := 99) (by decide) (by decide) (by rw [nI_toInt (by omega)]; omega), sp_bd_s, if_neg n10, if_neg (nI_pos (show v < 2 ^ 31 by omega)), if_neg (show ¬ (99 : Int32) < nI v from fun h => by
            have := (nI_ltI (a := 99) (b := v) (by omega) (by omega)).mp h
            omega)]
          have w8 : sp_in (nI s) 8 = true := qn_in (by omega) (by omega)
          have cs' : (nI s).toNatClampNeg = s := nI_clamp (by omega)
          have e1 : X11_see_30 n σ (nI b) (nI k) (nI v) 1 = some (sp_si (sp_sa (sp_sa (sp_sa σ 31 s (nI b)) 32 s (nI k)) 33 s (nI v)) 30 3 (nI (s + 1)), Sum.inl (nI (s + 1))) := by
            rw [X11_see_30, if_neg (by decide), f62, if_pos c2, X9_note, f62, if_neg (show ¬ (8 : Int32) ≤ nI s from fun h => Int32.lt_irrefl (Int32.lt_of_le_of_lt h c2)), w8, sp_ckt, sp_pl, cs']
            simp only [sp_sa_1, f62, w8, sp_ckt, sp_pl, cs', nI_1]
            rfl
          have e2 : (sp_ck (sp_in (μ1.1 0 36) 8) <| sp_pl (sp_sa μ1 29 (μ1.1 0 36).toNatClampNeg (nI b)) fun σ13 => sp_ck (sp_in (σ13.1 0 36) 8) <| sp_pl (sp_sa σ13 30 (σ13.1 0 36).toNatClampNeg (nI k)) fun σ16 => sp_ck (sp_in (σ16.1 0 36) 8) <| sp_pl (sp_sa σ16 31 (σ16.1 0 36).toNatClampNeg (nI v)) fun σ19 => sp_pl (sp_si σ19 0 36 ((σ19.1 0 36) + (1 : Int32))) fun σ21 => some (σ21, σ21.1 0 36)) = some (sp_si (sp_sa (sp_sa (sp_sa μ1 29 s (nI b)) 30 s (nI k)) 31 s (nI v)) 0 36 (nI (s + 1)), nI (s + 1)) := by
            simp only [sp_sa_1, f7, w8, sp_ckt, sp_pl, cs', nI_1, sp_si_eq]
          rw [e1]
          rw [e2]
          refine agr_ret rfl rfl (Inv_mono (Nat.le_succ j) (O_see (s := s + 1) (sb := qu sb s b) (sd := qu sd s k) (sa := qu sa s v) hO rfl (fun p hp => by rw [sp_si_pq hp]; rfl) (fun p h1 h2 h3 => ?_) (fun k hk => by rw [sp_si_ne hk]; rfl) (fun p h1 h2 h3 => ?_) ⟨by omega, sp_si_eq, fun i hi => ?_⟩ sp_si_eq)) ?_
          · show (sp_sa (sp_sa (sp_sa σ 31 s (nI b)) 32 s (nI k)) 33 s (nI v)).2.2.1 p = _
            funext y; rw [sp_sa_np h3, sp_sa_np h2, sp_sa_np h1]
          · show (sp_sa (sp_sa (sp_sa μ1 29 s (nI b)) 30 s (nI k)) 31 s (nI v)).2.2.1 p = _
            funext y; rw [sp_sa_np h3, sp_sa_np h2, sp_sa_np h1]
          · show (sp_sa (sp_sa (sp_sa σ 31 s (nI b)) 32 s (nI k)) 33 s (nI v)).2.2.1 31 i = _ ∧ (sp_sa (sp_sa (sp_sa σ 31 s (nI b)) 32 s (nI k)) 33 s (nI v)).2.2.1 32 i = _ ∧ (sp_sa (sp_sa (sp_sa σ 31 s (nI b)) 32 s (nI k)) 33 s (nI v)).2.2.1 33 i = _ ∧ (sp_sa (sp_sa (sp_sa μ1 29 s (nI b)) 30 s (nI k)) 31 s (nI v)).2.2.1 29 i = _ ∧ (sp_sa (sp_sa (sp_sa μ1 29 s (nI b)) 30 s (nI k)) 31 s (nI v)).2.2.1 30 i = _ ∧ (sp_sa (sp_sa (sp_sa μ1 29 s (nI b)) 30 s (nI k)) 31 s (nI v)).2.2.1 31 i = _ ∧ _
            by_cases ei : i = s
            · subst ei
              rw [qu_e, qu_e, qu_e]
              refine ⟨?_, ?_, ?_, ?_, ?_, ?_, hb, k2, v2⟩
              · rw [sp_sa_np (by omega), sp_sa_np (by omega), sp_sa_eq]
              · rw [sp_sa_np (by omega), sp_sa_eq]
              · rw [sp_sa_eq]
              · rw [sp_sa_np (by omega), sp_sa_np (by omega), sp_sa_eq]
              · rw [sp_sa_np (by omega), sp_sa_eq]
              · rw [sp_sa_eq]
            · obtain ⟨z1, z2, z3, z4, z5, z6, z7⟩ := f63 i (by omega)
              rw [qu_n ei, qu_n ei, qu_n ei]
              refine ⟨?_, ?_, ?_, ?_, ?_, ?_, z7⟩
              · rw [sp_sa_np (by omega), sp_sa_np (by omega), sp_sa_nj ei]; exact z1
              · rw [sp_sa_np (by omega), sp_sa_nj ei, sp_sa_np (by omega)]; exact z2
              · rw [sp_sa_nj ei, sp_sa_np (by omega), sp_sa_np (by omega)]; exact z3
              · rw [sp_sa_np (by omega), sp_sa_np (by omega), sp_sa_nj ei]; exact z4
              · rw [sp_sa_np (by omega), sp_sa_nj ei, sp_sa_np (by omega)]; exact z5
              · rw [sp_sa_nj ei, sp_sa_np (by omega), sp_sa_np (by omega)]; exact z6
          · rw [sp_si_ne (by decide)]
            exact h3
        · rw [is_no (lo := 0) (hi := 99) (by decide) (by decide) (by omega), sp_bd_s, if_pos n00]
          rcases e1 with e1 | e1
          · rw [if_pos (show a3 < 0 from e1)]; exact hr
          · by_cases e3 : a3 < 0
            · rw [if_pos e3]; exact hr
            · rw [if_neg e3, if_pos (show (99 : Int32) < a3 from e1)]; exact hr
      · rw [is_no (lo := 0) (hi := 30) (by decide) (by decide) (by omega), sp_bd_s, if_pos n00]
        rcases e1 with e1 | e1
        · rw [if_pos (show a2 < 0 from e1)]; exact hr
        · by_cases e3 : a2 < 0
          · rw [if_pos e3]; exact hr
          · rw [if_neg e3, if_pos (show (30 : Int32) < a2 from e1)]; exact hr
  · rw [e1, sp_bx_s, e2, sp_bd_s, if_pos n00]
    exact agr_fail h' rfl
/-- a scene copied -/
theorem sq_copy {t u : Nat} (hn : 100 ≤ n) (hc : sp_isc (σ.2.1 u 0) = true) (h1 : t + 6 < u ∨ u + 6 < t) : ∃ τ, X8_copy n σ t u = some τ ∧ τ.1 = σ.1 ∧ (∀ p, p ≠ t → τ.2.1 p = σ.2.1 p) ∧ τ.2.1 t 0 = σ.2.1 u 0 ∧ (∀ p, p ≠ t + 1 → p ≠ t + 2 → τ.2.2.1 p = σ.2.2.1 p) ∧ (∀ k, k < 50 → τ.2.2.1 (t + 1) k = σ.2.2.1 (u + 1) k) ∧ (∀ h, h < 6 → τ.2.2.1 (t + 2) h = 0) ∧ τ.2.2.2 = σ.2.2.2 := by
  have key : sp_wp (X8_copy n σ t u) (fun τ => τ.1 = σ.1 ∧ (∀ p, p ≠ t → τ.2.1 p = σ.2.1 p) ∧ τ.2.1 t 0 = σ.2.1 u 0 ∧ (∀ p, p ≠ t + 1 → p ≠ t + 2 → τ.2.2.1 p = σ.2.2.1 p) ∧ (∀ k, k < 50 → τ.2.2.1 (t + 1) k = σ.2.2.1 (u + 1) k) ∧ (∀ h, h < 6 → τ.2.2.1 (t + 2) h = 0) ∧ τ.2.2.2 = σ.2.2.2) := by
    rw [X8_copy, sp_pl, hc, sp_ckt, sp_pl, sp_pl, sp_pl]
    refine lp_inv (fun f i s => X8_copy_25 n t u f s (nI i)) (fun i s => s.1 = σ.1 ∧ (∀ p, p ≠ t → s.2.1 p = σ.2.1 p) ∧ s.2.1 t 0 = σ.2.1 u 0 ∧ (∀ p, p ≠ t + 1 → p ≠ t + 2 → s.2.2.1 p = σ.2.2.1 p) ∧ (∀ k, k < 50 → s.2.2.1 (t + 1) k = σ.2.2.1 (u + 1) k) ∧ (∀ h, h < i → s.2.2.1 (t + 2) h = 0) ∧ s.2.2.2 = σ.2.2.2) 6 _ (fun f s hI => ?_) (fun f i s hi hI k => ?_) n 0 _ (by omega) (by omega) ⟨rfl, fun p hp => ?_, ?_, fun p h2 h3 => ?_, fun k hk => ?_, fun h hh => by omega, rfl⟩
    · rw [X8_copy_25, if_pos (show (6 : Int32) ≤ nI 6 by decide)]
      exact wp_some.mpr hI
    · obtain ⟨g1, g2, g3, g4, g5, g6, g7⟩ := hI
      rw [X8_copy_25, if_neg (show ¬ (6 : Int32) ≤ nI i from nI_ge (b := 6) hi (by omega)), qn_in (by omega) (by omega), sp_ckt, sp_pl, sp_pl, nI_1, nI_clamp (by omega)]
      refine k _ ⟨g1, g2, g3, fun p h2 h3 => ?_, fun k hk => ?_, fun h hh => ?_, g7⟩
      · funext y; rw [sp_sa_np h3, g4 p h2 h3]
      · rw [sp_sa_np (by omega)]; exact g5 k hk
      · by_cases e : h = i
        · subst e; rw [sp_sa_eq]
        · rw [sp_sa_nj e]; exact g6 h (by omega)
    · funext y
      show (sp_sr σ t 0 (σ.2.1 u 0)).2.1 p y = _
      rw [sp_sr_g, if_neg (fun x => hp x.1)]
    · show (sp_sr σ t 0 (σ.2.1 u 0)).2.1 t 0 = _
      rw [sp_sr_g, if_pos ⟨rfl, rfl⟩]
    · rw [sp_cp_np h2]; rfl
    · rw [sp_cp_g, if_pos rfl, show (50 : Int32).toNatClampNeg = 50 by decide, show (0 : Int32).toNatClampNeg = 0 by decide, if_pos (by omega)]
      show σ.2.2.1 (u + 1) (0 + (k - 0)) = _
      rw [Nat.zero_add, Nat.sub_zero]
  exact key
theorem sq_chcopy {t u : Nat} (hn : 100 ≤ n) (hc : sp_isc (σ.2.1 (u + 1) 0) = true) (h1 : t + 13 < u ∨ u + 13 < t) : ∃ τ, X1_copy n σ t u = some τ ∧ (∀ p, p < t ∨ t + 13 < p → τ.1 p = σ.1 p ∧ τ.2.1 p = σ.2.1 p ∧ τ.2.2.1 p = σ.2.2.1 p) ∧ τ.2.1 (t + 1) 0 = σ.2.1 (u + 1) 0 ∧ (∀ k, k < 50 → τ.2.2.1 (t + 1 + 1) k = σ.2.2.1 (u + 1 + 1) k) ∧ τ.1 (t + 8) 3 = σ.1 (u + 8) 3 ∧ (∀ i, i < 8 → τ.2.2.1 (t + 9) i = σ.2.2.1 (u + 9) i ∧ τ.2.2.1 (t + 10) i = σ.2.2.1 (u + 10) i ∧ τ.2.2.1 (t + 11) i = σ.2.2.1 (u + 11) i) ∧ (∀ i, i < 3 → τ.2.2.1 (t + 12) i = σ.2.2.1 (u + 12) i) ∧ (∀ i, i < 2000 → τ.2.2.1 (t + 13) i = σ.2.2.1 (u + 13) i) ∧ τ.1 t 4 = σ.1 u 4 ∧ τ.1 t 5 = σ.1 u 5 := by
  obtain ⟨τ, a1, a2, a3, a4, a5, a6, _, _⟩ := sq_copy (t := t + 1) (u := u + 1) hn hc (by omega)
  have z8 : (8 : Int32).toNatClampNeg = 8 := by decide
  have z3 : (3 : Int32).toNatClampNeg = 3 := by decide
  have z2k : (2000 : Int32).toNatClampNeg = 2000 := by decide
  have z0 : (0 : Int32).toNatClampNeg = 0 := by decide
  obtain ⟨s3, e3⟩ : ∃ x, x = sp_cp (sp_cp (sp_cp τ (u + 8 + 1) 0 (t + 8 + 1) 0 8) (u + 8 + 2) 0 (t + 8 + 2) 0 8) (u + 8 + 3) 0 (t + 8 + 3) 0 8 := ⟨_, rfl⟩
  have s31 : s3.1 = τ.1 := by rw [e3]; rfl
  have s32 : s3.2.1 = τ.2.1 := by rw [e3]; rfl
  obtain ⟨s5, e5⟩ : ∃ x, x = sp_cp (sp_cp (sp_si s3 (t + 8) 3 (s3.1 (u + 8) 3)) (u + 12) 0 (t + 12) 0 3) (u + 13) 0 (t + 13) 0 2000 := ⟨_, rfl⟩
  have s51 : s5.1 = (sp_si s3 (t + 8) 3 (s3.1 (u + 8) 3)).1 := by rw [e5]; rfl
  have s52 : s5.2.1 = τ.2.1 := by rw [e5, ← s32]; rfl
  have key : X1_copy n σ t u = some (sp_si (sp_si s5 t 4 (s5.1 u 4)) t 5 ((sp_si s5 t 4 (s5.1 u 4)).1 u 5)) := by
    rw [X1_copy, a1, sp_bv_s, X9_copy, sp_pl, sp_pl, sp_pl, ← e3, sp_pl, sp_bv_s, sp_pl, sp_pl, ← e5, sp_pl, sp_pl]
  have r3 : ∀ p, p ≠ t + 9 → p ≠ t + 10 → p ≠ t + 11 → s3.2.2.1 p = τ.2.2.1 p := fun p h1 h2 h3 => by
    rw [e3, sp_cp_np (by omega), sp_cp_np (by omega), sp_cp_np (by omega)]
  have r5 : ∀ p, p ≠ t + 12 → p ≠ t + 13 → s5.2.2.1 p = s3.2.2.1 p := fun p h1 h2 => by
    rw [e5, sp_cp_np h2, sp_cp_np h1]; rfl
  refine ⟨_, key, fun p hp => ⟨?_, ?_, ?_⟩, ?_, fun k hk => ?_, ?_, fun i hi => ⟨?_, ?_, ?_⟩, fun i hi => ?_, fun i hi => ?_, ?_, ?_⟩
  · rw [sp_si_pq (by omega), sp_si_pq (by omega), s51, sp_si_pq (by omega), s31, a2]
  · show s5.2.1 p = _
    rw [s52, a3 p (by omega)]
  · show s5.2.2.1 p = _
    rw [r5 p (by omega) (by omega), r3 p (by omega) (by omega) (by omega), a5 p (by omega) (by omega)]
  · show s5.2.1 (t + 1) 0 = _
    rw [s52, a4]
  · show s5.2.2.1 (t + 1 + 1) k = _
    rw [r5 _ (by omega) (by omega), r3 _ (by omega) (by omega) (by omega), a6 k hk]
  · rw [sp_si_pq (by omega), sp_si_pq (by omega), s51, sp_si_eq, s31, a2]
  · show s5.2.2.1 (t + 9) i = _
    rw [r5 _ (by omega) (by omega), e3, sp_cp_np (by omega), sp_cp_np (by omega), sp_cp_g, if_pos (by omega), z0, z8, if_pos (by omega), Nat.zero_add, Nat.sub_zero, a5 _ (by omega) (by omega)]
  · show s5.2.2.1 (t + 10) i = _
    rw [r5 _ (by omega) (by omega), e3, sp_cp_np (by omega), sp_cp_g, if_pos (by omega), z0, z8, if_pos (by omega), Nat.zero_add, Nat.sub_zero, sp_cp_np (by omega), a5 _ (by omega) (by omega)]
  · show s5.2.2.1 (t + 11) i = _
    rw [r5 _ (by omega) (by omega), e3, sp_cp_g, if_pos (by omega), z0, z8, if_pos (by omega), Nat.zero_add, Nat.sub_zero, sp_cp_np (by omega), sp_cp_np (by omega), a5 _ (by omega) (by omega)]
  · show s5.2.2.1 (t + 12) i = _
    rw [e5, sp_cp_np (by omega), sp_cp_g, if_pos rfl, z0, z3, if_pos (by omega), Nat.zero_add, Nat.sub_zero]
    show s3.2.2.1 (u + 12) i = _
    rw [r3 _ (by omega) (by omega) (by omega), a5 _ (by omega) (by omega)]
  · show s5.2.2.1 (t + 13) i = _
    rw [e5, sp_cp_g, if_pos rfl, z0, z2k, if_pos (by omega), Nat.zero_add, Nat.sub_zero, sp_cp_np (by omega)]
    show s3.2.2.1 (u + 13) i = _
    rw [r3 _ (by omega) (by omega) (by omega), a5 _ (by omega) (by omega)]
  · rw [sp_si_ne (by decide), sp_si_eq, s51, sp_si_pq (by omega), s31, a2]
  · rw [sp_si_eq, sp_si_pq (by omega), s51, sp_si_pq (by omega), s31, a2]
theorem rq_copyTo {p q k : Nat} (hn : 5000 ≤ n) (hk : k ≤ 4000) (hpq : p ≠ q) : ∃ ν, X12_copyTo n μ p k q k = some ν ∧ ν.1 = μ.1 ∧ ν.2.1 = μ.2.1 ∧ (∀ r, r ≠ p → ν.2.2.1 r = μ.2.2.1 r) ∧ ∀ i, i < k → ν.2.2.1 p i = μ.2.2.1 q i := by
  have key : sp_wp (X12_copyTo n μ p k q k) (fun ν => ν.1 = μ.1 ∧ ν.2.1 = μ.2.1 ∧ (∀ r, r ≠ p → ν.2.2.1 r = μ.2.2.1 r) ∧ ∀ i, i < k → ν.2.2.1 p i = μ.2.2.1 q i) := by
    rw [X12_copyTo, sp_pl]
    refine lp_inv (fun f i s => X12_copyTo_2 n p k q k f s (nI i)) (fun i s => s.1 = μ.1 ∧ s.2.1 = μ.2.1 ∧ (∀ r, r ≠ p → s.2.2.1 r = μ.2.2.1 r) ∧ ∀ x, x < i → s.2.2.1 p x = μ.2.2.1 q x) k _ (fun f s hI => ?_) (fun f i s hi hI kk => ?_) n 0 μ (by omega) (by omega) ⟨rfl, rfl, fun _ _ => rfl, fun x hx => by omega⟩
    · rw [X12_copyTo_2, if_pos (show Int32.ofNat k ≤ nI k from Int32.le_refl _)]
      exact wp_some.mpr hI
    · obtain ⟨g1, g2, g3, g4⟩ := hI
      rw [X12_copyTo_2, if_neg (show ¬ Int32.ofNat k ≤ nI i from nI_ge hi (by omega)), qn_in (by omega) (by omega), sp_ckt, sp_ckt, sp_pl, sp_pl, nI_1, nI_clamp (by omega), qn_g (by omega)]
      refine kk _ ⟨g1, g2, fun r hr => ?_, fun x hx => ?_⟩
      · funext y; rw [sp_sa_np hr, g3 r hr]
      · by_cases e : x = i
        · subst e; rw [sp_sa_eq, g3 q (fun x => hpq x.symm)]
        · rw [sp_sa_nj e]; exact g4 x (by omega)
  exact key
/-- a chronicle copied on both sides -/
theorem Chr_cp {τ : sp_St} {t u : Nat} {row past rb rd ra rs row' past' rb' rd' ra' rs' : Nat → Int32} {acts seen : Int32} (h : Chr σ u c ct cd j row past rb rd ra rs acts seen) (ht20 : 20 ≤ t) (hc : ∀ p, 2 ≤ p → p ≤ 19 → τ.1 p = σ.1 p ∧ τ.2.2.1 p = σ.2.2.1 p) (h1 : τ.2.1 (t + 1) 0 = σ.2.1 (u + 1) 0) (h2 : ∀ k, k < 50 → τ.2.2.1 (t + 1 + 1) k = σ.2.2.1 (u + 1 + 1) k) (h3 : τ.1 (t + 8) 3 = σ.1 (u + 8) 3) (h4 : ∀ i, i < 8 → τ.2.2.1 (t + 9) i = σ.2.2.1 (u + 9) i ∧ τ.2.2.1 (t + 10) i = σ.2.2.1 (u + 10) i ∧ τ.2.2.1 (t + 11) i = σ.2.2.1 (u + 11) i) (h5 : ∀ i, i < 3 → τ.2.2.1 (t + 12) i = σ.2.2.1 (u + 12) i) (h6 : ∀ i, i < 2000 → τ.2.2.1 (t + 13) i = σ.2.2.1 (u + 13) i) (h7 : τ.1 t 4 = σ.1 u 4) (h8 : τ.1 t 5 = σ.1 u 5) (k1 : ∀ x, x < 88 → row' x = row x) (k2 : ∀ x, x < 3520 → past' x = past x) (k3 : ∀ i, i < 8 → rb' i = rb i ∧ rd' i = rd i ∧ ra' i = ra i) (k4 : ∀ i, i < 3 → rs' i = rs i) : Chr τ t c ct cd j row' past' rb' rd' ra' rs' acts seen := by
  obtain ⟨sc, stk, m, nr, hs, ht', s, sb, sd, sa, f1, f2, f3, f4, f5, f6, f7, f8⟩ := h
  have hK := f1.2.2.2.2.2.1
  refine ⟨sc, stk, m, nr, hs, ht', s, sb, sd, sa, ?_, mRow_cong hK.1 hK.2.1 (stk_10 hK.1 f3.2.1) k1 f2, f3, ?_, f5, ?_, f7, fun k hk => ?_⟩
  · obtain ⟨y1, y2, y3, y4, y5, y6, y7⟩ := f1
    refine ⟨by omega, by rw [h1]; exact y2, y3, ?_, fun k hk => ?_, y6, y7⟩
    · have hc11 := isc_le y3
      have hc2 : 2 ≤ c := by simp [sp_isc] at y3; omega
      unfold qC qR at *
      rw [(hc c (by omega) (by omega)).1, (hc (c + 1) (by omega) (by omega)).2, (hc (c + 2) (by omega) (by omega)).2, (hc (c + 3) (by omega) (by omega)).2, (hc (c + 4) (by omega) (by omega)).2, (hc (c + 5) (by omega) (by omega)).2, (hc (c + 6) (by omega) (by omega)).2, (hc (c + 7) (by omega) (by omega)).2, (hc (c + 8) (by omega) (by omega)).2]
      exact y4
    · rw [h2 k hk]; exact y5 k hk
  · obtain ⟨c1, c2, c3, c4, c5⟩ := f4
    refine ⟨c1, c2, by rw [h7]; exact c3, by rw [h8]; exact c4, fun i hi => ?_⟩
    obtain ⟨q1, q2, q3⟩ := c5 i hi
    refine ⟨fun k hk => ?_, mRow_cong hK.1 hK.2.1 (stk_10 hK.1 q3.2.1) (fun x hx => k2 _ (by omega)) q2, q3⟩
    have : (nr + 40 - m + i) % 40 < 40 := Nat.mod_lt _ (by omega)
    rw [h6 _ (by omega)]
    exact q1 k hk
  · obtain ⟨s1, s2, s3⟩ := f6
    refine ⟨s1, by rw [h3]; exact s2, fun i hi => ?_⟩
    obtain ⟨z1, z2, z3, z4, z5, z6, z7⟩ := s3 i hi
    have e4 := h4 i (by omega)
    have e3 := k3 i (by omega)
    exact ⟨by rw [e4.1]; exact z1, by rw [e4.2.1]; exact z2, by rw [e4.2.2]; exact z3, by rw [e3.1]; exact z4, by rw [e3.2.1]; exact z5, by rw [e3.2.2]; exact z6, z7⟩
  · rw [h5 k hk, k4 k hk]; exact f8 k hk
end
