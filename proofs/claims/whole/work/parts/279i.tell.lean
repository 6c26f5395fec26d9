-- ===== the whole text, both sides =====
section
variable {T : Nat → Nat} {n N c e b kd v pt kk : Nat} {σ0 μ0 σ μ τ υ : sp_St} {ct : Nat → Nat → Nat} {cd : List Nat × List Nat}
theorem tell_lp (hn : 1000 ≤ n) {p2 : Nat} : ∀ m f g i σ μ e b kd v ct cd pt, N - b ≤ m → m + 1 < f → m + 2 < g → i ≤ b → LnS T N c σ0 μ0 σ μ e b kd v ct cd pt → (∃ τ υ e' b' kd' v' ct' cd' pt', X7_tell_27 n p2 f σ (nI N) (nI i) = some (τ, 0) ∧ X12_city_112 n g μ (nI (fl cd pt)) = X12_city_135 n υ ∧ LnS T N c σ0 μ0 τ υ e' b' kd' v' ct' cd' pt') ∨ ∃ τ υ, X7_tell_27 n p2 f σ (nI N) (nI i) = some (τ, τ.1 21 2) ∧ X12_city_112 n g μ (nI (fl cd pt)) = X12_city_135 n υ ∧ BL c σ0 μ0 τ υ := by
  intro m
  induction m with
  | zero =>
    intro f g i σ μ e b kd v ct cd pt hm hf hg hi h
    obtain ⟨f, rfl⟩ : ∃ x, f = x + 1 := ⟨f - 1, by omega⟩
    obtain ⟨g, rfl⟩ : ∃ x, g = x + 1 := ⟨g - 1, by omega⟩
    have h' := h
    obtain ⟨hT, hC, hM, hG, hpt⟩ := h'
    have hN := hT.1.1.2.1
    have heN := hT.1.2.2.1
    have hbe := hT.2.1
    have k0 : kd = 0 := by
      by_cases hk : kd = 0
      · exact hk
      · have := tk_b hT hk; omega
    subst k0
    rw [X7_tell_27, if_neg (by rw [qn_lt (by omega) (by omega)]; omega), hT.2.2.2.2.2.1, if_pos (show nI 0 = 0 from rfl), X12_city_112, if_pos hM.1, hT.2.2.2.2.2.2.1, if_pos (show nI (mkd 0) = 0 from rfl)]
    exact Or.inl ⟨σ, μ, e, b, 0, v, ct, cd, pt, rfl, rfl, h⟩
  | succ m ih =>
    intro f g i σ μ e b kd v ct cd pt hm hf hg hi h
    obtain ⟨f, rfl⟩ : ∃ x, f = x + 1 := ⟨f - 1, by omega⟩
    obtain ⟨g, rfl⟩ : ∃ x, g = x + 1 := ⟨g - 1, by omega⟩
    have h' := h
    obtain ⟨hT, hC, hM, hG, hpt⟩ := h'
    have hN := hT.1.1.2.1
    have heN := hT.1.2.2.1
    have hbe := hT.2.1
    have hk := hT.2.2.2.2.2.2.2.1
    by_cases k0 : kd = 0
    · subst k0
      rw [X7_tell_27, if_neg (by rw [qn_lt (by omega) (by omega)]; omega), hT.2.2.2.2.2.1, if_pos (show nI 0 = 0 from rfl), X12_city_112, if_pos hM.1, hT.2.2.2.2.2.2.1, if_pos (show nI (mkd 0) = 0 from rfl)]
      exact Or.inl ⟨σ, μ, e, b, 0, v, ct, cd, pt, rfl, rfl, h⟩
    · have hb := tk_b hT k0
      have m0 : mkd kd ≠ 0 := by unfold mkd; split <;> (try split) <;> omega
      have m4 : mkd kd < 256 := by unfold mkd; split <;> (try split) <;> omega
      rw [X7_tell_27, if_neg (by rw [qn_lt (by omega) (by omega)]; omega), hT.2.2.2.2.2.1, if_neg (show ¬ nI kd = 0 from mk_ne hk (by decide) k0), X12_city_112, if_pos hM.1, hT.2.2.2.2.2.2.1, if_neg (show ¬ nI (mkd kd) = 0 from mk_ne m4 (by decide) m0)]
      rcases ln_line hn h k0 with ⟨τ1, υ1, e1, b1, kd1, v1, ct1, cd1, pt1, p1, p2, p3, p4⟩ | ⟨τ1, υ1, w, p1, p2, p3⟩
      · rw [p1, sp_bd_s, if_neg (show ¬ (1 : Int32) = 0 by decide), sp_pl, p2, sp_bd_s, show nI i + 1 = nI (i + 1) from nI_add i 1]
        have := p3.1.2.1
        have := p3.1.1.2.2.1
        exact ih f g (i + 1) τ1 υ1 e1 b1 kd1 v1 ct1 cd1 pt1 (by omega) (by omega) (by omega) (by omega) p3
      · obtain ⟨g, rfl⟩ : ∃ x, g = x + 1 := ⟨g - 1, by omega⟩
        rw [p1, sp_bd_s, if_pos (show (0 : Int32) = 0 from rfl), X7_tell_49, p2, sp_bd_s, X12_city_112, if_neg p3.1]
        exact Or.inr ⟨τ1, υ1, rfl, rfl, p3⟩
-- the class's city is cleared
theorem cq_clear (hn : 1000 ≤ n) (t : Nat) : ∃ τ, X2_clear n σ t = some τ ∧ τ.2.1 = σ.2.1 ∧ (∀ p k, p ≠ t → τ.1 p k = σ.1 p k) ∧ (∀ k, 8 ≤ k → k ≤ 17 → τ.1 t k = if k = 16 then 50 else 0) ∧ (∀ p i, ¬ (p = t + 4 ∨ p = t + 7) → τ.2.2.1 p i = σ.2.2.1 p i) ∧ ∀ h, h < 6 → τ.2.2.1 (t + 4) h = 0 ∧ τ.2.2.1 (t + 7) h = 0 := by
  have key := lp_inv (fun f i s => X2_clear_2 n t f s (nI i)) (fun i s => s.2.1 = σ.2.1 ∧ s.1 = σ.1 ∧ (∀ p i, ¬ (p = t + 4 ∨ p = t + 7) → s.2.2.1 p i = σ.2.2.1 p i) ∧ ∀ h, h < i → s.2.2.1 (t + 4) h = 0 ∧ s.2.2.1 (t + 7) h = 0) 6 (fun τ => τ.2.1 = σ.2.1 ∧ (∀ p k, p ≠ t → τ.1 p k = σ.1 p k) ∧ (∀ k, 8 ≤ k → k ≤ 17 → τ.1 t k = if k = 16 then 50 else 0) ∧ (∀ p i, ¬ (p = t + 4 ∨ p = t + 7) → τ.2.2.1 p i = σ.2.2.1 p i) ∧ ∀ h, h < 6 → τ.2.2.1 (t + 4) h = 0 ∧ τ.2.2.1 (t + 7) h = 0) (fun f s hI => ?_) (fun f i s hi hI hr => ?_) n 0 σ (by omega) (by omega) ⟨rfl, rfl, fun _ _ _ => rfl, fun h hh => absurd hh (Nat.not_lt_zero h)⟩
  · obtain ⟨τ, h1, h2⟩ := key
    exact ⟨τ, h1, h2⟩
  · obtain ⟨i1, i2, i3, i4⟩ := hI
    show sp_wp (X2_clear_2 n t (f + 1) s (nI 6)) _
    rw [X2_clear_2, if_pos (show (6 : Int32) ≤ nI 6 by decide), X2_clear_28]
    refine ⟨_, rfl, i1, fun p k hp => ?_, fun k h8 h17 => ?_, fun p i hp => i3 p i hp, i4⟩
    · simp only [sp_si, hp, false_and, if_false]; rw [i2]
    · have hk : k = 8 ∨ k = 9 ∨ k = 10 ∨ k = 11 ∨ k = 12 ∨ k = 13 ∨ k = 14 ∨ k = 15 ∨ k = 16 ∨ k = 17 := by omega
      rcases hk with rfl | rfl | rfl | rfl | rfl | rfl | rfl | rfl | rfl | rfl <;> simp [sp_si]
  · obtain ⟨i1, i2, i3, i4⟩ := hI
    show sp_wp (X2_clear_2 n t (f + 1) s (nI i)) _
    rw [X2_clear_2, if_neg (show ¬ (6 : Int32) ≤ nI i by show ¬ nI 6 ≤ nI i; rw [qn_le (by omega) (by omega)]; omega), qn_in (by omega) (by omega), sp_ckt, sp_pl, sp_ckt, sp_pl, sp_pl, nI_clamp (by omega), show nI i + 1 = nI (i + 1) from nI_add i 1]
    refine hr _ ⟨i1, i2, fun p j hp => ?_, fun h hh => ?_⟩
    · rw [sp_sa_np (by omega), sp_sa_np (by omega)]; exact i3 p j hp
    · by_cases e : h = i
      · subst e
        exact ⟨by rw [sp_sa_np (by omega)]; exact sp_sa_eq, sp_sa_eq⟩
      · have h4 := i4 h (by omega)
        exact ⟨by rw [sp_sa_np (by omega), sp_sa_nj e]; exact h4.1, by rw [sp_sa_nj e, sp_sa_np (by omega)]; exact h4.2⟩
def ct0 : Nat → Nat → Nat := fun p k => if p = 0 ∧ k = 16 then 50 else if p = 2 then 1 else 0
theorem g_0 : gL ct0 ([], []) := by
  have c0 : ∀ p k, p ≠ 0 → p ≠ 2 → ct0 p k = 0 := fun p k h1 h2 => by simp [ct0, h1, h2]
  refine ⟨⟨by decide, by decide, fun p k => ?_, fun b => by rw [c0 _ _ (by omega) (by omega)]; omega, fun b => ?_, fun s => by rw [c0 _ _ (by omega) (by omega)]; omega, fun h hh => by rw [c0 _ _ (by omega) (by omega)]; rfl⟩, fun b => by rw [c0 _ _ (by omega) (by omega)]; omega, fun b => by rw [c0 _ _ (by omega) (by omega)]; omega, fun b _ => by rw [c0 _ _ (by omega) (by omega)]; omega, fun h o _ _ => by rw [c0 _ _ (by omega) (by omega), c0 _ _ (by omega) (by omega)]; simp, fun h _ => by rw [c0 _ _ (by omega) (by omega)]; simp, by decide, by decide, fun h => absurd rfl h, fun h => absurd rfl h⟩
  · unfold ct0; split <;> (try split) <;> omega
  · simp [ct0]
/-- the reference begins a text -/
theorem rq_begin (hn : 1000 ≤ n) : ∃ υ, X12_city_50 n n μ (nI 0) = X12_city_106 n υ ∧ υ.1 = μ.1 ∧ (∀ p i, ¬ (p = 3 ∧ 6 ≤ i ∨ p = 4 ∧ 6 ≤ i) → υ.2.2.1 p i = μ.2.2.1 p i) ∧ (∀ k, k < 6 → υ.2.2.1 3 (6 + k) = if k = 3 then 50 else 0) ∧ ∀ h, h < 6 → υ.2.2.1 4 (6 + h) = 0 := by
  -- the second loop
  have two : ∀ s : sp_St, ∃ υ, X12_city_84 n n s (nI 0) = X12_city_106 n υ ∧ υ.1 = s.1 ∧ (∀ p i, ¬ (p = 4 ∧ 6 ≤ i) → υ.2.2.1 p i = s.2.2.1 p i) ∧ ∀ h, h < 6 → υ.2.2.1 4 (6 + h) = 0 := by
    have aux : ∀ k f i (s : sp_St), i + k = 6 → k < f → ∃ υ, X12_city_84 n f s (nI i) = X12_city_106 n υ ∧ υ.1 = s.1 ∧ (∀ p x, ¬ (p = 4 ∧ 6 + i ≤ x) → υ.2.2.1 p x = s.2.2.1 p x) ∧ ∀ h, i ≤ h → h < 6 → υ.2.2.1 4 (6 + h) = 0 := by
      intro k
      induction k with
      | zero =>
        intro f i s hi hf
        obtain ⟨f, rfl⟩ : ∃ x, f = x + 1 := ⟨f - 1, by omega⟩
        rw [X12_city_84, if_pos (show (6 : Int32) ≤ nI i by show nI 6 ≤ nI i; rw [qn_le (by omega) (by omega)]; omega)]
        exact ⟨s, rfl, rfl, fun _ _ _ => rfl, fun h h1 h2 => by omega⟩
      | succ k ih =>
        intro f i s hi hf
        obtain ⟨f, rfl⟩ : ∃ x, f = x + 1 := ⟨f - 1, by omega⟩
        rw [X12_city_84, if_neg (show ¬ (6 : Int32) ≤ nI i by show ¬ nI 6 ≤ nI i; rw [qn_le (by omega) (by omega)]; omega), show (6 : Int32) + nI i = nI (6 + i) from nI_add 6 i, qn_in (by omega) (by omega), sp_ckt, sp_pl, sp_pl, nI_clamp (by omega), show nI i + 1 = nI (i + 1) from nI_add i 1]
        obtain ⟨υ, u1, u2, u3, u4⟩ := ih f (i + 1) (sp_sa s 4 (6 + i) 0) (by omega) (by omega)
        refine ⟨υ, u1, u2, fun p x hx => ?_, fun h h1 h2 => ?_⟩
        · rw [u3 p x (by omega), sp_sa_g, if_neg (by omega)]
        · by_cases e : h = i
          · subst e; rw [u3 4 (6 + h) (by omega)]; exact sp_sa_eq
          · exact u4 h (by omega) h2
    intro s
    obtain ⟨υ, u1, u2, u3, u4⟩ := aux 6 n 0 s (by omega) (by omega)
    exact ⟨υ, u1, u2, fun p x hx => u3 p x (by omega), fun h hh => u4 h (by omega) hh⟩
  have one : ∀ k f i (s : sp_St), i + k = 6 → k < f → ∃ υ, X12_city_50 n f s (nI i) = X12_city_106 n υ ∧ υ.1 = s.1 ∧ (∀ p x, ¬ (p = 3 ∧ 6 + i ≤ x ∨ p = 4 ∧ 6 ≤ x) → υ.2.2.1 p x = s.2.2.1 p x) ∧ (∀ h, i ≤ h → h < 6 → υ.2.2.1 3 (6 + h) = if h = 3 then 50 else 0) ∧ ∀ h, h < 6 → υ.2.2.1 4 (6 + h) = 0 := by
    intro k
    induction k with
    | zero =>
      intro f i s hi hf
      obtain ⟨f, rfl⟩ : ∃ x, f = x + 1 := ⟨f - 1, by omega⟩
      rw [X12_city_50, if_pos (show (6 : Int32) ≤ nI i by show nI 6 ≤ nI i; rw [qn_le (by omega) (by omega)]; omega), X12_city_82, sp_pl]
      obtain ⟨υ, u1, u2, u3, u4⟩ := two s
      exact ⟨υ, u1, u2, fun p x hx => u3 p x (by omega), fun h h1 h2 => by omega, u4⟩
    | succ k ih =>
      intro f i s hi hf
      obtain ⟨f, rfl⟩ : ∃ x, f = x + 1 := ⟨f - 1, by omega⟩
      have e3 : (if nI i = 3 then (50 : Int32) else 0) = if i = 3 then 50 else 0 := by
        by_cases h : i = 3
        · rw [if_pos h, h]; rfl
        · rw [if_neg h, if_neg (show ¬ nI i = 3 by show ¬ nI i = nI 3; rw [qn_eq (by omega) (by omega)]; exact h)]
      rw [X12_city_50, if_neg (show ¬ (6 : Int32) ≤ nI i by show ¬ nI 6 ≤ nI i; rw [qn_le (by omega) (by omega)]; omega), sp_pl, e3, show (6 : Int32) + nI i = nI (6 + i) from nI_add 6 i, qn_in (by omega) (by omega), sp_ckt, sp_pl, sp_pl, nI_clamp (by omega), show nI i + 1 = nI (i + 1) from nI_add i 1]
      obtain ⟨υ, u1, u2, u3, u4, u5⟩ := ih f (i + 1) (sp_sa s 3 (6 + i) (if i = 3 then 50 else 0)) (by omega) (by omega)
      refine ⟨υ, u1, u2, fun p x hx => ?_, fun h h1 h2 => ?_, u5⟩
      · rw [u3 p x (by omega), sp_sa_g, if_neg (by omega)]
      · by_cases e : h = i
        · subst e; rw [u3 3 (6 + h) (by omega)]; exact sp_sa_eq
        · exact u4 h (by omega) h2
  obtain ⟨υ, u1, u2, u3, u4, u5⟩ := one 6 n 0 μ (by omega) (by omega)
  exact ⟨υ, u1, u2, fun p x hx => u3 p x (by omega), fun h hh => u4 h (by omega) hh, u5⟩
/-- the class tells a text, the reference reads it -/
theorem tell_all (hn : 1000 ≤ n) (hN : N ≤ 700) (hc : c = 2 ∨ c = 11) (hT : ∀ i, i < N → σ.2.2.1 1 i = nI (T i) ∧ μ.2.2.1 13 i = nI (T i) ∧ T i < 256) (h16 : μ.1 0 16 = nI 0) (h17 : μ.1 0 17 = nI N) (h22 : μ.1 0 22 = 0) : (∃ τ υ e' b' kd' v' ct' cd' pt', X7_tell n σ (nI N) c = some (τ, 0) ∧ X12_city_50 n n μ (nI 0) = X12_city_135 n υ ∧ LnS T N c σ μ τ υ e' b' kd' v' ct' cd' pt') ∨ ∃ τ υ, X7_tell n σ (nI N) c = some (τ, τ.1 21 2) ∧ X12_city_50 n n μ (nI 0) = X12_city_135 n υ ∧ BL c σ μ τ υ := by
  have hic : sp_isc c = true := by rcases hc with rfl | rfl <;> rfl
  have hc2 := isc_ge hic
  have hc11 := isc_le hic
  have c1 : (sp_sr σ 21 1 c).2.1 21 1 = c := by rw [sp_sr_g, if_pos ⟨rfl, rfl⟩]
  obtain ⟨τ, k1, k2, k3, k4, k5, k6⟩ := cq_clear (n := n) (σ := sp_sr σ 21 1 c) hn c
  obtain ⟨υ, u1, u2, u3, u4, u5⟩ := rq_begin (n := n) (μ := μ) hn
  have mn : sp_min (nI N) 700 = nI N := by
    unfold sp_min
    by_cases h : (700 : Int32) < nI N
    · have h' : nI 700 < nI N := h
      rw [qn_lt (by omega) (by omega)] at h'
      omega
    · rw [if_neg h]
  -- the states ahead of the first token
  have hτ : cTx T N (sp_si (sp_si (sp_si τ 21 2 0) 20 1 (nI N)) 20 2 0) := ⟨by rw [sp_si_ne (by omega)]; exact sp_si_eq, hN, fun i hi => ⟨by show τ.2.2.1 1 i = _; rw [k5 1 i (by omega)]; exact (hT i hi).1, (hT i hi).2.2⟩⟩
  have hυ : mTx T N υ := ⟨by rw [u2]; exact h17, hN, fun i hi => ⟨by rw [u3 13 i (by omega)]; exact (hT i hi).2.1, (hT i hi).2.2⟩⟩
  have tp : TP T N (sp_si (sp_si (sp_si τ 21 2 0) 20 1 (nI N)) 20 2 0) υ 0 := ⟨hτ, hυ, by omega, sp_si_eq, by rw [u2]; exact h16⟩
  obtain ⟨τ1, υ1, e1, b1, kd1, v1, n1, n2, T1, n4, n5, n6⟩ := tk_nx hn tp
  have cp : ∀ k, (sp_si (sp_si (sp_si τ 21 2 0) 20 1 (nI N)) 20 2 0).1 c k = τ.1 c k := fun k => by rw [sp_si_g, if_neg (by omega), sp_si_g, if_neg (by omega), sp_si_g, if_neg (by omega)]
  have C0 : cLs c σ (sp_si (sp_si (sp_si τ 21 2 0) 20 1 (nI N)) 20 2 0) ct0 ([], []) 0 0 := by
    refine ⟨by show τ.2.1 21 1 = c; rw [k2]; exact c1, hic, ⟨by rw [cp, k4 13 (by omega) (by omega)]; rfl, by rw [cp, k4 14 (by omega) (by omega)]; rfl, by rw [cp, k4 16 (by omega) (by omega)]; rfl, fun k hk => absurd hk (Nat.not_lt_zero k), fun k hk => absurd hk (Nat.not_lt_zero k), fun k hk => absurd hk (Nat.not_lt_zero k), fun h hh => ?_, fun k hk => absurd hk (Nat.not_lt_zero k), fun k hk => absurd hk (Nat.not_lt_zero k), fun h hh => ?_, ⟨0, by rw [cp, k4 9 (by omega) (by omega)]; rfl, by rw [cp, k4 10 (by omega) (by omega)]; rfl, by simp, fun k hk => absurd hk (Nat.not_lt_zero k)⟩, ⟨0, by rw [cp, k4 11 (by omega) (by omega)]; rfl, by rw [cp, k4 12 (by omega) (by omega)]; rfl, by simp, fun k hk => absurd hk (Nat.not_lt_zero k)⟩⟩, by rw [cp, k4 15 (by omega) (by omega)]; rfl, by rw [cp, k4 17 (by omega) (by omega)]; rfl, by rw [cp, k4 8 (by omega) (by omega)]; rfl, ⟨0, by omega, by rw [cp, k4 10 (by omega) (by omega)]; rfl⟩, ⟨0, by omega, by rw [cp, k4 12 (by omega) (by omega)]; rfl⟩, ?_⟩
    · show τ.2.2.1 (c + 4) h = _
      rw [(k6 h hh).1]; simp [ct0]; rfl
    · show τ.2.2.1 (c + 7) h = _
      rw [(k6 h hh).2]; simp [ct0]; rfl
    · refine ⟨fun p hp => ?_, fun p k hp => ?_, fun p i hp => ?_⟩
      · show τ.2.1 p = _
        rw [k2]
        funext j
        rw [sp_sr_g, if_neg (by omega)]
      · rw [sp_si_g, if_neg (by omega), sp_si_g, if_neg (by omega), sp_si_g, if_neg (by omega), k3 p k (by omega)]; rfl
      · show τ.2.2.1 p i = _
        rw [k5 p i (by omega)]; rfl
  have M0 : mLs μ υ ct0 ([], []) := by
    refine ⟨by rw [u2]; exact h22, ⟨u4 0 (by omega), u4 1 (by omega), u4 2 (by omega), u4 3 (by omega), u4 4 (by omega), u4 5 (by omega), fun k hk => absurd hk (Nat.not_lt_zero k), fun k hk => absurd hk (Nat.not_lt_zero k), fun k hk => absurd hk (Nat.not_lt_zero k), fun k hk => absurd hk (Nat.not_lt_zero k), fun k hk => absurd hk (Nat.not_lt_zero k), fun h hh => ?_, fun k hk => absurd hk (Nat.not_lt_zero k), fun k hk => absurd hk (Nat.not_lt_zero k)⟩, fun k _ => by rw [u2], fun p i hp => u3 p i ?_⟩
    · rw [u5 h hh]; simp [ct0]; rfl
    · rintro (⟨rfl, h⟩ | ⟨rfl, h⟩)
      · exact hp ⟨by omega, by omega, h⟩
      · exact hp ⟨by omega, by omega, h⟩
  have L1 : LnS T N c σ μ τ1 υ1 e1 b1 kd1 v1 ct0 ([], []) 0 := ⟨T1, ⟨0, by omega, cL_T C0 n5⟩, mL_T M0 n6, g_0, by omega⟩
  have x1 : X7_tell n σ (nI N) c = X7_tell_27 n c n τ1 (nI N) (nI 0) := by
    rw [X7_tell, sp_pl, sp_pl, c1, hic, sp_ckt, k1, sp_bv_s, sp_pl, X10_open, sp_pl, mn, sp_pl, sp_pl, n1, sp_bv_s, sp_bv_s, sp_pl]
    rfl
  have x2 : X12_city_50 n n μ (nI 0) = X12_city_112 n n υ1 (nI (fl ([], []) 0)) := by
    rw [u1, X12_city_106, n2, sp_bv_s, sp_pl]
    rfl
  rw [x1, x2]
  have := T1.2.1
  have := T1.1.2.2.1
  exact tell_lp hn (N - b1) n n 0 τ1 υ1 e1 b1 kd1 v1 ct0 ([], []) 0 (Nat.le_refl _) (by omega) (by omega) (by omega) L1
end
