-- ===== city =====
section
variable {n j : Nat} {σ μ : sp_St}
theorem Chr_c {σ τ : sp_St} {t c j : Nat} {ct : Nat → Nat → Nat} {cd : List Nat × List Nat} {row past rb rd ra rs : Nat → Int32} {acts seen : Int32} (ht : t = 22 ∨ t = 36) (gp : ∀ p, c ≤ p ∧ p ≤ c + 8 ∨ 22 ≤ p → τ.1 p = σ.1 p ∧ τ.2.1 p = σ.2.1 p ∧ τ.2.2.1 p = σ.2.2.1 p) (h : Chr σ t c ct cd j row past rb rd ra rs acts seen) : Chr τ t c ct cd j row past rb rd ra rs acts seen := by
  obtain ⟨sc, stk, m, nr, hs, ht', s, sb, sd, sa, ⟨f1, f2, f3, f4, f5, f6⟩, h2, h3, h4, h5, h6, h7, h8⟩ := h
  have k0 := gp t (by omega)
  have k1 := gp (t + 1) (by omega)
  have k2 := gp (t + 1 + 1) (by omega)
  have k8 := gp (t + 8) (by omega)
  have k9 := gp (t + 9) (by omega)
  have k10 := gp (t + 10) (by omega)
  have k11 := gp (t + 11) (by omega)
  have k12 := gp (t + 12) (by omega)
  have k13 := gp (t + 13) (by omega)
  refine ⟨sc, stk, m, nr, hs, ht', s, sb, sd, sa, ⟨f1, by rw [k1.2.1]; exact f2, f3, ?_, by rw [k2.2.2]; exact f5, f6⟩, h2, h3, ?_, h5, ?_, h7, ?_⟩
  · unfold qC qR at *
    rw [(gp c (by omega)).1, (gp (c + 1) (by omega)).2.2, (gp (c + 2) (by omega)).2.2, (gp (c + 3) (by omega)).2.2, (gp (c + 4) (by omega)).2.2, (gp (c + 5) (by omega)).2.2, (gp (c + 6) (by omega)).2.2, (gp (c + 7) (by omega)).2.2, (gp (c + 8) (by omega)).2.2]
    exact f4
  · unfold cHs at *
    rw [k0.1, k13.2.2]
    exact h4
  · unfold cSe at *
    rw [k8.1, k9.2.2, k10.2.2, k11.2.2]
    exact h6
  · rw [k12.2.2]
    exact h8
/-- a text with a fault: all stays -/
theorem Inv_bad {τ υ μ2 : sp_St} {d : Nat} (h : Inv j σ μ) (hd : σ.2.1 0 4 = d) (m1 : ∀ k, ¬ (k = 15 ∨ k = 16 ∨ k = 17 ∨ k = 22 ∨ k = 24) → μ2.1 0 k = μ.1 0 k) (m2 : μ2.2 = μ.2) (m15 : μ2.1 0 15 = 0) (hB : BL d σ μ2 τ υ) : Inv j (sp_si (sp_si τ 0 1 0) 0 2 (τ.1 21 4)) (sp_si υ 0 24 (υ.1 0 23)) := by
  obtain ⟨c, d', ct, cd, h1, h2, h3, h4, h5, h6, h7, h8, h9, h10⟩ := h
  rw [hd] at h3
  subst h3
  obtain ⟨b1, b2, b3, ⟨l1, l2, l3⟩, q1, q2⟩ := hB
  have gp : ∀ p, c ≤ p ∧ p ≤ c + 8 ∨ 22 ≤ p → (sp_si (sp_si τ 0 1 0) 0 2 (τ.1 21 4)).1 p = σ.1 p ∧ (sp_si (sp_si τ 0 1 0) 0 2 (τ.1 21 4)).2.1 p = σ.2.1 p ∧ (sp_si (sp_si τ 0 1 0) 0 2 (τ.1 21 4)).2.2.1 p = σ.2.2.1 p := fun p hp => by
    refine ⟨?_, ?_, ?_⟩
    · funext k
      rw [sp_si_g, if_neg (by omega), sp_si_g, if_neg (by omega), l2 p k (by omega)]
    · exact l1 p (by omega)
    · funext k
      exact l3 p k (by omega)
  have r1 : ∀ p i, ¬ (3 ≤ p ∧ p ≤ 11 ∧ hf p ≤ i) → (sp_si υ 0 24 (υ.1 0 23)).2.2.1 p i = μ.2.2.1 p i := fun p i hp => by
    show υ.2.2.1 p i = _
    rw [q2 p i hp, m2]
  have r2 : ∀ p, ¬ (3 ≤ p ∧ p ≤ 11) → (sp_si υ 0 24 (υ.1 0 23)).2.2.1 p = μ.2.2.1 p := fun p hp => by
    funext i
    exact r1 p i (by omega)
  have r3 : ∀ k, ¬ (15 ≤ k ∧ k ≤ 25) → (sp_si υ 0 24 (υ.1 0 23)).1 0 k = μ.1 0 k := fun k hk => by
    rw [sp_si_ne (by omega), q1 k (by omega), m1 k (by omega)]
  have er : rowOf (sp_si υ 0 24 (υ.1 0 23)) = rowOf μ := by
    funext x
    unfold rowOf
    rw [r3 33 (by omega), r3 34 (by omega), r2 14 (by omega), r2 15 (by omega), r2 16 (by omega), r2 17 (by omega), r2 18 (by omega), r2 19 (by omega)]
  have hK : qK ct := by
    obtain ⟨_, _, _, _, _, _, _, _, _, _, f1, _⟩ := h6
    exact f1.2.2.2.2.2.1
  refine ⟨c, d, ct, cd, h1, ?_, ?_, h4, ?_, ?_, ?_, ?_, ?_, ?_⟩
  · show τ.2.1 0 3 = c
    rw [l1 0 (by omega)]; exact h2
  · show τ.2.1 0 4 = d
    rw [l1 0 (by omega)]; exact hd
  · obtain ⟨a1, a2, a3, a4, a5, a6, a7, a8, a9, a10, a11, a12⟩ := h5
    have b10 := hK.1
    have s5 := hK.2.1
    have f3 : hf 3 = 6 := rfl
    have f6 : hf 6 = 5 := rfl
    have f7 : hf 7 = 10 := rfl
    have f8 : hf 8 = 10 := rfl
    have f10 : hf 10 = 700 := rfl
    have f11 : hf 11 = 700 := rfl
    refine ⟨?_, ?_, ?_, ?_, ?_, fun b hb => ?_, fun b hb => ?_, fun s hs => ?_, fun k hk => ?_, fun k hk => ?_, a11, a12⟩
    · rw [r1 3 1 (by omega)]; exact a1
    · rw [r1 3 2 (by omega)]; exact a2
    · rw [r1 3 3 (by omega)]; exact a3
    · rw [r1 3 4 (by omega)]; exact a4
    · rw [r1 3 5 (by omega)]; exact a5
    · rw [r1 7 b (by omega)]; exact a6 b hb
    · rw [r1 8 b (by omega)]; exact a7 b hb
    · rw [r1 6 s (by omega)]; exact a8 s hs
    · rw [r1 10 k (by omega)]; exact a9 k hk
    · rw [r1 11 k (by omega)]; exact a10 k hk
  · rw [er, r2 20 (by omega), r2 29 (by omega), r2 30 (by omega), r2 31 (by omega), r2 12 (by omega), r3 35 (by omega), r3 36 (by omega)]
    exact Chr_c (by omega) gp h6
  · rw [r3 55 (by omega), sp_si_ne (by omega), sp_si_ne (by omega), l2 0 8 (by omega)]; exact h7
  · rw [r3 55 (by omega), r2 37 (by omega), r2 38 (by omega), r2 39 (by omega), r2 40 (by omega), r2 41 (by omega), r2 42 (by omega), r3 56 (by omega), r3 57 (by omega)]
    rcases h8 with h8 | ⟨h8, h8'⟩
    · exact Or.inl h8
    · exact Or.inr ⟨h8, Chr_c (by omega) gp h8'⟩
  · obtain ⟨_, _, _, _, _, h67⟩ := h9
    refine ⟨0, by omega, ?_, ?_, fun i hi => absurd hi (Nat.not_lt_zero i), ?_⟩
    · rw [sp_si_ne (by omega)]; exact sp_si_eq
    · rw [sp_si_ne (by omega), q1 15 (by omega)]; exact m15
    · rw [(gp 67 (by omega)).2.2]; exact h67
  · rw [sp_si_eq, sp_si_eq]; exact b3
/-- a text that is told: all anew -/
theorem Inv_new {τ υ ν ρ μ2 : sp_St} {c d : Nat} {T : Nat → Nat} {N e b kd v pt : Nat} {ct : Nat → Nat → Nat} {cd : List Nat × List Nat} {sc : Nat → Nat} (hcd : c = 2 ∧ d = 11 ∨ c = 11 ∧ d = 2) (h34 : ∀ k, k < 3 → σ.2.2.1 34 k = μ.2.2.1 12 k) (h67 : σ.2.2.1 67 0 = 0) (m2 : μ2.2 = μ.2) (m15 : μ2.1 0 15 = 0) (m24 : μ2.1 0 24 = -1) (hL : LnS T N d σ μ2 τ υ e b kd v ct cd pt) (B1 : qSC ρ 23 d ct cd sc) (B2 : qI ct sc) (B3 : ∀ k, k < 35 ∨ 47 ≤ k → sc k = scz ct k) (B4 : ∀ h, h < 6 → sc (35 + h) = ct 7 h) (B5 : cfB (sp_sr (sp_sr (sp_si (sp_si τ 0 1 0) 0 2 (-1)) 0 4 c) 0 3 d) ρ) (O1 : ∀ k, ¬ (k = 33 ∨ k = 34 ∨ k = 35 ∨ k = 36 ∨ k = 55) → ν.1 0 k = υ.1 0 k) (O2 : ν.1 0 33 = 0 ∧ ν.1 0 34 = 0 ∧ ν.1 0 35 = 0 ∧ ν.1 0 36 = 0 ∧ ν.1 0 55 = 0) (O3 : ∀ p, p = 12 ∨ p = 13 ∨ 20 ≤ p → ν.2.2.1 p = υ.2.2.1 p) (O4 : ∀ p x, 3 ≤ p → p ≤ 11 → x < hf p → ν.2.2.1 p x = υ.2.2.1 p (hf p + x)) (O5 : ∀ x, x < ct 0 13 → ν.2.2.1 14 x = υ.2.2.1 9 (10 + x)) (O6 : ∀ x, x < 10 → ν.2.2.1 15 x = 0) (O7 : ∀ x, x < 5 → ν.2.2.1 16 x = υ.2.2.1 5 (5 + x) ∧ ν.2.2.1 17 x = 0) (O8 : ∀ x, x < 6 → ν.2.2.1 19 x = υ.2.2.1 4 (6 + x)) : Inv j (sp_si (sp_si (sp_si (sp_si ρ 30 3 0) 22 4 0) 22 5 0) 0 8 0) ν := by
  obtain ⟨hT, ⟨kk, hkk, hC⟩, ⟨h22, ⟨a1, a2, a3, a4, a5, a6, a7, a8, a9, a10, a11, a12, a13, a14⟩, q1, q2⟩, hG, hpt⟩ := hL
  obtain ⟨hK, g2, g3, g4, g5, g6, g7, g8, g9⟩ := hG
  have b10 := hK.1
  have s5 := hK.2.1
  obtain ⟨l1, l2, l3⟩ := hC.2.2.2.2.2.2.2.2
  -- the class's rows outside
  have ρr : ∀ p, p ≠ 24 → ¬ (d ≤ p ∧ p ≤ d + 8) → ρ.2.2.1 p = σ.2.2.1 p := fun p h1 h2 => by
    rw [(B5.2 p h1).2]
    funext i
    exact l3 p i h2
  have ρ0 : ∀ k, k ≠ 3 → k ≠ 4 → ρ.2.1 0 k = σ.2.1 0 k := fun k h1 h2 => by
    rw [B5.1 0 (by omega), sp_sr_g, if_neg (by omega), sp_sr_g, if_neg (by omega)]
    show τ.2.1 0 k = _
    rw [l1 0 (by omega)]
  have f3 : hf 3 = 6 := rfl
  have f4 : hf 4 = 6 := rfl
  have f6 : hf 6 = 5 := rfl
  have f7 : hf 7 = 10 := rfl
  have f8 : hf 8 = 10 := rfl
  have f10 : hf 10 = 700 := rfl
  have f11 : hf 11 = 700 := rfl
  obtain ⟨y1, _, _, y3, _⟩ := hC.2.2.1.2.2.2.2.2.2.2.2.2.2.1
  obtain ⟨y2, _, _, y4, _⟩ := hC.2.2.1.2.2.2.2.2.2.2.2.2.2.2
  have z10 : ∀ k, 10 ≤ k → k < 30 → sc k = 0 := fun k h1 h2 => by rw [B3 k (by omega)]; unfold scz; rw [if_neg (by omega), if_neg (by omega)]
  have z47 : ∀ k, 47 ≤ k → sc k = 0 := fun k h1 => by rw [B3 k (by omega)]; unfold scz; rw [if_neg (by omega), if_neg (by omega)]
  refine ⟨d, c, ct, cd, by omega, ?_, ?_, g9, ?_, ⟨sc, fun _ => [], 0, 0, fun _ _ => 0, fun _ _ => [], 0, fun _ => 0, fun _ => 0, fun _ => 0, ?_, ?_, ?_, ?_, ?_, ?_, ?_, ?_⟩, ?_, Or.inl O2.2.2.2.2, ?_, ?_⟩
  · show ρ.2.1 0 3 = d
    rw [B5.1 0 (by omega), sp_sr_g, if_pos ⟨rfl, rfl⟩]
  · show ρ.2.1 0 4 = c
    rw [B5.1 0 (by omega), sp_sr_g, if_neg (by omega), sp_sr_g, if_pos ⟨rfl, rfl⟩]
  · refine ⟨?_, ?_, ?_, ?_, ?_, fun x hx => ?_, fun x hx => ?_, fun x hx => ?_, fun x hx => ?_, fun x hx => ?_, by omega, by omega⟩
    · rw [O4 3 1 (by omega) (by omega) (by omega)]; exact a2
    · rw [O4 3 2 (by omega) (by omega) (by omega)]; exact a3
    · rw [O4 3 3 (by omega) (by omega) (by omega)]; exact a4
    · rw [O4 3 4 (by omega) (by omega) (by omega)]; exact a5
    · rw [O4 3 5 (by omega) (by omega) (by omega)]; exact a6
    · rw [O4 7 x (by omega) (by omega) (by omega)]; exact a7 x hx
    · rw [O4 8 x (by omega) (by omega) (by omega)]; exact a8 x hx
    · rw [O4 6 x (by omega) (by omega) (by omega)]; exact a11 x hx
    · rw [O4 10 x (by omega) (by omega) (by omega)]; exact a13 x hx
    · rw [O4 11 x (by omega) (by omega) (by omega)]; exact a14 x hx
  · refine qSC_q2 (σ := ρ) (t := 23) (fun p p1 p2 => ⟨?_, rfl⟩) rfl rfl B1
    rw [sp_si_pq (by omega), sp_si_pq (by omega), sp_si_pq (by omega), sp_si_pq (by omega)]
  · unfold mRow rowOf
    refine ⟨?_, ?_, fun x hx => ?_, fun x hx => ?_, fun x hx => ?_, fun x hx => ?_, fun x hx k hk => absurd hk (Nat.not_lt_zero k), fun x hx => ?_⟩
    · rw [if_pos rfl, O2.1, z47 47 (by omega)]; rfl
    · rw [if_neg (by omega), if_pos rfl, O2.2.1, z47 48 (by omega)]; rfl
    · rw [if_neg (by omega), if_neg (by omega), if_pos (by omega), show 2 + x - 2 = x by omega, O5 x hx, a9 x hx, B3 x (by omega)]
      unfold scz
      rw [if_pos hx]
    · rw [if_neg (by omega), if_neg (by omega), if_neg (by omega), if_pos (by omega), show 12 + x - 12 = x by omega, O6 x (by omega)]
      unfold sqState
      rw [z10 (10 + x) (by omega) (by omega), if_pos rfl]; rfl
    · rw [if_neg (by omega), if_neg (by omega), if_neg (by omega), if_neg (by omega), if_pos (by omega), show 22 + x - 22 = x by omega, (O7 x (by omega)).1, a10 x hx, B3 (30 + x) (by omega)]
      unfold scz
      rw [if_neg (by omega), if_pos (by omega), show 30 + x - 30 = x by omega]
    · rw [if_neg (by omega), if_neg (by omega), if_neg (by omega), if_neg (by omega), if_neg (by omega), if_pos (by omega), show 27 + x - 27 = x by omega, (O7 x (by omega)).2]; rfl
    · rw [if_neg (by omega), if_neg (by omega), if_neg (by omega), if_neg (by omega), if_neg (by omega), if_neg (by omega), if_neg (by omega), show 82 + x - 82 = x by omega, O8 x hx, a12 x hx, B4 x hx]
  · refine ⟨B2, fun s hs => ⟨List.Pairwise.nil, fun x => ⟨fun hx => absurd hx List.not_mem_nil, fun hx => ?_⟩⟩, B1.2.2.2.2.2.2, by rw [z47 47 (by omega)]; omega, by rw [z47 49 (by omega)]; omega⟩
    have := hx.2
    rw [z10 (10 + x) (by omega) (by omega)] at this
    omega
  · refine ⟨by omega, by omega, ?_, ?_, fun i hi => absurd hi (Nat.not_lt_zero i)⟩
    · rw [sp_si_g, if_neg (by omega), sp_si_ne (by omega)]; exact sp_si_eq
    · rw [sp_si_g, if_neg (by omega)]; exact sp_si_eq
  · exact O2.2.2.1
  · refine ⟨by omega, ?_, fun i hi => absurd hi (Nat.not_lt_zero i)⟩
    rw [sp_si_g, if_neg (by omega), sp_si_g, if_neg (by omega), sp_si_g, if_neg (by omega)]; exact sp_si_eq
  · exact O2.2.2.2.1
  · intro k hk
    show ρ.2.2.1 34 k = _
    rw [ρr 34 (by omega) (by omega), O3 12 (by omega), q2 12 k (by omega), m2]
    exact h34 k hk
  · rw [O2.2.2.2.2]; exact sp_si_eq
  · refine ⟨0, by omega, ?_, ?_, fun i hi => absurd hi (Nat.not_lt_zero i), ?_⟩
    · rw [sp_si_ne (by omega), sp_si_g, if_neg (by omega), sp_si_g, if_neg (by omega), sp_si_g, if_neg (by omega), (B5.2 0 (by omega)).1]
      show (sp_si (sp_si τ 0 1 0) 0 2 (-1)).1 0 1 = _
      rw [sp_si_ne (by omega)]; exact sp_si_eq
    · rw [O1 15 (by omega), q1 15 (by omega)]; exact m15
    · show ρ.2.2.1 67 0 = 0
      rw [ρr 67 (by omega) (by omega)]; exact h67
  · rw [sp_si_ne (by omega), sp_si_g, if_neg (by omega), sp_si_g, if_neg (by omega), sp_si_g, if_neg (by omega), (B5.2 0 (by omega)).1, O1 24 (by omega), q1 24 (by omega), m24]
    show (sp_si (sp_si τ 0 1 0) 0 2 (-1)).1 0 2 = _
    exact sp_si_eq
theorem op_city (hn : 5000 ≤ n) (h : Inv j σ μ) (a1 : Int32) : agr (j + 1) kd2 (X11_city n σ a1) (X12_city n μ a1) := by
  have hI := Inv_code (v := 0) h
  have h3 : (sp_si μ 0 3 0).1 0 3 = 0 := sp_si_eq
  rw [X12_city, sp_pl, X11_city]
  generalize sp_si μ 0 3 0 = μ1 at *
  have hI' := hI
  obtain ⟨c, d, ct, cd, i1, i2, i3, i4, i5, i6, i7, i8, ⟨tp, t1, t2, t3, t4, t5⟩, i10⟩ := hI'
  have hthr : agr (j + 1) kd2 (X11_city_12 n σ) (X12_city_17 n μ1) := agr_thr rfl rfl (Inv_mono (by omega) (Inv_code hI)) sp_si_eq rfl (by decide)
  rcases a_cases a1 (tp + 1) (by omega) with ⟨N, hN, rfl⟩ | ⟨_, hno⟩
  · have hn0 : ¬ nI N < 0 := by
      show ¬ nI N < nI 0
      rw [qn_lt (by omega) (by omega)]; omega
    have hle : nI N ≤ nI tp := by rw [qn_le (by omega) (by omega)]; omega
    have hid : sp_isc d = true := by rcases i1 with ⟨_, rfl⟩ | ⟨_, rfl⟩ <;> rfl
    have hicc : sp_isc c = true := by rcases i1 with ⟨rfl, _⟩ | ⟨rfl, _⟩ <;> rfl
    have hc2 := isc_ge hid
    have hc11 := isc_le hid
    have hd2 : d = 2 ∨ d = 11 := by omega
    rw [if_neg hn0, if_neg hn0, t2, t3, if_pos hle, if_pos hle, sp_pl, i3, hid, sp_ckt, sp_pl, sp_pl, sp_pl, sp_pl, sp_pl, sp_pl]
    -- the reference's state as it begins to read
    have w1 : ∀ k, ¬ (k = 15 ∨ k = 16 ∨ k = 17 ∨ k = 22 ∨ k = 24) → (sp_si (sp_si (sp_si (sp_si (sp_si μ1 0 15 0) 0 17 (nI N)) 0 16 0) 0 22 0) 0 24 (-1)).1 0 k = μ1.1 0 k := fun k hk => by
      rw [sp_si_ne (by omega), sp_si_ne (by omega), sp_si_ne (by omega), sp_si_ne (by omega), sp_si_ne (by omega)]
    have w2 : (sp_si (sp_si (sp_si (sp_si (sp_si μ1 0 15 0) 0 17 (nI N)) 0 16 0) 0 22 0) 0 24 (-1)).2 = μ1.2 := rfl
    have w15 : (sp_si (sp_si (sp_si (sp_si (sp_si μ1 0 15 0) 0 17 (nI N)) 0 16 0) 0 22 0) 0 24 (-1)).1 0 15 = 0 := by
      rw [sp_si_ne (by omega), sp_si_ne (by omega), sp_si_ne (by omega), sp_si_ne (by omega)]; exact sp_si_eq
    have w16 : (sp_si (sp_si (sp_si (sp_si (sp_si μ1 0 15 0) 0 17 (nI N)) 0 16 0) 0 22 0) 0 24 (-1)).1 0 16 = nI 0 := by
      rw [sp_si_ne (by omega), sp_si_ne (by omega)]; exact sp_si_eq
    have w17 : (sp_si (sp_si (sp_si (sp_si (sp_si μ1 0 15 0) 0 17 (nI N)) 0 16 0) 0 22 0) 0 24 (-1)).1 0 17 = nI N := by
      rw [sp_si_ne (by omega), sp_si_ne (by omega), sp_si_ne (by omega)]; exact sp_si_eq
    have w22 : (sp_si (sp_si (sp_si (sp_si (sp_si μ1 0 15 0) 0 17 (nI N)) 0 16 0) 0 22 0) 0 24 (-1)).1 0 22 = 0 := by
      rw [sp_si_ne (by omega)]; exact sp_si_eq
    have w24 : (sp_si (sp_si (sp_si (sp_si (sp_si μ1 0 15 0) 0 17 (nI N)) 0 16 0) 0 22 0) 0 24 (-1)).1 0 24 = -1 := sp_si_eq
    show agr (j + 1) kd2 _ (X12_city_50 n n (sp_si (sp_si (sp_si (sp_si (sp_si μ1 0 15 0) 0 17 (nI N)) 0 16 0) 0 22 0) 0 24 (-1)) (nI 0))
    generalize sp_si (sp_si (sp_si (sp_si (sp_si μ1 0 15 0) 0 17 (nI N)) 0 16 0) 0 22 0) 0 24 (-1) = μ2 at *
    have hTx : ∀ i, i < N → σ.2.2.1 1 i = nI ((σ.2.2.1 1 i).toNatClampNeg) ∧ μ2.2.2.1 13 i = nI ((σ.2.2.1 1 i).toNatClampNeg) ∧ (σ.2.2.1 1 i).toNatClampNeg < 256 := fun i hi => by
      obtain ⟨e1, x, e2, e3⟩ := t4 i (by omega)
      have e4 : (σ.2.2.1 1 i).toNatClampNeg = x := by rw [e3]; exact nI_clamp (by omega)
      rw [e4, w2, ← e1]
      exact ⟨e3, e3, e2⟩
    rcases tell_all (n := n) (T := fun i => (σ.2.2.1 1 i).toNatClampNeg) (by omega) (by omega) hd2 hTx w16 w17 w22 with ⟨τ, υ, e', b', kd', v', ct', cd', pt', p1, p2, p3⟩ | ⟨τ, υ, p1, p2, p3⟩
    · -- told
      have p3' := p3
      obtain ⟨hT, ⟨kk, hkk, hC⟩, hM, hG, hpt⟩ := p3'
      have l1 := hC.2.2.2.2.2.2.2.2.1
      have hC2 : qC (sp_sr (sp_sr (sp_si (sp_si τ 0 1 0) 0 2 (-1)) 0 4 c) 0 3 d) d ct' cd' := by
        have hq := hC.2.2.1
        unfold qC qR at *
        rw [show (sp_sr (sp_sr (sp_si (sp_si τ 0 1 0) 0 2 (-1)) 0 4 c) 0 3 d).1 d = τ.1 d by show (sp_si (sp_si τ 0 1 0) 0 2 (-1)).1 d = _; rw [sp_si_pq (by omega), sp_si_pq (by omega)]]
        exact hq
      obtain ⟨ρ, sc, B0, B1, B2, B3, B4, B5⟩ := sq_begin (n := n) (by omega) hid hC2 hG
      obtain ⟨ν, O0, O1, O2, O3, O4, O5, O6, O7, O8, O9, O10, O11, O12⟩ := rq_over (n := n) (μ := υ) (by omega) hG.1.1 hM.2.1.2.2.1
      have d4 : (sp_si (sp_si τ 0 1 0) 0 2 (-1)).2.1 0 4 = d := by show τ.2.1 0 4 = d; rw [l1 0 (by omega)]; exact i3
      have d3 : (sp_si (sp_si τ 0 1 0) 0 2 (-1)).2.1 0 3 = c := by show τ.2.1 0 3 = c; rw [l1 0 (by omega)]; exact i2
      have EX : (sp_bd (X7_tell n σ (nI N) d) fun σ5 v6 => sp_pl (sp_si σ5 0 1 ((0 : Int32))) fun σ7 => if v6 = 0 then sp_pl (sp_si σ7 0 2 ((-1 : Int32))) fun σ9 => sp_pl (σ9.2.1 0 4) fun c11 => sp_ck (sp_isc c11) <| sp_pl (σ9.2.1 0 3) fun c14 => sp_ck (sp_isc c14) <| sp_pl (sp_sr σ9 0 4 c14) fun σ17 => sp_pl (sp_sr σ17 0 3 c11) fun σ19 => sp_bv (X1_begin n σ19 22 c11) fun σ22 => sp_pl (sp_si σ22 0 8 ((0 : Int32))) fun σ23 => some (σ23, Sum.inl ((0 : Int32))) else sp_pl (sp_si σ7 0 2 (σ7.1 21 4)) fun σ25 => sp_pl (sp_sa σ25 34 ((0 : Int32)).toNatClampNeg ((sp_g σ25 34 ((0 : Int32))) + ((1 : Int32)))) fun σ27 => some (σ27, (Sum.inl v6 : Int32 ⊕ Nat))) = some (sp_si (sp_si (sp_si (sp_si ρ 30 3 0) 22 4 0) 22 5 0) 0 8 0, Sum.inl 0) := by
        rw [p1, sp_bd_s, sp_pl, if_pos (show (0 : Int32) = 0 from rfl), sp_pl, sp_pl, d4, hid, sp_ckt, sp_pl, d3, hicc, sp_ckt, sp_pl, sp_pl, X1_begin, B0, sp_bv_s, sp_pl, sp_pl, sp_pl, sp_bv_s, sp_pl]
      have EY : X12_city_50 n n μ2 (nI 0) = some (ν, 0) := by
        rw [p2, X12_city_135, if_pos hM.1, O0, sp_bv_s]
      refine agr_ret EX EY ?_ ?_
      · refine Inv_new i1 ?_ t5 w2 w15 w24 p3 B1 B2 B3 B4 B5 O1 ⟨O2, O3, O4, O5, O6⟩ O7 O8 O9 O10 O11 O12
        obtain ⟨_, _, _, _, _, _, _, _, _, _, _, _, _, _, _, _, _, f8⟩ := i6
        exact f8
      · rw [O1 3 (by omega), hM.2.2.1 3 (by omega), w1 3 (by omega)]; exact h3
    · -- a fault
      have hne : ¬ τ.1 21 2 = 0 := by rw [p3.2.1]; exact p3.1
      have f21 : (sp_si τ 0 1 0).1 21 4 = τ.1 21 4 := by rw [sp_si_g, if_neg (by omega)]
      have EX : (sp_bd (X7_tell n σ (nI N) d) fun σ5 v6 => sp_pl (sp_si σ5 0 1 ((0 : Int32))) fun σ7 => if v6 = 0 then sp_pl (sp_si σ7 0 2 ((-1 : Int32))) fun σ9 => sp_pl (σ9.2.1 0 4) fun c11 => sp_ck (sp_isc c11) <| sp_pl (σ9.2.1 0 3) fun c14 => sp_ck (sp_isc c14) <| sp_pl (sp_sr σ9 0 4 c14) fun σ17 => sp_pl (sp_sr σ17 0 3 c11) fun σ19 => sp_bv (X1_begin n σ19 22 c11) fun σ22 => sp_pl (sp_si σ22 0 8 ((0 : Int32))) fun σ23 => some (σ23, Sum.inl ((0 : Int32))) else sp_pl (sp_si σ7 0 2 (σ7.1 21 4)) fun σ25 => sp_pl (sp_sa σ25 34 ((0 : Int32)).toNatClampNeg ((sp_g σ25 34 ((0 : Int32))) + ((1 : Int32)))) fun σ27 => some (σ27, (Sum.inl v6 : Int32 ⊕ Nat))) = some (sp_sa (sp_si (sp_si τ 0 1 0) 0 2 (τ.1 21 4)) 34 0 ((sp_si (sp_si τ 0 1 0) 0 2 (τ.1 21 4)).2.2.1 34 0 + 1), Sum.inl (τ.1 21 2)) := by
        rw [p1, sp_bd_s, sp_pl, if_neg hne, sp_pl, f21, sp_pl]
        rfl
      have EY : X12_city_50 n n μ2 (nI 0) = some (sp_sa (sp_si υ 0 24 (υ.1 0 23)) 12 0 ((sp_si υ 0 24 (υ.1 0 23)).2.2.1 12 0 + 1), τ.1 21 2) := by
        rw [p2, X12_city_135, if_neg p3.1, sp_pl, sp_pl, p3.2.1]
        show some (sp_sa (sp_si υ 0 24 (υ.1 0 23)) 12 0 ((sp_si υ 0 24 (υ.1 0 23)).2.2.1 12 0 + 1), (sp_si υ 0 24 (υ.1 0 23)).1 0 22) = _
        rw [sp_si_ne (by omega)]
      refine agr_ret EX EY (Inv_mono (by omega) (Inv_ref (by omega) (Inv_bad hI i3 w1 w2 w15 p3))) ?_
      show (sp_si υ 0 24 (υ.1 0 23)).1 0 3 = 0
      rw [sp_si_ne (by omega), p3.2.2.2.2.1 3 (by omega), w1 3 (by omega)]; exact h3
  · by_cases hlt : a1 < 0
    · rw [if_pos hlt, if_pos hlt]; exact hthr
    · have hgt : ¬ a1 ≤ nI tp := fun hh => hno (by
        have x1 := Int32.le_iff_toInt_le.mp hh
        rw [nI_toInt (by omega)] at x1
        have x2 : ¬ a1.toInt < 0 := fun hx => hlt (Int32.lt_iff_toInt_lt.mpr hx)
        omega)
      rw [if_neg hlt, if_neg hlt, t2, t3, if_neg hgt, if_neg hgt]; exact hthr
end
