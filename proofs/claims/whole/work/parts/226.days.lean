-- ===== WHAT SCENES KEEP; DAYS ON BOTH SIDES =====
theorem qs_mono {f g : Nat → Nat} : ∀ {N : Nat}, (∀ k, k < N → f k ≤ g k) → qs f N ≤ qs g N := by
  intro N
  induction N with
  | zero => intro _; exact Nat.le_refl _
  | succ N ih => intro h; rw [qs_s, qs_s]; have := ih fun k hk => h k (by omega); have := h N (by omega); omega
theorem qs_upd {f : Nat → Nat} {b x : Nat} (h0 : f b = 0) : ∀ {N : Nat}, b < N → qs (fun k => if k = b then x else f k) N = qs f N + x := by
  intro N
  induction N with
  | zero => intro h; omega
  | succ N ih =>
    intro h
    rw [qs_s, qs_s]
    by_cases e : N = b
    · subst e
      have : qs (fun k => if k = N then x else f k) N = qs f N := qs_cong fun k hk => by rw [if_neg (by omega)]
      rw [this, if_pos rfl, h0]
      omega
    · rw [ih (by omega), if_neg e]
      omega
section
variable {n j c t : Nat} {σ μ : sp_St} {ct : Nat → Nat → Nat} {cd : List Nat × List Nat} {sc sc' : Nat → Nat} {stk : Nat → List Nat}
theorem qI_move (h5 : ct 0 14 ≤ 5) (h : qI ct sc) (ha : ∀ b, b < ct 0 13 → sc' b ≤ 99) (hp : ∀ b, b < ct 0 13 → sc' (10 + b) = sc (10 + b) ∨ sc' (10 + b) = 0 ∨ sc' (10 + b) = 6) (hk : ∀ k, 20 ≤ k → k ≠ 47 → k ≠ 48 → sc' k = sc k) (h48 : sc' 48 ≤ 10 * sc' 47) (hb10 : ct 0 13 ≤ 10) : qI ct sc' := by
  obtain ⟨i1, i2, i3, i4, i5, i6, i7, i8, i9, i10⟩ := h
  refine ⟨ha, fun b hb => ?_, fun b hb => ?_, fun s hs => ?_, fun s hs => ?_, fun h hh => ?_, fun h o hh ho => ?_, fun h hh => ?_, fun h hh => ?_, h48⟩
  · have := i2 b hb
    rcases hp b hb with e | e | e <;> omega
  · rw [hk (20 + b) (by omega) (by omega) (by omega), hk 49 (by omega) (by omega) (by omega)]
    exact i3 b hb
  · rw [hk (30 + s) (by omega) (by omega) (by omega)]
    refine Nat.le_trans ?_ (i4 s hs)
    unfold qus
    refine qs_mono fun b hb => ?_
    by_cases e : sc' (10 + b) = s + 1
    · rw [if_pos e, if_pos (by rcases hp b hb with e1 | e1 | e1 <;> omega)]
      exact Nat.le_refl _
    · rw [if_neg e]; exact Nat.zero_le _
  · rw [hk (30 + s) (by omega) (by omega) (by omega)]; exact i5 s hs
  · rw [hk (35 + h) (by omega) (by omega) (by omega)]; exact i6 h hh
  · rw [hk (35 + h) (by omega) (by omega) (by omega), hk (35 + o) (by omega) (by omega) (by omega)]; exact i7 h o hh ho
  · rw [hk (35 + h) (by omega) (by omega) (by omega)]; exact i8 h hh
  · rw [hk (35 + h) (by omega) (by omega) (by omega), hk (41 + h) (by omega) (by omega) (by omega)]; exact i9 h hh
theorem qlet_pl {s b : Nat} (hb : b < 10) : qlet ct sc s (10 + b) = sc (10 + b) ∨ qlet ct sc s (10 + b) = 0 := by
  unfold qlet
  cases e : qtop sc s (ct 0 13) with
  | none => exact Or.inl rfl
  | some x =>
    show qu sc (10 + x) 0 (10 + b) = _ ∨ _
    by_cases eb : b = x
    · subst eb; exact Or.inr qu_e
    · exact Or.inl (qu_n (by omega))
theorem qhic_pl {b : Nat} (hb : b < 10) : ∀ s, qhic ct sc s (10 + b) = sc (10 + b) ∨ qhic ct sc s (10 + b) = 0 := by
  intro s
  induction s with
  | zero => exact Or.inl rfl
  | succ s ih =>
    unfold qhic
    split
    · exact ih
    · split
      · rcases qlet_pl (ct := ct) (sc := qhic ct sc s) (s := s) hb with e | e
        · rw [e]; exact ih
        · exact Or.inr e
      · exact ih
theorem qd3_k {k : Nat} (hb10 : ct 0 13 ≤ 10) (hk : 20 ≤ k) : qd3 ct cd sc k = sc k := by
  unfold qd3
  rw [qhic_oth (by omega), qres_lo (by omega), qang_hi (by omega)]
theorem qday_k {k : Nat} (hb10 : ct 0 13 ≤ 10) (hk : 20 ≤ k) (h7 : k ≠ 47) (h8 : k ≠ 48) : qday ct cd sc k = sc k := by
  unfold qday
  rw [qu_n h7, qfa_hi hb10 (by omega) h8 _ (Nat.le_refl _), qd3_k hb10 hk]
theorem qday_47 (hb10 : ct 0 13 ≤ 10) : qday ct cd sc 47 = sc 47 + 1 := by
  unfold qday
  rw [qu_e, qfa_hi hb10 (by omega) (by omega) _ (Nat.le_refl _), qd3_k hb10 (by omega)]
theorem qday_48 (hb10 : ct 0 13 ≤ 10) : qday ct cd sc 48 ≤ sc 48 + 10 := by
  unfold qday
  rw [qu_n (by omega)]
  have := qfa_48 (sc := qd3 ct cd sc) hb10 (ct 0 13) (Nat.le_refl _)
  rw [qd3_k hb10 (by omega)] at this
  omega
theorem qday_a {b : Nat} (hb10 : ct 0 13 ≤ 10) (hb : b < ct 0 13) (ha : sc b ≤ 99) : qday ct cd sc b ≤ 99 := by
  unfold qday
  rw [qu_n (by omega)]
  refine Nat.le_trans (qfa_lo hb10 (by omega) _ (Nat.le_refl _)) ?_
  unfold qd3
  rw [qhic_oth (by omega), qres_lo (by omega)]
  unfold qang
  rw [if_pos hb]
  split <;> omega
theorem qday_p {b : Nat} (hb10 : ct 0 13 ≤ 10) (hb : b < ct 0 13) : qday ct cd sc (10 + b) = sc (10 + b) ∨ qday ct cd sc (10 + b) = 0 ∨ qday ct cd sc (10 + b) = 6 := by
  unfold qday
  rw [qu_n (by omega), qfa_hi hb10 (by omega) (by omega) _ (Nat.le_refl _)]
  unfold qd3
  rcases qhic_pl (ct := ct) (sc := qres (qang ct cd sc (ct 0 13)) (ct 0 13)) (b := b) (by omega) (ct 0 14) with e | e
  · rw [e]
    unfold qres
    by_cases q : 10 ≤ 10 + b ∧ 10 + b < 10 + ct 0 13 ∧ ¬(qang ct cd sc (ct 0 13) (10 + b) = 0 ∨ qang ct cd sc (ct 0 13) (10 + b) = 6) ∧ qang ct cd sc (ct 0 13) (10 + b - 10) = 0
    · rw [if_pos q]; exact Or.inr (Or.inr rfl)
    · rw [if_neg q, qang_hi (by omega)]; exact Or.inl rfl
  · exact Or.inr (Or.inl e)
theorem qI_day (hK : qK ct) (h : qI ct sc) : qI ct (qday ct cd sc) := by
  refine qI_move hK.2.1 h (fun b hb => qday_a hK.1 hb (h.1 b hb)) (fun b hb => qday_p hK.1 hb) (fun k h1 h2 h3 => qday_k hK.1 h1 h2 h3) ?_ hK.1
  have h1 := qday_48 (cd := cd) (sc := sc) hK.1
  have h2 := h.2.2.2.2.2.2.2.2.2
  rw [qday_47 hK.1]
  omega
/-- so many days -/
def qdn (ct : Nat → Nat → Nat) (cd : List Nat × List Nat) (sc : Nat → Nat) : Nat → Nat → Nat
  | 0 => sc
  | k + 1 => qday ct cd (qdn ct cd sc k)
def qfn (ct : Nat → Nat → Nat) (cd : List Nat × List Nat) (sc : Nat → Nat) (h : Nat) : Nat → Nat
  | 0 => 0
  | k + 1 => qfn ct cd sc h k + qfts ct cd (qdn ct cd sc k) h
theorem qdn_s {k : Nat} : qdn ct cd sc (k + 1) = qday ct cd (qdn ct cd sc k) := rfl
theorem qfn_s {k h : Nat} : qfn ct cd sc h (k + 1) = qfn ct cd sc h k + qfts ct cd (qdn ct cd sc k) h := rfl
theorem qdn_I (hK : qK ct) (h : qI ct sc) : ∀ k, qI ct (qdn ct cd sc k) ∧ qdn ct cd sc k 47 = sc 47 + k ∧ qdn ct cd sc k 49 = sc 49 := by
  intro k
  induction k with
  | zero => exact ⟨h, rfl, rfl⟩
  | succ k ih =>
    rw [qdn_s]
    refine ⟨qI_day hK ih.1, ?_, ?_⟩
    · rw [qday_47 hK.1, ih.2.1]; omega
    · rw [qday_k hK.1 (by omega) (by omega) (by omega), ih.2.2]
theorem sq_day (h : qSC σ t c ct cd sc) (hn : 1000 ≤ n) (hI : qI ct sc) (hD : qcd cd) (h47 : sc 47 < 5000) : sp_wp (X8_passDay n σ t) (fun τ => qSC τ t c ct cd (qday ct cd sc) ∧ qfp (t + 1) (t + 6) σ τ ∧ ∀ h, h < 6 → τ.2.2.1 (t + 2) h = σ.2.2.1 (t + 2) h + nI (qfts ct cd sc h)) := by
  have := hI.2.2.2.2.2.2.2.2.2
  exact sq_passDay h hn (qI_P h.2.2.2.2.2.1.2.1 hI) hD hI.1 (by omega) (by omega)
theorem rq_day (h : mSC μ ct cd sc stk) (hn : 1000 ≤ n) (hI : qI ct sc) (hD : qcd cd) (h47 : sc 47 < 5000) : sp_wp (X12_aDay n μ) (fun ν => (∃ stk', mSC ν ct cd (qday ct cd sc) stk') ∧ mfd μ ν ∧ ∀ h, h < 6 → ν.2.2.1 24 h = μ.2.2.1 24 h + nI (qfts ct cd sc h)) := by
  have := hI.2.2.2.2.2.2.2.2.2
  exact rq_aDay h hn hD hI.1 (by omega) (by omega)
theorem sq_days (h : qSC σ t c ct cd sc) (hn : 1000 ≤ n) (hI : qI ct sc) (hD : qcd cd) (h47 : sc 47 ≤ 2000) {k : Nat} (hk : k ≤ 100) : sp_wp (X8_passDays n σ t (nI k)) (fun τ => qSC τ t c ct cd (qdn ct cd sc k) ∧ qfp (t + 1) (t + 6) σ τ ∧ ∀ h, h < 6 → τ.2.2.1 (t + 2) h = σ.2.2.1 (t + 2) h + nI (qfn ct cd sc h k)) := by
  have hK := h.2.2.2.2.2.1
  rw [X8_passDays, sp_pl]
  refine lp_inv (fun f i s => X8_passDays_2 n t f s (nI k) (nI i)) (fun i s => qSC s t c ct cd (qdn ct cd sc i) ∧ qfp (t + 1) (t + 6) σ s ∧ ∀ h, h < 6 → s.2.2.1 (t + 2) h = σ.2.2.1 (t + 2) h + nI (qfn ct cd sc h i)) k _ (fun f s hJ => ?_) (fun f i s hi hJ kk => ?_) n 0 σ (by omega) (by omega) ⟨h, qfp_refl σ, fun h _ => (Int32.add_zero _).symm⟩
  · rw [X8_passDays_2, if_pos (Int32.le_refl _)]
    exact wp_some.mpr hJ
  · obtain ⟨g1, g2, g3⟩ := hJ
    have hq := qdn_I (cd := cd) hK hI i
    rw [X8_passDays_2, if_neg (nI_ge hi (by omega))]
    refine wp_bv (wp_mono (sq_day g1 hn hq.1 hD (by omega)) ?_)
    rintro τ ⟨r1, r2, r3⟩
    rw [sp_pl, nI_1]
    exact kk τ ⟨r1, qfp_trans g2 r2, fun h hh => by rw [r3 h hh, g3 h hh, Int32.add_assoc, nI_add]; rfl⟩
theorem rq_goOn (h : mSC μ ct cd sc stk) (hn : 1000 ≤ n) (hI : qI ct sc) (hD : qcd cd) (h47 : sc 47 ≤ 2000) {k : Nat} (hk : k ≤ 100) : sp_wp (X12_goOn n μ (nI k)) (fun ν => (∃ stk', mSC ν ct cd (qdn ct cd sc k) stk') ∧ mfd μ ν ∧ ∀ h, h < 6 → ν.2.2.1 24 h = μ.2.2.1 24 h + nI (qfn ct cd sc h k)) := by
  have hK := h.2.2.2.1
  rw [X12_goOn, sp_pl]
  refine lp_inv (fun f i s => X12_goOn_2 n f s (nI k) (nI i)) (fun i s => (∃ stk', mSC s ct cd (qdn ct cd sc i) stk') ∧ mfd μ s ∧ ∀ h, h < 6 → s.2.2.1 24 h = μ.2.2.1 24 h + nI (qfn ct cd sc h i)) k _ (fun f s hJ => ?_) (fun f i s hi hJ kk => ?_) n 0 μ (by omega) (by omega) ⟨⟨stk, h⟩, mfd_refl μ, fun h _ => (Int32.add_zero _).symm⟩
  · rw [X12_goOn_2, if_pos (Int32.le_refl _)]
    exact wp_some.mpr hJ
  · obtain ⟨⟨stk', g1⟩, g2, g3⟩ := hJ
    have hq := qdn_I (cd := cd) hK hI i
    rw [X12_goOn_2, if_neg (nI_ge hi (by omega))]
    refine wp_bv (wp_mono (rq_day g1 hn hq.1 hD (by omega)) ?_)
    rintro τ ⟨r1, r2, r3⟩
    rw [sp_pl, nI_1]
    exact kk τ ⟨r1, mfd_trans g2 r2, fun h hh => by rw [r3 h hh, g3 h hh, Int32.add_assoc, nI_add]; rfl⟩
theorem sG_of (hM : mSC μ ct cd sc stk) (hI : qI ct sc) (h47 : sc 47 ≤ 999) (h49 : sc 49 ≤ j) : sG ct sc stk j := ⟨hI, hM.2.2.1, hM.2.2.2.2.1, h47, h49⟩
end
section
variable {n j : Nat} {σ μ : sp_St}
theorem isin_c {a : Int32} {lo hi : Nat} (hlo : lo < 2 ^ 31) (hhi : hi < 2 ^ 31) : (∃ k, lo ≤ k ∧ k ≤ hi ∧ a = nI k) ∨ (a < nI lo ∨ nI hi < a) ∧ ¬ ((lo : Int) ≤ a.toInt ∧ a.toInt ≤ (hi : Int)) := by
  by_cases h1 : a < nI lo
  · have := Int32.lt_iff_toInt_lt.mp h1
    rw [nI_toInt hlo] at this
    exact Or.inr ⟨Or.inl h1, by omega⟩
  · by_cases h2 : nI hi < a
    · have := Int32.lt_iff_toInt_lt.mp h2
      rw [nI_toInt hhi] at this
      exact Or.inr ⟨Or.inr h2, by omega⟩
    · have h3 : ¬ a.toInt < (lo : Int) := fun h => h1 (Int32.lt_iff_toInt_lt.mpr (by rw [nI_toInt hlo]; exact h))
      have h4 : ¬ (hi : Int) < a.toInt := fun h => h2 (Int32.lt_iff_toInt_lt.mpr (by rw [nI_toInt hhi]; exact h))
      have h5 : ¬ a < 0 := fun h => by
        have := Int32.lt_iff_toInt_lt.mp h
        have e : (0 : Int32).toInt = 0 := by decide
        omega
      obtain ⟨m, hm, rfl⟩ := nI_of h5
      rw [nI_toInt hm] at h3 h4
      exact Or.inl ⟨m, by omega, by omega, rfl⟩
theorem is_y {a : Int32} {L H : Int64} {lo hi : Int} (hL : L.toInt = lo) (hH : H.toInt = hi) (h : lo ≤ a.toInt ∧ a.toInt ≤ hi) : X12_isIn n μ a.toInt64 L H = some (μ, nI 1) := by
  rw [is_in, t64, hL, hH, if_pos h]
theorem is_no {a : Int32} {L H : Int64} {lo hi : Int} (hL : L.toInt = lo) (hH : H.toInt = hi) (h : ¬ (lo ≤ a.toInt ∧ a.toInt ≤ hi)) : X12_isIn n μ a.toInt64 L H = some (μ, nI 0) := by
  rw [is_in, t64, hL, hH, if_neg h]
theorem op_days (hn : 5000 ≤ n) (h : Inv j σ μ) (a1 : Int32) : agi (j + 1) (X11_days n σ a1) (X12_days n μ a1) := by
  have h' := Inv_code (v := 0) h
  have h3 : (sp_si μ 0 3 0).1 0 3 = 0 := sp_si_eq
  rw [X12_days, sp_pl, X11_days]
  generalize sp_si μ 0 3 0 = μ1 at *
  have hr : agi (j + 1) (X11_days_34 n σ) (X12_days_29 n μ1) := by
    have e1 := sq_refuse (n := n) (σ := σ) (k := 1) (by omega)
    have e2 := rq_refuse (n := n) (μ := μ1) (k := 1) (by omega)
    refine ⟨_, _, -1, ?_, ?_, Inv_mono (by omega) (Inv_ref (k := 1) (by omega) h')⟩
    · unfold X11_days_34
      erw [e1]
      rfl
    · unfold X12_days_29
      erw [e2]
      rfl
  obtain ⟨c, d, ct, cd, sc, stk, m, nr, hs, ht, hO⟩ := Inv_O h'
  obtain ⟨hS, hM, hG, hD, hc⟩ := O_now hO
  have g47 : sp_g σ 24 (47 : Int32) = nI (sc 47) := hS.2.2.2.2.1 47 (by omega)
  have b47 := hG.2.2.2.1
  rw [g47]
  rcases isin_c (a := a1) (lo := 1) (hi := 20) (by omega) (by omega) with ⟨k, k1, k2, rfl⟩ | ⟨e1, e2⟩
  · rw [is_y (lo := 1) (hi := 20) (by decide) (by decide) (by rw [nI_toInt (by omega)]; omega), sp_bd_s, if_neg n10, hM.2.1.1, if_neg (show ¬ nI k < 1 from fun h => by
      have := (nI_ltI (a := k) (b := 1) (by omega) (by omega)).mp h
      omega), if_neg (show ¬ (20 : Int32) < nI k from fun h => by
      have := (nI_ltI (a := 20) (b := k) (by omega) (by omega)).mp h
      omega), nI_add]
    by_cases p : sc 47 + k ≤ 999
    · have p' : nI (sc 47 + k) ≤ 999 := (nI_leI (a := sc 47 + k) (b := 999) (by omega) (by omega)).mpr p
      rw [if_pos p', if_pos p']
      obtain ⟨τ, ν, m', nr', hs', ht', r1, r2, r3, r4⟩ := O_keep hn hO
      obtain ⟨hS2, hM2, hG2, _, _⟩ := O_now r3
      obtain ⟨τ2, q1, q2, q3, _⟩ := sq_days hS2 (by omega : 1000 ≤ n) hG.1 hD (by omega) (k := k) (by omega)
      obtain ⟨ν2, t1, ⟨stk2, t2⟩, t3, _⟩ := rq_goOn hM2 (by omega : 1000 ≤ n) hG.1 hD (by omega) (k := k) (by omega)
      have hq := qdn_I (cd := cd) hS.2.2.2.2.2.1 hG.1 k
      have hj := hG.2.2.2.2
      rw [r1, r2, sp_bv_s, sp_bv_s, q1, t1, sp_bv_s, sp_bv_s]
      refine ⟨τ2, ν2, nI (sc 47 + k), ?_, ?_, O_Inv (O_scene r3 (cs_fp q3 (by omega) (by omega)) (ms_fd t3) q2 t2 (sG_of t2 hq.1 (by omega) (by omega)) (by omega))⟩
      · rw [show sp_g τ2 24 (47 : Int32) = nI (qdn ct cd sc k 47) from q2.2.2.2.2.1 47 (by omega), hq.2.1]
      · rw [t2.2.1.1, hq.2.1]
    · have p' : ¬ nI (sc 47 + k) ≤ 999 := fun h => p ((nI_leI (a := sc 47 + k) (b := 999) (by omega) (by omega)).mp h)
      rw [if_neg p', if_neg p']
      exact hr
  · rw [is_no (lo := 1) (hi := 20) (by decide) (by decide) (by omega), sp_bd_s, if_pos n00]
    rcases e1 with e1 | e1
    · rw [if_pos (show a1 < 1 from e1)]; exact hr
    · by_cases e3 : a1 < 1
      · rw [if_pos e3]; exact hr
      · rw [if_neg e3, if_pos (show (20 : Int32) < a1 from e1)]; exact hr
end
