-- ===== DREAMS: the class's other scene, the reference's packed row =====
def mw (μ ν : sp_St) : Prop := (∀ x, x < 88 → rowOf ν x = rowOf μ x) ∧ (∀ p, p < 14 ∨ p = 20 ∨ 29 ≤ p ∧ p ≤ 31 ∨ 37 ≤ p ∧ p ≤ 42 → ν.2.2.1 p = μ.2.2.1 p) ∧ ∀ k, k = 3 ∨ k = 15 ∨ k = 24 ∨ 35 ≤ k ∧ k ≤ 36 ∨ 55 ≤ k ∧ k ≤ 57 → ν.1 0 k = μ.1 0 k
theorem mw_refl (μ : sp_St) : mw μ μ := ⟨fun _ _ => rfl, fun _ _ => rfl, fun _ _ => rfl⟩
theorem mw_trans {μ ν ξ : sp_St} (h : mw μ ν) (g : mw ν ξ) : mw μ ξ := ⟨fun x hx => (g.1 x hx).trans (h.1 x hx), fun p hp => (g.2.1 p hp).trans (h.2.1 p hp), fun k hk => (g.2.2 k hk).trans (h.2.2 k hk)⟩
def cD (σ τ : sp_St) : Prop := ∀ p, p < 50 ∨ p = 67 → τ.1 p = σ.1 p ∧ τ.2.1 p = σ.2.1 p ∧ τ.2.2.1 p = σ.2.2.1 p
theorem cD_refl (σ : sp_St) : cD σ σ := fun _ _ => ⟨rfl, rfl, rfl⟩
theorem cD_trans {σ τ υ : sp_St} (h : cD σ τ) (g : cD τ υ) : cD σ υ := fun p hp => ⟨(g p hp).1.trans (h p hp).1, (g p hp).2.1.trans (h p hp).2.1, (g p hp).2.2.trans (h p hp).2.2⟩
theorem cD_fp {σ τ : sp_St} {a b : Nat} (h : qfp a b σ τ) (ha : 50 ≤ a) (hb : b < 67 := by omega) : cD σ τ := fun p hp => ⟨(h.2.2 p (by omega)).1, by rw [h.1], (h.2.2 p (by omega)).2⟩
theorem cD_q {σ τ : sp_St} (h : cD σ τ) : cq σ τ := fun p hp => h p (by unfold cK at hp; omega)
theorem cD_si {σ : sp_St} {p k : Nat} {v : Int32} (h : 50 ≤ p) (h2 : p ≠ 67 := by omega) : cD σ (sp_si σ p k v) := fun q hq => ⟨sp_si_pq (by omega), rfl, rfl⟩
theorem cD_sa {σ : sp_St} {p k : Nat} {v : Int32} (h : 50 ≤ p) (h2 : p ≠ 67 := by omega) : cD σ (sp_sa σ p k v) := fun q hq => ⟨rfl, rfl, by funext i; rw [sp_sa_np (by omega)]⟩
theorem Inv_w {j : Nat} {σ τ μ ν : sp_St} (h : Inv j σ μ) (g : cq σ τ) (k : mw μ ν) : Inv j τ ν := by
  have h' := Inv_q h g (mq_refl μ)
  obtain ⟨c, d, ct, cd, h1, h2, h3, h4, h5, ⟨sc, stk, m, nr, hs, ht, s, sb, sd, sa, f1, f2, f3, f4, f5, f6, f7, f8⟩, h7, h8, h9, h10⟩ := h'
  have hK := f1.2.2.2.2.2.1
  refine ⟨c, d, ct, cd, h1, h2, h3, h4, ?_, ⟨sc, stk, m, nr, hs, ht, s, sb, sd, sa, f1, mRow_cong hK.1 hK.2.1 (stk_10 hK.1 f3.2.1) k.1 f2, f3, ?_, ?_, ?_, ?_, ?_⟩, ?_, ?_, ?_, ?_⟩
  · unfold mC at *
    rw [k.2.1 3 (by omega), k.2.1 7 (by omega), k.2.1 8 (by omega), k.2.1 6 (by omega), k.2.1 10 (by omega), k.2.1 11 (by omega)]
    exact h5
  · rw [k.2.1 20 (by omega)]; exact f4
  · rw [k.2.2 35 (by omega)]; exact f5
  · rw [k.2.1 29 (by omega), k.2.1 30 (by omega), k.2.1 31 (by omega)]; exact f6
  · rw [k.2.2 36 (by omega)]; exact f7
  · rw [k.2.1 12 (by omega)]; exact f8
  · rw [k.2.2 55 (by omega)]; exact h7
  · rw [k.2.2 55 (by omega), k.2.1 37 (by omega), k.2.1 38 (by omega), k.2.1 39 (by omega), k.2.1 40 (by omega), k.2.1 41 (by omega), k.2.1 42 (by omega), k.2.2 56 (by omega), k.2.2 57 (by omega)]
    exact h8
  · unfold cTp at *
    rw [k.2.2 15 (by omega), k.2.1 13 (by omega)]
    exact h9
  · rw [k.2.2 24 (by omega)]; exact h10
/-- in a dream of the reference: what it was lies in the row p -/
def mD (p : Nat) (μ0 μ : sp_St) : Prop := (∀ x, x < 88 → μ.2.2.1 p x = rowOf μ0 x) ∧ (∀ q, q < 14 ∨ q = 20 ∨ 29 ≤ q ∧ q ≤ 31 ∨ 37 ≤ q ∧ q ≤ 42 → μ.2.2.1 q = μ0.2.2.1 q) ∧ ∀ k, k = 3 ∨ k = 15 ∨ k = 24 ∨ 35 ≤ k ∧ k ≤ 36 ∨ 55 ≤ k ∧ k ≤ 57 → μ.1 0 k = μ0.1 0 k
theorem mD_fd {p : Nat} {μ0 μ ν : sp_St} (hp : 25 ≤ p) (h : mD p μ0 μ) (g : mfd μ ν) : mD p μ0 ν := ⟨fun x hx => by rw [g.2.1 p (by omega)]; exact h.1 x hx, fun q hq => by rw [g.2.1 q (by omega)]; exact h.2.1 q hq, fun k hk => by rw [g.2.2 k (by omega) (by omega)]; exact h.2.2 k hk⟩
section
variable {n j c t : Nat} {σ μ μ0 : sp_St} {ct : Nat → Nat → Nat} {cd : List Nat × List Nat} {sc : Nat → Nat} {stk : Nat → List Nat}
theorem mSC_eq {ν : sp_St} (h : mSC μ ct cd sc stk) (hp : ∀ p, p ≤ 19 → ν.2.2.1 p = μ.2.2.1 p) (h1 : ν.1 0 33 = μ.1 0 33) (h2 : ν.1 0 34 = μ.1 0 34) : mSC ν ct cd sc stk := by
  refine ⟨?_, ?_, h.2.2⟩
  · have := h.1
    unfold mC at *
    rw [hp 3 (by omega), hp 7 (by omega), hp 8 (by omega), hp 6 (by omega), hp 10 (by omega), hp 11 (by omega)]
    exact this
  · have := h.2.1
    unfold mL at *
    rw [h1, h2, hp 14 (by omega), hp 15 (by omega), hp 16 (by omega), hp 17 (by omega), hp 18 (by omega), hp 19 (by omega)]
    exact this
theorem md_start (h : mSC μ ct cd sc stk) (hn : 100 ≤ n) {p : Nat} (hp : 25 ≤ p) (hp2 : ¬ (29 ≤ p ∧ p ≤ 31) ∧ ¬ (37 ≤ p ∧ p ≤ 42)) : ∃ ν, X12_pack n μ p 88 0 = some ν ∧ mD p μ ν ∧ mSC ν ct cd sc stk ∧ (∀ q, q ≠ p → ν.2.2.1 q = μ.2.2.1 q) ∧ ν.1 = μ.1 := by
  refine ⟨_, rq_pack (a := 0) hn (by omega) (by omega) (by omega), ⟨fun x hx => ?_, fun q hq => ?_, fun k _ => rfl⟩, mSC_eq h (fun q hq => ?_) rfl rfl, fun q hq => ?_, rfl⟩
  · show (if p = p ∧ 0 ≤ x ∧ decide (x - 0 < 88) = true then rowOf μ (x - 0) else μ.2.2.1 p x) = _
    rw [if_pos ⟨rfl, by omega, by rw [decide_eq_true_iff]; omega⟩, Nat.sub_zero]
  · funext i; exact pkd_g (by omega)
  · funext i; exact pkd_g (by omega)
  · funext i; exact pkd_g hq
theorem md_end {p : Nat} (h : mD p μ0 μ) (hn : 100 ≤ n) (hp : 25 ≤ p) : ∃ ν, X12_unpack n μ p 88 0 = some ν ∧ mw μ0 ν ∧ (∀ q, q < 14 ∨ 19 < q → ν.2.2.1 q = μ.2.2.1 q) ∧ ∀ k, k ≠ 33 → k ≠ 34 → ν.1 0 k = μ.1 0 k := by
  obtain ⟨ν, b1, b2, b3, b4, b5⟩ := rq_unpack (n := n) (μ := μ) (p := p) (m := 88) (a := 0) hn (by omega) (by omega) (by omega)
  refine ⟨ν, b1, ⟨fun x hx => ?_, fun q hq => ?_, fun k hk => ?_⟩, b3, b4⟩
  · rw [b5 x hx, Nat.zero_add]; exact h.1 x hx
  · rw [b3 q (by omega)]; exact h.2.1 q hq
  · rw [b4 k (by omega) (by omega)]; exact h.2.2 k hk
theorem mSC_w {ν : sp_St} (h : mSC μ ct cd sc stk) (g : mw μ ν) : mSC ν ct cd sc stk := by
  have hK := h.2.2.2.1
  have hl := stk_10 hK.1 h.2.2.1
  refine ⟨?_, (mRow_of hK.1 hK.2.1 hl).mpr (mRow_cong hK.1 hK.2.1 hl g.1 ((mRow_of hK.1 hK.2.1 hl).mp h.2.1)), h.2.2⟩
  have := h.1
  unfold mC at *
  rw [g.2.1 3 (by omega), g.2.1 7 (by omega), g.2.1 8 (by omega), g.2.1 6 (by omega), g.2.1 10 (by omega), g.2.1 11 (by omega)]
  exact this
theorem sq_dream (h : qSC σ 23 c ct cd sc) (hn : 100 ≤ n) : ∃ τ, X8_copy n σ 50 23 = some τ ∧ cD σ τ ∧ qSC τ 50 c ct cd sc ∧ (∀ h, h < 6 → τ.2.2.1 52 h = 0) ∧ ∀ p, 57 ≤ p → τ.1 p = σ.1 p ∧ τ.2.1 p = σ.2.1 p ∧ τ.2.2.1 p = σ.2.2.1 p ∧ τ.2.2.2 = σ.2.2.2 := by
  obtain ⟨τ, a1, a2, a3, a4, a5, a6, a7, a8⟩ := sq_copy (n := n) (σ := σ) (t := 50) (u := 23) hn (by rw [h.2.1]; exact h.2.2.1) (by omega)
  obtain ⟨y1, y2, y3, y4, y5, y6, y7⟩ := h
  refine ⟨τ, a1, fun p hp => ⟨by rw [a2], a3 p (by omega), a5 p (by omega) (by omega)⟩, ⟨by omega, by rw [a4]; exact y2, y3, ?_, fun k hk => by rw [a6 k hk]; exact y5 k hk, y6, y7⟩, a7, fun p hp => ⟨by rw [a2], a3 p (by omega), a5 p (by omega) (by omega), a8⟩⟩
  have hc11 := isc_le y3
  unfold qC qR at *
  rw [a2, a5 (c + 1) (by omega) (by omega), a5 (c + 2) (by omega) (by omega), a5 (c + 3) (by omega) (by omega), a5 (c + 4) (by omega) (by omega), a5 (c + 5) (by omega) (by omega), a5 (c + 6) (by omega) (by omega), a5 (c + 7) (by omega) (by omega), a5 (c + 8) (by omega) (by omega)]
  exact y4
theorem sq_after (h : qSC σ 23 c ct cd sc) (hn : 1000 ≤ n) (hI : qI ct sc) (hD : qcd cd) (h47 : sc 47 ≤ 999) {k : Nat} (hk : k ≤ 60) : ∃ τ, X4_after n σ (nI k) = some (τ, 50) ∧ cD σ τ ∧ qSC τ 50 c ct cd (qdn ct cd sc k) ∧ ∀ h, h < 6 → τ.2.2.1 52 h = nI (qfn ct cd sc h k) := by
  obtain ⟨τ, a1, a2, a3, a4, _⟩ := sq_dream h (by omega : 100 ≤ n)
  have hK := h.2.2.2.2.2.1
  have key : sp_wp (X4_after_13 n n τ (nI k) 0) (fun r => r.2 = 50 ∧ cD σ r.1 ∧ qSC r.1 50 c ct cd (qdn ct cd sc k) ∧ ∀ h, h < 6 → r.1.2.2.1 52 h = nI (qfn ct cd sc h k)) := by
    refine lp_inv (fun f i s => X4_after_13 n f s (nI k) (nI i)) (fun i s => cD σ s ∧ qSC s 50 c ct cd (qdn ct cd sc i) ∧ ∀ h, h < 6 → s.2.2.1 52 h = nI (qfn ct cd sc h i)) k _ (fun f s hJ => ?_) (fun f i s hi hJ kk => ?_) n 0 τ (by omega) (by omega) ⟨a2, a3, a4⟩
    · rw [X4_after_13, if_pos (Int32.le_refl _), X4_after_31]
      exact wp_some.mpr ⟨rfl, hJ⟩
    · obtain ⟨g1, g2, g3⟩ := hJ
      have hq := qdn_I (cd := cd) hK hI i
      rw [X4_after_13, if_neg (nI_ge hi (by omega))]
      refine wp_bv (wp_mono (sq_day g2 hn hq.1 hD (by omega)) ?_)
      rintro υ ⟨r1, r2, r3⟩
      rw [sp_pl, nI_1]
      refine kk υ ⟨cD_trans g1 (cD_fp r2 (by omega)), r1, fun h hh => ?_⟩
      have e := r3 h hh
      rw [g3 h hh, nI_add] at e
      exact e
  obtain ⟨⟨υ, r⟩, e, e1, e2, e3, e4⟩ := key
  dsimp only at e1 e2 e3 e4
  subst e1
  exact ⟨υ, by rw [X4_after, a1, sp_bv_s, sp_pl]; exact e, e2, e3, e4⟩
theorem ah_cases (a : Int32) : (∃ k, k ≤ 60 ∧ a = nI k) ∨ X11_needAhead n σ a = some (σ, some 2) ∧ ¬ ((0 : Int) ≤ a.toInt ∧ a.toInt ≤ 60) := by
  rcases isin_c (a := a) (lo := 0) (hi := 60) (by omega) (by omega) with ⟨k, k1, k2, rfl⟩ | ⟨e1, e2⟩
  · exact Or.inl ⟨k, k2, rfl⟩
  · refine Or.inr ⟨?_, e2⟩
    unfold X11_needAhead X11_needAhead_10
    rcases e1 with e1 | e1
    · rw [if_pos (show a < 0 from e1)]
    · by_cases e3 : a < 0
      · rw [if_pos e3]
      · rw [if_neg e3, if_neg (show ¬ a ≤ (60 : Int32) from fun h => Int32.lt_irrefl (Int32.lt_of_le_of_lt h (show (60 : Int32) < a from e1)))]
theorem ah_ok {k : Nat} (hk : k ≤ 60) : X11_needAhead n σ (nI k) = some (σ, none) := by
  rw [X11_needAhead, if_neg (nI_pos (by omega)), if_pos (show nI k ≤ (60 : Int32) from (nI_leI (a := k) (b := 60) (by omega) (by omega)).mpr hk)]
theorem wh_cases (a : Int32) {m : Nat} (hm : m < 100) : (∃ k, k ≤ m ∧ a = nI k) ∨ X11_needWhat n σ a (nI m) = some (σ, some 1) ∧ (a < 0 ∨ ¬ a < 0 ∧ ¬ a ≤ nI m) ∧ ¬ ((0 : Int) ≤ a.toInt ∧ a.toInt ≤ (m : Int)) := by
  rcases isin_c (a := a) (lo := 0) (hi := m) (by omega) (by omega) with ⟨k, k1, k2, rfl⟩ | ⟨e1, e2⟩
  · exact Or.inl ⟨k, k2, rfl⟩
  · refine Or.inr ⟨?_, ?_, e2⟩
    · unfold X11_needWhat X11_needWhat_9
      rcases e1 with e1 | e1
      · rw [if_pos (show a < 0 from e1)]
      · by_cases e3 : a < 0
        · rw [if_pos e3]
        · rw [if_neg e3, if_neg (show ¬ a ≤ nI m from fun h => Int32.lt_irrefl (Int32.lt_of_le_of_lt h e1))]
    · by_cases e3 : a < 0
      · exact Or.inl e3
      · refine Or.inr ⟨e3, ?_⟩
        rcases e1 with e1 | e1
        · exact absurd e1 e3
        · exact fun h => Int32.lt_irrefl (Int32.lt_of_le_of_lt h e1)
theorem wh_ok {k m : Nat} (hk : k ≤ m) (hm : m < 100) : X11_needWhat n σ (nI k) (nI m) = some (σ, none) := by
  rw [X11_needWhat, if_neg (nI_pos (by omega)), if_pos ((nI_leI (by omega) (by omega)).mpr hk)]
end
section
variable {n j : Nat} {σ μ : sp_St}
theorem op_fights (hn : 5000 ≤ n) (h : Inv j σ μ) (a1 : Int32) : agr j kd2 (X11_fights n σ a1) (X12_fights n μ a1) := by
  obtain ⟨c, ct, cd, sc, stk, hI, h3, hS, hM, hG, hD, hc⟩ := Inv_now h
  have hn1 : 100 ≤ n := by omega
  rw [X12_fights, sp_pl, X11_fights]
  generalize sp_si μ 0 3 0 = μ1 at *
  rcases ah_cases (n := n) (σ := σ) a1 with ⟨k, hk, rfl⟩ | ⟨e1, e2⟩
  · obtain ⟨τ, a1, a2, a3, a4⟩ := sq_after hS (by omega : 1000 ≤ n) hG.1 hD hG.2.2.2.1 hk
    obtain ⟨ν, b1, b2, b3, _, b5⟩ := md_start hM hn1 (p := 25) (by omega) (by omega)
    obtain ⟨ν2, t1, ⟨stk2, t2⟩, t3, _⟩ := rq_goOn b3 (by omega : 1000 ≤ n) hG.1 hD (by have := hG.2.2.2.1; omega) (k := k) (by omega)
    obtain ⟨ν3, u1, u2, _, _⟩ := md_end (mD_fd (by omega) b2 t3) hn1 (by omega)
    rw [ah_ok hk, sp_bx_n, a1, sp_bd_s, decide_eq_true rfl, sp_ckt, X4_fightsDreamt, sp_bd_s, is_y (lo := 0) (hi := 60) (by decide) (by decide) (by rw [nI_toInt (by omega)]; omega), sp_bd_s, if_neg n10, b1, sp_bv_s, sp_pl, t1, sp_bv_s, sp_pl, u1, sp_bv_s, b5, hM.2.1.2.1, t2.2.1.2.1]
    have g1 : sp_g τ 51 (48 : Int32) = nI (qdn ct cd sc k 48) := a3.2.2.2.2.1 48 (by omega)
    have g2 : sp_g τ 24 (48 : Int32) = nI (sc 48) := by
      show τ.2.2.1 24 48 = _
      rw [(a2 24 (by omega)).2.2]; exact hS.2.2.2.2.1 48 (by omega)
    rw [g1, g2]
    exact agr_ret rfl rfl (Inv_w hI (cD_q a2) u2) (by rw [u2.2.2 3 (by omega)]; exact h3)
  · rw [e1, sp_bx_s, is_no (lo := 0) (hi := 60) (by decide) (by decide) e2, sp_bd_s, if_pos n00, rq_failI, sp_bd_s]
    exact agr_thr rfl rfl (Inv_code hI) sp_si_eq rfl (by decide)
theorem op_calm (hn : 5000 ≤ n) (h : Inv j σ μ) (a1 : Int32) : agr j kd2 (X11_calm n σ a1) (X12_calm n μ a1) := by
  obtain ⟨c, ct, cd, sc, stk, hI, h3, hS, hM, hG, hD, hc⟩ := Inv_now h
  have hn1 : 100 ≤ n := by omega
  rw [X12_calm, sp_pl, X11_calm]
  generalize sp_si μ 0 3 0 = μ1 at *
  rcases ah_cases (n := n) (σ := σ) a1 with ⟨k, hk, rfl⟩ | ⟨e1, e2⟩
  · obtain ⟨τ, a1, a2, a3, a4⟩ := sq_after hS (by omega : 1000 ≤ n) hG.1 hD hG.2.2.2.1 hk
    obtain ⟨ν, b1, b2, b3, _, b5⟩ := md_start hM hn1 (p := 25) (by omega) (by omega)
    obtain ⟨ν2, t1, ⟨stk2, t2⟩, t3, _⟩ := rq_goOn b3 (by omega : 1000 ≤ n) hG.1 hD (by have := hG.2.2.2.1; omega) (k := k) (by omega)
    obtain ⟨ν3, u1, u2, _, _⟩ := md_end (mD_fd (by omega) b2 t3) hn1 (by omega)
    rw [ah_ok hk, sp_bx_n, a1, sp_bd_s, decide_eq_true rfl, sp_ckt, sq_bladesAtRest a3 hn1, sp_bd_s, is_y (lo := 0) (hi := 60) (by decide) (by decide) (by rw [nI_toInt (by omega)]; omega), sp_bd_s, if_neg n10, b1, sp_bv_s, t1, sp_bv_s, show (2 : Int32) = nI 2 from rfl, rq_whereSet t2 hn1 (by omega), sp_bd_s, u1, sp_bv_s]
    refine agr_ret rfl ?_ (Inv_w hI (cD_q a2) u2) (by rw [u2.2.2 3 (by omega)]; exact h3)
    congr 3
    refine bs_cong fun x _ => ?_
    exact decide_eq_decide.mpr sqs2
  · rw [e1, sp_bx_s, is_no (lo := 0) (hi := 60) (by decide) (by decide) e2, sp_bd_s, if_pos n00, rq_failI, sp_bd_s]
    exact agr_thr rfl rfl (Inv_code hI) sp_si_eq rfl (by decide)
theorem op_then (hn : 5000 ≤ n) (h : Inv j σ μ) (a1 a2 a3 : Int32) : agr j kd3 (X11_then n σ a1 a2 a3) (X12_then n μ a1 a2 a3) := by
  obtain ⟨c, ct, cd, sc, stk, hI, h3, hS, hM, hG, hD, hc⟩ := Inv_now h
  have hn1 : 100 ≤ n := by omega
  have hb10 := hS.2.2.2.2.2.1.1
  rw [X12_then, sp_pl, X11_then]
  generalize sp_si μ 0 3 0 = μ1 at *
  have hf : ∀ x, x = some (σ, Sum.inr 1) → agr j kd3 x (X12_then_22 n μ1) := fun x hx => agr_thr (υ := sp_si μ1 0 3 1) (w := 0) hx rfl (Inv_code hI) sp_si_eq rfl (by decide)
  rcases b_cases (n := n) hS hc hM a1 with ⟨b, hb, rfl⟩ | ⟨e1, e2⟩
  · rw [nb_ok hS hc hb, sp_bx_n, ib_ok hM hb, sp_bd_s, if_neg n10]
    rcases wh_cases (n := n) (σ := σ) a3 (m := 1) (by omega) with ⟨w, hw, rfl⟩ | ⟨e1, e2, _⟩
    · rw [show X11_needWhat n σ (nI w) 1 = some (σ, none) from wh_ok (m := 1) hw (by omega), sp_bx_n, if_neg (nI_pos (by omega)), if_pos (show nI w ≤ (1 : Int32) from (nI_leI (a := w) (b := 1) (by omega) (by omega)).mpr hw)]
      rcases ah_cases (n := n) (σ := σ) a2 with ⟨k, hk, rfl⟩ | ⟨e1, e2⟩
      · obtain ⟨τ, a1, a2, a3, a4⟩ := sq_after hS (by omega : 1000 ≤ n) hG.1 hD hG.2.2.2.1 hk
        obtain ⟨ν, b1, b2, b3, _, b5⟩ := md_start hM hn1 (p := 25) (by omega) (by omega)
        obtain ⟨ν2, t1, ⟨stk2, t2⟩, t3, _⟩ := rq_goOn b3 (by omega : 1000 ≤ n) hG.1 hD (by have := hG.2.2.2.1; omega) (k := k) (by omega)
        obtain ⟨ν3, u1, u2, _, _⟩ := md_end (mD_fd (by omega) b2 t3) hn1 (by omega)
        have w10 : sp_in (nI b) 10 = true := qn_in (by omega) (by omega)
        have g1 : sp_g ν2 14 (nI b) = nI (qdn ct cd sc k b) := by rw [qn_g (by omega)]; exact t2.2.1.2.2.1 b hb
        have g2 : sp_g ν2 15 (nI b) = nI (sqState (qdn ct cd sc k) b) := by rw [qn_g (by omega)]; exact t2.2.1.2.2.2.1 b hb
        have g3 : sp_g τ 51 (nI b) = nI (qdn ct cd sc k b) := by rw [qn_g (by omega)]; exact a3.2.2.2.2.1 b (by omega)
        rw [ah_ok hk, sp_bx_n, a1, sp_bd_s, decide_eq_true rfl, sp_ckt, is_y (lo := 0) (hi := 60) (by decide) (by decide) (by rw [nI_toInt (by omega)]; omega), sp_bd_s, if_neg n10, b1, sp_bv_s, t1, sp_bv_s, w10, sp_ckt, sp_ckt, g1, g2, X12_then_79, X12_then_79, u1, sp_bv_s, sp_bv_s]
        by_cases w0 : nI w = 0
        · rw [if_pos w0, if_pos w0, qn_in (by omega) (by omega), sp_ckt, g3]
          exact agr_ret rfl rfl (Inv_w hI (cD_q a2) u2) (by rw [u2.2.2 3 (by omega)]; exact h3)
        · rw [if_neg w0, if_neg w0, sq_state a3 (by omega), sp_bd_s]
          exact agr_ret rfl rfl (Inv_w hI (cD_q a2) u2) (by rw [u2.2.2 3 (by omega)]; exact h3)
      · rw [e1, sp_bx_s, is_no (lo := 0) (hi := 60) (by decide) (by decide) e2, sp_bd_s, if_pos n00, rq_failI, sp_bd_s]
        exact agr_thr rfl rfl (Inv_code hI) sp_si_eq rfl (by decide)
    · rw [show X11_needWhat n σ a3 1 = some (σ, some 1) from e1, sp_bx_s]
      rcases e2 with e2 | ⟨e2, e3⟩
      · rw [if_pos e2]; exact hf _ rfl
      · rw [if_neg e2, if_neg (show ¬ a3 ≤ 1 from e3)]; exact hf _ rfl
  · rw [e1, sp_bx_s, e2, sp_bd_s, if_pos n00]
    exact hf _ rfl
end
