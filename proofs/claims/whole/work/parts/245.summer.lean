-- ===== summer: the reference, the call =====
def mg (μ ν : sp_St) : Prop := (∀ p, p < 14 ∨ p = 20 ∨ 24 < p → ν.2.2.1 p = μ.2.2.1 p) ∧ ∀ k, k ≠ 33 → k ≠ 34 → k ≠ 54 → ν.1 0 k = μ.1 0 k
theorem mg_fd {μ ν : sp_St} (h : mfd μ ν) : mg μ ν := ⟨h.2.1, fun k h1 h2 _ => h.2.2 k h1 h2⟩
theorem mg_trans {μ ν ξ : sp_St} (h : mg μ ν) (g : mg ν ξ) : mg μ ξ := ⟨fun p hp => (g.1 p hp).trans (h.1 p hp), fun k h1 h2 h3 => (g.2 k h1 h2 h3).trans (h.2 k h1 h2 h3)⟩
theorem mg_si {μ : sp_St} {v : Int32} : mg μ (sp_si μ 0 54 v) := ⟨fun _ _ => rfl, fun k h1 h2 h3 => sp_si_ne h3⟩
theorem mD_g {p : Nat} {μ0 μ ν : sp_St} (hp : 25 ≤ p) (h : mD p μ0 μ) (g : mg μ ν) : mD p μ0 ν := ⟨fun x hx => by rw [g.1 p (by omega)]; exact h.1 x hx, fun q hq => by rw [g.1 q (by omega)]; exact h.2.1 q hq, fun k hk => by rw [g.2 k (by omega) (by omega) (by omega)]; exact h.2.2 k hk⟩
section
variable {n j c t : Nat} {σ μ : sp_St} {ct : Nat → Nat → Nat} {cd : List Nat × List Nat} {sc : Nat → Nat} {stk : Nat → List Nat}
variable {ff : Int32 → Int32} {gg : Int32 → Nat}
theorem rq_hap (hdr : ∀ (μ : sp_St) (m : Nat), 0 < m → m < 100 → X12_drawOf n μ (nI m) = some (sp_si μ 0 54 (ff (μ.1 0 54)), nI (gg (ff (μ.1 0 54)) % m))) (h : mSC μ ct cd sc stk) (hn : 1000 ≤ n) (hI : qI ct sc) (s : Int32) (hs : μ.1 0 54 = s) : sp_wp (X12_something n μ) (fun ν => (∃ stk', mSC ν ct cd (qhs ff gg ct sc s) stk') ∧ ν.1 0 54 = (qhd ff gg ct s) ∧ mg μ ν) := by
  have hK := h.2.2.2.1
  have hb10 := hK.1
  have hs5 := hK.2.1
  have hn1 : 100 ≤ n := by omega
  have hm7 : gg (ff s) % 7 < 7 := Nat.mod_lt _ (by omega)
  rw [X12_something, show (7 : Int32) = nI 7 from rfl, hdr _ _ (by omega) (by omega), sp_bd_s, hs]
  have h1 : mSC (sp_si μ 0 54 (ff s)) ct cd sc stk := mSC_eq h (fun _ _ => rfl) (sp_si_ne (by decide)) (sp_si_ne (by decide))
  have e1 : (sp_si μ 0 54 (ff s)).1 0 54 = ff s := sp_si_eq
  have f1 : mg μ (sp_si μ 0 54 (ff s)) := mg_si
  generalize sp_si μ 0 54 (ff s) = μ2 at *
  have w2 : sp_g μ2 3 (2 : Int32) = nI (ct 0 13) := h1.1.2.1
  have w1 : sp_g μ2 3 (1 : Int32) = nI (ct 0 14) := h1.1.1
  by_cases p0 : gg (ff s) % 7 = 0
  · have r60 : ∀ ν : sp_St, X12_something_60 n ν (nI 0) = some ν := fun ν => rfl
    rw [p0, if_pos n00, w2]
    by_cases z : ct 0 13 = 0
    · have ehs : qhs ff gg ct sc s = sc := by unfold qhs; rw [if_pos p0, if_pos z]
      have ehd : qhd ff gg ct s = ff s := by unfold qhd; rw [if_pos p0, if_pos z]
      rw [z, if_pos (show nI 0 ≤ 0 by decide), r60]
      exact wp_some.mpr ⟨⟨stk, by rw [ehs]; exact h1⟩, by rw [ehd]; exact e1, f1⟩
    · have hb : gg (ff (ff s)) % ct 0 13 < ct 0 13 := Nat.mod_lt _ (by omega)
      rw [if_neg (show ¬ nI (ct 0 13) ≤ 0 from by show ¬ nI (ct 0 13) ≤ nI 0; rw [qn_le (by omega) (by omega)]; omega), hdr _ _ (by omega) (by omega), sp_bd_s, e1]
      have h2 : mSC (sp_si μ2 0 54 (ff (ff s))) ct cd sc stk := mSC_eq h1 (fun _ _ => rfl) (sp_si_ne (by decide)) (sp_si_ne (by decide))
      have e2 : (sp_si μ2 0 54 (ff (ff s))).1 0 54 = ff (ff s) := sp_si_eq
      have f2 : mg μ (sp_si μ2 0 54 (ff (ff s))) := mg_trans f1 mg_si
      generalize sp_si μ2 0 54 (ff (ff s)) = μ3 at *
      have ehs : qhs ff gg ct sc s = if sc (10 + gg (ff (ff s)) % ct 0 13) = 0 then qu sc (gg (ff (ff s)) % ct 0 13) (min 99 (sc (gg (ff (ff s)) % ct 0 13) + 20)) else sc := by unfold qhs; rw [if_pos p0, if_neg z]
      have ehd : qhd ff gg ct s = ff (ff s) := by unfold qhd; rw [if_pos p0, if_neg z]
      generalize gg (ff (ff s)) % ct 0 13 = b at *
      have hw := sqs_lt sc b
      have g15 : sp_g μ3 15 (nI b) = nI (sqState sc b) := by rw [qn_g (by omega)]; exact h2.2.1.2.2.2.1 b hb
      rw [qn_in (by omega) (by omega), sp_ckt, g15]
      by_cases q : sc (10 + b) = 0
      · rw [if_pos q] at ehs
        have ha := hI.1 b hb
        have g1 : sp_g μ3 14 (nI b) = nI (sc b) := by rw [qn_g (by omega)]; exact h2.2.1.2.2.1 b hb
        have g2 : sp_min 99 (nI (sc b) + 20) = nI (min 99 (sc b + 20)) := by
          show sp_min (nI 99) (nI (sc b) + nI 20) = _
          rw [nI_add, qn_min (by decide) (by omega)]
        rw [sqs0.mpr q, if_pos n00, sp_ckt, g1, g2, sp_pl, sp_ckt, sp_pl, r60, nI_clamp (by omega)]
        exact wp_some.mpr ⟨⟨stk, by rw [ehs]; exact mSC_set h2 hb (by omega)⟩, by rw [ehd]; exact e2, mg_trans f2 (mg_fd (mfd_sa (by omega) (by omega) (by omega)))⟩
      · rw [if_neg q] at ehs
        have p' : ¬ sqState sc b = 0 := fun x => q (sqs0.mp x)
        rw [if_neg (show ¬ nI (sqState sc b) = 0 from by show ¬ nI (sqState sc b) = nI 0; rw [qn_eq (by omega) (by omega)]; exact p'), r60]
        exact wp_some.mpr ⟨⟨stk, by rw [ehs]; exact h2⟩, by rw [ehd]; exact e2, f2⟩
  · rw [if_neg (show ¬ nI (gg (ff s) % 7) = 0 from by show ¬ nI (gg (ff s) % 7) = nI 0; rw [qn_eq (by omega) (by omega)]; exact p0)]
    by_cases p1 : gg (ff s) % 7 = 1
    · rw [p1, X12_something_60, if_pos (show nI 1 = 1 from rfl), w1]
      by_cases z : ct 0 14 = 0
      · have ehs : qhs ff gg ct sc s = sc := by unfold qhs; rw [if_neg p0, if_pos p1, if_pos z]
        have ehd : qhd ff gg ct s = ff s := by unfold qhd; rw [if_neg p0, if_pos p1, if_pos z]
        rw [z, if_pos (show nI 0 ≤ 0 by decide), X12_something_104]
        exact wp_some.mpr ⟨⟨stk, by rw [ehs]; exact h1⟩, by rw [ehd]; exact e1, f1⟩
      · have hb : gg (ff (ff s)) % ct 0 14 < ct 0 14 := Nat.mod_lt _ (by omega)
        rw [if_neg (show ¬ nI (ct 0 14) ≤ 0 from by show ¬ nI (ct 0 14) ≤ nI 0; rw [qn_le (by omega) (by omega)]; omega), hdr _ _ (by omega) (by omega), sp_bd_s, e1]
        have h2 : mSC (sp_si μ2 0 54 (ff (ff s))) ct cd sc stk := mSC_eq h1 (fun _ _ => rfl) (sp_si_ne (by decide)) (sp_si_ne (by decide))
        have e2 : (sp_si μ2 0 54 (ff (ff s))).1 0 54 = ff (ff s) := sp_si_eq
        have f2 : mg μ (sp_si μ2 0 54 (ff (ff s))) := mg_trans f1 mg_si
        generalize sp_si μ2 0 54 (ff (ff s)) = μ3 at *
        have ehs : qhs ff gg ct sc s = qlet ct sc (gg (ff (ff s)) % ct 0 14) := by unfold qhs; rw [if_neg p0, if_pos p1, if_neg z]
        have ehd : qhd ff gg ct s = ff (ff s) := by unfold qhd; rw [if_neg p0, if_pos p1, if_neg z]
        generalize gg (ff (ff s)) % ct 0 14 = r at *
        have hle := stk_le h2.2.2.1 hb
        have g17 : sp_g μ3 17 (nI r) = nI (stk r).length := by rw [qn_g (by omega)]; exact h2.2.1.2.2.2.2.2.1 r hb
        rw [qn_in (by omega) (by omega), sp_ckt, g17]
        cases e : qtop sc r (ct 0 13) with
        | none =>
          have l0 : (stk r).length = 0 := by
            rcases Nat.eq_zero_or_pos (stk r).length with l | l
            · exact l
            · have := stk_gd h2.2.2.1 hb l
              exact absurd this.2 (qtop_no e _ this.1)
          have el : qlet ct sc r = sc := by unfold qlet; rw [e]
          rw [el] at ehs
          rw [l0, if_pos (show nI 0 ≤ 0 by decide), X12_something_104]
          exact wp_some.mpr ⟨⟨stk, by rw [ehs]; exact h2⟩, by rw [ehd]; exact e2, f2⟩
        | some x =>
          obtain ⟨a1, a2, a3⟩ := qtop_lt e
          have l0 : ¬ (stk r).length = 0 := fun l => by
            have := ((h2.2.2.1 r hb).2 x).mpr ⟨a1, a2⟩
            rw [List.length_eq_zero_iff.mp l] at this
            cases this
          have el : qlet ct sc r = qu sc (10 + x) 0 := by unfold qlet; rw [e]
          rw [el] at ehs
          rw [if_neg (show ¬ nI (stk r).length ≤ 0 from by show ¬ nI (stk r).length ≤ nI 0; rw [qn_le (by omega) (by omega)]; omega), rq_topOf h2 hb, sp_bd_s, e, qe]
          refine wp_bv (wp_mono (rq_takeOut (p := 0) (v := 0) h2 hn1 a1 (by omega) (Or.inl ⟨rfl, rfl⟩)) ?_)
          rintro ν ⟨t1, t2⟩
          rw [X12_something_104]
          exact wp_some.mpr ⟨⟨qrem stk x, by rw [ehs]; exact t1⟩, by rw [ehd, t2.1]; exact e2, mg_trans f2 (mg_fd (mfl_fd t2))⟩
    · have ehs : qhs ff gg ct sc s = sc := by unfold qhs; rw [if_neg p0, if_neg p1]
      have ehd : qhd ff gg ct s = ff s := by unfold qhd; rw [if_neg p0, if_neg p1]
      rw [X12_something_60, if_neg (show ¬ nI (gg (ff s) % 7) = 1 from by show ¬ nI (gg (ff s) % 7) = nI 1; rw [qn_eq (by omega) (by omega)]; exact p1), X12_something_104]
      exact wp_some.mpr ⟨⟨stk, by rw [ehs]; exact h1⟩, by rw [ehd]; exact e1, f1⟩
theorem sq_summerEnd (hdr : ∀ (σ : sp_St) (m : Nat), 0 < m → m < 100 → X4_drawOf n σ (nI m) = some (sp_si σ 57 4 (ff (σ.1 57 4)), nI (gg (ff (σ.1 57 4)) % m))) (h : qSC σ 23 c ct cd sc) (hn : 1000 ≤ n) (hI : qI ct sc) (hD : qcd cd) (h47 : sc 47 ≤ 999) (s : Int32) {k : Nat} (hk : k ≤ 60) : ∃ τ, X4_summerEnd n σ s (nI k) = some (τ, 50) ∧ cD σ τ ∧ qSC τ 50 c ct cd (qsm ff gg ct cd sc s k) := by
  have h0 : qSC (sp_si σ 57 4 s) 23 c ct cd sc := qSC_q (σ := σ) (fun p hp => ⟨sp_si_pq (by omega), rfl⟩) rfl rfl h
  obtain ⟨τ, a1, a2, a3, _, a5⟩ := sq_dream h0 (by omega : 100 ≤ n)
  have hK := h.2.2.2.2.2.1
  have key : sp_wp (X4_summerEnd_18 n n τ (nI k) 0) (fun r => r.2 = 50 ∧ cD σ r.1 ∧ qSC r.1 50 c ct cd (qsm ff gg ct cd sc s k)) := by
    refine lp_inv (fun f i x => X4_summerEnd_18 n f x (nI k) (nI i)) (fun i x => cD σ x ∧ qSC x 50 c ct cd (qsm ff gg ct cd sc s i) ∧ x.1 57 4 = (qsd ff gg ct s i)) k _ (fun f x hJ => ?_) (fun f i x hi hJ kk => ?_) n 0 τ (by omega) (by omega) ⟨cD_trans (cD_si (by omega)) a2, a3, by rw [(a5 57 (by omega)).1, sp_si_eq, qsd]⟩
    · rw [X4_summerEnd_18, if_pos (Int32.le_refl _), X4_summerEnd_66]
      exact wp_some.mpr ⟨rfl, hJ.1, hJ.2.1⟩
    · obtain ⟨g1, g2, g3⟩ := hJ
      have hq := qsum_I (ff := ff) (gg := gg) (cd := cd) hK hI s i
      have hh := qhap_I (ff := ff) (gg := gg) hK hq.1 (qsd ff gg ct s i)
      rw [X4_summerEnd_18, if_neg (nI_ge hi (by omega))]
      refine sq_hap hdr (k := fun x => X4_summerEnd_53 n (X4_summerEnd_18 n f) x (nI k) (nI i)) g2 hn hq.1 _ g3 (fun υ u1 u2 u3 => ?_)
      rw [X4_summerEnd_53]
      refine wp_bv (wp_mono (sq_day u2 hn hh.1 hD (by rw [hh.2.1]; omega)) ?_)
      rintro υ2 ⟨r1, r2, _⟩
      rw [sp_pl, nI_1]
      exact kk υ2 ⟨cD_trans g1 (cD_trans u1 (cD_fp r2 (by omega))), by rw [qsm_s]; exact r1, by rw [(r2.2.2 57 (by omega)).1, u3, qsd_s]⟩
  obtain ⟨⟨υ, r⟩, e, e1, e2, e3⟩ := key
  dsimp only at e1 e2 e3
  subst e1
  exact ⟨υ, by rw [X4_summerEnd, sp_pl, a1, sp_bv_s, sp_pl]; exact e, e2, e3⟩
theorem rq_angers (h : mSC μ ct cd sc stk) (hn : 100 ≤ n) {m : Nat} (hm : m < 2 ^ 31) : X12_angers n μ (nI m) = some (μ, nI (qs (fun b => if m.testBit b then sc b else 0) (ct 0 13))) := by
  have hb10 := h.2.2.2.1.1
  have w3 : sp_g μ 3 (2 : Int32) = nI (ct 0 13) := h.1.2.1
  rw [X12_angers, sp_pl, sp_pl]
  refine lp_up (fun f i => X12_angers_4 n f μ (nI m) (nI (qs (fun b => if m.testBit b then sc b else 0) i)) (nI i)) (ct 0 13) _ (fun f => ?_) (fun f i hi => ?_) n 0 (by omega) (by omega)
  · rw [X12_angers_4, w3, if_pos (Int32.le_refl _), X12_angers_41]
  · have g1 : sp_g μ 14 (nI i) = nI (sc i) := by rw [qn_g (by omega)]; exact h.2.1.2.2.1 i hi
    rw [X12_angers_4, w3, if_neg (nI_ge hi (by omega)), rq_isOf hm (by omega), sp_bd_s, qs_s]
    cases e : m.testBit i with
    | true => rw [if_pos rfl, if_neg n10, qn_in (by omega) (by omega), sp_ckt, X12_angers_33, sp_pl, sp_pl, g1, nI_add, nI_1, if_pos rfl]
    | false =>
      rw [show (if false = true then nI 1 else nI 0) = nI 0 from rfl, if_pos n00, X12_angers_33, sp_pl, sp_pl, nI_1, if_neg (by decide), show nI (qs (fun b => if m.testBit b then sc b else 0) i) + 0 = nI (qs (fun b => if m.testBit b then sc b else 0) i) from Int32.add_zero _]
      rfl
theorem rq_summerL (hdr : ∀ (μ : sp_St) (m : Nat), 0 < m → m < 100 → X12_drawOf n μ (nI m) = some (sp_si μ 0 54 (ff (μ.1 0 54)), nI (gg (ff (μ.1 0 54)) % m))) {μ1 ν : sp_St} (a1 : Int32) {k w : Nat} (hn : 5000 ≤ n) (hk : k ≤ 60) (hG : sG ct sc stk j) (hD : qcd cd) (d2 : mD 25 μ1 ν) (d3 : mSC ν ct cd sc stk) : sp_wp (X12_summer_64 n n (sp_si ν 0 54 a1) (nI k) (nI w) (nI (sc 48)) 0) (fun r => r.2 = (if nI w = 0 then nI ((qsm ff gg ct cd sc a1 k) 48) - nI (sc 48) else if nI w = 1 then nI (qc (fun b => decide ((qsm ff gg ct cd sc a1 k) (10 + b) = 6)) (ct 0 13)) else nI (qs (qsm ff gg ct cd sc a1 k) (ct 0 13))) ∧ mw μ1 r.1) := by
  have hn1 : 100 ≤ n := by omega
  have hK := d3.2.2.2.1
  have hb10 := hK.1
  have h47 := hG.2.2.2.1
  refine lp_inv (fun f i x => X12_summer_64 n f x (nI k) (nI w) (nI (sc 48)) (nI i)) (fun i x => mD 25 μ1 x ∧ (∃ stk', mSC x ct cd (qsm ff gg ct cd sc a1 i) stk') ∧ x.1 0 54 = (qsd ff gg ct a1 i)) k _ (fun f x hJ => ?_) (fun f i x hi hJ kk => ?_) n 0 _ (by omega) (by omega) ⟨mD_g (by omega) d2 mg_si, ⟨stk, mSC_eq d3 (fun _ _ => rfl) (sp_si_ne (by decide)) (sp_si_ne (by decide))⟩, sp_si_eq⟩
  · obtain ⟨g1, ⟨stk', g2⟩, g3⟩ := hJ
    obtain ⟨ν3, u1, u2, _, _⟩ := md_end g1 hn1 (by omega)
    have w2 : sp_g x 3 (2 : Int32) = nI (ct 0 13) := g2.1.2.1
    rw [X12_summer_64, if_pos (Int32.le_refl _), X12_summer_84]
    by_cases w0 : nI w = 0
    · rw [if_pos w0, X12_summer_128, u1, sp_bv_s, g2.2.1.2.1]
      exact wp_some.mpr ⟨by rw [if_pos w0], u2⟩
    · rw [if_neg w0]
      by_cases w1 : nI w = 1
      · rw [if_pos w1, show (2 : Int32) = nI 2 from rfl, rq_whereSet g2 hn1 (by omega), sp_bd_s, rq_bits_bs (by omega) _ hb10, sp_bd_s, X12_summer_128, u1, sp_bv_s]
        refine wp_some.mpr ⟨?_, u2⟩
        rw [if_neg w0, if_pos w1]
        exact congrArg nI (qc_cong fun b _ => decide_eq_decide.mpr sqs2)
      · have hp : 1 ≤ 2 ^ ct 0 13 := Nat.one_le_two_pow
        have hp2 : (2 : Nat) ^ ct 0 13 ≤ 2 ^ 10 := Nat.pow_le_pow_right (by decide) hb10
        have em : (1 : Int32) <<< (nI (ct 0 13) &&& 31) - 1 = nI (2 ^ ct 0 13 - 1) := by
          rw [show (1 : Int32) <<< (nI (ct 0 13) &&& 31) = nI (2 ^ ct 0 13) from qn_sh1 (by omega)]
          exact pk_sub (b := 1) hp
        rw [if_neg w1, w2, em, rq_angers g2 hn1 (by omega), sp_bd_s, X12_summer_128, u1, sp_bv_s]
        refine wp_some.mpr ⟨?_, u2⟩
        rw [if_neg w0, if_neg w1]
        refine congrArg nI (qs_cong fun b hb => ?_)
        rw [Nat.testBit_two_pow_sub_one]
        simp [hb]
  · obtain ⟨g1, ⟨stk', g2⟩, g3⟩ := hJ
    have hq := qsum_I (ff := ff) (gg := gg) (cd := cd) hK hG.1 a1 i
    have hh := qhap_I (ff := ff) (gg := gg) hK hq.1 (qsd ff gg ct a1 i)
    rw [X12_summer_64, if_neg (nI_ge hi (by omega))]
    refine wp_bv (wp_mono (rq_hap hdr g2 (by omega : 1000 ≤ n) hq.1 _ g3) ?_)
    rintro ν2 ⟨⟨stk2, r1⟩, r2, r3⟩
    refine wp_bv (wp_mono (rq_day r1 (by omega : 1000 ≤ n) hh.1 hD (by rw [hh.2.1]; omega)) ?_)
    rintro ν3 ⟨⟨stk3, y1⟩, y2, _⟩
    rw [sp_pl, nI_1]
    exact kk ν3 ⟨mD_fd (by omega) (mD_g (by omega) g1 r3) y2, ⟨stk3, by rw [qsm_s]; exact y1⟩, by rw [y2.2.2 54 (by omega) (by omega), r2, qsd_s]⟩
theorem op_summer (hn : 5000 ≤ n) (h : Inv j σ μ) (a1 a2 a3 : Int32) : agr j kd3 (X11_summer n σ a1 a2 a3) (X12_summer n μ a1 a2 a3) := by
  obtain ⟨c, ct, cd, sc, stk, hI, h3, hS, hM, hG, hD, hc⟩ := Inv_now h
  have hn1 : 100 ≤ n := by omega
  have hK := hS.2.2.2.2.2.1
  have hb10 := hK.1
  rw [X12_summer, sp_pl, X11_summer]
  generalize sp_si μ 0 3 0 = μ1 at *
  rcases wh_cases (n := n) (σ := σ) a3 (m := 2) (by omega) with ⟨w, hw, rfl⟩ | ⟨e1, _, e2⟩
  · rw [show X11_needWhat n σ (nI w) 2 = some (σ, none) from wh_ok (m := 2) hw (by omega), sp_bx_n, is_y (lo := 0) (hi := 2) (by decide) (by decide) (by rw [nI_toInt (by omega)]; omega), sp_bd_s, if_neg n10]
    rcases ah_cases (n := n) (σ := σ) a2 with ⟨k, hk, rfl⟩ | ⟨e1, e2⟩
    · obtain ⟨τ, b1, b2, b3⟩ := sq_summerEnd (ff := qseed) (gg := drv) (fun σ m h1 h2 => sq_draw h1 h2) hS (by omega : 1000 ≤ n) hG.1 hD hG.2.2.2.1 a1 hk
      obtain ⟨ν, d1, d2, d3, d4, d5⟩ := md_start hM hn1 (p := 25) (by omega) (by omega)
      have hq := qsum_I (ff := qseed) (gg := drv) (cd := cd) hK hG.1 a1 k
      have h48 := hq.1.2.2.2.2.2.2.2.2.2
      have h47 := hG.2.2.2.1
      have h0 := hG.1.2.2.2.2.2.2.2.2.2
      have key := rq_summerL (ff := qseed) (gg := drv) (fun μ m h1 h2 => rq_draw h1 h2) a1 (w := w) hn hk hG hD d2 d3
      obtain ⟨⟨ν4, v⟩, x1, x2, x3⟩ := key
      dsimp only at x2 x3
      have e34 : (sp_si ν 0 54 a1).1 0 34 = nI (sc 48) := by rw [sp_si_ne (by decide), d5]; exact hM.2.1.2.1
      have gq1 : sp_g τ 51 (48 : Int32) = nI ((qsm qseed drv ct cd sc a1 k) 48) := b3.2.2.2.2.1 48 (by omega)
      have gq2 : sp_g τ 24 (48 : Int32) = nI (sc 48) := by
        show τ.2.2.1 24 48 = _
        rw [(b2 24 (by omega)).2.2]; exact hS.2.2.2.2.1 48 (by omega)
      rw [ah_ok hk, sp_bx_n, b1, sp_bd_s, decide_eq_true rfl, sp_ckt, is_y (lo := 0) (hi := 60) (by decide) (by decide) (by rw [nI_toInt (by omega)]; omega), sp_bd_s, if_neg n10, d1, sp_bv_s, sp_pl, sp_pl, e34, sp_pl, x1]
      have hfin : ∀ u, u = v → agr j kd3 (some (τ, Sum.inl u)) (some (ν4, v)) := fun u hu => agr_ret rfl (by rw [hu]) (Inv_w hI (cD_q b2) x3) (by rw [x3.2.2 3 (by omega)]; exact h3)
      by_cases w0 : nI w = 0
      · rw [if_pos w0] at x2
        rw [if_pos w0, X4_fightsDreamt, sp_bd_s, gq1, gq2]
        exact hfin _ x2.symm
      · rw [if_neg w0] at x2
        rw [if_neg w0]
        by_cases w1 : nI w = 1
        · rw [if_pos w1] at x2
          rw [if_pos w1, sq_bladesAtRest b3 hn1, sp_bd_s, bc_bs n τ _ hb10, sp_bd_s]
          exact hfin _ x2.symm
        · rw [if_neg w1] at x2
          rw [if_neg w1, sq_angerOfAll b3 hn1, sp_bd_s]
          exact hfin _ x2.symm
    · rw [e1, sp_bx_s, is_no (lo := 0) (hi := 60) (by decide) (by decide) e2, sp_bd_s, if_pos n00, rq_failI, sp_bd_s]
      exact agr_thr rfl rfl (Inv_code hI) sp_si_eq rfl (by decide)
  · rw [show X11_needWhat n σ a3 2 = some (σ, some 1) from e1, sp_bx_s, is_no (lo := 0) (hi := 2) (by decide) (by decide) e2, sp_bd_s, if_pos n00, rq_failI, sp_bd_s]
    exact agr_thr rfl rfl (Inv_code hI) sp_si_eq rfl (by decide)
end
