-- ===== worst, toSwallow =====
section
variable {n j c t : Nat} {σ μ : sp_St} {ct : Nat → Nat → Nat} {cd : List Nat × List Nat} {sc : Nat → Nat} {stk : Nat → List Nat}
theorem op_worst (hn : 5000 ≤ n) (h : Inv j σ μ) (a1 : Int32) : agr j kd2 (X11_worst n σ a1) (X12_worst n μ a1) := by
  obtain ⟨c, ct, cd, sc, stk, hI, h3, hS, hM, hG, hD, hc⟩ := Inv_now h
  have hn1 : 100 ≤ n := by omega
  have hb10 := hS.2.2.2.2.2.1.1
  rw [X12_worst, sp_pl, X11_worst]
  generalize sp_si μ 0 3 0 = μ1 at *
  rcases ah_cases (n := n) (σ := σ) a1 with ⟨k, hk, rfl⟩ | ⟨e1, e2⟩
  · have hv : ∀ h, h < 6 → qfn ct cd sc h k < 100000 := fun h _ => by have := qfn_le (cd := cd) (sc := sc) hb10 h k; omega
    obtain ⟨τ, a1, a2, a3, a4⟩ := sq_after hS (by omega : 1000 ≤ n) hG.1 hD hG.2.2.2.1 hk
    obtain ⟨⟨τ2, r⟩, c1, c2, o, c3, c4⟩ := sq_worstL (n := n) (σ := τ) hn1 hv a4
    dsimp only at c2 c4
    subst c2
    have hw : X4_worstHouse n σ (nI k) = some (τ2, r) := by
      rw [X4_worstHouse, a1, sp_bd_s, decide_eq_true rfl, sp_ckt, sp_pl, sp_pl, sp_pl]
      exact c1
    obtain ⟨ν, b1, b2, b3, b4, b5⟩ := md_start hM hn1 (p := 25) (by omega) (by omega)
    have key : sp_wp (X12_worst_34 n n ν (nI k) 0) (fun r2 => r2.2 = r ∧ mw μ1 r2.1) := by
      refine lp_inv (fun f i s => X12_worst_34 n f s (nI k) (nI i)) (fun i s => mD 25 μ1 s ∧ mSC s ct cd sc stk ∧ ∀ h, h < i → s.2.2.1 24 h = 0) 6 _ (fun f s hJ => ?_) (fun f i s hi hJ kk => ?_) n 0 ν (by omega) (by omega) ⟨b2, b3, fun h hh => by omega⟩
      · obtain ⟨g1, g2, g3⟩ := hJ
        obtain ⟨ν2, t1, ⟨stk2, t2⟩, t3, t4⟩ := rq_goOn g2 (by omega : 1000 ≤ n) hG.1 hD (by have := hG.2.2.2.1; omega) (k := k) (by omega)
        have h24 : ∀ h, h < 6 → ν2.2.2.1 24 h = nI (qfn ct cd sc h k) := fun h hh => by
          rw [t4 h hh, g3 h hh]
          exact Int32.zero_add _
        obtain ⟨o', w1, w2⟩ := rq_worstL (n := n) (μ := ν2) hv h24 6 n none (by omega) (by omega) (fun q h1 h2 => by omega)
        obtain ⟨ν3, u1, u2, _, _⟩ := md_end (mD_fd (by omega) g1 t3) hn1 (by omega)
        rw [X12_worst_34, if_pos (show (6 : Int32) ≤ nI 6 by decide), X12_worst_53, t1, sp_bv_s, sp_pl, sp_pl]
        have w2' : X12_worst_62 n n ν2 (-1) 5 = X12_worst_103 n ν2 (qe o') := w2
        rw [w2', X12_worst_103, u1, sp_bv_s]
        refine wp_some.mpr ⟨?_, u2⟩
        rw [c4, wst_u w1 c3]
      · obtain ⟨g1, g2, g3⟩ := hJ
        rw [X12_worst_34, if_neg (show ¬ (6 : Int32) ≤ nI i from nI_ge (b := 6) hi (by omega)), qn_in (by omega) (by omega), sp_ckt, sp_pl, sp_pl, nI_1, nI_clamp (by omega)]
        have hf : mfd s (sp_sa s 24 i 0) := mfd_sa (by omega) (by omega) (by omega)
        refine kk _ ⟨mD_fd (by omega) g1 hf, mSC_eq g2 (fun p hp => by funext y; rw [sp_sa_np (by omega)]) rfl rfl, fun h hh => ?_⟩
        by_cases e : h = i
        · subst e; rw [sp_sa_eq]
        · rw [sp_sa_nj e]; exact g3 h (by omega)
    obtain ⟨⟨ν2, r2⟩, d1, d2, d3⟩ := key
    dsimp only at d2 d3
    subst d2
    rw [ah_ok hk, sp_bx_n, hw, sp_bd_s, is_y (lo := 0) (hi := 60) (by decide) (by decide) (by rw [nI_toInt (by omega)]; omega), sp_bd_s, if_neg n10, b1, sp_bv_s, sp_pl, d1]
    exact agr_ret rfl rfl (Inv_w hI (cD_q a2) d3) (by rw [d3.2.2 3 (by omega)]; exact h3)
  · rw [e1, sp_bx_s, is_no (lo := 0) (hi := 60) (by decide) (by decide) e2, sp_bd_s, if_pos n00, rq_failI, sp_bd_s]
    exact agr_thr rfl rfl (Inv_code hI) sp_si_eq rfl (by decide)
theorem rq_firstRoom (h : mSC μ ct cd sc stk) (hn : 100 ≤ n) (hI : qI ct sc) {b : Nat} (hb : b < ct 0 13) : X12_firstRoom n μ (nI b) = some (μ, qe (qroom ct sc b)) := by
  have hK := h.2.2.2.1
  have hb10 := hK.1
  have hs5 := hK.2.1
  have hL := hK.2.2.2.2.1 b
  have w3 : sp_g μ 3 (1 : Int32) = nI (ct 0 14) := h.1.1
  have gM : sp_g μ 8 (nI b) = nI (ct 2 b) := by rw [qn_g (by omega)]; exact h.1.2.2.2.2.2.2.1 b hb
  rw [X12_firstRoom, sp_pl]
  have key := lp_find (fun f i => X12_firstRoom_2 n f μ (nI b) (nI i)) (ct 0 14) (fun s => decide (qus ct sc s + ct 2 b ≤ sc (30 + s))) (some (μ, -nI 1)) (fun s => some (μ, nI s)) (fun f => ?_) (fun f i hi => ?_) n 0 (by omega) (by omega)
  · rw [show (0 : Int32) = nI 0 from rfl, key]
    unfold qroom
    rw [Nat.sub_zero]
    cases qf (fun s => decide (qus ct sc s + ct 2 b ≤ sc (30 + s))) (ct 0 14) 0 <;> rfl
  · rw [X12_firstRoom_2, w3, if_pos (Int32.le_refl _), X12_firstRoom_34]
    rfl
  · have hr := hI.2.2.2.2.1 i hi
    have hu := hI.2.2.2.1 i hi
    rw [X12_firstRoom_2, w3, if_neg (nI_ge hi (by omega)), qn_in (by omega) (by omega), sp_ckt, rq_leftOf h hn hi hu, sp_bd_s, gM]
    by_cases p : qus ct sc i + ct 2 b ≤ sc (30 + i)
    · rw [if_neg (fun hh => by have := (nI_ltI (by omega) (by omega)).mp hh; omega), decide_eq_true p, if_pos rfl]
      rfl
    · rw [if_pos ((nI_ltI (by omega) (by omega)).mpr (by omega)), decide_eq_false p, if_neg (by decide), sp_pl, nI_1]
def ltO (a b : Option Nat) : Prop := a.getD 61 < b.getD 61
def tsw (ct : Nat → Nat → Nat) (cd : List Nat × List Nat) (sc : Nat → Nat) : Nat → Option Nat × Option Nat
  | 0 => (pfn ct cd sc, none)
  | i + 1 => if sc (10 + i) = 0 then (match qroom ct sc i with
    | none => tsw ct cd sc i
    | some s => if (tsw ct cd sc i).1.getD 61 < (pfn ct cd (qput sc i s)).getD 61 then (pfn ct cd (qput sc i s), some i) else tsw ct cd sc i) else tsw ct cd sc i
theorem pfn_61 (sc : Nat → Nat) : (pfn ct cd sc).getD 61 ≤ 61 := by
  cases e : pfn ct cd sc with
  | none => exact Nat.le_refl _
  | some k => have := pfn_le e; show k ≤ 61; omega
theorem tsw_ok : ∀ i, (pfn ct cd sc).getD 61 ≤ (tsw ct cd sc i).1.getD 61 ∧ (∀ k, (tsw ct cd sc i).1 = some k → 1 ≤ k ∧ k ≤ 60) ∧ ∀ b, (tsw ct cd sc i).2 = some b → b < i := by
  intro i
  induction i with
  | zero => exact ⟨Nat.le_refl _, fun k hk => pfn_le hk, fun b hb => by cases hb⟩
  | succ i ih =>
    obtain ⟨i1, i2, i3⟩ := ih
    have hh : (pfn ct cd sc).getD 61 ≤ (tsw ct cd sc i).1.getD 61 ∧ (∀ k, (tsw ct cd sc i).1 = some k → 1 ≤ k ∧ k ≤ 60) ∧ ∀ b, (tsw ct cd sc i).2 = some b → b < i + 1 := ⟨i1, i2, fun b hb => by have := i3 b hb; omega⟩
    rw [tsw]
    split
    · cases qroom ct sc i with
      | none => exact hh
      | some s =>
        dsimp only
        split
        · exact ⟨by show _ ≤ (pfn ct cd (qput sc i s)).getD 61; omega, fun k hk => pfn_le hk, fun b hb => by cases hb; omega⟩
        · exact hh
    · exact hh
/-- how the class tells what delays -/
def qdl (x : Option Nat × Option Nat) : Int32 := match x.2 with
  | none => -nI 1
  | some _ => qe x.1
theorem e61 {o : Option Nat} (h : ∀ k, o = some k → 1 ≤ k ∧ k ≤ 60) : (if nI (o.getD 61) = 61 then (-1 : Int32) else nI (o.getD 61)) = qe o := by
  cases o with
  | none => rfl
  | some k =>
    have := h k rfl
    rw [if_neg (show ¬ nI ((some k).getD 61) = 61 from by show ¬ nI k = nI 61; rw [qn_eq (by omega) (by omega)]; omega)]
    rfl
theorem sq_seek (h : qSC σ 23 c ct cd sc) (hn : 1000 ≤ n) (hI : qI ct sc) (hD : qcd cd) (h47 : sc 47 ≤ 999) (h49 : sc 49 < 10000) : sp_wp (X4_seekCalmingBlade n σ) (fun τ => cD σ τ ∧ τ.1 57 5 = qe (tsw ct cd sc (ct 0 13)).2 ∧ τ.1 57 6 = qdl (tsw ct cd sc (ct 0 13))) := by
  have hK := h.2.2.2.2.2.1
  have hb10 := hK.1
  have hn1 : 100 ≤ n := by omega
  obtain ⟨τ, a1, a2, a3, _, _⟩ := sq_dream h hn1
  obtain ⟨⟨τ2, r⟩, b1, b2, b3⟩ := sq_dff a3 hn hI hD h47 (by rw [(a2 24 (by omega)).2.2]; exact h.2.2.2.2.1 48 (by omega))
  dsimp only at b2 b3
  rw [X4_seekCalmingBlade, a1, sp_bv_s, b1, sp_bd_s, sp_pl, sp_pl, sp_pl, b2]
  refine lp_inv (fun f i (s : sp_St) => X4_seekCalmingBlade_28 n f s (nI ((tsw ct cd sc i).1.getD 61)) (nI i)) (fun i s => cD σ s ∧ s.1 57 5 = qe (tsw ct cd sc i).2 ∧ s.1 57 6 = qdl (tsw ct cd sc i)) (ct 0 13) _ (fun f s hJ => ?_) (fun f i s hi hJ kk => ?_) n 0 _ (by omega) (by omega) ⟨cD_trans (cD_trans a2 (cD_fp b3 (by omega))) (cD_trans (cD_si (by omega)) (cD_si (by omega))), ?_, ?_⟩
  · have hs := qSC_q (σ := σ) (τ := s) (fun p hp => ⟨(hJ.1 p (by omega)).1, (hJ.1 p (by omega)).2.2⟩) (by rw [(hJ.1 23 (by omega)).2.1]) (hJ.1 24 (by omega)).2.2 h
    rw [X4_seekCalmingBlade_28, sp_pl, hs.2.1, hs.2.2.1, sp_ckt, hs.2.2.2.1.1, if_pos (Int32.le_refl _)]
    exact wp_some.mpr hJ
  · obtain ⟨g1, g2, g3⟩ := hJ
    have hs := qSC_q (σ := σ) (τ := s) (fun p hp => ⟨(g1 p (by omega)).1, (g1 p (by omega)).2.2⟩) (by rw [(g1 23 (by omega)).2.1]) (g1 24 (by omega)).2.2 h
    obtain ⟨t1, t2, t3⟩ := tsw_ok (ct := ct) (cd := cd) (sc := sc) i
    have hlat : (tsw ct cd sc i).1.getD 61 ≤ 61 := by
      cases e : (tsw ct cd sc i).1 with
      | none => exact Nat.le_refl _
      | some k => have := t2 k e; show k ≤ 61; omega
    rw [X4_seekCalmingBlade_28, sp_pl, hs.2.1, hs.2.2.1, sp_ckt, hs.2.2.2.1.1, if_neg (nI_ge hi (by omega)), sq_isOut hs (by omega), sp_bd_s]
    by_cases p : sc (10 + i) = 0
    · obtain ⟨υ, c1, c2, c3, _, c5⟩ := sq_dream hs hn1
      obtain ⟨υ2, d1, d2, d3⟩ := sq_putIntoLeast c3 hn1 hi (by omega) hI.2.2.2.1
      have hI2 : qI ct (qputL ct sc i) ∧ qputL ct sc i 47 = sc 47 ∧ qputL ct sc i 48 = sc 48 := by
        unfold qputL
        cases e : qroom ct sc i with
        | none => exact ⟨hI, rfl, rfl⟩
        | some s' =>
          obtain ⟨_, e2, e3, _⟩ := qf_some e
          rw [decide_eq_true_iff] at e3
          refine ⟨qI_put hK hI hi (by omega) p e3, ?_, ?_⟩
          · show qput sc i s' 47 = _; rw [qput_oth (by omega) (by omega) (by omega)]
          · show qput sc i s' 48 = _; rw [qput_oth (by omega) (by omega) (by omega)]
      obtain ⟨⟨υ3, r3⟩, f1, f2, f3⟩ := sq_dff d2 hn hI2.1 hD (by rw [hI2.2.1]; exact h47) (by rw [hI2.2.2, (d3.2.2 24 (by omega)).2, (c2 24 (by omega)).2.2]; exact hs.2.2.2.2.1 48 (by omega))
      dsimp only at f2 f3
      have k57 : υ3.1 57 = s.1 57 := by rw [(f3.2.2 57 (by omega)).1, (d3.2.2 57 (by omega)).1, (c5 57 (by omega)).1]
      have hD3 : cD σ υ3 := cD_trans g1 (cD_trans c2 (cD_trans (cD_fp d3 (by omega)) (cD_fp f3 (by omega))))
      rw [if_pos p, if_neg n10, c1, sp_bv_s, d1, sp_bv_s, f1, sp_bd_s, f2]
      have hp2 := pfn_61 (ct := ct) (cd := cd) (qputL ct sc i)
      have e104 : ∀ (x : sp_St) (y : Int32), X4_seekCalmingBlade_104 n (X4_seekCalmingBlade_28 n f) x y (nI i) = X4_seekCalmingBlade_28 n f x y (nI (i + 1)) := fun x y => by rw [X4_seekCalmingBlade_104, sp_pl, nI_1]
      by_cases q : (tsw ct cd sc i).1.getD 61 < (pfn ct cd (qputL ct sc i)).getD 61
      · have eT : tsw ct cd sc (i + 1) = (pfn ct cd (qputL ct sc i), some i) := by
          rw [tsw, if_pos p]
          unfold qputL at q ⊢
          cases e : qroom ct sc i with
          | none => rw [e] at q; dsimp only at q; omega
          | some s' => rw [e] at q; dsimp only at q ⊢; rw [if_pos q]
        rw [if_neg (nI_ge q (by omega)), sp_pl, sp_pl, sp_pl, e104]
        have := kk (sp_si (sp_si υ3 57 5 (nI i)) 57 6 (if nI ((pfn ct cd (qputL ct sc i)).getD 61) = 61 then -1 else nI ((pfn ct cd (qputL ct sc i)).getD 61))) ⟨cD_trans hD3 (cD_trans (cD_si (by omega)) (cD_si (by omega))), by rw [sp_si_ne (by decide), sp_si_eq, eT]; rfl, by rw [sp_si_eq, eT, e61 (fun k hk => pfn_le hk)]; rfl⟩
        rw [eT] at this
        exact this
      · have eT : tsw ct cd sc (i + 1) = tsw ct cd sc i := by
          rw [tsw, if_pos p]
          unfold qputL at q
          cases e : qroom ct sc i with
          | none => rfl
          | some s' => rw [e] at q; dsimp only at q ⊢; rw [if_neg q]
        rw [if_pos ((nI_leI (by omega) (by omega)).mpr (by omega)), e104]
        have := kk υ3 ⟨hD3, by rw [k57, eT]; exact g2, by rw [k57, eT]; exact g3⟩
        rw [eT] at this
        exact this
    · rw [if_neg p, if_pos n00, X4_seekCalmingBlade_104, sp_pl, nI_1]
      have eT : tsw ct cd sc (i + 1) = tsw ct cd sc i := by rw [tsw, if_neg p]
      have := kk s ⟨g1, by rw [eT]; exact g2, by rw [eT]; exact g3⟩
      rw [eT] at this
      exact this
  · rw [sp_si_ne (by decide), sp_si_eq]; rfl
  · rw [sp_si_eq]; rfl
theorem rq_toSw (h : mSC μ ct cd sc stk) (hn : 1000 ≤ n) (hI : qI ct sc) (hD : qcd cd) (h47 : sc 47 ≤ 999) (h49 : sc 49 < 10000) (w : Int32) : sp_wp (sp_bd (X12_peaceOf n μ) fun σ4 v5 => sp_pl (-1 : Int32) fun x6 => sp_bv (X12_pack n σ4 25 88 0) fun σ9 => sp_pl (0 : Int32) fun x10 => X12_toSwallow_39 n n σ9 w v5 x6 x10) (fun r => r.2 = (if w = 0 then qe (tsw ct cd sc (ct 0 13)).2 else qdl (tsw ct cd sc (ct 0 13))) ∧ mw μ r.1) := by
  have hK := h.2.2.2.1
  have hb10 := hK.1
  have hs5 := hK.2.1
  have hn1 : 100 ≤ n := by omega
  refine wp_bd (wp_mono (rq_peaceOf h hn hI hD h47) ?_)
  rintro ⟨μ2, r⟩ ⟨d1, d2⟩
  dsimp only at d1 d2 ⊢
  subst d1
  have h2 := mSC_w h (mP_w d2)
  obtain ⟨ν, b1, b2, b3, b4, b5⟩ := md_start h2 hn1 (p := 25) (by omega) (by omega)
  rw [sp_pl, b1, sp_bv_s, sp_pl]
  have hw0 : mw μ2 ν := ⟨fun x _ => by
    unfold rowOf
    rw [b5, b4 14 (by omega), b4 15 (by omega), b4 16 (by omega), b4 17 (by omega), b4 18 (by omega), b4 19 (by omega)], fun p hp => b4 p (by omega), fun k _ => by rw [b5]⟩
  refine lp_inv (fun f i (s : sp_St) => X12_toSwallow_39 n f s w (nI ((tsw ct cd sc i).1.getD 1000)) (qe (tsw ct cd sc i).2) (nI i)) (fun i s => mw μ2 s ∧ mD 25 μ2 s) (ct 0 13) _ (fun f s hJ => ?_) (fun f i s hi hJ kk => ?_) n 0 ν (by omega) (by omega) ⟨hw0, b2⟩
  · have hs := mSC_w h2 hJ.1
    have w3 : sp_g s 3 (2 : Int32) = nI (ct 0 13) := hs.1.2.1
    obtain ⟨t1, t2, t3⟩ := tsw_ok (ct := ct) (cd := cd) (sc := sc) (ct 0 13)
    have hfin : X12_toSwallow_125 n s w (nI ((tsw ct cd sc (ct 0 13)).1.getD 1000)) (qe (tsw ct cd sc (ct 0 13)).2) = some (s, if w = 0 then qe (tsw ct cd sc (ct 0 13)).2 else qdl (tsw ct cd sc (ct 0 13))) := by
      unfold X12_toSwallow_125 X12_toSwallow_143 X12_toSwallow_148 qdl
      by_cases w0 : w = 0
      · rw [if_pos w0, if_pos w0]
      · rw [if_neg w0, if_neg w0]
        cases e : (tsw ct cd sc (ct 0 13)).2 with
        | none => rfl
        | some b =>
          have := t3 b e
          rw [if_neg (show ¬ qe (some b) = -1 from fun hh => by
            have h5 : (nI b = -nI 1) = False := qn_meq (by omega)
            rw [← h5]; exact hh)]
          cases e2 : (tsw ct cd sc (ct 0 13)).1 with
          | none => rfl
          | some k =>
            have := t2 k e2
            rw [if_neg (show ¬ nI ((some k).getD 1000) = 1000 from by show ¬ nI k = nI 1000; rw [qn_eq (by omega) (by omega)]; omega)]
            rfl
    rw [X12_toSwallow_39, w3, if_pos (Int32.le_refl _), hfin]
    exact wp_some.mpr ⟨rfl, mw_trans (mP_w d2) hJ.1⟩
  · obtain ⟨g1, g2⟩ := hJ
    have hs := mSC_w h2 g1
    have w3 : sp_g s 3 (2 : Int32) = nI (ct 0 13) := hs.1.2.1
    have hw := sqs_lt sc i
    have e15 : sp_g s 15 (nI i) = nI (sqState sc i) := by rw [qn_g (by omega)]; exact hs.2.1.2.2.2.1 i hi
    obtain ⟨t1, t2, t3⟩ := tsw_ok (ct := ct) (cd := cd) (sc := sc) i
    have e119 : ∀ (x : sp_St) (y z : Int32), X12_toSwallow_119 n (X12_toSwallow_39 n f) x w y z (nI i) = X12_toSwallow_39 n f x w y z (nI (i + 1)) := fun x y z => by rw [X12_toSwallow_119, sp_pl, nI_1]
    rw [X12_toSwallow_39, w3, if_neg (nI_ge hi (by omega)), qn_in (by omega) (by omega), sp_ckt, e15]
    by_cases p : sc (10 + i) = 0
    · rw [sqs0.mpr p, if_pos n00, rq_firstRoom hs hn1 hI hi, sp_bd_s]
      cases e : qroom ct sc i with
      | none =>
        have eT : tsw ct cd sc (i + 1) = tsw ct cd sc i := by rw [tsw, if_pos p, e]
        rw [X12_toSwallow_70, if_pos (show qe none = -1 from rfl), e119]
        have := kk s ⟨g1, g2⟩
        rw [eT] at this
        exact this
      | some r =>
        obtain ⟨_, e2, e3, _⟩ := qf_some e
        rw [decide_eq_true_iff] at e3
        have eTT : tsw ct cd sc (i + 1) = if (tsw ct cd sc i).1.getD 61 < (pfn ct cd (qput sc i r)).getD 61 then (pfn ct cd (qput sc i r), some i) else tsw ct cd sc i := by rw [tsw, if_pos p, e]
        rw [X12_toSwallow_70, if_neg (show ¬ qe (some r) = -1 from fun hh => by
          have h5 : (nI r = -nI 1) = False := qn_meq (by omega)
          rw [← h5]; exact hh), qe]
        refine wp_bv (wp_mono (rq_putIn (n := n) hs hi (by omega) p hI.2.2.1 (by omega)) ?_)
        rintro s2 ⟨u1, u2⟩
        have hI2 := qI_put hK hI hi (by omega) p e3
        refine wp_bd (wp_mono (rq_peaceOf u1 hn hI2 hD (by rw [qput_oth (by omega) (by omega) (by omega)]; exact h47)) ?_)
        rintro ⟨s3, v3⟩ ⟨x1, x2⟩
        dsimp only at x1 x2 ⊢
        subst x1
        have m2 := mD_fd (by omega) g2 (mfl_fd u2)
        have m3 : mD 25 μ2 s3 := ⟨fun x hx => by rw [x2.2.1 25 (by omega)]; exact m2.1 x hx, fun q hq => by rw [x2.2.1 q (by omega)]; exact m2.2.1 q hq, fun k hk => by rw [x2.2.2 k (by omega) (by omega)]; exact m2.2.2 k hk⟩
        obtain ⟨s4, y1, y2, y3, y4⟩ := md_end m3 hn1 (by omega)
        have m4 : mD 25 μ2 s4 := ⟨fun x hx => by rw [y3 25 (by omega)]; exact m3.1 x hx, fun q hq => by rw [y3 q (by omega)]; exact m3.2.1 q hq, fun k hk => by rw [y4 k (by omega) (by omega)]; exact m3.2.2 k hk⟩
        rw [y1, sp_bv_s]
        have hcmp : nI ((tsw ct cd sc i).1.getD 1000) < nI ((pfn ct cd (qput sc i r)).getD 1000) ↔ (tsw ct cd sc i).1.getD 61 < (pfn ct cd (qput sc i r)).getD 61 := by
          have hA : ∀ o : Option Nat, (∀ k, o = some k → 1 ≤ k ∧ k ≤ 60) → o.getD 1000 = (if o.getD 61 = 61 then 1000 else o.getD 61) ∧ o.getD 61 ≤ 61 := by
            intro o ho
            cases o with
            | none => exact ⟨rfl, Nat.le_refl _⟩
            | some k =>
              have := ho k rfl
              exact ⟨by show k = if k = 61 then 1000 else k; rw [if_neg (by omega)], by show k ≤ 61; omega⟩
          obtain ⟨q1, q2⟩ := hA _ t2
          obtain ⟨q3, q4⟩ := hA _ (fun k hk => pfn_le (ct := ct) (cd := cd) (sc := qput sc i r) hk)
          rw [q1, q3]
          rw [nI_ltI (by split <;> omega) (by split <;> omega)]
          split <;> split <;> omega
        by_cases q : (tsw ct cd sc i).1.getD 61 < (pfn ct cd (qput sc i r)).getD 61
        · rw [if_pos (hcmp.mpr q), e119]
          have := kk s4 ⟨y2, m4⟩
          rw [eTT, if_pos q] at this
          exact this
        · rw [if_neg (fun hh => q (hcmp.mp hh)), e119]
          have := kk s4 ⟨y2, m4⟩
          rw [eTT, if_neg q] at this
          exact this
    · have p' : ¬ sqState sc i = 0 := fun x => p (sqs0.mp x)
      have eT : tsw ct cd sc (i + 1) = tsw ct cd sc i := by rw [tsw, if_neg p]
      rw [if_neg (show ¬ nI (sqState sc i) = 0 from by show ¬ nI (sqState sc i) = nI 0; rw [qn_eq (by omega) (by omega)]; exact p'), X12_toSwallow_70, if_pos rfl, e119]
      have := kk s ⟨g1, g2⟩
      rw [eT] at this
      exact this
theorem op_toSwallow (hn : 5000 ≤ n) (hj : j < 512) (h : Inv j σ μ) (a1 : Int32) : agr j kd1 (X11_toSwallow n σ a1) (X12_toSwallow n μ a1) := by
  obtain ⟨c, ct, cd, sc, stk, hI, h3, hS, hM, hG, hD, hc⟩ := Inv_now h
  have h49 := hG.2.2.2.2
  rw [X12_toSwallow, sp_pl, X11_toSwallow]
  generalize sp_si μ 0 3 0 = μ1 at *
  rcases wh_cases (n := n) (σ := σ) a1 (m := 1) (by omega) with ⟨w, hw, rfl⟩ | ⟨e1, e2, _⟩
  · obtain ⟨τ, b1, b2, b3, b4⟩ := sq_seek hS (by omega : 1000 ≤ n) hG.1 hD hG.2.2.2.1 (by omega)
    obtain ⟨⟨ν, v⟩, d1, d2, d3⟩ := rq_toSw hM (by omega : 1000 ≤ n) hG.1 hD hG.2.2.2.1 (by omega) (nI w)
    dsimp only at d2 d3
    rw [show X11_needWhat n σ (nI w) 1 = some (σ, none) from wh_ok (m := 1) hw (by omega), sp_bx_n, b1, sp_bv_s, if_neg (nI_pos (show w < 2 ^ 31 by omega)), if_pos (show nI w ≤ (1 : Int32) from (nI_leI (a := w) (b := 1) (by omega) (by omega)).mpr hw), d1, b3, b4]
    by_cases w0 : nI w = 0
    · rw [if_pos w0] at d2 ⊢
      exact agr_ret rfl (by rw [d2]) (Inv_w hI (cD_q b2) d3) (by rw [d3.2.2 3 (by omega)]; exact h3)
    · rw [if_neg w0] at d2 ⊢
      exact agr_ret rfl (by rw [d2]) (Inv_w hI (cD_q b2) d3) (by rw [d3.2.2 3 (by omega)]; exact h3)
  · have hf : ∀ x, x = some (σ, Sum.inr 1) → agr j kd1 x (X12_toSwallow_14 n μ1) := fun x hx => agr_thr (υ := sp_si μ1 0 3 1) (w := 0) hx rfl (Inv_code hI) sp_si_eq rfl (by decide)
    rw [show X11_needWhat n σ a1 1 = some (σ, some 1) from e1, sp_bx_s]
    rcases e2 with e2 | ⟨e2, e3⟩
    · rw [if_pos e2]; exact hf _ rfl
    · rw [if_neg e2, if_neg (show ¬ a1 ≤ 1 from e3)]; exact hf _ rfl
end
