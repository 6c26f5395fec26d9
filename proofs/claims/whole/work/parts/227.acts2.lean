-- ===== THE ACTS: swallow, draw, broth =====
section
variable {n j c t : Nat} {σ μ : sp_St} {ct : Nat → Nat → Nat} {cd : List Nat × List Nat} {sc sc' : Nat → Nat} {stk : Nat → List Nat}
theorem qput_49 {b s : Nat} (hb : b < 10) : qput sc b s 49 = sc 49 + 1 := by
  unfold qput
  rw [qu_n (by omega), qu_n (by omega), qu_e]
theorem qus_put {b s r : Nat} (hb10 : ct 0 13 ≤ 10) (hb : b < ct 0 13) (ho : sc (10 + b) = 0) : qus ct (qput sc b s) r = qus ct sc r + if r = s then ct 2 b else 0 := by
  unfold qus
  by_cases e : r = s
  · subst e
    rw [if_pos rfl, ← qs_upd (f := fun k => if sc (10 + k) = r + 1 then ct 2 k else 0) (b := b) (x := ct 2 b) (by rw [if_neg (by omega)]) hb]
    refine qs_cong fun k hk => ?_
    rw [qput_pl (by omega) (by omega)]
    by_cases ek : k = b
    · subst ek; rw [if_pos rfl, if_pos rfl, if_pos rfl]
    · rw [if_neg ek, if_neg ek]
  · rw [if_neg e, Nat.add_zero]
    refine qs_cong fun k hk => ?_
    rw [qput_pl (by omega) (by omega)]
    by_cases ek : k = b
    · subst ek; rw [if_pos rfl, if_neg (by omega), if_neg (by omega)]
    · rw [if_neg ek]
theorem qI_put {b s : Nat} (hK : qK ct) (h : qI ct sc) (hb : b < ct 0 13) (hs : s < ct 0 14) (ho : sc (10 + b) = 0) (hr : qus ct sc s + ct 2 b ≤ sc (30 + s)) : qI ct (qput sc b s) := by
  obtain ⟨i1, i2, i3, i4, i5, i6, i7, i8, i9, i10⟩ := h
  have hb10 := hK.1
  have hs5 := hK.2.1
  have ko : ∀ k, k < 10 ∨ 30 ≤ k → k ≠ 49 → qput sc b s k = sc k := fun k h1 h2 => qput_oth h1 (by omega) h2
  refine ⟨fun x hx => ?_, fun x hx => ?_, fun x hx => ?_, fun r hr2 => ?_, fun r hr2 => ?_, fun h hh => ?_, fun h o hh ho => ?_, fun h hh => ?_, fun h hh => ?_, ?_⟩
  · rw [ko x (by omega) (by omega)]; exact i1 x hx
  · rw [qput_pl (by omega) (by omega)]
    split
    · omega
    · exact i2 x hx
  · rw [qput_st (by omega) (by omega), qput_49 (by omega)]
    have := i3 x hx
    split <;> omega
  · rw [qus_put hb10 hb ho, ko (30 + r) (by omega) (by omega)]
    by_cases e : r = s
    · subst e; rw [if_pos rfl]; exact hr
    · rw [if_neg e]; exact i4 r hr2
  · rw [ko (30 + r) (by omega) (by omega)]; exact i5 r hr2
  · rw [ko (35 + h) (by omega) (by omega)]; exact i6 h hh
  · rw [ko (35 + h) (by omega) (by omega), ko (35 + o) (by omega) (by omega)]; exact i7 h o hh ho
  · rw [ko (35 + h) (by omega) (by omega)]; exact i8 h hh
  · rw [ko (35 + h) (by omega) (by omega), ko (41 + h) (by omega) (by omega)]; exact i9 h hh
  · rw [ko 47 (by omega) (by omega), ko 48 (by omega) (by omega)]; exact i10
theorem qI_out {b v : Nat} (hK : qK ct) (h : qI ct sc) (hb : b < ct 0 13) (hv : v = 0 ∨ v = 6) : qI ct (qu sc (10 + b) v) := by
  have hb10 := hK.1
  refine qI_move hK.2.1 h (fun x hx => by rw [qu_n (by omega)]; exact h.1 x hx) (fun x hx => ?_) (fun k h1 h2 h3 => by rw [qu_n (by omega)]) (by rw [qu_n (by omega), qu_n (by omega)]; exact h.2.2.2.2.2.2.2.2.2) hK.1
  by_cases e : x = b
  · subst e; rw [qu_e]; exact Or.inr hv
  · rw [qu_n (by omega)]; exact Or.inl rfl
theorem agr_refuse {kd : Nat → Option Int32} {k : Nat} {j' : Nat} (hk : k < 3) (hj : j ≤ j') (h : Inv j σ μ) (h3 : μ.1 0 3 = 0) : agr j' kd (sp_bd (X11_refuse n σ (nI k)) fun σ2 v3 => some (σ2, Sum.inl v3)) (sp_bd (X12_refuse n μ (nI k)) fun σ2 v3 => some (σ2, v3)) := by
  rw [sq_refuse hk, rq_refuse hk, sp_bd_s, sp_bd_s]
  exact agr_ret rfl rfl (Inv_mono hj (Inv_ref hk h)) h3
theorem agr_fail {x : Option (sp_St × (Int32 ⊕ Nat))} (h : Inv j σ μ) (hx : x = some (σ, Sum.inr 1)) : agr (j + 1) kd1 x (sp_bd (X12_fail n μ 1) fun σ2 v3 => some (σ2, v3)) := by
  rw [rq_failI, sp_bd_s]
  exact agr_thr hx rfl (Inv_mono (by omega) (Inv_code h)) sp_si_eq rfl (by decide)
end
section
variable {n j : Nat} {σ μ : sp_St}
theorem op_swallow (hn : 5000 ≤ n) (hj : j < 512) (h : Inv j σ μ) (a1 a2 : Int32) : agr (j + 1) kd1 (X11_swallow n σ a1 a2) (X12_swallow n μ a1 a2) := by
  have h' := Inv_code (v := 0) h
  have h3 : (sp_si μ 0 3 0).1 0 3 = 0 := sp_si_eq
  have hn1 : 100 ≤ n := by omega
  rw [X12_swallow, sp_pl, X11_swallow]
  generalize sp_si μ 0 3 0 = μ1 at *
  obtain ⟨c, d, ct, cd, sc, stk, m, nr, hs, ht, hO⟩ := Inv_O h'
  obtain ⟨hS, hM, hG, hD, hc⟩ := O_now hO
  have hK := hS.2.2.2.2.2.1
  have hb10 := hK.1
  have hs5 := hK.2.1
  rcases b_cases (n := n) hS hc hM a1 with ⟨b, hb, rfl⟩ | ⟨e1, e2⟩
  · rw [nb_ok hS hc hb, sp_bx_n, ib_ok hM hb, sp_bd_s, if_neg n10]
    rcases s_cases (n := n) hS hc hM a2 with ⟨s, hss, rfl⟩ | ⟨e1, e2⟩
    · have hu := hG.1.2.2.2.1 s hss
      have hw := sqs_lt sc b
      have g15 : sp_g μ1 15 (nI b) = nI (sqState sc b) := by rw [qn_g (by omega)]; exact hM.2.1.2.2.2.1 b hb
      have gM : sp_g μ1 8 (nI b) = nI (ct 2 b) := by rw [qn_g (by omega)]; exact hM.1.2.2.2.2.2.2.1 b hb
      have hL := hK.2.2.2.2.1 b
      rw [ns_ok hS hc hss, sp_bx_n, it_ok hM hss, sp_bd_s, if_neg n10, sq_isOut hS (by omega), sp_bd_s, qn_in (by omega) (by omega), sp_ckt, g15]
      by_cases p : sc (10 + b) = 0
      · rw [if_pos p, if_neg n10, sqs0.mpr p, if_pos n00, sq_hasRoom hS hn1 (by omega) hb hu, sp_bd_s, qn_in (by omega) (by omega), sp_ckt, rq_leftOf hM hn1 hss hu, sp_bd_s, gM]
        have hB := hG.2.2.1 (30 + s)
        by_cases r : qus ct sc s + ct 2 b ≤ sc (30 + s)
        · have r' : nI (ct 2 b) ≤ nI (sc (30 + s) - qus ct sc s) := (nI_leI (by omega) (by omega)).mpr (by omega)
          rw [if_pos r, if_neg n10, if_pos r']
          obtain ⟨τ, ν, m', nr', hs', ht', r1, r2, r3, r4⟩ := O_keep hn hO
          obtain ⟨hS2, hM2, hG2, _, hc2⟩ := O_now r3
          have h49 := hG.2.2.2.2
          obtain ⟨τ2, q1, q2, q3⟩ := sq_putInto (n := n) hS2 (s := s) (b := b) (by omega) (by omega) (by omega)
          obtain ⟨ν2, t1, t2, t3⟩ := rq_putIn (n := n) hM2 hb hss p hG.1.2.2.1 (by omega)
          have hI2 : qI ct (qput sc b s) := qI_put hK hG.1 hb hss p r
          have q2' : qSC τ2 23 c ct cd (qput sc b s) := q2
          have h47 := hG.2.2.2.1
          have hG3 : sG ct (qput sc b s) _ (j + 1) := sG_of t2 hI2 (by rw [qput_oth (by omega) (by omega) (by omega)]; exact h47) (by rw [qput_49 (by omega)]; omega)
          rw [r1, sp_bv_s, q1, sp_bv_s, sq_leftN q2' hn1 (by omega) (hI2.2.2.2.1 s hss), sp_bd_s, r2, sp_bv_s, t1, sp_bv_s, rq_leftOf t2 hn1 hss (hI2.2.2.2.1 s hss), sp_bd_s]
          exact agr_ret rfl rfl (O_Inv (O_scene r3 (cs_fp q3 (by omega) (by omega)) (ms_fd (mfl_fd t3)) q2' t2 hG3 (by omega))) (by rw [t3.1, r4]; exact h3)
        · have r' : ¬ nI (ct 2 b) ≤ nI (sc (30 + s) - qus ct sc s) := fun h => r (by
            have := (nI_leI (by omega) (by omega)).mp h
            omega)
          rw [if_neg r, if_pos n00, if_neg r']
          exact agr_refuse (k := 1) (by omega) (by omega) h' h3
      · have : ¬ sqState sc b = 0 := fun x => p (sqs0.mp x)
        rw [if_neg p, if_pos n00, if_neg (show ¬ nI (sqState sc b) = 0 from by show ¬ nI (sqState sc b) = nI 0; rw [qn_eq (by omega) (by omega)]; exact this)]
        exact agr_refuse (k := 1) (by omega) (by omega) h' h3
    · rw [e1, sp_bx_s, e2, sp_bd_s, if_pos n00]
      exact agr_fail h' rfl
  · rw [e1, sp_bx_s, e2, sp_bd_s, if_pos n00]
    exact agr_fail h' rfl
theorem op_draw (hn : 5000 ≤ n) (h : Inv j σ μ) (a1 : Int32) : agr (j + 1) kd1 (X11_draw n σ a1) (X12_draw n μ a1) := by
  have h' := Inv_code (v := 0) h
  have h3 : (sp_si μ 0 3 0).1 0 3 = 0 := sp_si_eq
  have hn1 : 100 ≤ n := by omega
  rw [X12_draw, sp_pl, X11_draw]
  generalize sp_si μ 0 3 0 = μ1 at *
  obtain ⟨c, d, ct, cd, sc, stk, m, nr, hs, ht, hO⟩ := Inv_O h'
  obtain ⟨hS, hM, hG, hD, hc⟩ := O_now hO
  have hK := hS.2.2.2.2.2.1
  have hb10 := hK.1
  have hs5 := hK.2.1
  rcases s_cases (n := n) hS hc hM a1 with ⟨s, hss, rfl⟩ | ⟨e1, e2⟩
  · have g17 : sp_g μ1 17 (nI s) = nI (stk s).length := by rw [qn_g (by omega)]; exact hM.2.1.2.2.2.2.2.1 s hss
    have hle := stk_le hG.2.1 hss
    rw [ns_ok hS hc hss, sp_bx_n, it_ok hM hss, sp_bd_s, if_neg n10, sq_top hS hn1 (by omega), sp_bd_s, qn_in (by omega) (by omega), sp_ckt, g17]
    cases e : qtop sc s (ct 0 13) with
    | none =>
      have l0 : (stk s).length = 0 := by
        rcases Nat.eq_zero_or_pos (stk s).length with l | l
        · exact l
        · have := stk_gd hG.2.1 hss l
          exact absurd this.2 (qtop_no e _ this.1)
      rw [l0, if_pos n00, qe, if_pos (show -nI 1 = -1 from rfl)]
      exact agr_refuse (k := 1) (by omega) (by omega) h' h3
    | some x =>
      obtain ⟨a1, a2, a3⟩ := qtop_lt e
      have l0 : ¬ (stk s).length = 0 := fun l => by
        have := ((hG.2.1 s hss).2 x).mpr ⟨a1, a2⟩
        rw [List.length_eq_zero_iff.mp l] at this
        cases this
      have c2 : ¬ nI (stk s).length = 0 := by
        show ¬ nI (stk s).length = nI 0
        rw [qn_eq (by omega) (by omega)]
        exact l0
      have c3 : ¬ nI x = (-1 : Int32) := fun hh => by
        have h5 : (nI x = -nI 1) = False := qn_meq (by omega)
        rw [← h5]; exact hh
      obtain ⟨τ, ν, m', nr', hs', ht', r1, r2, r3, r4⟩ := O_keep hn hO
      obtain ⟨hS2, hM2, hG2, _, hc2⟩ := O_now r3
      obtain ⟨τ2, q1, q2, q3⟩ := sq_letTopOut hS2 hn1 (s := s) (by omega)
      obtain ⟨ν2, t1, t2, t3⟩ := rq_takeOut (p := 0) (v := 0) hM2 hn1 a1 (by omega) (Or.inl ⟨rfl, rfl⟩)
      have e5 : qlet ct sc s = qu sc (10 + x) 0 := by unfold qlet; rw [e]
      rw [e5] at q2
      have hI2 : qI ct (qu sc (10 + x) 0) := qI_out hK hG.1 a1 (Or.inl rfl)
      have h47 := hG.2.2.2.1
      have h49 := hG.2.2.2.2
      have hG3 : sG ct (qu sc (10 + x) 0) _ (j + 1) := sG_of t2 hI2 (by rw [qu_n (by omega)]; exact h47) (by rw [qu_n (by omega)]; omega)
      rw [if_neg c2, qe, if_neg c3, r1, sp_bv_s, q1, sp_bv_s, r2, sp_bv_s, rq_topOf hM2 hss, sp_bd_s, e, qe, show (0 : Int32) = nI 0 from rfl, t1, sp_bv_s]
      exact agr_ret rfl rfl (O_Inv (O_scene r3 (cs_fp q3 (by omega) (by omega)) (ms_fd (mfl_fd t3)) q2 t2 hG3 (by omega))) (by rw [t3.1, r4]; exact h3)
  · rw [e1, sp_bx_s, e2, sp_bd_s, if_pos n00]
    exact agr_fail h' rfl
theorem mSC_room {ct : Nat → Nat → Nat} {cd : List Nat × List Nat} {sc : Nat → Nat} {stk : Nat → List Nat} {s v : Nat} (h : mSC μ ct cd sc stk) (hs : s < ct 0 14) (hv : v < 1048576) : mSC (sp_sa μ 16 s (nI v)) ct cd (qu sc (30 + s) v) stk := by
  have hb10 := h.2.2.2.1.1
  have hs5 := h.2.2.2.1.2.1
  obtain ⟨h1, ⟨k1, k2, k3, k4, k5, k6, k7, k8⟩, h3, h4, h5, h6⟩ := h
  refine ⟨mC_fd (mfd_sa (by omega) (by omega) (by omega)) h1, ⟨?_, ?_, fun b hb => ?_, fun b hb => ?_, fun r hr => ?_, fun r hr => ?_, fun r hr k hk => ?_, fun x hx => ?_⟩, fun r hr => ⟨?_, fun b => ?_⟩, h4, qu_lt h5 hv, fun b hb => ?_⟩
  · rw [qu_n (by omega)]; exact k1
  · rw [qu_n (by omega)]; exact k2
  · rw [qu_n (by omega), sp_sa_np (by omega)]; exact k3 b hb
  · rw [sp_sa_np (by omega)]
    unfold sqState
    rw [qu_n (by omega)]; exact k4 b hb
  · by_cases e : r = s
    · subst e; rw [sp_sa_eq, qu_e]
    · rw [sp_sa_nj e, qu_n (by omega)]; exact k5 r hr
  · rw [sp_sa_np (by omega)]; exact k6 r hr
  · rw [sp_sa_np (by omega)]; exact k7 r hr k hk
  · rw [sp_sa_np (by omega), qu_n (by omega)]; exact k8 x hx
  · refine List.Pairwise.imp_of_mem ?_ (h3 r hr).1
    intro x y hx hy hxy
    have e1 := ((h3 r hr).2 x).mp hx
    have e2 := ((h3 r hr).2 y).mp hy
    rw [qu_n (by omega), qu_n (by omega)]
    exact hxy
  · rw [(h3 r hr).2 b]
    by_cases hb : b < ct 0 13
    · rw [qu_n (by omega)]
    · simp [hb]
  · rw [qu_n (by omega)]; exact h6 b hb
theorem qI_room {ct : Nat → Nat → Nat} {sc : Nat → Nat} {s v : Nat} (hK : qK ct) (h : qI ct sc) (hs : s < ct 0 14) (h1 : sc (30 + s) ≤ v) (h2 : v ≤ 99) : qI ct (qu sc (30 + s) v) := by
  obtain ⟨i1, i2, i3, i4, i5, i6, i7, i8, i9, i10⟩ := h
  have hb10 := hK.1
  have hs5 := hK.2.1
  have eu : ∀ r, qus ct (qu sc (30 + s) v) r = qus ct sc r := fun r => by
    unfold qus
    refine qs_cong fun k hk => ?_
    rw [qu_n (by omega)]
  refine ⟨fun x hx => ?_, fun x hx => ?_, fun x hx => ?_, fun r hr2 => ?_, fun r hr2 => ?_, fun h hh => ?_, fun h o hh ho => ?_, fun h hh => ?_, fun h hh => ?_, ?_⟩
  · rw [qu_n (by omega)]; exact i1 x hx
  · rw [qu_n (by omega)]; exact i2 x hx
  · rw [qu_n (by omega), qu_n (by omega)]; exact i3 x hx
  · rw [eu]
    have := i4 r hr2
    by_cases e : r = s
    · subst e; rw [qu_e]; omega
    · rw [qu_n (by omega)]; exact this
  · by_cases e : r = s
    · subst e; rw [qu_e]; exact h2
    · rw [qu_n (by omega)]; exact i5 r hr2
  · rw [qu_n (by omega)]; exact i6 h hh
  · rw [qu_n (by omega), qu_n (by omega)]; exact i7 h o hh ho
  · rw [qu_n (by omega)]; exact i8 h hh
  · rw [qu_n (by omega), qu_n (by omega)]; exact i9 h hh
  · rw [qu_n (by omega), qu_n (by omega)]; exact i10
theorem op_broth (hn : 5000 ≤ n) (h : Inv j σ μ) (a1 a2 : Int32) : agr (j + 1) kd1 (X11_broth n σ a1 a2) (X12_broth n μ a1 a2) := by
  have h' := Inv_code (v := 0) h
  have h3 : (sp_si μ 0 3 0).1 0 3 = 0 := sp_si_eq
  have hn1 : 100 ≤ n := by omega
  rw [X12_broth, sp_pl, X11_broth]
  generalize sp_si μ 0 3 0 = μ1 at *
  obtain ⟨c, d, ct, cd, sc, stk, m, nr, hs, ht, hO⟩ := Inv_O h'
  obtain ⟨hS, hM, hG, hD, hc⟩ := O_now hO
  have hK := hS.2.2.2.2.2.1
  have hb10 := hK.1
  have hs5 := hK.2.1
  rcases s_cases (n := n) hS hc hM a1 with ⟨s, hss, rfl⟩ | ⟨e1, e2⟩
  · rw [ns_ok hS hc hss, sp_bx_n, it_ok hM hss, sp_bd_s, if_neg n10]
    rcases isin_c (a := a2) (lo := 1) (hi := 20) (by omega) (by omega) with ⟨k, k1, k2, rfl⟩ | ⟨e1, e2⟩
    · rw [is_y (lo := 1) (hi := 20) (by decide) (by decide) (by rw [nI_toInt (by omega)]; omega), sp_bd_s, if_neg n10, if_neg (show ¬ nI k < 1 from fun h => by
        have := (nI_ltI (a := k) (b := 1) (by omega) (by omega)).mp h
        omega), if_pos (show nI k ≤ (20 : Int32) from (nI_leI (a := k) (b := 20) (by omega) (by omega)).mpr k2)]
      obtain ⟨τ, ν, m', nr', hs', ht', r1, r2, r3, r4⟩ := O_keep hn hO
      obtain ⟨hS2, hM2, hG2, _, hc2⟩ := O_now r3
      have hr := hG.1.2.2.2.2.1 s hss
      have g1 : sp_g τ 24 (nI (30 + s)) = nI (sc (30 + s)) := by rw [qn_g (by omega)]; exact hS2.2.2.2.2.1 (30 + s) (by omega)
      have g2 : sp_g ν 16 (nI s) = nI (sc (30 + s)) := by rw [qn_g (by omega)]; exact hM2.2.1.2.2.2.2.1 s hss
      have g3 : sp_min 99 (nI (sc (30 + s)) + nI k) = nI (min 99 (sc (30 + s) + k)) := by rw [nI_add]; exact qn_min (a := 99) (by decide) (by omega)
      have w5 : sp_in (nI s) 5 = true := qn_in (by omega) (by omega)
      have q2 : qSC (sp_sa τ 24 (30 + s) (nI (min 99 (sc (30 + s) + k)))) 23 c ct cd (qu sc (30 + s) (min 99 (sc (30 + s) + k))) := qSC_set hS2 (by omega)
      have t2 := mSC_room hM2 hss (show min 99 (sc (30 + s) + k) < 1048576 by omega)
      have hI2 := qI_room hK hG.1 hss (show sc (30 + s) ≤ min 99 (sc (30 + s) + k) by omega) (by omega)
      have h47 := hG.2.2.2.1
      have h49 := hG.2.2.2.2
      have hG3 : sG ct _ _ (j + 1) := sG_of t2 hI2 (by rw [qu_n (by omega)]; exact h47) (by rw [qu_n (by omega)]; omega)
      have g5 : sp_g (sp_sa ν 16 s (nI (min 99 (sc (30 + s) + k)))) 16 (nI s) = nI (min 99 (sc (30 + s) + k)) := by rw [qn_g (by omega), sp_sa_eq]
      rw [r1, sp_bv_s, show (30 : Int32) + nI s = nI (30 + s) from nI_add 30 s, qn_in (by omega) (by omega), sp_ckt, sp_pl, sp_ckt, sp_pl, g1, g3, nI_clamp (by omega), r2, sp_bv_s, w5, sp_ckt, sp_pl, sp_ckt, sp_pl, sp_ckt, g2, g3, nI_clamp (by omega), g5]
      exact agr_ret rfl rfl (O_Inv (O_scene r3 (cs_fp (a := 24) (b := 24) (qfp_sa (by omega) (by omega)) (by omega) (by omega)) (ms_fd (mfd_sa (by omega) (by omega) (by omega))) q2 t2 hG3 (by omega))) (by rw [sp_sa_1, r4]; exact h3)
    · rw [is_no (lo := 1) (hi := 20) (by decide) (by decide) (by omega), sp_bd_s, if_pos n00]
      rcases e1 with e1 | e1
      · rw [if_pos (show a2 < 1 from e1)]
        exact agr_refuse (k := 1) (by omega) (by omega) h' h3
      · by_cases e3 : a2 < 1
        · rw [if_pos e3]
          exact agr_refuse (k := 1) (by omega) (by omega) h' h3
        · rw [if_neg e3, if_neg (show ¬ a2 ≤ (20 : Int32) from fun h => Int32.lt_irrefl (Int32.lt_of_le_of_lt h (show (20 : Int32) < a2 from e1)))]
          exact agr_refuse (k := 1) (by omega) (by omega) h' h3
  · rw [e1, sp_bx_s, e2, sp_bd_s, if_pos n00]
    exact agr_fail h' rfl
end
