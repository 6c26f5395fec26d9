-- ===== game: the reference, the call =====
section
variable {n j c t : Nat} {σ μ : sp_St} {ct : Nat → Nat → Nat} {cd : List Nat × List Nat} {sc : Nat → Nat} {stk : Nat → List Nat}
theorem rq_losses {h o : Nat} (hM : mSC μ ct cd sc stk) (hn : 1000 ≤ n) (hI : qI ct sc) (hD : qcd cd) (h47 : sc 47 ≤ 999) (h49 : sc 49 < 1000) (hh : h < 6) (ho : o < 6) : sp_wp (X12_tellLosses n μ (nI h) (nI o)) (fun ν => mw μ ν ∧ ∀ w, w < 4 → ν.2.2.1 36 (2 * w) = nI (lsc ct cd (qgs ct sc h o w (ct 0 13)) h) ∧ ν.2.2.1 36 (2 * w + 1) = nI (lsc ct cd (qgs ct sc h o w (ct 0 13)) o)) := by
  have hK := hM.2.2.2.1
  have hb10 := hK.1
  have hs5 := hK.2.1
  have hn1 : 100 ≤ n := by omega
  obtain ⟨ν, b1, b2, b3, b4, b5⟩ := md_start hM hn1 (p := 25) (by omega) (by omega)
  have hw0 : mw μ ν := ⟨fun x _ => by
    unfold rowOf
    rw [b5, b4 14 (by omega), b4 15 (by omega), b4 16 (by omega), b4 17 (by omega), b4 18 (by omega), b4 19 (by omega)], fun p hp => b4 p (by omega), fun k _ => by rw [b5]⟩
  have w6h : sp_in (nI h) 6 = true := qn_in hh (by omega)
  have w6o : sp_in (nI o) 6 = true := qn_in ho (by omega)
  rw [X12_tellLosses, b1, sp_bv_s, sp_pl]
  refine lp_inv (fun f i s => X12_tellLosses_11 n f s (nI h) (nI o) (nI i)) (fun i s => mw μ s ∧ mD 25 μ s ∧ ∀ w, w < i → s.2.2.1 36 (2 * w) = nI (lsc ct cd (qgs ct sc h o w (ct 0 13)) h) ∧ s.2.2.1 36 (2 * w + 1) = nI (lsc ct cd (qgs ct sc h o w (ct 0 13)) o)) 4 _ (fun f s hJ => ?_) (fun f i s hi hJ kk => ?_) n 0 ν (by omega) (by omega) ⟨hw0, b2, fun w hw => by omega⟩
  · rw [X12_tellLosses_11, if_pos (show (4 : Int32) ≤ nI 4 by decide)]
    exact wp_some.mpr ⟨hJ.1, hJ.2.2⟩
  · obtain ⟨g1, g2, g3⟩ := hJ
    have hs := mSC_w hM g1
    obtain ⟨_, _, e5, e6, _, _⟩ := e4 i hi
    rw [X12_tellLosses_11, if_neg (show ¬ (4 : Int32) ≤ nI i from nI_ge (b := 4) hi (by omega)), sp_pl]
    -- who gives
    refine lp_inv (fun f2 b u => X12_tellLosses_19 n (X12_tellLosses_11 n f) f2 u (nI h) (nI o) (nI i) (nI b)) (fun b u => mfd s u ∧ ∃ stk', mSC u ct cd (qgs ct sc h o i b) stk') (ct 0 13) _ (fun f2 u hJ => ?_) (fun f2 b u hb hJ kk2 => ?_) n 0 s (by omega) (by omega) ⟨mfd_refl s, stk, hs⟩
    · obtain ⟨u1, stk', u2⟩ := hJ
      have w3 : sp_g u 3 (2 : Int32) = nI (ct 0 13) := u2.1.2.1
      have hq := qgs_I (h := h) (o := o) (w := i) hK hI (ct 0 13) (Nat.le_refl _)
      rw [X12_tellLosses_19, w3, if_pos (Int32.le_refl _), X12_tellLosses_120, sp_pl]
      refine lp_inv (fun f3 q v => X12_tellLosses_123 n (X12_tellLosses_11 n f) f3 v (nI h) (nI o) (nI i) (nI q)) (fun q v => mfd s v ∧ mSC v ct cd (qgs ct sc h o i (ct 0 13)) stk' ∧ ∀ x, x < q → v.2.2.1 24 x = 0) 6 _ (fun f3 v hJ => ?_) (fun f3 q v hq2 hJ kk3 => ?_) n 0 u (by omega) (by omega) ⟨u1, u2, fun x hx => by omega⟩
      · obtain ⟨v1, v2, v3⟩ := hJ
        rw [X12_tellLosses_123, if_pos (show (6 : Int32) ≤ nI 6 by decide), X12_tellLosses_144]
        refine wp_bv (wp_mono (rq_goOn v2 hn hq.1 hD (by rw [hq.2.1]; omega) (k := 10) (by omega)) ?_)
        rintro y ⟨⟨stk2, y1⟩, y2, y3⟩
        have y3' : ∀ x, x < 6 → y.2.2.1 24 x = nI (qfn ct cd (qgs ct sc h o i (ct 0 13)) x 10) := fun x hx => by
          rw [y3 x hx, v3 x hx]; exact Int32.zero_add _
        have d1 := mD_fd (by omega) g2 (mfd_trans v1 y2)
        have e2i : (2 : Int32) * nI i = nI (2 * i) := pk_mul 2 i
        have e2i1 : (2 : Int32) * nI i + 1 = nI (2 * i + 1) := by rw [e2i]; exact nI_1 _
        have k1 : sp_g y 24 (nI h) = nI (qfn ct cd (qgs ct sc h o i (ct 0 13)) h 10) := by rw [qn_g (by omega)]; exact y3' h hh
        have k2 : ∀ z, sp_g (sp_sa y 36 (2 * i) z) 24 (nI o) = nI (qfn ct cd (qgs ct sc h o i (ct 0 13)) o 10) := fun z => by rw [qn_g (by omega), sp_sa_np (by omega)]; exact y3' o ho
        have y1b : ∀ z, mSC (sp_sa y 36 (2 * i) z) ct cd (qdn ct cd (qgs ct sc h o i (ct 0 13)) 10) stk2 := fun z => mSC_eq y1 (fun p hp => by funext x; rw [sp_sa_np (by omega)]) rfl rfl
        have l1 : (5 : Int32) * nI (qfn ct cd (qgs ct sc h o i (ct 0 13)) h 10) + nI (qc (fun b => decide (¬ qdn ct cd (qgs ct sc h o i (ct 0 13)) 10 (10 + b) = 0 ∧ ¬ qdn ct cd (qgs ct sc h o i (ct 0 13)) 10 (10 + b) = 6) && decide (ct 1 b = h)) (ct 0 13)) = nI (lsc ct cd (qgs ct sc h o i (ct 0 13)) h) := by
          rw [show (5 : Int32) * nI (qfn ct cd (qgs ct sc h o i (ct 0 13)) h 10) = nI (5 * qfn ct cd (qgs ct sc h o i (ct 0 13)) h 10) from pk_mul 5 _, nI_add]
          rfl
        have l2 : (5 : Int32) * nI (qfn ct cd (qgs ct sc h o i (ct 0 13)) o 10) + nI (qc (fun b => decide (¬ qdn ct cd (qgs ct sc h o i (ct 0 13)) 10 (10 + b) = 0 ∧ ¬ qdn ct cd (qgs ct sc h o i (ct 0 13)) 10 (10 + b) = 6) && decide (ct 1 b = o)) (ct 0 13)) = nI (lsc ct cd (qgs ct sc h o i (ct 0 13)) o) := by
          rw [show (5 : Int32) * nI (qfn ct cd (qgs ct sc h o i (ct 0 13)) o 10) = nI (5 * qfn ct cd (qgs ct sc h o i (ct 0 13)) o 10) from pk_mul 5 _, nI_add]
          rfl
        rw [w6h, sp_ckt, rq_insideOf y1 hn1 hh, sp_bd_s, e2i1, e2i, qn_in (by omega) (by omega), sp_ckt, sp_pl, nI_clamp (by omega), k1, l1, w6o, sp_ckt, rq_insideOf (y1b _) hn1 ho, sp_bd_s, qn_in (by omega) (by omega), sp_ckt, sp_pl, k2, l2, nI_clamp (by omega)]
        have hfr : mD 25 μ (sp_sa (sp_sa y 36 (2 * i) (nI (lsc ct cd (qgs ct sc h o i (ct 0 13)) h))) 36 (2 * i + 1) (nI (lsc ct cd (qgs ct sc h o i (ct 0 13)) o))) := ⟨fun x hx => by rw [sp_sa_np (by omega), sp_sa_np (by omega)]; exact d1.1 x hx, fun q hq => by
          have : (sp_sa (sp_sa y 36 (2 * i) (nI (lsc ct cd (qgs ct sc h o i (ct 0 13)) h))) 36 (2 * i + 1) (nI (lsc ct cd (qgs ct sc h o i (ct 0 13)) o))).2.2.1 q = y.2.2.1 q := by funext x; rw [sp_sa_np (by omega), sp_sa_np (by omega)]
          rw [this]; exact d1.2.1 q hq, d1.2.2⟩
        have k36 : ∀ x, x ≠ 2 * i → x ≠ 2 * i + 1 → (sp_sa (sp_sa y 36 (2 * i) (nI (lsc ct cd (qgs ct sc h o i (ct 0 13)) h))) 36 (2 * i + 1) (nI (lsc ct cd (qgs ct sc h o i (ct 0 13)) o))).2.2.1 36 x = s.2.2.1 36 x := fun x h1 h2 => by
          rw [sp_sa_nj h2, sp_sa_nj h1, y2.2.1 36 (by omega), v1.2.1 36 (by omega)]
        have k36a : (sp_sa (sp_sa y 36 (2 * i) (nI (lsc ct cd (qgs ct sc h o i (ct 0 13)) h))) 36 (2 * i + 1) (nI (lsc ct cd (qgs ct sc h o i (ct 0 13)) o))).2.2.1 36 (2 * i) = nI (lsc ct cd (qgs ct sc h o i (ct 0 13)) h) := by rw [sp_sa_nj (by omega), sp_sa_eq]
        have k36b : (sp_sa (sp_sa y 36 (2 * i) (nI (lsc ct cd (qgs ct sc h o i (ct 0 13)) h))) 36 (2 * i + 1) (nI (lsc ct cd (qgs ct sc h o i (ct 0 13)) o))).2.2.1 36 (2 * i + 1) = nI (lsc ct cd (qgs ct sc h o i (ct 0 13)) o) := sp_sa_eq
        generalize sp_sa (sp_sa y 36 (2 * i) (nI (lsc ct cd (qgs ct sc h o i (ct 0 13)) h))) 36 (2 * i + 1) (nI (lsc ct cd (qgs ct sc h o i (ct 0 13)) o)) = y3 at *
        obtain ⟨y4, z1, z2, z3, z4⟩ := md_end hfr hn1 (by omega)
        rw [z1, sp_bv_s, sp_pl, nI_1]
        refine kk y4 ⟨z2, ⟨fun x hx => by rw [z3 25 (by omega)]; exact hfr.1 x hx, fun q hq => by rw [z3 q (by omega)]; exact hfr.2.1 q hq, fun k hk => by rw [z4 k (by omega) (by omega)]; exact hfr.2.2 k hk⟩, fun w hw => ?_⟩
        rw [z3 36 (by omega)]
        by_cases ew : w = i
        · subst ew; exact ⟨k36a, k36b⟩
        · rw [k36 _ (by omega) (by omega), k36 _ (by omega) (by omega)]
          exact g3 w (by omega)
      · obtain ⟨v1, v2, v3⟩ := hJ
        rw [X12_tellLosses_123, if_neg (show ¬ (6 : Int32) ≤ nI q from nI_ge (b := 6) hq2 (by omega)), qn_in (by omega) (by omega), sp_ckt, sp_pl, sp_pl, nI_1, nI_clamp (by omega)]
        refine kk3 _ ⟨mfd_trans v1 (mfd_sa (by omega) (by omega) (by omega)), mSC_eq v2 (fun p hp => by funext x; rw [sp_sa_np (by omega)]) rfl rfl, fun x hx => ?_⟩
        by_cases ex : x = q
        · subst ex; rw [sp_sa_eq]
        · rw [sp_sa_nj ex]; exact v3 x (by omega)
    · obtain ⟨u1, stk', u2⟩ := hJ
      have w3 : sp_g u 3 (2 : Int32) = nI (ct 0 13) := u2.1.2.1
      have hq := qgs_I (h := h) (o := o) (w := i) hK hI b (by omega)
      have hhb := hK.2.2.2.1 b
      have g7 : sp_g u 7 (nI b) = nI (ct 1 b) := by rw [qn_g (by omega)]; exact u2.1.2.2.2.2.2.1 b hb
      have hw := sqs_lt (qgs ct sc h o i b) b
      have g15 : sp_g u 15 (nI b) = nI (sqState (qgs ct sc h o i b) b) := by rw [qn_g (by omega)]; exact u2.2.1.2.2.2.1 b hb
      have w2 : (!decide ((2 : Int32) = 0)) = true := by decide
      have e114 : ∀ x, X12_tellLosses_114 n (X12_tellLosses_11 n f) (X12_tellLosses_19 n (X12_tellLosses_11 n f) f2) x (nI h) (nI o) (nI i) (nI b) = X12_tellLosses_19 n (X12_tellLosses_11 n f) f2 x (nI h) (nI o) (nI i) (nI (b + 1)) := fun x => by rw [X12_tellLosses_114, sp_pl, nI_1]
      -- it doesn't give
      have no : (¬ (gvP ct h o i b = true ∧ qgs ct sc h o i b (10 + b) = 0)) → sp_wp (X12_tellLosses_19 n (X12_tellLosses_11 n f) f2 u (nI h) (nI o) (nI i) (nI (b + 1))) (fun ν => mw μ ν ∧ ∀ w, w < 4 → ν.2.2.1 36 (2 * w) = nI (lsc ct cd (qgs ct sc h o w (ct 0 13)) h) ∧ ν.2.2.1 36 (2 * w + 1) = nI (lsc ct cd (qgs ct sc h o w (ct 0 13)) o)) := fun hx => kk2 u ⟨u1, stk', by rw [qgs, if_neg hx]; exact u2⟩
      have yes : gvP ct h o i b = true → sp_wp (X12_tellLosses_66 n (X12_tellLosses_11 n f) (X12_tellLosses_19 n (X12_tellLosses_11 n f) f2) u (nI h) (nI o) (nI i) (nI b)) (fun ν => mw μ ν ∧ ∀ w, w < 4 → ν.2.2.1 36 (2 * w) = nI (lsc ct cd (qgs ct sc h o w (ct 0 13)) h) ∧ ν.2.2.1 36 (2 * w + 1) = nI (lsc ct cd (qgs ct sc h o w (ct 0 13)) o)) := by
        intro hg
        rw [X12_tellLosses_66, X12_tellLosses_71, if_neg (by decide), qn_in (by omega) (by omega), sp_ckt, g15]
        by_cases p : qgs ct sc h o i b (10 + b) = 0
        · rw [sqs0.mpr p, if_pos n00, rq_firstRoom u2 hn1 hq.1 hb, sp_bd_s, X12_tellLosses_98]
          cases e : qroom ct (qgs ct sc h o i b) b with
          | none =>
            rw [if_pos (show qe none = -1 from rfl), e114]
            refine kk2 u ⟨u1, stk', ?_⟩
            rw [qgs, if_pos ⟨hg, p⟩, qputL, e]
            exact u2
          | some r =>
            obtain ⟨_, x2, x3, _⟩ := qf_some e
            rw [if_neg (show ¬ qe (some r) = -1 from fun hh => by
              have h5 : (nI r = -nI 1) = False := qn_meq (by omega)
              rw [← h5]; exact hh), qe]
            refine wp_bv (wp_mono (rq_putIn (n := n) u2 hb (by omega) p hq.1.2.2.1 (by omega)) ?_)
            rintro v ⟨v1, v2⟩
            rw [e114]
            refine kk2 v ⟨mfd_trans u1 (mfl_fd v2), fun x => if x = r then stk' r ++ [b] else stk' x, ?_⟩
            rw [qgs, if_pos ⟨hg, p⟩, qputL, e]
            exact v1
        · have p' : ¬ sqState (qgs ct sc h o i b) b = 0 := fun x => p (sqs0.mp x)
          rw [if_neg (show ¬ nI (sqState (qgs ct sc h o i b) b) = 0 from by show ¬ nI (sqState (qgs ct sc h o i b) b) = nI 0; rw [qn_eq (by omega) (by omega)]; exact p'), X12_tellLosses_97, X12_tellLosses_98, if_pos rfl, e114]
          exact no (fun x => p x.2)
      have no70 : gvP ct h o i b = false → sp_wp (X12_tellLosses_70 n (X12_tellLosses_11 n f) (X12_tellLosses_19 n (X12_tellLosses_11 n f) f2) u (nI h) (nI o) (nI i) (nI b)) (fun ν => mw μ ν ∧ ∀ w, w < 4 → ν.2.2.1 36 (2 * w) = nI (lsc ct cd (qgs ct sc h o w (ct 0 13)) h) ∧ ν.2.2.1 36 (2 * w + 1) = nI (lsc ct cd (qgs ct sc h o w (ct 0 13)) o)) := by
        intro hg
        rw [X12_tellLosses_70, X12_tellLosses_71, if_pos rfl, X12_tellLosses_97, X12_tellLosses_98, if_pos rfl, e114]
        exact no (fun x => by rw [hg] at x; exact absurd x.1 (by decide))
      have two : (¬ (ct 1 b = h ∧ i / 2 = 1)) → sp_wp (X12_tellLosses_48 n (X12_tellLosses_11 n f) (X12_tellLosses_19 n (X12_tellLosses_11 n f) f2) u (nI h) (nI o) (nI i) (nI b)) (fun ν => mw μ ν ∧ ∀ w, w < 4 → ν.2.2.1 36 (2 * w) = nI (lsc ct cd (qgs ct sc h o w (ct 0 13)) h) ∧ ν.2.2.1 36 (2 * w + 1) = nI (lsc ct cd (qgs ct sc h o w (ct 0 13)) o)) := by
        intro h1
        rw [X12_tellLosses_48, qn_in (by omega) (by omega), sp_ckt, g7]
        by_cases q1 : ct 1 b = o
        · rw [if_pos (by rw [q1]), w2, sp_ckt]
          by_cases q2 : i % 2 = 1
          · rw [if_pos (e6.mpr q2)]
            exact yes (by simp [gvP, q1, q2])
          · rw [if_neg (fun x => q2 (e6.mp x))]
            refine no70 ?_
            unfold gvP
            by_cases r1 : ct 1 b = h
            · have r2 : ¬ i / 2 = 1 := fun x => h1 ⟨r1, x⟩
              simp [r2, q2]
            · simp [r1, q2]
        · rw [if_neg (show ¬ nI (ct 1 b) = nI o by rw [qn_eq (by omega) (by omega)]; exact q1)]
          refine no70 ?_
          unfold gvP
          by_cases r1 : ct 1 b = h
          · have r2 : ¬ i / 2 = 1 := fun x => h1 ⟨r1, x⟩
            simp [r2, q1]
          · simp [r1, q1]
      rw [X12_tellLosses_19, w3, if_neg (nI_ge hb (by omega)), qn_in (by omega) (by omega), sp_ckt, g7]
      by_cases q1 : ct 1 b = h
      · rw [if_pos (by rw [q1]), w2, sp_ckt]
        by_cases q2 : i / 2 = 1
        · rw [if_pos (e5.mpr q2)]
          exact yes (by simp [gvP, q1, q2])
        · rw [if_neg (fun x => q2 (e5.mp x))]
          exact two (fun x => q2 x.2)
      · rw [if_neg (show ¬ nI (ct 1 b) = nI h by rw [qn_eq (by omega) (by omega)]; exact q1)]
        exact two (fun x => q1 x.1)
theorem rq_game68 {l1 l2 : Nat → Nat} (hn : 100 ≤ n) (c1 : ∀ w, l1 w < 100000) (c2 : ∀ w, l2 w < 100000) (hr : ∀ w, w < 4 → μ.2.2.1 36 (2 * w) = nI (l1 w) ∧ μ.2.2.1 36 (2 * w + 1) = nI (l2 w)) (z : Int32) : X12_game_68 n n μ z 0 (-1) 0 = some (μ, if z = 0 then nI (gmr l1 l2 4).1 else qe (gmr l1 l2 4).2) := by
  refine lp_up (fun f i => X12_game_68 n f μ z (nI (gmr l1 l2 i).1) (qe (gmr l1 l2 i).2) (nI i)) 4 _ (fun f => ?_) (fun f i hi => ?_) n 0 (by omega) (by omega)
  · rw [X12_game_68, if_pos (show (4 : Int32) ≤ nI 4 by decide), X12_game_161, sp_pl]
  · obtain ⟨x1, x2⟩ := x4 i hi
    have e2 : nI i ^^^ 2 = nI (i ^^^ 2) := qn_xor i 2
    have e1 : nI i ^^^ 1 = nI (i ^^^ 1) := qn_xor i 1
    have m2 : ∀ x : Nat, (2 : Int32) * nI x = nI (2 * x) := fun x => pk_mul 2 x
    have g1 : ∀ w, w < 4 → sp_g μ 36 (nI (2 * w)) = nI (l1 w) := fun w hw => by rw [qn_g (by omega)]; exact (hr w hw).1
    have g2 : ∀ w, w < 4 → sp_g μ 36 (nI (2 * w + 1)) = nI (l2 w) := fun w hw => by rw [qn_g (by omega)]; exact (hr w hw).2
    have w2 : (!decide ((2 : Int32) = 0)) = true := by decide
    have h1 := c1 i
    have h2 := c1 (i ^^^ 2)
    have h3 := c2 i
    have h4 := c2 (i ^^^ 1)
    rw [X12_game_68, if_neg (show ¬ (4 : Int32) ≤ nI i from nI_ge (b := 4) hi (by omega)), e2, e1, m2, m2, m2, nI_1, nI_1, qn_in (by omega) (by omega), sp_ckt, qn_in (by omega) (by omega), sp_ckt, qn_in (by omega) (by omega), sp_ckt, qn_in (by omega) (by omega), sp_ckt, g1 _ x1, g1 _ hi, g2 _ x2, g2 _ hi]
    by_cases p1 : l1 (i ^^^ 2) < l1 i
    · rw [if_pos ((nI_ltI (by omega) (by omega)).mpr p1), X12_game_155, sp_pl, nI_1, gmr, if_pos (Or.inl p1)]
    · rw [if_neg (fun hh => p1 ((nI_ltI (by omega) (by omega)).mp hh))]
      by_cases p2 : l2 (i ^^^ 1) < l2 i
      · rw [if_neg (nI_ge p2 (by omega)), X12_game_155, sp_pl, nI_1, gmr, if_pos (Or.inr p2)]
      · have eg : gmr l1 l2 (i + 1) = ((gmr l1 l2 i).1 + 1, some ((gmr l1 l2 i).2.getD (10 * (i / 2) + i % 2))) := by rw [gmr, if_neg (by omega)]
        rw [if_pos ((nI_leI (by omega) (by omega)).mpr (by omega)), sp_pl, nI_1, eg]
        cases e : (gmr l1 l2 i).2 with
        | none =>
          rw [if_pos (show qe none = -1 from rfl), w2, sp_ckt, sp_ckt, X12_game_153, X12_game_155, sp_pl, nI_1, (e4 i hi).2.1]
          rfl
        | some x =>
          have hx := (gmr_le (l1 := l1) (l2 := l2) i).2 x e
          rw [if_neg (show ¬ qe (some x) = -1 from fun hh => by
            have h5 : (nI x = -nI 1) = False := qn_meq (by omega)
            rw [← h5]; exact hh), X12_game_153, X12_game_155, sp_pl, nI_1]
          rfl
theorem op_game (hn : 5000 ≤ n) (hj : j < 512) (h : Inv j σ μ) (a1 a2 a3 : Int32) : agr j kd3 (X11_game n σ a1 a2 a3) (X12_game n μ a1 a2 a3) := by
  obtain ⟨c, ct, cd, sc, stk, hI, h3, hS, hM, hG, hD, hc⟩ := Inv_now h
  have hn1 : 100 ≤ n := by omega
  have hb10 := hS.2.2.2.2.2.1.1
  have h49 := hG.2.2.2.2
  rw [X12_game, sp_pl, X11_game]
  generalize sp_si μ 0 3 0 = μ1 at *
  have hf : ∀ x, x = some (σ, Sum.inr 1) → agr j kd3 x (X12_game_28 n μ1) := fun x hx => agr_thr (υ := sp_si μ1 0 3 1) (w := 0) hx rfl (Inv_code hI) sp_si_eq rfl (by decide)
  rcases h_cases (n := n) (σ := σ) (μ := μ1) a1 with ⟨a, ha, rfl⟩ | ⟨e1, e2⟩
  · rw [nh_ok ha, sp_bx_n, ih_ok ha, sp_bd_s, if_neg n10]
    rcases h_cases (n := n) (σ := σ) (μ := μ1) a2 with ⟨o, ho, rfl⟩ | ⟨e1, e2⟩
    · rw [nh_ok ho, sp_bx_n, ih_ok ho, sp_bd_s, if_neg n10]
      rcases wh_cases (n := n) (σ := σ) a3 (m := 1) (by omega) with ⟨w, hw, rfl⟩ | ⟨e1, e2, _⟩
      · have h1 : sp_g μ1 19 (nI a) = nI (sc (35 + a)) := by rw [qn_g (by omega)]; exact hM.2.1.2.2.2.2.2.2.2 a ha
        have h2 := hG.1.2.2.2.2.2.1 a ha
        rw [show X11_needWhat n σ (nI w) 1 = some (σ, none) from wh_ok (m := 1) hw (by omega), sp_bx_n, if_neg (nI_pos (show w < 2 ^ 31 by omega)), if_pos (show nI w ≤ (1 : Int32) from (nI_leI (a := w) (b := 1) (by omega) (by omega)).mpr hw), sq_between hS ha ho, sp_bd_s, qn_in (by omega) (by omega), sp_ckt, h1, rq_isOf (by omega) (by omega), sp_bd_s]
        cases e : (sc (35 + a)).testBit o with
        | false =>
          rw [show (if false = true then nI 1 else nI 0) = nI 0 from rfl, if_pos n00, if_pos n00, rq_failI, sp_bd_s]
          exact agr_thr rfl rfl (Inv_code hI) sp_si_eq rfl (by decide)
        | true =>
          obtain ⟨τ, b1, b2, b3, b4⟩ := sq_play hS (by omega : 1000 ≤ n) hG.1 hD hG.2.2.2.1 (by omega) ha ho
          obtain ⟨ν, d1, d2, d3⟩ := rq_losses hM (by omega : 1000 ≤ n) hG.1 hD hG.2.2.2.1 (by omega) ha ho
          have d4 := rq_game68 (n := n) (μ := ν) (l1 := fun w => lsc ct cd (qgs ct sc a o w (ct 0 13)) a) (l2 := fun w => lsc ct cd (qgs ct sc a o w (ct 0 13)) o) hn1 (fun w => lsc_lt hb10) (fun w => lsc_lt hb10) d3 (nI w)
          rw [show (if true = true then nI 1 else nI 0) = nI 1 from rfl, if_neg n10, if_neg n10, b1, sp_bv_s, d1, sp_bv_s, sp_pl, sp_pl, sp_pl, d4, b3, b4]
          by_cases w0 : nI w = 0
          · rw [if_pos w0, if_pos w0]
            exact agr_ret rfl rfl (Inv_w hI (cD_q b2) d2) (by rw [d2.2.2 3 (by omega)]; exact h3)
          · rw [if_neg w0, if_neg w0]
            exact agr_ret rfl rfl (Inv_w hI (cD_q b2) d2) (by rw [d2.2.2 3 (by omega)]; exact h3)
      · rw [show X11_needWhat n σ a3 1 = some (σ, some 1) from e1, sp_bx_s]
        rcases e2 with e2 | ⟨e2, e3⟩
        · rw [if_pos e2]; exact hf _ rfl
        · rw [if_neg e2, if_neg (show ¬ a3 ≤ 1 from e3)]; exact hf _ rfl
    · rw [e1, sp_bx_s, e2, sp_bd_s, if_pos n00]
      exact hf _ rfl
  · rw [e1, sp_bx_s, e2, sp_bd_s, if_pos n00]
    exact hf _ rfl
end
