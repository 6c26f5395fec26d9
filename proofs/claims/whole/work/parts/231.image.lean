-- ===== image, restore =====
section
variable {n j : Nat} {σ μ : sp_St}
theorem op_image (hn : 5000 ≤ n) (h : Inv j σ μ) : agv (j + 1) (X11_image n σ) (X12_image n μ) := by
  obtain ⟨c, d, ct, cd, h1, h2, h3, h4, h5, h6, h7, h8, h9, h10⟩ := h
  have hS : ∃ sc, qSC σ 23 c ct cd sc := by obtain ⟨sc, stk, m, nr, hs, ht', s, sb, sd, sa, f1, f⟩ := h6; exact ⟨sc, f1⟩
  obtain ⟨sc, hS⟩ := hS
  obtain ⟨τ, a1, a2, a3, a4, a5, a6, a7, a8, a9, a10⟩ := sq_chcopy (n := n) (σ := σ) (t := 36) (u := 22) (by omega) (by rw [hS.2.1]; exact hS.2.2.1) (by omega)
  obtain ⟨μ1, e1⟩ : ∃ x, x = sp_si (sp_si (sp_si (sp_si μ 0 3 0) 0 55 1) 0 56 (μ.1 0 35)) 0 57 (μ.1 0 36) := ⟨_, rfl⟩
  have m1 : ∀ k, k ≠ 3 → k ≠ 55 → k ≠ 56 → k ≠ 57 → μ1.1 0 k = μ.1 0 k := fun k q1 q2 q3 q4 => by rw [e1, sp_si_ne q4, sp_si_ne q3, sp_si_ne q2, sp_si_ne q1]
  have m55 : μ1.1 0 55 = 1 := by rw [e1, sp_si_ne (by decide), sp_si_ne (by decide), sp_si_eq]
  have m56 : μ1.1 0 56 = μ.1 0 35 := by rw [e1, sp_si_ne (by decide), sp_si_eq]
  have m57 : μ1.1 0 57 = μ.1 0 36 := by rw [e1, sp_si_eq]
  have m2 : μ1.2 = μ.2 := by rw [e1]; rfl
  have er1 : ∀ x, rowOf μ1 x = rowOf μ x := fun x => by
    unfold rowOf
    rw [m1 33 (by omega) (by omega) (by omega) (by omega), m1 34 (by omega) (by omega) (by omega) (by omega), m2]
  obtain ⟨μ2, e2⟩ : ∃ x, x = pkd μ1 37 0 (fun j => decide (j < 88)) := ⟨_, rfl⟩
  have p2 : ∀ q, q ≠ 37 → μ2.2.2.1 q = μ.2.2.1 q := fun q hq => by
    rw [e2]; funext i; rw [pkd_g hq, m2]
  have p2r : ∀ x, x < 88 → μ2.2.2.1 37 x = rowOf μ x := fun x hx => by
    rw [e2, ← er1]
    show (if 37 = 37 ∧ 0 ≤ x ∧ decide (x - 0 < 88) = true then rowOf μ1 (x - 0) else μ1.2.2.1 37 x) = _
    rw [if_pos ⟨rfl, by omega, by rw [decide_eq_true_iff]; omega⟩, Nat.sub_zero]
  have p21 : μ2.1 = μ1.1 := by rw [e2]; rfl
  obtain ⟨μ3, b1, b2, _, b4, b5⟩ := rq_copyTo (n := n) (μ := μ2) (p := 38) (q := 20) (k := 3520) hn (by omega) (by omega)
  obtain ⟨μ4, c1, c2, _, c4, c5⟩ := rq_copyTo (n := n) (μ := μ3) (p := 39) (q := 29) (k := 8) hn (by omega) (by omega)
  obtain ⟨μ5, d1, d2, _, d4, d5⟩ := rq_copyTo (n := n) (μ := μ4) (p := 40) (q := 30) (k := 8) hn (by omega) (by omega)
  obtain ⟨μ6, g1, g2, _, g4, g5⟩ := rq_copyTo (n := n) (μ := μ5) (p := 41) (q := 31) (k := 8) hn (by omega) (by omega)
  obtain ⟨μ7, i1, i2, _, i4, i5⟩ := rq_copyTo (n := n) (μ := μ6) (p := 42) (q := 12) (k := 3) hn (by omega) (by omega)
  have q1 : μ7.1 = μ1.1 := by rw [i2, g2, d2, c2, b2, p21]
  have q2 : ∀ r, r < 37 ∨ 42 < r → μ7.2.2.1 r = μ.2.2.1 r := fun r hr => by
    rw [i4 r (by omega), g4 r (by omega), d4 r (by omega), c4 r (by omega), b4 r (by omega), p2 r (by omega)]
  have q37 : ∀ x, x < 88 → μ7.2.2.1 37 x = rowOf μ x := fun x hx => by
    rw [i4 37 (by omega), g4 37 (by omega), d4 37 (by omega), c4 37 (by omega), b4 37 (by omega)]; exact p2r x hx
  have q38 : ∀ x, x < 3520 → μ7.2.2.1 38 x = μ.2.2.1 20 x := fun x hx => by
    rw [i4 38 (by omega), g4 38 (by omega), d4 38 (by omega), c4 38 (by omega), b5 x hx, p2 20 (by omega)]
  have q39 : ∀ x, x < 8 → μ7.2.2.1 39 x = μ.2.2.1 29 x := fun x hx => by
    rw [i4 39 (by omega), g4 39 (by omega), d4 39 (by omega), c5 x hx, b4 29 (by omega), p2 29 (by omega)]
  have q40 : ∀ x, x < 8 → μ7.2.2.1 40 x = μ.2.2.1 30 x := fun x hx => by
    rw [i4 40 (by omega), g4 40 (by omega), d5 x hx, c4 30 (by omega), b4 30 (by omega), p2 30 (by omega)]
  have q41 : ∀ x, x < 8 → μ7.2.2.1 41 x = μ.2.2.1 31 x := fun x hx => by
    rw [i4 41 (by omega), g5 x hx, d4 31 (by omega), c4 31 (by omega), b4 31 (by omega), p2 31 (by omega)]
  have q42 : ∀ x, x < 3 → μ7.2.2.1 42 x = μ.2.2.1 12 x := fun x hx => by
    rw [i5 x hx, g4 12 (by omega), d4 12 (by omega), c4 12 (by omega), b4 12 (by omega), p2 12 (by omega)]
  have er : rowOf μ7 = rowOf μ := by
    funext x
    rw [← er1]
    unfold rowOf
    rw [q1, q2 14 (by omega), q2 15 (by omega), q2 16 (by omega), q2 17 (by omega), q2 18 (by omega), q2 19 (by omega), m2]
  refine ⟨sp_si τ 0 8 1, μ7, ?_, ?_, Inv_mono (Nat.le_succ j) ?_⟩
  · rw [X11_image, a1, sp_bv_s, sp_pl]
  · rw [X12_image, sp_pl, sp_pl, sp_pl, sp_pl]
    have e1' : sp_si (sp_si (sp_si (sp_si μ 0 3 0) 0 55 1) 0 56 ((sp_si (sp_si μ 0 3 0) 0 55 1).1 0 35)) 0 57 ((sp_si (sp_si (sp_si μ 0 3 0) 0 55 1) 0 56 ((sp_si (sp_si μ 0 3 0) 0 55 1).1 0 35)).1 0 36) = μ1 := by
      rw [sp_si_ne (by decide), sp_si_ne (by decide), sp_si_ne (by decide), sp_si_ne (by decide), sp_si_ne (by decide), e1]
    rw [e1', show (0 : Int32) = nI 0 from rfl, rq_pack (by omega) (by omega) (by omega) (by omega), sp_bv_s, ← e2, b1, sp_bv_s, c1, sp_bv_s, d1, sp_bv_s, g1, sp_bv_s, i1, sp_bv_s]
  · have t0 : ∀ p, p < 36 → (sp_si τ 0 8 1).2.1 p = σ.2.1 p ∧ (sp_si τ 0 8 1).2.2.1 p = σ.2.2.1 p := fun p hp => ⟨(a2 p (by omega)).2.1, (a2 p (by omega)).2.2⟩
    have t1 : ∀ p, p < 36 → p ≠ 0 → (sp_si τ 0 8 1).1 p = σ.1 p := fun p hp h0 => by rw [sp_si_pq h0]; exact (a2 p (by omega)).1
    have t2 : ∀ k, k ≠ 8 → (sp_si τ 0 8 1).1 0 k = σ.1 0 k := fun k hk => by rw [sp_si_ne hk, (a2 0 (by omega)).1]
    refine ⟨c, d, ct, cd, h1, by rw [(t0 0 (by omega)).1]; exact h2, by rw [(t0 0 (by omega)).1]; exact h3, h4, ?_, ?_, ?_, ?_, ?_, ?_⟩
    · unfold mC at *
      rw [q2 3 (by omega), q2 7 (by omega), q2 8 (by omega), q2 6 (by omega), q2 10 (by omega), q2 11 (by omega)]
      exact h5
    · rw [er, q2 20 (by omega), q2 29 (by omega), q2 30 (by omega), q2 31 (by omega), q2 12 (by omega), q1, m1 35 (by omega) (by omega) (by omega) (by omega), m1 36 (by omega) (by omega) (by omega) (by omega)]
      refine Chr_cp (t := 22) (u := 22) h6 (by omega) (fun p hp2 hp => ⟨t1 p (by omega) (by omega), (t0 p (by omega)).2⟩) (by rw [(t0 _ (by omega)).1]) (fun k _ => by rw [(t0 _ (by omega)).2]) (by rw [t1 _ (by omega) (by omega)]) (fun i _ => ⟨by rw [(t0 _ (by omega)).2], by rw [(t0 _ (by omega)).2], by rw [(t0 _ (by omega)).2]⟩) (fun i _ => by rw [(t0 _ (by omega)).2]) (fun i _ => by rw [(t0 _ (by omega)).2]) (by rw [t1 _ (by omega) (by omega)]) (by rw [t1 _ (by omega) (by omega)]) (fun _ _ => rfl) (fun _ _ => rfl) (fun _ _ => ⟨rfl, rfl, rfl⟩) (fun _ _ => rfl)
    · rw [sp_si_eq, q1, m55]
    · rw [q1, m55, m56, m57]
      refine Or.inr ⟨rfl, Chr_cp (t := 36) (u := 22) h6 (by omega) (fun p hp2 hp => ⟨t1 p (by omega) (by omega), (t0 p (by omega)).2⟩) a3 a4 (by rw [sp_si_pq (by omega)]; exact a5) a6 a7 a8 (by rw [sp_si_pq (by omega)]; exact a9) (by rw [sp_si_pq (by omega)]; exact a10) q37 q38 (fun i hi => ⟨q39 i hi, q40 i hi, q41 i hi⟩) q42⟩
    · unfold cTp at *
      rw [t2 1 (by omega), (t0 1 (by omega)).2, show (sp_si τ 0 8 1).2.2.1 67 = σ.2.2.1 67 from (a2 67 (by omega)).2.2, q1, m1 15 (by omega) (by omega) (by omega) (by omega), q2 13 (by omega)]
      exact h9
    · rw [t2 2 (by omega), q1, m1 24 (by omega) (by omega) (by omega) (by omega)]; exact h10
theorem op_restore (hn : 5000 ≤ n) (h : Inv j σ μ) : agi (j + 1) (X11_restore n σ) (X12_restore n μ) := by
  have h' := Inv_code (v := 0) h
  rw [X12_restore, sp_pl, X11_restore]
  generalize sp_si μ 0 3 0 = μ1 at *
  have h'' := h'
  obtain ⟨c, d, ct, cd, h1, h2, h3, h4, h5, h6, h7, h8, h9, h10⟩ := h'
  rcases h8 with h8 | ⟨h8, h8'⟩
  · rw [h7, h8, if_pos rfl, if_pos rfl]
    refine ⟨σ, μ1, 0, ?_, rfl, Inv_mono (Nat.le_succ j) h''⟩
    rw [X11_restore_18, h7, h8]
    rfl
  · rw [h7, h8, if_neg (by decide), if_neg (by decide)]
    have hS : ∃ sc, qSC σ 37 c ct cd sc := by obtain ⟨sc, stk, m, nr, hs, ht', s, sb, sd, sa, f1, f⟩ := h8'; exact ⟨sc, f1⟩
    obtain ⟨sc, hS⟩ := hS
    obtain ⟨τ, a1, a2, a3, a4, a5, a6, a7, a8, a9, a10⟩ := sq_chcopy (n := n) (σ := σ) (t := 22) (u := 36) (by omega) (by rw [hS.2.1]; exact hS.2.2.1) (by omega)
    obtain ⟨μ2, e2⟩ : ∃ x, x = sp_si (sp_si μ1 0 35 (μ1.1 0 56)) 0 36 (μ1.1 0 57) := ⟨_, rfl⟩
    have m2 : μ2.2 = μ1.2 := by rw [e2]; rfl
    obtain ⟨μ3, u1, u2, u3, u4, u5⟩ := rq_unpack (n := n) (μ := μ2) (p := 37) (m := 88) (a := 0) (by omega) (by omega) (by omega) (by omega)
    obtain ⟨μ4, b1, b2, _, b4, b5⟩ := rq_copyTo (n := n) (μ := μ3) (p := 20) (q := 38) (k := 3520) hn (by omega) (by omega)
    obtain ⟨μ5, c1, c2, _, c4, c5⟩ := rq_copyTo (n := n) (μ := μ4) (p := 29) (q := 39) (k := 8) hn (by omega) (by omega)
    obtain ⟨μ6, d1, d2, _, d4, d5⟩ := rq_copyTo (n := n) (μ := μ5) (p := 30) (q := 40) (k := 8) hn (by omega) (by omega)
    obtain ⟨μ7, g1, g2, _, g4, g5⟩ := rq_copyTo (n := n) (μ := μ6) (p := 31) (q := 41) (k := 8) hn (by omega) (by omega)
    obtain ⟨μ8, i1, i2, _, i4, i5⟩ := rq_copyTo (n := n) (μ := μ7) (p := 12) (q := 42) (k := 3) hn (by omega) (by omega)
    have q1 : μ8.1 = μ3.1 := by rw [i2, g2, d2, c2, b2]
    have k35 : μ8.1 0 35 = μ1.1 0 56 := by rw [q1, u4 35 (by omega) (by omega), e2, sp_si_ne (by decide), sp_si_eq]
    have k36 : μ8.1 0 36 = μ1.1 0 57 := by rw [q1, u4 36 (by omega) (by omega), e2, sp_si_eq]
    have kk : ∀ k, k ≠ 33 → k ≠ 34 → k ≠ 35 → k ≠ 36 → μ8.1 0 k = μ1.1 0 k := fun k x1 x2 x3 x4 => by rw [q1, u4 k x1 x2, e2, sp_si_ne x4, sp_si_ne x3]
    have q2 : ∀ r, r < 12 ∨ r = 13 ∨ 32 ≤ r → μ8.2.2.1 r = μ1.2.2.1 r := fun r hr => by
      rw [i4 r (by omega), g4 r (by omega), d4 r (by omega), c4 r (by omega), b4 r (by omega), u3 r (by omega), m2]
    have q14 : ∀ r, 14 ≤ r → r ≤ 19 → μ8.2.2.1 r = μ3.2.2.1 r := fun r x1 x2 => by
      rw [i4 r (by omega), g4 r (by omega), d4 r (by omega), c4 r (by omega), b4 r (by omega)]
    have er : ∀ x, x < 88 → rowOf μ8 x = μ1.2.2.1 37 x := fun x hx => by
      have : rowOf μ8 x = rowOf μ3 x := by
        unfold rowOf
        rw [q1, q14 14 (by omega) (by omega), q14 15 (by omega) (by omega), q14 16 (by omega) (by omega), q14 17 (by omega) (by omega), q14 18 (by omega) (by omega), q14 19 (by omega) (by omega)]
      rw [this, u5 x hx, m2, Nat.zero_add]
    have q20 : ∀ x, x < 3520 → μ8.2.2.1 20 x = μ1.2.2.1 38 x := fun x hx => by
      rw [i4 20 (by omega), g4 20 (by omega), d4 20 (by omega), c4 20 (by omega), b5 x hx, u3 38 (by omega), m2]
    have q29 : ∀ x, x < 8 → μ8.2.2.1 29 x = μ1.2.2.1 39 x := fun x hx => by
      rw [i4 29 (by omega), g4 29 (by omega), d4 29 (by omega), c5 x hx, b4 39 (by omega), u3 39 (by omega), m2]
    have q30 : ∀ x, x < 8 → μ8.2.2.1 30 x = μ1.2.2.1 40 x := fun x hx => by
      rw [i4 30 (by omega), g4 30 (by omega), d5 x hx, c4 40 (by omega), b4 40 (by omega), u3 40 (by omega), m2]
    have q31 : ∀ x, x < 8 → μ8.2.2.1 31 x = μ1.2.2.1 41 x := fun x hx => by
      rw [i4 31 (by omega), g5 x hx, d4 41 (by omega), c4 41 (by omega), b4 41 (by omega), u3 41 (by omega), m2]
    have q12 : ∀ x, x < 3 → μ8.2.2.1 12 x = μ1.2.2.1 42 x := fun x hx => by
      rw [i5 x hx, g4 42 (by omega), d4 42 (by omega), c4 42 (by omega), b4 42 (by omega), u3 42 (by omega), m2]
    have t0 : ∀ p, p < 22 ∨ 35 < p → τ.1 p = σ.1 p ∧ τ.2.1 p = σ.2.1 p ∧ τ.2.2.1 p = σ.2.2.1 p := fun p hp => a2 p (by omega)
    refine ⟨τ, μ8, 1, ?_, ?_, Inv_mono (Nat.le_succ j) ?_⟩
    · rw [a1, sp_bv_s, X11_restore_18, (t0 0 (by omega)).1, h7, h8]
      rfl
    · have e2' : sp_si (sp_si μ1 0 35 (μ1.1 0 56)) 0 36 ((sp_si μ1 0 35 (μ1.1 0 56)).1 0 57) = μ2 := by rw [sp_si_ne (by decide), e2]
      rw [sp_pl, sp_pl, e2', show (0 : Int32) = nI 0 from rfl, u1, sp_bv_s, b1, sp_bv_s, c1, sp_bv_s, d1, sp_bv_s, g1, sp_bv_s, i1, sp_bv_s]
    · refine ⟨c, d, ct, cd, h1, by rw [(t0 0 (by omega)).2.1]; exact h2, by rw [(t0 0 (by omega)).2.1]; exact h3, h4, ?_, ?_, ?_, ?_, ?_, ?_⟩
      · unfold mC at *
        rw [q2 3 (by omega), q2 7 (by omega), q2 8 (by omega), q2 6 (by omega), q2 10 (by omega), q2 11 (by omega)]
        exact h5
      · rw [k35, k36]
        exact Chr_cp (t := 22) (u := 36) h8' (by omega) (fun p hp2 hp => ⟨(t0 p (by omega)).1, (t0 p (by omega)).2.2⟩) a3 a4 a5 a6 a7 a8 a9 a10 er q20 (fun i hi => ⟨q29 i hi, q30 i hi, q31 i hi⟩) q12
      · rw [(t0 0 (by omega)).1, kk 55 (by omega) (by omega) (by omega) (by omega)]; exact h7
      · rw [kk 55 (by omega) (by omega) (by omega) (by omega), kk 56 (by omega) (by omega) (by omega) (by omega), kk 57 (by omega) (by omega) (by omega) (by omega), q2 37 (by omega), q2 38 (by omega), q2 39 (by omega), q2 40 (by omega), q2 41 (by omega), q2 42 (by omega)]
        refine Or.inr ⟨h8, Chr_cp (t := 36) (u := 36) h8' (by omega) (fun p hp2 hp => ⟨(t0 p (by omega)).1, (t0 p (by omega)).2.2⟩) (by rw [(t0 _ (by omega)).2.1]) (fun k _ => by rw [(t0 _ (by omega)).2.2]) (by rw [(t0 _ (by omega)).1]) (fun i _ => ⟨by rw [(t0 _ (by omega)).2.2], by rw [(t0 _ (by omega)).2.2], by rw [(t0 _ (by omega)).2.2]⟩) (fun i _ => by rw [(t0 _ (by omega)).2.2]) (fun i _ => by rw [(t0 _ (by omega)).2.2]) (by rw [(t0 _ (by omega)).1]) (by rw [(t0 _ (by omega)).1]) (fun _ _ => rfl) (fun _ _ => rfl) (fun _ _ => ⟨rfl, rfl, rfl⟩) (fun _ _ => rfl)⟩
      · unfold cTp at *
        rw [(t0 0 (by omega)).1, (t0 1 (by omega)).2.2, (t0 67 (by omega)).2.2, kk 15 (by omega) (by omega) (by omega) (by omega), q2 13 (by omega)]
        exact h9
      · rw [(t0 0 (by omega)).1, kk 24 (by omega) (by omega) (by omega) (by omega)]; exact h10
end
