-- ===== undo, forget, see =====
section
variable {n j c d m nr : Nat} {σ μ : sp_St} {ct : Nat → Nat → Nat} {cd : List Nat × List Nat} {sc : Nat → Nat} {stk : Nat → List Nat} {hs : Nat → Nat → Nat} {ht : Nat → Nat → List Nat}
theorem sq_takeBack {t : Nat} (hnr : nr < 40) (hm : m ≤ 40) (h0 : 0 < m) (e4 : σ.1 t 4 = nI nr) (e5 : σ.1 t 5 = nI m) : ∃ τ, X1_takeActBack n σ t = some τ ∧ τ.2.1 = σ.2.1 ∧ (∀ p, p ≠ t → τ.1 p = σ.1 p) ∧ (∀ p, p ≠ t + 1 + 1 → τ.2.2.1 p = σ.2.2.1 p) ∧ τ.1 t 4 = nI ((nr + 39) % 40) ∧ τ.1 t 5 = nI (m - 1) ∧ ∀ k, k < 50 → τ.2.2.1 (t + 1 + 1) k = σ.2.2.1 (t + 13) (50 * ((nr + 39) % 40) + k) := by
  have c1 : ¬ nI m ≤ 0 := by
    show ¬ nI m ≤ nI 0
    rw [qn_le (by omega) (by omega)]
    omega
  have w3 : (!decide ((40 : Int32) = 0)) = true := by decide
  have w0 : nI nr + 40 - 1 = nI (nr + 39) := by
    show nI nr + nI 40 - nI 1 = _
    rw [nI_add, pk_sub (by omega)]
    rfl
  have w4 : nI (nr + 39) - nI (nr + 39) / 40 * 40 = nI ((nr + 39) % 40) := pk_rem (d := 40) (by omega) (by omega) (by omega)
  have hmod : (nr + 39) % 40 < 40 := Nat.mod_lt _ (by omega)
  generalize (nr + 39) % 40 = q at *
  have w1 : nI q * 50 = nI (50 * q) := by show nI q * nI 50 = _; rw [pk_mul, Nat.mul_comm]
  have a1 : (nI (50 * q)).toNatClampNeg = 50 * q := nI_clamp (by omega)
  have w2 : sp_cpok (nI (50 * q)) 0 50 2000 50 = true := by
    have a2 : (0 : Int32).toNatClampNeg = 0 := by decide
    have a3 : (50 : Int32).toNatClampNeg = 50 := by decide
    have a4 : (0 : Int32) ≤ nI (50 * q) := nI_pos' (by omega)
    unfold sp_cpok
    rw [a1, a2, a3]
    have a5 : (0 : Int32) ≤ 0 := by decide
    have a6 : (0 : Int32) ≤ 50 := by decide
    simp only [a4, a5, a6, decide_true, Bool.true_and, Bool.and_eq_true, decide_eq_true_eq]
    omega
  have w5 : nI m - 1 = nI (m - 1) := by show nI m - nI 1 = _; rw [pk_sub (by omega)]
  have key : X1_takeActBack n σ t = some (sp_cp (sp_si (sp_si σ t 4 (nI q)) t 5 (nI (m - 1))) (t + 13) (nI (50 * q)) (t + 1 + 1) 0 50) := by
    rw [X1_takeActBack, e5, if_neg c1, w3, sp_ckt, e4, w0, w4, sp_pl, sp_pl, sp_si_ne (by decide), sp_si_eq, w1, w2, sp_ckt, sp_pl, sp_si_ne (by decide), e5, w5]
    rfl
  refine ⟨_, key, rfl, ?_, ?_, ?_, ?_, ?_⟩
  · intro p hp
    rw [sp_cp_1, sp_si_pq hp, sp_si_pq hp]
  · intro p hp
    rw [sp_cp_np hp]
    rfl
  · rw [sp_cp_1, sp_si_ne (by decide), sp_si_eq]
  · rw [sp_cp_1, sp_si_eq]
  · intro k hk
    rw [sp_cp_g, if_pos rfl, a1, show (50 : Int32).toNatClampNeg = 50 by decide, show (0 : Int32).toNatClampNeg = 0 by decide, if_pos (by omega), Nat.sub_zero]
    rfl
theorem op_undo (hn : 5000 ≤ n) (h : Inv j σ μ) : agi (j + 1) (X11_undo n σ) (X12_undo n μ) := by
  have h' := Inv_code (v := 0) h
  have h3 : (sp_si μ 0 3 0).1 0 3 = 0 := sp_si_eq
  rw [X12_undo, sp_pl, X11_undo]
  generalize sp_si μ 0 3 0 = μ1 at *
  obtain ⟨c, d, ct, cd, sc, stk, m, nr, hs, ht, hO⟩ := Inv_O h'
  obtain ⟨h1, h2, h3', h4, h5, ⟨f1, f2, f3, f4, f5, ⟨s, sb, sd, sa, f6, f7⟩, f8⟩, h7, h8, h9, h10⟩ := hO
  obtain ⟨c1, c2, c3, c4, c5⟩ := f4
  have hK := f1.2.2.2.2.2.1
  rw [f5, c4]
  by_cases m0 : m = 0
  · rw [m0, if_pos n00, if_pos n00]
    exact ⟨σ, μ1, -1, rfl, rfl, Inv_mono (by omega) h'⟩
  · have nz : ¬ nI m = 0 := by
      show ¬ nI m = nI 0
      rw [qn_eq (by omega) (by omega)]
      exact m0
    rw [if_neg nz, if_neg nz]
    obtain ⟨τ, a1, a2, a3, a4, a5, a6, a7⟩ := sq_takeBack (n := n) (t := 22) c1 c2 (by omega) c3 c4
    have w5 : nI m - 1 = nI (m - 1) := by show nI m - nI 1 = _; rw [pk_sub (by omega)]
    have w1 : (88 : Int32) * nI (m - 1) = nI (88 * (m - 1)) := by show nI 88 * nI (m - 1) = _; rw [pk_mul]
    obtain ⟨ν, b1, b2, b3, b4, b5⟩ := rq_unpack (n := n) (μ := sp_si μ1 0 35 (nI (m - 1))) (p := 20) (m := 3520) (a := 88 * (m - 1)) (by omega) (by omega) (by omega) (by omega)
    obtain ⟨g1, g2, g3⟩ := c5 (m - 1) (by omega)
    have e35 : ν.1 0 35 = nI (m - 1) := by rw [b4 35 (by omega) (by omega), sp_si_eq]
    have kk : ∀ k, k ≠ 33 → k ≠ 34 → k ≠ 35 → ν.1 0 k = μ1.1 0 k := fun k h1 h2 h3 => by rw [b4 k h1 h2, sp_si_ne h3]
    have pp : ∀ q, q < 14 ∨ 19 < q → ν.2.2.1 q = μ1.2.2.1 q := fun q hq => by rw [b3 q hq]; rfl
    have er : mRow (rowOf ν) ct (hs (m - 1)) (ht (m - 1)) := by
      refine mRow_cong hK.1 hK.2.1 (stk_10 hK.1 g3.2.1) (fun x hx => ?_) g2
      rw [b5 x hx]
      rfl
    rw [a1, sp_bv_s, sp_pl, w5, sp_si_eq, w1, b1, sp_bv_s]
    refine ⟨τ, ν, nI (m - 1), by rw [a6], by rw [e35], Inv_mono (Nat.le_succ j) (O_Inv (c := c) (d := d) (ct := ct) (cd := cd) (sc := hs (m - 1)) (stk := ht (m - 1)) (m := m - 1) (nr := (nr + 39) % 40) (hs := hs) (ht := ht) ?_)⟩
    have e1 : (nr + 40 - m + (m - 1)) % 40 = (nr + 39) % 40 := by omega
    have hS : qSC τ 23 c ct cd (hs (m - 1)) := by
      have f1' : qSC σ 23 c ct cd sc := f1
      obtain ⟨y1, y2, y3, y4, y5, y6, y7⟩ := f1'
      have yy : qSC τ 23 c ct cd (hs (m - 1)) ↔ True := ⟨fun _ => trivial, fun _ => by
        refine ⟨y1, by rw [a2]; exact y2, y3, ?_, fun k hk => ?_, y6, g3.2.2.1⟩
        · have hc11 := isc_le y3
          unfold qC qR at *
          rw [a3 c (by omega), a4 (c + 1) (by omega), a4 (c + 2) (by omega), a4 (c + 3) (by omega), a4 (c + 4) (by omega), a4 (c + 5) (by omega), a4 (c + 6) (by omega), a4 (c + 7) (by omega), a4 (c + 8) (by omega)]
          exact y4
        · rw [a7 k hk, ← e1]
          exact g1 k hk⟩
      exact yy.mpr trivial
    refine ⟨h1, by rw [a2]; exact h2, by rw [a2]; exact h3', h4, ?_, ⟨hS, er, g3, ⟨Nat.mod_lt _ (by omega), by omega, a5, a6, fun i hi => ?_⟩, e35, ⟨s, sb, sd, sa, ?_, ?_⟩, ?_⟩, ?_, ?_, ?_, ?_⟩
    · unfold mC at *
      rw [pp 3 (by omega), pp 7 (by omega), pp 8 (by omega), pp 6 (by omega), pp 10 (by omega), pp 11 (by omega)]
      exact h5
    · obtain ⟨q1, q2, q3⟩ := c5 i (by omega)
      refine ⟨fun k hk => ?_, by rw [pp 20 (by omega)]; exact q2, q3⟩
      have e2 : ((nr + 39) % 40 + 40 - (m - 1) + i) % 40 = (nr + 40 - m + i) % 40 := by omega
      rw [e2, a4 _ (by omega)]
      exact q1 k hk
    · unfold cSe at *
      rw [a3 (22 + 8) (by omega), a4 (22 + 9) (by omega), a4 (22 + 10) (by omega), a4 (22 + 11) (by omega), pp 29 (by omega), pp 30 (by omega), pp 31 (by omega)]
      exact f6
    · rw [kk 36 (by omega) (by omega) (by omega)]; exact f7
    · rw [a4 34 (by omega), pp 12 (by omega)]; exact f8
    · rw [a3 0 (by omega), kk 55 (by omega) (by omega) (by omega)]; exact h7
    · rw [kk 55 (by omega) (by omega) (by omega), pp 37 (by omega), pp 38 (by omega), pp 39 (by omega), pp 40 (by omega), pp 41 (by omega), pp 42 (by omega), kk 56 (by omega) (by omega) (by omega), kk 57 (by omega) (by omega) (by omega)]
      rcases h8 with h8 | ⟨h8, h8'⟩
      · exact Or.inl h8
      · refine Or.inr ⟨h8, ?_⟩
        obtain ⟨sc2, stk2, m2, nr2, hs2, ht2, s2, sb2, sd2, sa2, e1, e2, e3, e4, e5, e6, e7, e8⟩ := h8'
        refine ⟨sc2, stk2, m2, nr2, hs2, ht2, s2, sb2, sd2, sa2, qSC_q (fun p hp => ⟨a3 p (by omega), a4 p (by omega)⟩) (by rw [a2]) (a4 _ (by omega)) e1, e2, e3, ?_, e5, ?_, e7, ?_⟩
        · unfold cHs at *; rw [a3 36 (by omega), a4 (36 + 13) (by omega)]; exact e4
        · unfold cSe at *; rw [a3 (36 + 8) (by omega), a4 (36 + 9) (by omega), a4 (36 + 10) (by omega), a4 (36 + 11) (by omega)]; exact e6
        · rw [a4 (36 + 12) (by omega)]; exact e8
    · unfold cTp at *
      rw [a3 0 (by omega), a4 1 (by omega), a4 67 (by omega), kk 15 (by omega) (by omega) (by omega), pp 13 (by omega)]
      exact h9
    · rw [a3 0 (by omega), kk 24 (by omega) (by omega) (by omega)]; exact h10
/-- what is seen changes on both sides -/
theorem O_see {τ ν : sp_St} {s : Nat} {sb sd sa : Nat → Nat} (h : O j σ μ c d ct cd sc stk m nr hs ht) (g1 : τ.2.1 = σ.2.1) (g2 : ∀ p, p ≠ 30 → τ.1 p = σ.1 p) (g3 : ∀ p, p ≠ 31 → p ≠ 32 → p ≠ 33 → τ.2.2.1 p = σ.2.2.1 p) (k2 : ∀ k, k ≠ 36 → ν.1 0 k = μ.1 0 k) (k3 : ∀ p, p ≠ 29 → p ≠ 30 → p ≠ 31 → ν.2.2.1 p = μ.2.2.1 p) (hs' : cSe τ 22 (ν.2.2.1 29) (ν.2.2.1 30) (ν.2.2.1 31) ct s sb sd sa) (h36 : ν.1 0 36 = nI s) : Inv j τ ν := by
  obtain ⟨h1, h2, h3', h4, h5, ⟨f1, f2, f3, f4, f5, _, f8⟩, h7, h8, h9, h10⟩ := h
  have er : rowOf ν = rowOf μ := by
    funext x
    unfold rowOf
    rw [k2 33 (by omega), k2 34 (by omega), k3 14 (by omega) (by omega) (by omega), k3 15 (by omega) (by omega) (by omega), k3 16 (by omega) (by omega) (by omega), k3 17 (by omega) (by omega) (by omega), k3 18 (by omega) (by omega) (by omega), k3 19 (by omega) (by omega) (by omega)]
  refine ⟨c, d, ct, cd, h1, by rw [g1]; exact h2, by rw [g1]; exact h3', h4, ?_, ⟨sc, stk, m, nr, hs, ht, s, sb, sd, sa, ?_, ?_, f3, ?_, ?_, hs', h36, ?_⟩, ?_, ?_, ?_, ?_⟩
  · unfold mC at *
    rw [k3 3 (by omega) (by omega) (by omega), k3 7 (by omega) (by omega) (by omega), k3 8 (by omega) (by omega) (by omega), k3 6 (by omega) (by omega) (by omega), k3 10 (by omega) (by omega) (by omega), k3 11 (by omega) (by omega) (by omega)]
    exact h5
  · exact qSC_q (fun p hp => ⟨g2 p (by omega), g3 p (by omega) (by omega) (by omega)⟩) (by rw [g1]) (g3 _ (by omega) (by omega) (by omega)) f1
  · rw [er]; exact f2
  · unfold cHs at *; rw [g2 22 (by omega), g3 (22 + 13) (by omega) (by omega) (by omega), k3 20 (by omega) (by omega) (by omega)]; exact f4
  · rw [k2 35 (by omega)]; exact f5
  · rw [g3 _ (by omega) (by omega) (by omega), k3 12 (by omega) (by omega) (by omega)]; exact f8
  · rw [g2 0 (by omega), k2 55 (by omega)]; exact h7
  · rw [k2 55 (by omega), k3 37 (by omega) (by omega) (by omega), k3 38 (by omega) (by omega) (by omega), k3 39 (by omega) (by omega) (by omega), k3 40 (by omega) (by omega) (by omega), k3 41 (by omega) (by omega) (by omega), k3 42 (by omega) (by omega) (by omega), k2 56 (by omega), k2 57 (by omega)]
    rcases h8 with h8 | ⟨h8, h8'⟩
    · exact Or.inl h8
    · refine Or.inr ⟨h8, ?_⟩
      obtain ⟨sc2, stk2, m2, nr2, hs2, ht2, s2, sb2, sd2, sa2, e1, e2, e3, e4, e5, e6, e7, e8⟩ := h8'
      refine ⟨sc2, stk2, m2, nr2, hs2, ht2, s2, sb2, sd2, sa2, qSC_q (fun p hp => ⟨g2 p (by omega), g3 p (by omega) (by omega) (by omega)⟩) (by rw [g1]) (g3 _ (by omega) (by omega) (by omega)) e1, e2, e3, ?_, e5, ?_, e7, ?_⟩
      · unfold cHs at *; rw [g2 36 (by omega), g3 (36 + 13) (by omega) (by omega) (by omega)]; exact e4
      · unfold cSe at *; rw [g2 (36 + 8) (by omega), g3 (36 + 9) (by omega) (by omega) (by omega), g3 (36 + 10) (by omega) (by omega) (by omega), g3 (36 + 11) (by omega) (by omega) (by omega)]; exact e6
      · rw [g3 (36 + 12) (by omega) (by omega) (by omega)]; exact e8
  · unfold cTp at *
    rw [g2 0 (by omega), g3 1 (by omega) (by omega) (by omega), g3 67 (by omega) (by omega) (by omega), k2 15 (by omega), k3 13 (by omega) (by omega) (by omega)]
    exact h9
  · rw [g2 0 (by omega), k2 24 (by omega)]; exact h10
theorem op_forget (h : Inv j σ μ) : agv (j + 1) (X11_forget n σ) (X12_forget n μ) := by
  have h' := Inv_code (v := 0) h
  obtain ⟨c, d, ct, cd, sc, stk, m, nr, hs, ht, hO⟩ := Inv_O h'
  refine ⟨sp_si σ 30 3 0, sp_si (sp_si μ 0 3 0) 0 36 0, rfl, rfl, Inv_mono (Nat.le_succ j) (O_see (s := 0) (sb := fun _ => 0) (sd := fun _ => 0) (sa := fun _ => 0) hO rfl (fun p hp => sp_si_pq hp) (fun _ _ _ _ => rfl) (fun k hk => sp_si_ne hk) (fun _ _ _ _ => rfl) ⟨by omega, sp_si_eq, fun i hi => by omega⟩ sp_si_eq)⟩
end
