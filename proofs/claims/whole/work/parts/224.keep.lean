-- ===== THE ACTS: what stands, opened; what is kept =====
def O (j : Nat) (σ μ : sp_St) (c d : Nat) (ct : Nat → Nat → Nat) (cd : List Nat × List Nat) (sc : Nat → Nat) (stk : Nat → List Nat) (m nr : Nat) (hs : Nat → Nat → Nat) (ht : Nat → Nat → List Nat) : Prop := (c = 2 ∧ d = 11 ∨ c = 11 ∧ d = 2) ∧ σ.2.1 0 3 = c ∧ σ.2.1 0 4 = d ∧ qcd cd ∧ mC μ ct cd ∧ (qSC σ 23 c ct cd sc ∧ mRow (rowOf μ) ct sc stk ∧ sG ct sc stk j ∧ cHs σ 22 (μ.2.2.1 20) ct j m nr hs ht ∧ μ.1 0 35 = nI m ∧ (∃ s sb sd sa, cSe σ 22 (μ.2.2.1 29) (μ.2.2.1 30) (μ.2.2.1 31) ct s sb sd sa ∧ μ.1 0 36 = nI s) ∧ ∀ k, k < 3 → σ.2.2.1 34 k = μ.2.2.1 12 k) ∧ σ.1 0 8 = μ.1 0 55 ∧ (μ.1 0 55 = 0 ∨ μ.1 0 55 = 1 ∧ Chr σ 36 c ct cd j (μ.2.2.1 37) (μ.2.2.1 38) (μ.2.2.1 39) (μ.2.2.1 40) (μ.2.2.1 41) (μ.2.2.1 42) (μ.1 0 56) (μ.1 0 57)) ∧ cTp σ μ ∧ σ.1 0 2 = μ.1 0 24
theorem Inv_O {j : Nat} {σ μ : sp_St} (h : Inv j σ μ) : ∃ c d ct cd sc stk m nr hs ht, O j σ μ c d ct cd sc stk m nr hs ht := by
  obtain ⟨c, d, ct, cd, h1, h2, h3, h4, h5, ⟨sc, stk, m, nr, hs, ht, s, sb, sd, sa, f1, f2, f3, f4, f5, f6, f7, f8⟩, h7, h8, h9, h10⟩ := h
  exact ⟨c, d, ct, cd, sc, stk, m, nr, hs, ht, h1, h2, h3, h4, h5, ⟨f1, f2, f3, f4, f5, ⟨s, sb, sd, sa, f6, f7⟩, f8⟩, h7, h8, h9, h10⟩
section
variable {n j c d m nr : Nat} {σ μ : sp_St} {ct : Nat → Nat → Nat} {cd : List Nat × List Nat} {sc : Nat → Nat} {stk : Nat → List Nat} {hs : Nat → Nat → Nat} {ht : Nat → Nat → List Nat}
theorem O_Inv (h : O j σ μ c d ct cd sc stk m nr hs ht) : Inv j σ μ := by
  obtain ⟨h1, h2, h3, h4, h5, ⟨f1, f2, f3, f4, f5, ⟨s, sb, sd, sa, f6, f7⟩, f8⟩, h7, h8, h9, h10⟩ := h
  exact ⟨c, d, ct, cd, h1, h2, h3, h4, h5, ⟨sc, stk, m, nr, hs, ht, s, sb, sd, sa, f1, f2, f3, f4, f5, f6, f7, f8⟩, h7, h8, h9, h10⟩
theorem O_now (h : O j σ μ c d ct cd sc stk m nr hs ht) : qSC σ 23 c ct cd sc ∧ mSC μ ct cd sc stk ∧ sG ct sc stk j ∧ qcd cd ∧ σ.2.1 0 3 = c := by
  obtain ⟨h1, h2, h3, h4, h5, ⟨f1, f2, f3, f4, f5, _, f8⟩, h7, h8, h9, h10⟩ := h
  exact ⟨f1, mSC_of f1.2.2.2.2.2.1 h5 f2 f3, f3, h4, h2⟩
/-- only the scene (and what no question minds) may have changed -/
def cs (σ τ : sp_St) : Prop := ∀ p, cK p ∨ p = 67 → p ≠ 24 → τ.1 p = σ.1 p ∧ τ.2.1 p = σ.2.1 p ∧ τ.2.2.1 p = σ.2.2.1 p
def ms (μ ν : sp_St) : Prop := (∀ p, p < 14 ∨ p = 20 ∨ 29 ≤ p ∧ p ≤ 31 ∨ 37 ≤ p ∧ p ≤ 42 → ν.2.2.1 p = μ.2.2.1 p) ∧ ∀ k, k = 15 ∨ k = 24 ∨ 35 ≤ k ∧ k ≤ 36 ∨ 55 ≤ k ∧ k ≤ 57 → ν.1 0 k = μ.1 0 k
theorem cs_fp {σ τ : sp_St} {a b : Nat} (h : qfp a b σ τ) (ha : 24 ≤ a) (hb : b ≤ 29) : cs σ τ := fun p hp h24 => by
  have : p < a ∨ b < p := by unfold cK at hp; omega
  exact ⟨(h.2.2 p this).1, by rw [h.1], (h.2.2 p this).2⟩
theorem cs_trans {σ τ υ : sp_St} (h : cs σ τ) (g : cs τ υ) : cs σ υ := fun p hp h4 => ⟨(g p hp h4).1.trans (h p hp h4).1, (g p hp h4).2.1.trans (h p hp h4).2.1, (g p hp h4).2.2.trans (h p hp h4).2.2⟩
theorem ms_fd {μ ν : sp_St} (h : mfd μ ν) : ms μ ν := ⟨fun p hp => h.2.1 p (by omega), fun k hk => h.2.2 k (by omega) (by omega)⟩
theorem O_scene {τ ν : sp_St} {sc' : Nat → Nat} {stk' : Nat → List Nat} {j' : Nat} (h : O j σ μ c d ct cd sc stk m nr hs ht) (g : cs σ τ) (k : ms μ ν) (hS : qSC τ 23 c ct cd sc') (hM : mSC ν ct cd sc' stk') (hG : sG ct sc' stk' j') (hj : j ≤ j') : O j' τ ν c d ct cd sc' stk' m nr hs ht := by
  obtain ⟨h1, h2, h3, h4, h5, ⟨f1, f2, f3, f4, f5, ⟨s, sb, sd, sa, f6, f7⟩, f8⟩, h7, h8, h9, h10⟩ := h
  have k0 := g 0 (by unfold cK; omega) (by omega)
  have k1 := g 1 (by unfold cK; omega) (by omega)
  have k22 := g 22 (by unfold cK; omega) (by omega)
  have k30 := g (22 + 8) (by unfold cK; omega) (by omega)
  have k31 := g (22 + 9) (by unfold cK; omega) (by omega)
  have k32 := g (22 + 10) (by unfold cK; omega) (by omega)
  have k33 := g (22 + 11) (by unfold cK; omega) (by omega)
  have k34 := g 34 (by unfold cK; omega) (by omega)
  have k35 := g (22 + 13) (by unfold cK; omega) (by omega)
  have hK := hS.2.2.2.2.2.1
  refine ⟨h1, by rw [k0.2.1]; exact h2, by rw [k0.2.1]; exact h3, h4, hM.1, ⟨hS, (mRow_of hK.1 hK.2.1 (stk_10 hK.1 hG.2.1)).mp hM.2.1, hG, ?_, ?_, ⟨s, sb, sd, sa, ?_, ?_⟩, ?_⟩, ?_, ?_, ?_, ?_⟩
  · unfold cHs at *
    rw [k22.1, k35.2.2, k.1 20 (by omega)]
    exact ⟨f4.1, f4.2.1, f4.2.2.1, f4.2.2.2.1, fun i hi => ⟨(f4.2.2.2.2 i hi).1, (f4.2.2.2.2 i hi).2.1, sG_mono hj (f4.2.2.2.2 i hi).2.2⟩⟩
  · rw [k.2 35 (by omega)]; exact f5
  · unfold cSe at *
    rw [k30.1, k31.2.2, k32.2.2, k33.2.2, k.1 29 (by omega), k.1 30 (by omega), k.1 31 (by omega)]
    exact f6
  · rw [k.2 36 (by omega)]; exact f7
  · rw [k34.2.2, k.1 12 (by omega)]; exact f8
  · rw [k0.1, k.2 55 (by omega)]; exact h7
  · rw [k.2 55 (by omega), k.1 37 (by omega), k.1 38 (by omega), k.1 39 (by omega), k.1 40 (by omega), k.1 41 (by omega), k.1 42 (by omega), k.2 56 (by omega), k.2 57 (by omega)]
    rcases h8 with h8 | ⟨h8, h8'⟩
    · exact Or.inl h8
    · refine Or.inr ⟨h8, Chr_mono hj ?_⟩
      obtain ⟨sc2, stk2, m2, nr2, hs2, ht2, s2, sb2, sd2, sa2, e1, e2, e3, e4, e5, e6, e7, e8⟩ := h8'
      have q36 := g 36 (by unfold cK; omega) (by omega)
      have q37 := g (36 + 1) (by unfold cK; omega) (by omega)
      have q38 := g (36 + 1 + 1) (by unfold cK; omega) (by omega)
      have q44 := g (36 + 8) (by unfold cK; omega) (by omega)
      have q45 := g (36 + 9) (by unfold cK; omega) (by omega)
      have q46 := g (36 + 10) (by unfold cK; omega) (by omega)
      have q47 := g (36 + 11) (by unfold cK; omega) (by omega)
      have q48 := g (36 + 12) (by unfold cK; omega) (by omega)
      have q49 := g (36 + 13) (by unfold cK; omega) (by omega)
      refine ⟨sc2, stk2, m2, nr2, hs2, ht2, s2, sb2, sd2, sa2, qSC_q (fun p hp => ⟨(g p (by unfold cK; omega) (by omega)).1, (g p (by unfold cK; omega) (by omega)).2.2⟩) (by rw [q37.2.1]) q38.2.2 e1, e2, e3, ?_, e5, ?_, e7, ?_⟩
      · unfold cHs at *; rw [q36.1, q49.2.2]; exact e4
      · unfold cSe at *; rw [q44.1, q45.2.2, q46.2.2, q47.2.2]; exact e6
      · rw [q48.2.2]; exact e8
  · unfold cTp at *
    rw [k0.1, k1.2.2, (g 67 (Or.inr rfl) (by omega)).2.2, k.2 15 (by omega), k.1 13 (by omega)]
    exact h9
  · rw [k0.1, k.2 24 (by omega)]; exact h10
theorem sp_cp_g {σ : sp_St} {ps pd q i : Nat} {s e k : Int32} : (sp_cp σ ps s pd e k).2.2.1 q i = if q = pd then (if e.toNatClampNeg ≤ i ∧ i < e.toNatClampNeg + k.toNatClampNeg then σ.2.2.1 ps (s.toNatClampNeg + (i - e.toNatClampNeg)) else σ.2.2.1 pd i) else σ.2.2.1 q i := rfl
theorem sp_cp_1 {σ : sp_St} {ps pd : Nat} {s e k : Int32} : (sp_cp σ ps s pd e k).1 = σ.1 := rfl
theorem sp_cp_2 {σ : sp_St} {ps pd : Nat} {s e k : Int32} : (sp_cp σ ps s pd e k).2.1 = σ.2.1 := rfl
theorem sp_cp_np {σ : sp_St} {ps pd q : Nat} {s e k : Int32} (h : q ≠ pd) : (sp_cp σ ps s pd e k).2.2.1 q = σ.2.2.1 q := by
  funext i
  rw [sp_cp_g, if_neg h]
theorem sp_si_pq {σ : sp_St} {p q k : Nat} {v : Int32} (h : q ≠ p) : (sp_si σ p k v).1 q = σ.1 q := by
  funext i
  show (if q = p ∧ i = k then v else σ.1 q i) = _
  rw [if_neg (fun x => h x.1)]
theorem sq_keepAct {t : Nat} (h : qSC σ (t + 1) c ct cd sc) (hnr : nr < 40) (hm : m ≤ 40) (e4 : σ.1 t 4 = nI nr) (e5 : σ.1 t 5 = nI m) : ∃ τ, X1_keepAct n σ t = some τ ∧ τ.2.1 = σ.2.1 ∧ (∀ p, p ≠ t → τ.1 p = σ.1 p) ∧ (∀ p, p ≠ t + 13 → τ.2.2.1 p = σ.2.2.1 p) ∧ τ.1 t 4 = nI ((nr + 1) % 40) ∧ τ.1 t 5 = nI (min 40 (m + 1)) ∧ ∀ k, k < 2000 → τ.2.2.1 (t + 13) k = if 50 * nr ≤ k ∧ k < 50 * nr + 50 then nI (sc (k - 50 * nr)) else σ.2.2.1 (t + 13) k := by
  have w1 : nI nr * 50 = nI (50 * nr) := by show nI nr * nI 50 = _; rw [pk_mul, Nat.mul_comm]
  have w2 : sp_cpok 0 (nI (50 * nr)) 50 50 2000 = true := by
    have a1 : (nI (50 * nr)).toNatClampNeg = 50 * nr := nI_clamp (by omega)
    have a2 : (0 : Int32).toNatClampNeg = 0 := by decide
    have a3 : (50 : Int32).toNatClampNeg = 50 := by decide
    have a4 : (0 : Int32) ≤ nI (50 * nr) := nI_pos' (by omega)
    unfold sp_cpok
    rw [a1, a2, a3]
    have a5 : (0 : Int32) ≤ 0 := by decide
    have a6 : (0 : Int32) ≤ 50 := by decide
    simp only [a4, a5, a6, decide_true, Bool.true_and, Bool.and_eq_true, decide_eq_true_eq]
    omega
  have w3 : (!decide ((40 : Int32) = 0)) = true := by decide
  have w4 : nI (nr + 1) - nI (nr + 1) / 40 * 40 = nI ((nr + 1) % 40) := pk_rem (d := 40) (by omega) (by omega) (by omega)
  have w5 : sp_min 40 (nI (m + 1)) = nI (min 40 (m + 1)) := qn_min (a := 40) (by decide) (by omega)
  have key : X1_keepAct n σ t = some (sp_si (sp_si (sp_cp σ (t + 1 + 1) 0 (t + 13) (nI (50 * nr)) 50) t 4 (nI ((nr + 1) % 40))) t 5 (nI (min 40 (m + 1)))) := by
    rw [X1_keepAct, e4, w1, w2, sp_ckt, sp_pl, w3, sp_ckt, sp_pl, sp_pl, sp_pl, sp_cp_1, e4, nI_1, w4, sp_si_ne (by decide), sp_cp_1, e5, nI_1, w5]
  refine ⟨_, key, rfl, ?_, ?_, ?_, ?_, ?_⟩
  · intro p hp
    rw [sp_si_pq hp, sp_si_pq hp, sp_cp_1]
  · intro p hp
    show (sp_cp σ (t + 1 + 1) 0 (t + 13) (nI (50 * nr)) 50).2.2.1 p = _
    rw [sp_cp_np hp]
  · rw [sp_si_ne (by decide), sp_si_eq]
  · rw [sp_si_eq]
  · intro k hk
    show (sp_cp σ (t + 1 + 1) 0 (t + 13) (nI (50 * nr)) 50).2.2.1 (t + 13) k = _
    have a1 : (nI (50 * nr)).toNatClampNeg = 50 * nr := nI_clamp (by omega)
    rw [sp_cp_g, if_pos rfl, a1, show (50 : Int32).toNatClampNeg = 50 by decide, show (0 : Int32).toNatClampNeg = 0 by decide]
    by_cases q : 50 * nr ≤ k ∧ k < 50 * nr + 50
    · rw [if_pos q, if_pos q, Nat.zero_add]
      exact h.2.2.2.2.1 _ (by omega)
    · rw [if_neg q, if_neg q]
theorem rq_keep (hn : 5000 ≤ n) (hm : m ≤ 40) (e : μ.1 0 35 = nI m) : ∃ ν, X12_keep n μ = some ν ∧ ν.2.1 = μ.2.1 ∧ (∀ p, p ≠ 20 → ν.2.2.1 p = μ.2.2.1 p) ∧ (∀ k, k ≠ 35 → ν.1 0 k = μ.1 0 k) ∧ ν.1 0 35 = nI (min 40 (m + 1)) ∧ (∀ i x, i < m - (if m = 40 then 1 else 0) → x < 88 → ν.2.2.1 20 (88 * i + x) = μ.2.2.1 20 (88 * (i + if m = 40 then 1 else 0) + x)) ∧ ∀ x, x < 88 → ν.2.2.1 20 (88 * (m - if m = 40 then 1 else 0) + x) = rowOf μ x := by
  have k52 : ∀ (s : sp_St) (q : Nat), q < 40 → s.1 0 35 = nI q → ∃ ν, X12_keep_52 n s = some ν ∧ ν.2.1 = s.2.1 ∧ (∀ p, p ≠ 20 → ν.2.2.1 p = s.2.2.1 p) ∧ (∀ k, k ≠ 35 → ν.1 0 k = s.1 0 k) ∧ ν.1 0 35 = nI (q + 1) ∧ (∀ k, k < 88 * q → ν.2.2.1 20 k = s.2.2.1 20 k) ∧ ∀ x, x < 88 → ν.2.2.1 20 (88 * q + x) = rowOf s x := by
    intro s q hq hs
    have w1 : (88 : Int32) * nI q = nI (88 * q) := by show nI 88 * nI q = _; rw [pk_mul]
    have key : X12_keep_52 n s = some (sp_si (pkd s 20 (88 * q) (fun j => decide (j < 88))) 0 35 (nI (q + 1))) := by
      rw [X12_keep_52, hs, w1, rq_pack (by omega) (by omega) (by omega) (by omega), sp_bv_s, sp_pl]
      show some (sp_si _ 0 35 (s.1 0 35 + 1)) = _
      rw [hs, nI_1]
    refine ⟨_, key, rfl, ?_, ?_, ?_, ?_, ?_⟩
    · intro p hp
      show (pkd s 20 (88 * q) (fun j => decide (j < 88))).2.2.1 p = _
      funext i
      exact pkd_g hp
    · intro k hk
      rw [sp_si_ne hk]; rfl
    · rw [sp_si_eq]
    · intro k hk
      show (if 20 = 20 ∧ 88 * q ≤ k ∧ decide (k - 88 * q < 88) = true then rowOf s (k - 88 * q) else s.2.2.1 20 k) = _
      rw [if_neg (by omega)]
    · intro x hx
      show (if 20 = 20 ∧ 88 * q ≤ 88 * q + x ∧ decide (88 * q + x - 88 * q < 88) = true then rowOf s (88 * q + x - 88 * q) else s.2.2.1 20 (88 * q + x)) = _
      rw [if_pos ⟨rfl, by omega, by rw [decide_eq_true_iff]; omega⟩, Nat.add_sub_cancel_left]
  by_cases h40 : m = 40
  · have c1 : μ.1 0 35 = (40 : Int32) := by rw [e, h40]; rfl
    have key : sp_wp (X12_keep_12 n n μ 88) (fun ν => ν.2.1 = μ.2.1 ∧ (∀ p, p ≠ 20 → ν.2.2.1 p = μ.2.2.1 p) ∧ (∀ k, k ≠ 35 → ν.1 0 k = μ.1 0 k) ∧ ν.1 0 35 = nI 40 ∧ (∀ i x, i < 39 → x < 88 → ν.2.2.1 20 (88 * i + x) = μ.2.2.1 20 (88 * (i + 1) + x)) ∧ ∀ x, x < 88 → ν.2.2.1 20 (88 * 39 + x) = rowOf μ x) := by
      refine lp_inv (fun f i s => X12_keep_12 n f s (nI i)) (fun i s => 88 ≤ i ∧ s.1 = μ.1 ∧ s.2.1 = μ.2.1 ∧ (∀ p, p ≠ 20 → s.2.2.1 p = μ.2.2.1 p) ∧ (∀ k, k + 88 < i → s.2.2.1 20 k = μ.2.2.1 20 (k + 88)) ∧ ∀ k, i ≤ k + 88 → s.2.2.1 20 k = μ.2.2.1 20 k) 3520 _ (fun f s hI => ?_) (fun f i s hi hI k => ?_) n 88 μ (by omega) (by omega) ⟨by omega, rfl, rfl, fun _ _ => rfl, fun k hk => by omega, fun _ _ => rfl⟩
      · obtain ⟨g0, g1, g2, g3, g4, g5⟩ := hI
        rw [X12_keep_12, if_pos (show (3520 : Int32) ≤ nI 3520 by decide), X12_keep_42, sp_pl]
        have w : s.1 0 35 - 1 = nI 39 := by rw [g1, c1]; decide
        rw [w]
        obtain ⟨ν, r1, r2, r3, r4, r5, r6, r7⟩ := k52 (sp_si s 0 35 (nI 39)) 39 (by omega) sp_si_eq
        refine wp_of r1 ⟨by rw [r2]; exact g2, fun p hp => by rw [r3 p hp]; exact g3 p hp, fun k hk => by rw [r4 k hk, sp_si_ne hk, g1], r5, fun i x hi hx => ?_, fun x hx => ?_⟩
        · rw [r6 _ (by omega)]
          show s.2.2.1 20 (88 * i + x) = _
          rw [g4 _ (by omega)]
          exact congrArg (μ.2.2.1 20) (by omega)
        · rw [r7 x hx]
          unfold rowOf
          rw [sp_si_ne (by decide), sp_si_ne (by decide), g1]
          show (if x = 0 then μ.1 0 33 else if x = 1 then μ.1 0 34 else if x < 12 then s.2.2.1 14 (x - 2) else if x < 22 then s.2.2.1 15 (x - 12) else if x < 27 then s.2.2.1 16 (x - 22) else if x < 32 then s.2.2.1 17 (x - 27) else if x < 82 then s.2.2.1 18 (x - 32) else s.2.2.1 19 (x - 82)) = _
          rw [g3 14 (by omega), g3 15 (by omega), g3 16 (by omega), g3 17 (by omega), g3 18 (by omega), g3 19 (by omega)]
      · obtain ⟨g0, g1, g2, g3, g4, g5⟩ := hI
        · have w : nI i - 88 = nI (i - 88) := by show nI i - nI 88 = _; rw [pk_sub (by omega)]
          rw [X12_keep_12, if_neg (show ¬ (3520 : Int32) ≤ nI i from nI_ge (b := 3520) hi (by omega)), qn_in (by omega) (by omega), sp_ckt, w, qn_in (by omega) (by omega), sp_ckt, sp_pl, sp_pl, nI_1, nI_clamp (by omega), qn_g (by omega)]
          refine k _ ⟨by omega, g1, g2, fun p hp => ?_, fun k hk => ?_, fun k hk => ?_⟩
          · funext y; rw [sp_sa_np hp, g3 p hp]
          · by_cases ek : k = i - 88
            · subst ek
              rw [sp_sa_eq, g5 i (by omega)]
              exact congrArg (μ.2.2.1 20) (by omega)
            · rw [sp_sa_nj ek]; exact g4 k (by omega)
          · rw [sp_sa_nj (by omega)]; exact g5 k (by omega)
    obtain ⟨ν, r1, r2, r3, r4, r5, r6, r7⟩ := key
    refine ⟨ν, by rw [X12_keep, if_pos c1, sp_pl]; exact r1, r2, r3, r4, by rw [r5, h40]; rfl, ?_, ?_⟩
    · rw [if_pos h40, h40]; exact fun i x hi hx => r6 i x (by omega) hx
    · rw [if_pos h40, h40]; exact r7
  · have c1 : ¬ μ.1 0 35 = (40 : Int32) := by rw [e]; show ¬ nI m = nI 40; rw [qn_eq (by omega) (by omega)]; exact h40
    obtain ⟨ν, r1, r2, r3, r4, r5, r6, r7⟩ := k52 μ m (by omega) e
    refine ⟨ν, by rw [X12_keep, if_neg c1]; exact r1, r2, r3, r4, by rw [r5]; congr 1; omega, ?_, ?_⟩
    · rw [if_neg h40]; exact fun i x hi hx => by rw [r6 _ (by omega)]; rfl
    · rw [if_neg h40]; exact r7
end
