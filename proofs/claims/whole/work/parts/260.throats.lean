-- ===== throats: the class's =====
def cb (Z : Nat) : Nat := qc (fun k => Z.testBit k) 10
/-- the best of the rooms below Z: the fewest, then the least -/
def bst (ok : Nat → Prop) (Z : Nat) (r : Int32) : Prop := (r = -1 ∧ ∀ W, W < Z → ¬ ok W) ∨ ∃ B, B < Z ∧ r = nI B ∧ ok B ∧ ∀ W, W < Z → ok W → cb B < cb W ∨ cb B = cb W ∧ B ≤ W
theorem bst_u {ok : Nat → Prop} {Z : Nat} {r q : Int32} (h : bst ok Z r) (g : bst ok Z q) : r = q := by
  rcases h with ⟨h1, h2⟩ | ⟨B, b1, b2, b3, b4⟩
  · rcases g with ⟨g1, g2⟩ | ⟨C, c1, c2, c3, c4⟩
    · rw [h1, g1]
    · exact absurd c3 (h2 C c1)
  · rcases g with ⟨g1, g2⟩ | ⟨C, c1, c2, c3, c4⟩
    · exact absurd b3 (g2 B b1)
    · have := b4 C c1 c3
      have := c4 B b1 b3
      rw [b2, c2, show B = C by omega]
theorem cb_le {Z ns : Nat} (hns : ns ≤ 10) (h : Z < 2 ^ ns) : cb Z ≤ ns := by
  have : cb Z = qc (fun k => Z.testBit k) ns := by
    unfold cb
    rw [← qc_ext (fun k => Z.testBit k) 10 hns]
    refine qc_cong fun k _ => ?_
    by_cases e : k < ns
    · simp [e]
    · rw [Nat.testBit_lt_two_pow (Nat.lt_of_lt_of_le h (Nat.pow_le_pow_right (by decide) (by omega)))]; simp
  rw [this]; exact qc_le _ _
theorem mkL_sum {lf : Nat → Nat} {Z : Nat} : ∀ i, (∀ k, k < i → lf k ≤ 99) → (mkL lf Z i).sum ≤ 99 * i := by
  intro i
  induction i with
  | zero => intro _; exact Nat.le_refl _
  | succ i ih =>
    intro h
    have ih := ih (fun k hk => h k (by omega))
    have := h i (by omega)
    rw [mkL]
    split
    · rw [List.sum_append_nat, List.sum_cons, List.sum_nil]; omega
    · omega
section
variable {n j c : Nat} {σ μ : sp_St} {ct : Nat → Nat → Nat} {cd : List Nat × List Nat} {sc : Nat → Nat} {stk : Nat → List Nat}
theorem sq_throats (h : qSC σ 23 c ct cd sc) (hn : 1100 ≤ n) (hu : ∀ s, s < ct 0 14 → qus ct sc s ≤ sc (30 + s)) (h99 : ∀ s, s < ct 0 14 → lfO ct sc s ≤ 99) : ∃ τ r, X5_fewestSwallowers n σ = some (τ, r) ∧ qfp 60 63 σ τ ∧ bst (fun Z => pk (ct 2) (ct 0 13) (mkL (lfO ct sc) Z (ct 0 14)) (bs (fun b => decide (sc (10 + b) = 0)) (ct 0 13))) (2 ^ ct 0 14) r := by
  have hb10 := h.2.2.2.2.2.1.1
  have hs5 := h.2.2.2.2.2.1.2.1
  have hL := h.2.2.2.2.2.1.2.2.2.2.1
  have hO := bs_lt (fun b => decide (sc (10 + b) = 0)) (ct 0 13)
  rw [X5_fewestSwallowers, sq_bladesOut h (by omega), sp_bd_s]
  generalize bs (fun b => decide (sc (10 + b) = 0)) (ct 0 13) = O at *
  have hO2 : O < 1024 := Nat.lt_of_lt_of_le hO (Nat.pow_le_pow_right (by decide) hb10 : 2 ^ ct 0 13 ≤ 2 ^ 10)
  have p5 : 2 ^ ct 0 14 ≤ 32 := (Nat.pow_le_pow_right (by decide) hs5 : 2 ^ ct 0 14 ≤ 2 ^ 5)
  have lw : sW (ct 2) (ct 0 13) O ≤ ct 0 13 * 40 := qs_le (fun k hk => by
    have := (hL k).2
    split <;> omega)
  rw [sq_lengthOf h (by omega) hO2, sp_bd_s, sp_pl, h.2.1, h.2.2.1, sp_ckt, h.2.2.2.1.2.1, sp_pl, sp_pl]
  generalize hLO : sW (ct 2) (ct 0 13) O = LO at *
  have inner : ∀ (k28 : sp_St → Int32 → Int32 → Int32 → Int32 → Option (sp_St × Int32)) q, q ≤ ct 0 14 → (∀ W, W < 2 ^ ct 0 14 → pk (ct 2) (ct 0 13) (mkL (lfO ct sc) W (ct 0 14)) O → q ≤ cb W) → ∀ f Z τ, Z ≤ 2 ^ ct 0 14 → 2 ^ ct 0 14 - Z < f → qfp 60 63 σ τ → (∀ W, W < Z → pk (ct 2) (ct 0 13) (mkL (lfO ct sc) W (ct 0 14)) O → q + 1 ≤ cb W) → (∃ υ, X5_fewestSwallowers_37 n k28 f τ (nI O) (nI LO) (nI (ct 0 14)) (nI q) (nI Z) = k28 υ (nI O) (nI LO) (nI (ct 0 14)) (nI (q + 1)) ∧ qfp 60 63 σ υ ∧ ∀ W, W < 2 ^ ct 0 14 → pk (ct 2) (ct 0 13) (mkL (lfO ct sc) W (ct 0 14)) O → q + 1 ≤ cb W) ∨ ∃ υ r, X5_fewestSwallowers_37 n k28 f τ (nI O) (nI LO) (nI (ct 0 14)) (nI q) (nI Z) = some (υ, r) ∧ qfp 60 63 σ υ ∧ bst (fun Z => pk (ct 2) (ct 0 13) (mkL (lfO ct sc) Z (ct 0 14)) O) (2 ^ ct 0 14) r := by
    intro k28 q hq hlow f
    induction f with
    | zero => intro Z τ _ hf; omega
    | succ f ih =>
      intro Z τ hZ hf g hz
      rw [X5_fewestSwallowers_37, show (1 : Int32) <<< (nI (ct 0 14) &&& 31) = nI (2 ^ ct 0 14) from qn_sh1 (by omega)]
      by_cases e : Z = 2 ^ ct 0 14
      · subst e
        refine Or.inl ⟨τ, by rw [if_pos (Int32.le_refl _), X5_fewestSwallowers_82, sp_pl, nI_1], g, hz⟩
      · have hZ2 : Z < 2 ^ ct 0 14 := by omega
        have e76 : ∀ (υ : sp_St), X5_fewestSwallowers_76 n k28 (X5_fewestSwallowers_37 n k28 f) υ (nI O) (nI LO) (nI (ct 0 14)) (nI q) (nI Z) = X5_fewestSwallowers_37 n k28 f υ (nI O) (nI LO) (nI (ct 0 14)) (nI q) (nI (Z + 1)) := fun υ => by rw [X5_fewestSwallowers_76, sp_pl, nI_1]
        have c10 := cb_le (Z := Z) (ns := ct 0 14) (by omega) hZ2
        have next : ∀ υ, qfp 60 63 σ υ → ¬ (cb Z = q ∧ pk (ct 2) (ct 0 13) (mkL (lfO ct sc) Z (ct 0 14)) O) → _ := fun υ gυ hn => ih (Z + 1) υ (by omega) (by omega) gυ (fun W hW hp => by
          by_cases eW : W = Z
          · subst eW
            have := hlow W hZ2 hp
            have : ¬ cb W = q := fun e => hn ⟨e, hp⟩
            omega
          · exact hz W (by omega) hp)
        rw [if_neg (nI_ge hZ2 (by omega)), bc_is, bc_10 (by omega), sp_bd_s]
        rw [show qc (fun k => Z.testBit k) 10 = cb Z from rfl]
        by_cases p : cb Z = q
        · have hτ := qSC_pk h g
          obtain ⟨τ1, t1, t2, t3, t4⟩ := sq_roomIn hτ (by omega : 100 ≤ n) hu (show Z < 2 ^ 31 by omega)
          have g1 := qfp_trans g t2
          have lenL := mkL_len (lf := lfO ct sc) (Z := Z) (ct 0 14)
          have mem99 := mkL_99 (Z := Z) (ct 0 14) h99
          have sumL := mkL_sum (Z := Z) (ct 0 14) h99
          have psum := pk_sum (w := ct 2) (N := ct 0 13) (R := mkL (lfO ct sc) Z (ct 0 14)) (S := O)
          rw [hLO] at psum
          rw [if_pos (by rw [qn_eq (by omega) (by omega)]; exact p), t1, sp_bd_s]
          have hb := (fun hok : pk (ct 2) (ct 0 13) (mkL (lfO ct sc) Z (ct 0 14)) O => (Or.inr ⟨Z, hZ2, rfl, hok, fun W hW hp => by
            have := hlow W hW hp
            by_cases eq : cb W = q
            · refine Or.inr ⟨by omega, Nat.le_of_not_lt fun hlt => ?_⟩
              have := hz W hlt hp
              omega
            · exact Or.inl (by omega)⟩ : bst (fun Z => pk (ct 2) (ct 0 13) (mkL (lfO ct sc) Z (ct 0 14)) O) (2 ^ ct 0 14) (nI Z)))
          generalize hLdef : mkL (lfO ct sc) Z (ct 0 14) = L at *
          by_cases r : L.sum < LO
          · rw [if_pos (by rw [qn_lt (by omega) (by omega)]; exact r), e76]
            exact next τ1 g1 (fun hh => by have := psum hh.2; omega)
          · have r99 : ∀ k, k < L.length → L.getD k 0 ≤ 99 := fun k _ => gd_99 mem99 k
            obtain ⟨τ2, f1, f2, f3⟩ := sq_fill (qSC_pk hτ t2) hn (Rf := fun k => L.getD k 0) (by omega) t3 t4 r99 hO
            have eR : rl (fun k => L.getD k 0) L.length = L := rl_list L _ (fun _ _ => rfl)
            have g2 := qfp_trans g1 (qfp_mono f2 (by omega : 60 ≤ 61) (by omega : 61 ≤ 63))
            obtain ⟨x, x1, x2, x3⟩ := f3 O hO2 Sb_refl
            have hpk := isF_pk r99 (by omega) x3
            rw [eR] at hpk
            rw [if_neg (by rw [qn_lt (by omega) (by omega)]; exact r), X5_goesInto, f1, sp_bv_s, qn_in hO2 (by omega), sp_ckt, qn_g (by omega), x2]
            by_cases y : 640 ≤ x
            · rw [if_pos (show (640 : Int32) ≤ nI x from nI_le (a := 640) y (by omega)), sp_pl, show sp_zb (0 : Int32) = true by decide, sp_ckt, sp_bd_s, if_pos rfl, e76]
              exact next τ2 g2 (fun hh => by have := hpk.mpr hh.2; omega)
            · rw [if_neg (show ¬ (640 : Int32) ≤ nI x from nI_ge (b := 640) (by omega) (by omega)), sp_pl, show sp_zb (1 : Int32) = true by decide, sp_ckt, sp_bd_s, if_neg (by decide), X5_fewestSwallowers_73]
              exact Or.inr ⟨τ2, nI Z, rfl, g2, hb (hpk.mp (by omega))⟩
        · rw [if_neg (by rw [qn_eq (by omega) (by omega)]; exact p), e76]
          exact next τ g (fun hh => p hh.1)
  have outer : ∀ f q τ, q ≤ ct 0 14 + 1 → ct 0 14 + 1 - q < f → qfp 60 63 σ τ → (∀ W, W < 2 ^ ct 0 14 → pk (ct 2) (ct 0 13) (mkL (lfO ct sc) W (ct 0 14)) O → q ≤ cb W) → ∃ υ r, X5_fewestSwallowers_28 n f τ (nI O) (nI LO) (nI (ct 0 14)) (nI q) = some (υ, r) ∧ qfp 60 63 σ υ ∧ bst (fun Z => pk (ct 2) (ct 0 13) (mkL (lfO ct sc) Z (ct 0 14)) O) (2 ^ ct 0 14) r := by
    intro f
    induction f with
    | zero => intro q τ _ hf; omega
    | succ f ih =>
      intro q τ hq hf g hlow
      rw [X5_fewestSwallowers_28]
      by_cases e : ct 0 14 < q
      · refine ⟨τ, -1, by rw [if_pos (by rw [qn_lt (by omega) (by omega)]; exact e), X5_fewestSwallowers_88], g, Or.inl ⟨rfl, fun W hW hp => ?_⟩⟩
        have := hlow W hW hp
        have := cb_le (Z := W) (ns := ct 0 14) (by omega) hW
        omega
      · rw [if_neg (by rw [qn_lt (by omega) (by omega)]; exact e), sp_pl]
        rcases inner (X5_fewestSwallowers_28 n f) q (by omega) hlow n 0 τ (Nat.zero_le _) (by omega) g (fun W hW => by omega) with ⟨υ, u1, u2, u3⟩ | ⟨υ, r, u1, u2, u3⟩
        · obtain ⟨υ2, r, y1, y2, y3⟩ := ih (q + 1) υ (by omega) (by omega) u2 u3
          exact ⟨υ2, r, u1.trans y1, y2, y3⟩
        · exact ⟨υ, r, u1, u2, u3⟩
  exact outer n 0 σ (by omega) (by omega) (qfp_refl _) (fun W _ _ => Nat.zero_le _)
end
