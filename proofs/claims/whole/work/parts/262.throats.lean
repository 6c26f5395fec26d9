theorem bst_no {ok : Nat → Prop} {Z : Nat} {r : Int32} (h : bst ok Z r) (hn : ¬ ok Z) : bst ok (Z + 1) r := by
  rcases h with ⟨h1, h2⟩ | ⟨B, b1, b2, b3, b4⟩
  · refine Or.inl ⟨h1, fun W hW hp => ?_⟩
    by_cases e : W = Z
    · subst e; exact hn hp
    · exact h2 W (by omega) hp
  · refine Or.inr ⟨B, by omega, b2, b3, fun W hW hp => ?_⟩
    by_cases e : W = Z
    · subst e; exact absurd hp hn
    · exact b4 W (by omega) hp
section
variable {n j c : Nat} {σ μ : sp_St} {ct : Nat → Nat → Nat} {cd : List Nat × List Nat} {sc : Nat → Nat} {stk : Nat → List Nat}
theorem rq_throats (h : mSC μ ct cd sc stk) (hn : 1100 ≤ n) (hu : ∀ s, s < ct 0 14 → qus ct sc s ≤ sc (30 + s)) (h99 : ∀ s, s < ct 0 14 → lfO ct sc s ≤ 99) {O : Nat} (hO2 : O < 1024) : ∃ ν r, X12_throats_15 n n μ (nI O) (-1) (nI 0) = some (ν, r) ∧ m28 μ ν ∧ bst (fun Z => pk (ct 2) (ct 0 13) (mkL (lfO ct sc) Z (ct 0 14)) O) (2 ^ ct 0 14) r := by
  have hb10 := h.2.2.2.1.1
  have hs5 := h.2.2.2.1.2.1
  have p5 : 2 ^ ct 0 14 ≤ 32 := (Nat.pow_le_pow_right (by decide) hs5 : 2 ^ ct 0 14 ≤ 2 ^ 5)
  have row : ∀ (k15 : sp_St → Int32 → Int32 → Int32 → Option (sp_St × Int32)) (z2 : Int32) Z k, Z < 32 → (Z = 0 ∧ k = 0 ∨ Z.testBit k = true ∧ (∀ i, i < k → Z.testBit i = false) ∧ k < ct 0 14) → ∀ f t ν, t ≤ O + 1 → O + 1 - t < f → m28 μ ν → (∀ Y, Y < Z → t28 ν (ct 2) (ct 0 13) (mkL (lfO ct sc) Y (ct 0 14)) O (Y * 1024) 1024) → t28 ν (ct 2) (ct 0 13) (mkL (lfO ct sc) Z (ct 0 14)) O (Z * 1024) t → ∃ ν', X12_throats_62 n k15 f ν (nI O) z2 (nI Z) (nI k) (nI (qd Z (2 ^ k))) (nI t) = X12_throats_217 n k15 ν' (nI O) z2 (nI Z) ∧ m28 μ ν' ∧ ∀ Y, Y ≤ Z → t28 ν' (ct 2) (ct 0 13) (mkL (lfO ct sc) Y (ct 0 14)) O (Y * 1024) 1024 := by
    intro k15 z2 Z k hZ hk f
    induction f with
    | zero => intro t ν _ hf; omega
    | succ f ih =>
      intro t ν ht hf g gR gT
      rw [X12_throats_62]
      by_cases e : O < t
      · refine ⟨ν, by rw [if_pos (by rw [qn_lt (by omega) (by omega)]; exact e)], g, fun Y hY => ?_⟩
        by_cases es : Y = Z
        · subst es; exact fun T _ hT => gT T (Nat.lt_of_le_of_lt (Sb_le hT) e) hT
        · exact gR Y (by omega)
      · have e211 : ∀ (υ : sp_St), X12_throats_211 n k15 (X12_throats_62 n k15 f) υ (nI O) z2 (nI Z) (nI k) (nI (qd Z (2 ^ k))) (nI t) = X12_throats_62 n k15 f υ (nI O) z2 (nI Z) (nI k) (nI (qd Z (2 ^ k))) (nI (t + 1)) := fun υ => by rw [X12_throats_211, sp_pl, nI_1]
        rw [if_neg (by rw [qn_lt (by omega) (by omega)]; exact e)]
        by_cases p : Sb t O
        · obtain ⟨y, y1, y2, y3⟩ := rq_cell (mSC_28 h g) hn hu h99 (k15 := k15) (k62 := X12_throats_62 n k15 f) (z1 := nI O) (z2 := z2) hZ hk (show t < 1024 by omega) p gR
          rw [if_pos (by rw [qn_dif0 (by omega)]; exact p), sp_pl, y2, e211]
          refine ih (t + 1) _ (by omega) (by omega) (m28_sa g) (fun Y hY T hT hTO => ?_) (fun T hT hTO => ?_)
          · rw [sp_sa_nj (by omega)]; exact gR Y hY T hT hTO
          · by_cases eT : T = t
            · subst eT; exact ⟨y, y1, sp_sa_eq, y3⟩
            · rw [sp_sa_nj (by omega)]; exact gT T (by omega) hTO
        · rw [if_neg (by rw [qn_dif0 (by omega)]; exact p), e211]
          refine ih (t + 1) ν (by omega) (by omega) g gR (fun T hT hTO => gT T ?_ hTO)
          have : T ≠ t := fun e => by subst e; exact p hTO
          omega
  have find : ∀ (k15 : sp_St → Int32 → Int32 → Int32 → Option (sp_St × Int32)) (z2 : Int32) (ν : sp_St) Z, Z < 2 ^ ct 0 14 → 1 ≤ Z → ∀ f k, ct 0 14 - k < f → k ≤ ct 0 14 → (∀ i, i < k → Z.testBit i = false) → ∃ k', Z.testBit k' = true ∧ (∀ i, i < k' → Z.testBit i = false) ∧ k' < ct 0 14 ∧ X12_throats_30 n k15 f ν (nI O) z2 (nI Z) (nI k) = X12_throats_49 n k15 ν (nI O) z2 (nI Z) (nI k') := by
    intro k15 z2 ν Z hZ hZ1 f
    induction f with
    | zero => intro k hf; omega
    | succ f ih =>
      intro k hf hk hlow
      obtain ⟨b, b1, b2⟩ := any_bit hZ (by omega)
      have : k ≤ b := Nat.le_of_not_lt fun hlt => by rw [hlow b hlt] at b2; cases b2
      rw [X12_throats_30, if_neg (show ¬ nI Z ≤ 0 from by show ¬ nI Z ≤ nI 0; rw [qn_le (by omega) (by omega)]; omega), rq_isOf (by omega) (by omega), sp_bd_s]
      cases p : Z.testBit k with
      | true => exact ⟨k, p, hlow, by omega, by rw [if_pos rfl, if_neg n10]⟩
      | false =>
        rw [show (if false = true then nI 1 else nI 0) = nI 0 from rfl, if_pos n00, sp_pl, nI_1]
        have : k ≠ b := fun e => by subst e; rw [p] at b2; cases b2
        exact ih (k + 1) (by omega) (by omega) (fun i hi => by
          by_cases e : i = k
          · subst e; exact p
          · exact hlow i (by omega))
  have outer : ∀ f Z ν r, Z ≤ 2 ^ ct 0 14 → 2 ^ ct 0 14 - Z < f → m28 μ ν → (∀ Y, Y < Z → t28 ν (ct 2) (ct 0 13) (mkL (lfO ct sc) Y (ct 0 14)) O (Y * 1024) 1024) → bst (fun Z => pk (ct 2) (ct 0 13) (mkL (lfO ct sc) Z (ct 0 14)) O) Z r → ∃ ν' r', X12_throats_15 n f ν (nI O) r (nI Z) = some (ν', r') ∧ m28 μ ν' ∧ bst (fun Z => pk (ct 2) (ct 0 13) (mkL (lfO ct sc) Z (ct 0 14)) O) (2 ^ ct 0 14) r' := by
    intro f
    induction f with
    | zero => intro Z ν r _ hf; omega
    | succ f ih =>
      intro Z ν r hZ hf g gR hb
      have w31 : sp_g ν 3 (1 : Int32) = nI (ct 0 14) := by
        show ν.2.2.1 3 1 = _
        rw [g.2.2 3 (by omega)]; exact h.1.1
      rw [X12_throats_15, w31, show (1 : Int32) <<< (nI (ct 0 14) &&& 31) = nI (2 ^ ct 0 14) from qn_sh1 (by omega)]
      by_cases e : Z = 2 ^ ct 0 14
      · subst e
        exact ⟨ν, r, by rw [if_pos (Int32.le_refl _), X12_throats_255], g, hb⟩
      · have hZ2 : Z < 2 ^ ct 0 14 := by omega
        rw [if_neg (nI_ge hZ2 (by omega)), sp_pl]
        have go : ∃ k, (Z = 0 ∧ k = 0 ∨ Z.testBit k = true ∧ (∀ i, i < k → Z.testBit i = false) ∧ k < ct 0 14) ∧ X12_throats_30 n (X12_throats_15 n f) n ν (nI O) r (nI Z) 0 = X12_throats_49 n (X12_throats_15 n f) ν (nI O) r (nI Z) (nI k) := by
          by_cases e0 : Z = 0
          · subst e0
            obtain ⟨n', hn'⟩ : ∃ n', n = n' + 1 := ⟨n - 1, by omega⟩
            refine ⟨0, Or.inl ⟨rfl, rfl⟩, ?_⟩
            have : ∀ m, 1 ≤ m → X12_throats_30 n (X12_throats_15 n f) m ν (nI O) r (nI 0) 0 = X12_throats_49 n (X12_throats_15 n f) ν (nI O) r (nI 0) (nI 0) := fun m hm => by
              obtain ⟨m, rfl⟩ : ∃ m', m = m' + 1 := ⟨m - 1, by omega⟩
              rw [X12_throats_30, if_pos (show nI 0 ≤ 0 by decide)]
              rfl
            exact this n (by omega)
          · obtain ⟨k, k1, k2, k3, k4⟩ := find (X12_throats_15 n f) r ν Z hZ2 (by omega) n 0 (by omega) (by omega) (fun i hi => by omega)
            exact ⟨k, Or.inr ⟨k1, k2, k3⟩, k4⟩
        obtain ⟨k, hk, ek⟩ := go
        have k31 : k < 31 := by rcases hk with ⟨_, rfl⟩ | ⟨_, _, hk⟩ <;> omega
        rw [ek, X12_throats_49, sp_pl, sp_pl, show (1 : Int32) <<< (nI k &&& 31) = nI (2 ^ k) from qn_sh1 k31, show nI Z &&& (nI (2 ^ k) ^^^ (-1 : Int32)) = nI (qd Z (2 ^ k)) from qn_dif _ _]
        obtain ⟨ν1, v1, v2, v3⟩ := row (X12_throats_15 n f) r Z k (by omega) hk n 0 ν (by omega) (by omega) g gR (fun T hT => by omega)
        rw [show (0 : Int32) = nI 0 from rfl, v1]
        obtain ⟨x, x1, x2, x3⟩ := v3 Z (Nat.le_refl _) O hO2 Sb_refl
        have e249 : ∀ (z : Int32), X12_throats_249 n (X12_throats_15 n f) ν1 (nI O) z (nI Z) = X12_throats_15 n f ν1 (nI O) z (nI (Z + 1)) := fun z => by rw [X12_throats_249, sp_pl, nI_1]
        have next : ∀ z, bst (fun Z => pk (ct 2) (ct 0 13) (mkL (lfO ct sc) Z (ct 0 14)) O) (Z + 1) z → _ := fun z hz => ih (Z + 1) ν1 z (by omega) (by omega) v2 (fun Y hY => v3 Y (by omega)) hz
        rw [X12_throats_217, ix10 (by omega) hO2, qn_in (by omega) (by omega), sp_ckt, qn_g (by omega), x2]
        by_cases ex : x = 1
        · subst ex
          have hok := x3.mp rfl
          rw [if_neg n10]
          rcases hb with ⟨b1, b2⟩ | ⟨B, b1, b2, b3, b4⟩
          · rw [if_pos b1, X12_throats_247, e249]
            refine next _ (Or.inr ⟨Z, by omega, rfl, hok, fun W hW hp => ?_⟩)
            by_cases eW : W = Z
            · subst eW; exact Or.inr ⟨rfl, Nat.le_refl _⟩
            · exact absurd hp (b2 W (by omega))
          · subst b2
            have cZ := cb_le (Z := Z) (ns := ct 0 14) (by omega) hZ2
            have cB := cb_le (Z := B) (ns := ct 0 14) (by omega) (by omega)
            rw [if_neg (show ¬ nI B = (-1 : Int32) from by show ¬ nI B = -nI 1; rw [qn_meq (by omega)]; exact id), rq_bitsOf (by omega) (by omega), sp_bd_s, rq_bitsOf (by omega) (by omega), sp_bd_s]
            rw [show qc (fun k => Z.testBit k) 10 = cb Z from rfl, show qc (fun k => B.testBit k) 10 = cb B from rfl]
            by_cases le : cb B ≤ cb Z
            · rw [if_pos (by rw [qn_le (by omega) (by omega)]; exact le), e249]
              refine next _ (Or.inr ⟨B, by omega, rfl, b3, fun W hW hp => ?_⟩)
              by_cases eW : W = Z
              · subst eW; omega
              · exact b4 W (by omega) hp
            · rw [if_neg (by rw [qn_le (by omega) (by omega)]; exact le), X12_throats_247, e249]
              refine next _ (Or.inr ⟨Z, by omega, rfl, hok, fun W hW hp => ?_⟩)
              by_cases eW : W = Z
              · subst eW; exact Or.inr ⟨rfl, Nat.le_refl _⟩
              · have := b4 W (by omega) hp; omega
        · obtain rfl : x = 0 := by omega
          rw [if_pos n00, e249]
          exact next r (bst_no hb (fun hp => by have := x3.mpr hp; omega))
  exact outer n 0 μ (-1) (Nat.zero_le _) (by omega) (m28_refl _) (fun Y hY => by omega) (Or.inl ⟨rfl, fun W hW => by omega⟩)
theorem mq_28 {ν : sp_St} (h : m28 μ ν) : mq μ ν := ⟨fun p hp => h.2.2 p (by omega), fun k _ => by rw [h.1]⟩
theorem op_throats (hn : 5000 ≤ n) (h : Inv j σ μ) : agi j (X11_throats n σ) (X12_throats n μ) := by
  obtain ⟨c, ct, cd, sc, stk, hI, h3, hS, hM, hG, hD, hc⟩ := Inv_now h
  rw [X12_throats, sp_pl, X11_throats]
  generalize sp_si μ 0 3 0 = μ1 at *
  have hb10 := hS.2.2.2.2.2.1.1
  have hn2 : 1100 ≤ n := by omega
  have hu := hG.1.2.2.2.1
  have h99 : ∀ s, s < ct 0 14 → lfO ct sc s ≤ 99 := fun s hs => by have := hG.1.2.2.2.2.1 s hs; unfold lfO; omega
  have hO := bs_lt (fun b => decide (sc (10 + b) = 0)) (ct 0 13)
  have hO2 : bs (fun b => decide (sc (10 + b) = 0)) (ct 0 13) < 1024 := Nat.lt_of_lt_of_le hO (Nat.pow_le_pow_right (by decide) hb10 : 2 ^ ct 0 13 ≤ 2 ^ 10)
  obtain ⟨τ, r, t1, t2, t3⟩ := sq_throats hS hn2 hu h99
  obtain ⟨ν, q, n1, n2, n3⟩ := rq_throats hM hn2 hu h99 hO2
  obtain rfl : r = q := bst_u t3 n3
  rw [show X12_whereSet n μ1 (0 : Int32) = X12_whereSet n μ1 (nI 0) from rfl, rq_whereSet hM (by omega) (by omega), outs_eq, sp_bd_s, sp_pl, sp_pl, t1, sp_bd_s, show (0 : Int32) = nI 0 from rfl, n1]
  exact ⟨τ, ν, r, rfl, rfl, Inv_q hI (cq_pk t2) (mq_28 n2)⟩
end
