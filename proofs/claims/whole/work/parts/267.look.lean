section
variable {n j c s : Nat} {σ μ : sp_St} {ct : Nat → Nat → Nat} {cd : List Nat × List Nat} {sc : Nat → Nat} {stk : Nat → List Nat} {sb sd sa : Nat → Nat}
theorem rq_best {N len : Nat} {x : Nat → Nat → Nat} {D : Nat → Nat} (z1 : Int32) (hn : 1100 ≤ n) (hN : N ≤ 10) (hL : len ≤ 1000) (h3 : μ.2.2.1 3 2 = nI N) (h51 : μ.1 0 51 = nI len) (h34 : ∀ z, z < len → ∀ i, i < N → μ.2.2.1 34 (10 * z + i) = nI (x i z)) (h99 : ∀ i, i < N → ∀ z, z < len → x i z ≤ 99) (hD : ∀ i, i < N → D i = qc (sA (x i) len) 100) : ∃ ν, X12_look_124 n n μ z1 (-1) (nI 0) (nI 0) = some (ν, if z1 = 0 then (bf D N).1 else nI (bf D N).2) ∧ ν.1 = μ.1 ∧ ν.2.1 = μ.2.1 ∧ ∀ p, p ≠ 35 → ν.2.2.1 p = μ.2.2.1 p := by
  have bd : ∀ i, i ≤ N → (bf D i).2 ≤ 100 := by
    intro i
    induction i with
    | zero => intro _; exact Nat.zero_le _
    | succ i ih =>
      intro hi
      have h1 := ih (by omega)
      have h2 : D i ≤ 100 := by rw [hD i (by omega)]; exact qc_le _ _
      rw [bf]
      by_cases p : D i ≤ (bf D i).2
      · rw [if_pos p]; exact h1
      · rw [if_neg p]; exact h2
  have loop : ∀ f i u, i ≤ N → N - i < f → u.1 = μ.1 → u.2.1 = μ.2.1 → (∀ p, p ≠ 35 → u.2.2.1 p = μ.2.2.1 p) → ∃ ν, X12_look_124 n f u z1 (bf D i).1 (nI (bf D i).2) (nI i) = some (ν, if z1 = 0 then (bf D N).1 else nI (bf D N).2) ∧ ν.1 = μ.1 ∧ ν.2.1 = μ.2.1 ∧ ∀ p, p ≠ 35 → ν.2.2.1 p = μ.2.2.1 p := by
    intro f
    induction f with
    | zero => intro i u _ hf; omega
    | succ f ih =>
      intro i u hi hf g1 g2 g3
      have w3 : sp_g u 3 (2 : Int32) = nI N := by
        show u.2.2.1 3 2 = _
        rw [g3 3 (by omega)]; exact h3
      rw [X12_look_124, w3]
      by_cases e : i = N
      · subst e
        exact ⟨u, by rw [if_pos (Int32.le_refl _), X12_look_164, sp_pl], g1, g2, g3⟩
      · have hi2 : i < N := by omega
        obtain ⟨ν, v1, v2, v3, v4⟩ := rq_unlike (μ := u) (i := i) (L := len) (x := x i) hn (by omega) hL (by rw [g1]; exact h51) (fun z hz => by rw [g3 34 (by omega)]; exact h34 z hz i hi2) (h99 i hi2)
        have k1 := v2.trans g1
        have k2 := v3.trans g2
        have k3 : ∀ p, p ≠ 35 → ν.2.2.1 p = μ.2.2.1 p := fun p hp => (v4 p hp).trans (g3 p hp)
        have e158 : ∀ (a b : Int32), X12_look_158 n (X12_look_124 n f) ν z1 a b (nI i) = X12_look_124 n f ν z1 a b (nI (i + 1)) := fun a b => by rw [X12_look_158, sp_pl, nI_1]
        have b1 := bd i hi
        have b2 : D i ≤ 100 := by rw [hD i hi2]; exact qc_le _ _
        have ih := ih (i + 1) ν (by omega) (by omega) k1 k2 k3
        rw [if_neg (nI_ge hi2 (by omega)), v1, sp_bd_s, ← hD i hi2]
        rw [bf] at ih
        by_cases p : D i ≤ (bf D i).2
        · rw [if_pos p] at ih
          rw [if_neg (by rw [qn_lt (by omega) (by omega)]; omega), e158]
          exact ih
        · rw [if_neg p] at ih
          rw [if_pos (by rw [qn_lt (by omega) (by omega)]; omega), e158]
          exact ih
  exact loop n 0 μ (by omega) (by omega) rfl rfl (fun _ _ => rfl)
theorem rq_look35 {L : List Nat} (z1 : Int32) (hM : mSC μ ct cd sc stk) (hn : 1100 ≤ n) (hI : qI ct sc) (hD : qcd cd) (h47 : sc 47 ≤ 999) (hL : L.length ≤ 1000) (hmem : ∀ z, z < L.length → L.getD z 0 < 100 * ct 0 13) : ∀ f z u, z ≤ L.length → L.length - z < f → mw μ u → (∀ x, x < 88 → u.2.2.1 25 x = rowOf μ x) → u.1 0 51 = nI L.length → (∀ k, k < L.length → u.2.2.1 33 k = nI (L.getD k 0)) → (∀ z', z' < z → ∀ k, k < ct 0 13 → u.2.2.1 34 (10 * z' + k) = nI (sD ct cd sc (L.getD z' 0) k)) → ∃ ν, X12_look_35 n f u z1 (nI z) = X12_look_117 n ν z1 ∧ mw μ ν ∧ ν.1 0 51 = nI L.length ∧ ∀ z', z' < L.length → ∀ k, k < ct 0 13 → ν.2.2.1 34 (10 * z' + k) = nI (sD ct cd sc (L.getD z' 0) k) := by
  have hK := hM.2.2.2.1
  have hb10 := hK.1
  intro f
  induction f with
  | zero => intro z u _ hf; omega
  | succ f ih =>
    intro z u hz hf g1 g2 g3 g4 g5
    rw [X12_look_35, g3]
    by_cases e : z = L.length
    · subst e
      exact ⟨u, by rw [if_pos (Int32.le_refl _)], g1, g3, g5⟩
    · have hz2 : z < L.length := by omega
      have hq := hmem z hz2
      have g33 : sp_g u 33 (nI z) = nI (L.getD z 0) := by rw [qn_g (by omega)]; exact g4 z hz2
      have es : sD ct cd sc (L.getD z 0) = qdn ct cd (qu sc (L.getD z 0 / 100) (L.getD z 0 % 100)) 3 := rfl
      generalize hqd : L.getD z 0 = q at *
      have hb : q / 100 < ct 0 13 := by omega
      have hv : q % 100 ≤ 99 := by omega
      have hw := mSC_set (mSC_w hM g1) hb (show q % 100 < 1048576 by omega)
      obtain ⟨w, w1, ⟨stk', w2⟩, w3, _⟩ := rq_goOn hw (by omega : 1000 ≤ n) (qI_ang hK hI hb hv) hD (by rw [qu_n (by omega)]; omega) (k := 3) (by omega)
      have w14 : ∀ k, k < ct 0 13 → w.2.2.1 14 k = nI (sD ct cd sc q k) := fun k hk => w2.2.1.2.2.1 k hk
      have same : ∀ p, p < 14 ∨ p = 20 ∨ 24 < p → w.2.2.1 p = u.2.2.1 p := fun p hp => by
        rw [w3.2.1 p hp]
        funext y; rw [sp_sa_np (by omega)]
      have fld : ∀ k, k ≠ 33 → k ≠ 34 → w.1 0 k = u.1 0 k := fun k a b => w3.2.2 k a b
      rw [if_neg (nI_ge hz2 (by omega)), qn_in (by omega) (by omega), sp_ckt, show (!decide ((100 : Int32) = 0)) = true by decide, sp_ckt, sp_ckt, sp_ckt, g33, show nI q / (100 : Int32) = nI (q / 100) from pk_div (d := 100) (by omega) (by omega) (by omega), qn_in (by omega) (by omega), sp_ckt, nI_clamp (by omega), show nI q - nI (q / 100) * (100 : Int32) = nI (q % 100) from by rw [show nI (q / 100) * (100 : Int32) = nI (q / 100 * 100) from pk_mul _ 100, qn_sub (by omega)]; congr 1; omega, sp_pl, show (3 : Int32) = nI 3 from rfl, w1, sp_bv_s, sp_pl]
      have copy : ∀ f2 k y, k ≤ 10 → 10 - k < f2 → y.1 = w.1 → (∀ p, p ≠ 34 → y.2.2.1 p = w.2.2.1 p) → (∀ k', k' < k → y.2.2.1 34 (10 * z + k') = w.2.2.1 14 k') → (∀ i, i < 10 * z → y.2.2.1 34 i = u.2.2.1 34 i) → ∃ y', X12_look_73 n (X12_look_35 n f) f2 y z1 (nI z) (nI k) = X12_look_102 n (X12_look_35 n f) y' z1 (nI z) ∧ y'.1 = w.1 ∧ (∀ p, p ≠ 34 → y'.2.2.1 p = w.2.2.1 p) ∧ (∀ k', k' < 10 → y'.2.2.1 34 (10 * z + k') = w.2.2.1 14 k') ∧ ∀ i, i < 10 * z → y'.2.2.1 34 i = u.2.2.1 34 i := by
        intro f2
        induction f2 with
        | zero => intro k y _ hf; omega
        | succ f2 ih2 =>
          intro k y hk hf2 y1 y2 y3 y4
          rw [X12_look_73]
          by_cases e : k = 10
          · subst e
            exact ⟨y, by rw [if_pos (show (10 : Int32) ≤ nI 10 by decide)], y1, y2, y3, y4⟩
          · rw [if_neg (show ¬ (10 : Int32) ≤ nI k from nI_ge (b := 10) (by omega) (by omega)), qn_in (by omega) (by omega), sp_ckt, show (10 : Int32) * nI z = nI (10 * z) from pk_mul 10 z, nI_add, qn_in (by omega) (by omega), sp_ckt, nI_clamp (by omega), sp_pl, sp_pl, nI_1, qn_g (by omega), y2 14 (by omega)]
            refine ih2 (k + 1) _ (by omega) (by omega) y1 (fun p hp => ?_) (fun k' hk' => ?_) (fun i hi => ?_)
            · rw [← y2 p hp]; funext t; rw [sp_sa_np hp]
            · by_cases ek : k' = k
              · subst ek; rw [sp_sa_eq]
              · rw [sp_sa_nj (by omega)]; exact y3 k' (by omega)
            · rw [sp_sa_nj (by omega)]; exact y4 i hi
      obtain ⟨y, c1, c2, c3, c4, c5⟩ := copy n 0 w (by omega) (by omega) rfl (fun _ _ => rfl) (fun k' hk' => by omega) (fun i _ => by rw [same 34 (by omega)])
      have dy : mD 25 μ y := ⟨fun x hx => by rw [c3 25 (by omega), same 25 (by omega)]; exact g2 x hx, fun p hp => by rw [c3 p (by omega), same p (by omega)]; exact g1.2.1 p hp, fun k hk => by rw [c2, fld k (by omega) (by omega)]; exact g1.2.2 k hk⟩
      obtain ⟨ν, n1, n2, n3, n4⟩ := md_end dy (by omega : 100 ≤ n) (by omega)
      rw [show (0 : Int32) = nI 0 from rfl, c1, X12_look_102, n1, sp_bv_s, sp_pl, nI_1]
      refine ih (z + 1) ν (by omega) (by omega) n2 (fun x hx => ?_) ?_ (fun k hk => ?_) (fun z' hz' k hk => ?_)
      · rw [n3 25 (by omega)]; exact dy.1 x hx
      · rw [n4 51 (by omega) (by omega), c2, fld 51 (by omega) (by omega)]; exact g3
      · rw [n3 33 (by omega), c3 33 (by omega), same 33 (by omega)]; exact g4 k hk
      · rw [n3 34 (by omega)]
        by_cases ez : z' = z
        · subst ez
          rw [c4 k (by omega), hqd]; exact w14 k hk
        · rw [c5 _ (by omega)]; exact g5 z' (by omega) k hk
end
