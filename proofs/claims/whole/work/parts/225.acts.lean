-- ===== THE ACTS: kept on both sides, refused on both sides =====
section
variable {n j c d m nr : Nat} {σ μ : sp_St} {ct : Nat → Nat → Nat} {cd : List Nat × List Nat} {sc : Nat → Nat} {stk : Nat → List Nat} {hs : Nat → Nat → Nat} {ht : Nat → Nat → List Nat}
theorem O_keep (hn : 5000 ≤ n) (h : O j σ μ c d ct cd sc stk m nr hs ht) : ∃ τ ν m' nr' hs' ht', X1_keepAct n σ 22 = some τ ∧ X12_keep n μ = some ν ∧ O j τ ν c d ct cd sc stk m' nr' hs' ht' ∧ ν.1 0 3 = μ.1 0 3 := by
  obtain ⟨h1, h2, h3, h4, h5, ⟨f1, f2, f3, f4, f5, ⟨s, sb, sd, sa, f6, f7⟩, f8⟩, h7, h8, h9, h10⟩ := h
  obtain ⟨c1, c2, c3, c4, c5⟩ := f4
  obtain ⟨τ, a1, a2, a3, a4, a5, a6, a7⟩ := sq_keepAct (n := n) (t := 22) f1 c1 c2 c3 c4
  obtain ⟨ν, b1, b2, b3, b4, b5, b6, b7⟩ := rq_keep hn c2 f5
  have hK := f1.2.2.2.2.2.1
  have er : ∀ x, rowOf ν x = rowOf μ x := fun x => by
    unfold rowOf
    rw [b4 33 (by omega), b4 34 (by omega), b3 14 (by omega), b3 15 (by omega), b3 16 (by omega), b3 17 (by omega), b3 18 (by omega), b3 19 (by omega)]
  have hC : mC ν ct cd := by
    unfold mC at *
    rw [b3 3 (by omega), b3 7 (by omega), b3 8 (by omega), b3 6 (by omega), b3 10 (by omega), b3 11 (by omega)]
    exact h5
  have hS : qSC τ 23 c ct cd sc := qSC_q (fun p hp => ⟨a3 p (by omega), a4 p (by omega)⟩) (by rw [a2]) (a4 24 (by omega)) f1
  refine ⟨τ, ν, min 40 (m + 1), (nr + 1) % 40, fun i => if i < m - (if m = 40 then 1 else 0) then hs (i + if m = 40 then 1 else 0) else sc, fun i => if i < m - (if m = 40 then 1 else 0) then ht (i + if m = 40 then 1 else 0) else stk, a1, b1, ⟨h1, by rw [a2]; exact h2, by rw [a2]; exact h3, h4, hC, ⟨hS, ?_, f3, ⟨Nat.mod_lt _ (by omega), by omega, a5, a6, fun i hi => ?_⟩, b5, ⟨s, sb, sd, sa, ?_, ?_⟩, ?_⟩, ?_, ?_, ?_, ?_⟩, b4 3 (by omega)⟩
  · have : rowOf ν = rowOf μ := funext er
    rw [this]; exact f2
  · by_cases hlt : i < m - (if m = 40 then 1 else 0)
    · dsimp only
      rw [if_pos hlt, if_pos hlt]
      have hi2 : i + (if m = 40 then 1 else 0) < m := by omega
      obtain ⟨q1, q2, q3⟩ := c5 _ hi2
      refine ⟨fun k hk => ?_, ?_, q3⟩
      · have e1 : ((nr + 1) % 40 + 40 - min 40 (m + 1) + i) % 40 = (nr + 40 - m + (i + if m = 40 then 1 else 0)) % 40 := by
          by_cases z : m = 40
          · rw [if_pos z]; omega
          · rw [if_neg z]; omega
        have e2 : (nr + 40 - m + (i + if m = 40 then 1 else 0)) % 40 ≠ nr := by
          by_cases z : m = 40
          · rw [if_pos z] at hlt ⊢; omega
          · rw [if_neg z] at hlt ⊢; omega
        have e3 : (nr + 40 - m + (i + if m = 40 then 1 else 0)) % 40 < 40 := Nat.mod_lt _ (by omega)
        rw [e1, a7 _ (by omega), if_neg (by omega)]
        exact q1 k hk
      · refine mRow_cong hK.1 hK.2.1 (stk_10 hK.1 q3.2.1) (fun x hx => ?_) q2
        exact b6 i x hlt hx
    · dsimp only
      rw [if_neg hlt, if_neg hlt]
      have hi2 : i = m - (if m = 40 then 1 else 0) := by
        by_cases z : m = 40
        · rw [if_pos z] at hlt ⊢; omega
        · rw [if_neg z] at hlt ⊢; omega
      refine ⟨fun k hk => ?_, ?_, f3⟩
      · have e1 : ((nr + 1) % 40 + 40 - min 40 (m + 1) + i) % 40 = nr := by
          by_cases z : m = 40
          · rw [if_pos z] at hi2; omega
          · rw [if_neg z] at hi2; omega
        rw [e1, a7 _ (by omega), if_pos (by omega), Nat.add_sub_cancel_left]
      · refine mRow_cong hK.1 hK.2.1 (stk_10 hK.1 f3.2.1) (fun x hx => ?_) f2
        rw [hi2]
        exact b7 x hx
  · unfold cSe at *
    rw [a3 (22 + 8) (by omega), a4 (22 + 9) (by omega), a4 (22 + 10) (by omega), a4 (22 + 11) (by omega), b3 29 (by omega), b3 30 (by omega), b3 31 (by omega)]
    exact f6
  · rw [b4 36 (by omega)]; exact f7
  · rw [a4 34 (by omega), b3 12 (by omega)]; exact f8
  · rw [a3 0 (by omega), b4 55 (by omega)]; exact h7
  · rw [b4 55 (by omega), b3 37 (by omega), b3 38 (by omega), b3 39 (by omega), b3 40 (by omega), b3 41 (by omega), b3 42 (by omega), b4 56 (by omega), b4 57 (by omega)]
    rcases h8 with h8 | ⟨h8, h8'⟩
    · exact Or.inl h8
    · refine Or.inr ⟨h8, ?_⟩
      obtain ⟨sc2, stk2, m2, nr2, hs2, ht2, s2, sb2, sd2, sa2, e1, e2, e3, e4, e5, e6, e7, e8⟩ := h8'
      refine ⟨sc2, stk2, m2, nr2, hs2, ht2, s2, sb2, sd2, sa2, qSC_q (fun p hp => ⟨a3 p (by omega), a4 p (by omega)⟩) (by rw [a2]) (a4 _ (by omega)) e1, e2, e3, ?_, e5, ?_, e7, ?_⟩
      · unfold cHs at *; rw [a3 36 (by omega), a4 (36 + 13) (by omega)]; exact e4
      · unfold cSe at *; rw [a3 (36 + 8) (by omega), a4 (36 + 9) (by omega), a4 (36 + 10) (by omega), a4 (36 + 11) (by omega)]; exact e6
      · rw [a4 (36 + 12) (by omega)]; exact e8
  · unfold cTp at *
    rw [a3 0 (by omega), a4 1 (by omega), a4 67 (by omega), b4 15 (by omega), b3 13 (by omega)]
    exact h9
  · rw [a3 0 (by omega), b4 24 (by omega)]; exact h10
/-- one more was refused -/
theorem Inv_ref {k : Nat} (hk : k < 3) (h : Inv j σ μ) : Inv j (sp_sa σ 34 k (σ.2.2.1 34 k + 1)) (sp_sa μ 12 k (μ.2.2.1 12 k + 1)) := by
  obtain ⟨c, d, ct, cd, h1, h2, h3, h4, h5, ⟨sc, stk, m, nr, hs, ht, s, sb, sd, sa, f1, f2, f3, f4, f5, f6, f7, f8⟩, h7, h8, h9, h10⟩ := h
  have p1 : ∀ p, p ≠ 34 → (sp_sa σ 34 k (σ.2.2.1 34 k + 1)).2.2.1 p = σ.2.2.1 p := fun p hp => by funext i; rw [sp_sa_np hp]
  have p2 : ∀ p, p ≠ 12 → (sp_sa μ 12 k (μ.2.2.1 12 k + 1)).2.2.1 p = μ.2.2.1 p := fun p hp => by funext i; rw [sp_sa_np hp]
  have er : rowOf (sp_sa μ 12 k (μ.2.2.1 12 k + 1)) = rowOf μ := by
    funext x
    unfold rowOf
    rw [p2 14 (by omega), p2 15 (by omega), p2 16 (by omega), p2 17 (by omega), p2 18 (by omega), p2 19 (by omega)]
    rfl
  refine ⟨c, d, ct, cd, h1, h2, h3, h4, ?_, ⟨sc, stk, m, nr, hs, ht, s, sb, sd, sa, ?_, ?_, f3, ?_, f5, ?_, f7, ?_⟩, h7, ?_, ?_, h10⟩
  · unfold mC at *
    rw [p2 3 (by omega), p2 7 (by omega), p2 8 (by omega), p2 6 (by omega), p2 10 (by omega), p2 11 (by omega)]
    exact h5
  · exact qSC_q (σ := σ) (fun p hp => ⟨rfl, p1 p (by omega)⟩) rfl (p1 _ (by omega)) f1
  · rw [er]; exact f2
  · unfold cHs at *; rw [p1 (22 + 13) (by omega), p2 20 (by omega)]; exact f4
  · unfold cSe at *; rw [p1 (22 + 9) (by omega), p1 (22 + 10) (by omega), p1 (22 + 11) (by omega), p2 29 (by omega), p2 30 (by omega), p2 31 (by omega)]; exact f6
  · intro i hi
    have hi2 := f8 i hi
    have hi3 := f8 k hk
    show (sp_sa σ 34 k (σ.2.2.1 34 k + 1)).2.2.1 34 i = (sp_sa μ 12 k (μ.2.2.1 12 k + 1)).2.2.1 12 i
    by_cases e : i = k
    · subst e
      rw [sp_sa_eq, sp_sa_eq, ← hi3]
    · rw [sp_sa_nj e, sp_sa_nj e]; exact hi2
  · rw [p2 37 (by omega), p2 38 (by omega), p2 39 (by omega), p2 40 (by omega), p2 41 (by omega), p2 42 (by omega)]
    rcases h8 with h8 | ⟨h8, h8'⟩
    · exact Or.inl h8
    · refine Or.inr ⟨h8, ?_⟩
      obtain ⟨sc2, stk2, m2, nr2, hs2, ht2, s2, sb2, sd2, sa2, e1, e2, e3, e4, e5, e6, e7, e8⟩ := h8'
      refine ⟨sc2, stk2, m2, nr2, hs2, ht2, s2, sb2, sd2, sa2, qSC_q (σ := σ) (fun p hp => ⟨rfl, p1 p (by omega)⟩) rfl (p1 _ (by omega)) e1, e2, e3, ?_, e5, ?_, e7, ?_⟩
      · unfold cHs at *; rw [p1 (36 + 13) (by omega)]; exact e4
      · unfold cSe at *; rw [p1 (36 + 9) (by omega), p1 (36 + 10) (by omega), p1 (36 + 11) (by omega)]; exact e6
      · rw [p1 (36 + 12) (by omega)]; exact e8
  · unfold cTp at *
    rw [p1 1 (by omega), p1 67 (by omega), p2 13 (by omega)]
    exact h9
theorem sq_refuse {k : Nat} (hk : k < 3) : X11_refuse n σ (nI k) = some (sp_sa σ 34 k (σ.2.2.1 34 k + 1), -1) := by
  rw [X11_refuse, if_neg (nI_pos (by omega)), if_neg (show ¬ (3 : Int32) ≤ nI k from nI_ge (b := 3) hk (by omega)), qn_in hk (by omega), sp_ckt, sp_ckt, sp_pl, qn_g (by omega), nI_clamp (by omega)]
  rfl
theorem rq_refuse {k : Nat} (hk : k < 3) : X12_refuse n μ (nI k) = some (sp_sa μ 12 k (μ.2.2.1 12 k + 1), -1) := by
  rw [X12_refuse, qn_in hk (by omega), sp_ckt, sp_ckt, sp_pl, qn_g (by omega), nI_clamp (by omega)]
end
