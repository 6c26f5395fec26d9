-- ===== camps, parts =====
section
variable {n j c : Nat} {σ μ : sp_St} {ct : Nat → Nat → Nat} {cd : List Nat × List Nat} {sc : Nat → Nat} {stk : Nat → List Nat}
theorem bit_0 {a i : Nat} (ha : a < 64) (hi : i < 6) : ((nI a >>> (nI i &&& 31)) &&& 1 = 0) = (a.testBit i = false) := qn_bit0 (by omega) (by omega)
theorem sq_foSet (h : qSC σ 23 c ct cd sc) (hn : 100 ≤ n) {S : Nat} (hS : S < 64) : X6_foesOfSet n σ (nI S) = some (σ, nI (fo (fun h => sc (35 + h)) S)) := by
  rw [X6_foesOfSet, sp_pl, sp_pl]
  refine lp_up (fun f i => X6_foesOfSet_4 n f σ (nI S) (nI (foI (fun h => sc (35 + h)) S i)) (nI i)) 6 _ (fun f => ?_) (fun f i hi => ?_) n 0 (by omega) (by omega)
  · rw [X6_foesOfSet_4, if_pos (show (6 : Int32) ≤ nI 6 by decide), X6_foesOfSet_36]
    rfl
  · have e : (35 : Int32) + nI i = nI (35 + i) := nI_add 35 i
    have g : sp_g σ 24 (nI (35 + i)) = nI (sc (35 + i)) := by rw [qn_g (by omega)]; exact h.2.2.2.2.1 (35 + i) (by omega)
    rw [X6_foesOfSet_4, if_neg (show ¬ (6 : Int32) ≤ nI i from nI_ge (b := 6) hi (by omega)), foI]
    cases p : S.testBit i with
    | false => rw [if_pos (by rw [bit_0 hS hi]; exact p), X6_foesOfSet_30, sp_pl, nI_1, if_neg (by decide)]
    | true => rw [if_neg (by rw [bit_0 hS hi, p]; decide), e, qn_in (by omega) (by omega), sp_ckt, g, sp_pl, X6_foesOfSet_30, sp_pl, nI_1, qn_or, if_pos rfl]
theorem sq_campOf (h : qSC σ 23 c ct cd sc) (hn : 100 ≤ n) (hF : ∀ h, h < 6 → sc (35 + h) < 64) {k : Nat} (hk : k < 6) : X6_campOf n σ (nI k) = some (σ, nI (cI (fun h => sc (35 + h)) k 6)) := by
  rw [X6_campOf, sp_pl, sp_pl, show (1 : Int32) <<< (nI k &&& 31) = nI (2 ^ k) from qn_sh1 (by omega)]
  refine lp_up (fun f i => X6_campOf_6 n f σ (nI (cI (fun h => sc (35 + h)) k i)) (nI i)) 6 _ (fun f => ?_) (fun f i hi => ?_) n 0 (by omega) (by omega)
  · rw [X6_campOf_6, if_pos (show (6 : Int32) ≤ nI 6 by decide), X6_campOf_30]
  · rw [X6_campOf_6, if_neg (show ¬ (6 : Int32) ≤ nI i from nI_ge (b := 6) hi (by omega)), sq_foSet h hn (cI_lt hF hk i), sp_bd_s, sq_foSet h hn (fo_lt hF _), sp_bd_s, sp_pl, sp_pl, nI_1, qn_or]
    rfl
theorem kc_lt {F : Nat → Nat} (hF : ∀ h, h < 6 → F h < 64) : ∀ i, i ≤ 6 → ∀ x, kc F i = some x → x.1 < 64 ∧ x.2 < 64 := by
  intro i
  induction i with
  | zero => intro _ x hx; rw [kc] at hx; cases hx; exact ⟨by decide, by decide⟩
  | succ i ih =>
    intro hi x hx
    rw [kc] at hx
    cases e : kc F i with
    | none => rw [e] at hx; cases hx
    | some y =>
      have hy := ih (by omega) y e
      rw [e] at hx
      dsimp only at hx
      by_cases p : F i = 0 ∨ y.2.testBit i = true
      · rw [if_pos p] at hx; cases hx; exact hy
      · rw [if_neg p] at hx
        by_cases z : cI F i 6 &&& fo F (cI F i 6) = 0
        · rw [if_pos z] at hx
          cases hx
          exact ⟨Nat.or_lt_two_pow (n := 6) hy.1 (cI_lt hF (by omega) 6), Nat.or_lt_two_pow (n := 6) hy.2 (cmp_lt hF (by omega))⟩
        · rw [if_neg z] at hx; cases hx
theorem sq_camps (h : qSC σ 23 c ct cd sc) (hn : 100 ≤ n) (hF : ∀ h, h < 6 → sc (35 + h) < 64) : X6_firstCamp n σ = some (σ, match kc (fun h => sc (35 + h)) 6 with
    | none => -1
    | some x => nI x.1) := by
  have key : ∀ f i x, i ≤ 6 → 6 - i < f → kc (fun h => sc (35 + h)) i = some x → X6_firstCamp_6 n f σ (nI x.1) (nI x.2) (nI i) = some (σ, match kc (fun h => sc (35 + h)) 6 with
      | none => -1
      | some x => nI x.1) := by
    intro f
    induction f with
    | zero => intro i x _ hf; omega
    | succ f ih =>
      intro i x hi hf hx
      by_cases e : i = 6
      · subst e
        rw [X6_firstCamp_6, if_pos (show (6 : Int32) ≤ nI 6 by decide), X6_firstCamp_76, hx]
      · have hi2 : i < 6 := by omega
        obtain ⟨x1, x2⟩ := kc_lt hF i hi x hx
        have e35 : (35 : Int32) + nI i = nI (35 + i) := nI_add 35 i
        have g : sp_g σ 24 (nI (35 + i)) = nI (sc (35 + i)) := by rw [qn_g (by omega)]; exact h.2.2.2.2.1 (35 + i) (by omega)
        have hFi := hF i hi2
        have e70 : ∀ (a b : Int32), X6_firstCamp_70 n (X6_firstCamp_6 n f) σ a b (nI i) = X6_firstCamp_6 n f σ a b (nI (i + 1)) := fun a b => by rw [X6_firstCamp_70, sp_pl, nI_1]
        have hs : kc (fun h => sc (35 + h)) (i + 1) = if sc (35 + i) = 0 ∨ x.2.testBit i = true then some x else if cI (fun h => sc (35 + h)) i 6 &&& fo (fun h => sc (35 + h)) (cI (fun h => sc (35 + h)) i 6) = 0 then some (x.1 ||| cI (fun h => sc (35 + h)) i 6, x.2 ||| cmp (fun h => sc (35 + h)) i) else none := by rw [kc, hx]
        rw [X6_firstCamp_6, if_neg (show ¬ (6 : Int32) ≤ nI i from nI_ge (b := 6) hi2 (by omega)), e35, qn_in (by omega) (by omega), sp_ckt, g]
        by_cases p1 : sc (35 + i) = 0
        · rw [p1, if_pos n00, e70]
          exact ih (i + 1) x (by omega) (by omega) (by rw [hs, if_pos (Or.inl p1)])
        · rw [if_neg (show ¬ nI (sc (35 + i)) = 0 from by show ¬ nI (sc (35 + i)) = nI 0; rw [qn_eq (by omega) (by omega)]; exact p1)]
          cases p2 : x.2.testBit i with
          | true =>
            rw [if_neg (by rw [bit_0 x2 hi2, p2]; decide), e70]
            exact ih (i + 1) x (by omega) (by omega) (by rw [hs, if_pos (Or.inr p2)])
          | false =>
            have pn : ¬ (sc (35 + i) = 0 ∨ x.2.testBit i = true) := by rw [p2]; simp [p1]
            rw [if_neg pn] at hs
            have l1 := cI_lt (F := fun h => sc (35 + h)) hF hi2 6
            have l2 := fo_lt (F := fun h => sc (35 + h)) hF (cI (fun h => sc (35 + h)) i 6)
            rw [if_pos (by rw [bit_0 x2 hi2]; exact p2), sq_campOf h hn hF hi2, sp_bd_s, sq_foSet h hn l1, sp_bd_s, qn_and]
            have l3 : cI (fun h => sc (35 + h)) i 6 &&& fo (fun h => sc (35 + h)) (cI (fun h => sc (35 + h)) i 6) < 64 := Nat.lt_of_le_of_lt Nat.and_le_left l1
            by_cases z : cI (fun h => sc (35 + h)) i 6 &&& fo (fun h => sc (35 + h)) (cI (fun h => sc (35 + h)) i 6) = 0
            · rw [if_pos z] at hs
              rw [z, if_pos n00, sp_pl, sp_pl, qn_or, qn_or, qn_or, e70]
              exact ih (i + 1) _ (by omega) (by omega) hs
            · rw [if_neg z] at hs
              rw [if_neg (show ¬ nI (cI (fun h => sc (35 + h)) i 6 &&& fo (fun h => sc (35 + h)) (cI (fun h => sc (35 + h)) i 6)) = 0 from by
                show ¬ nI _ = nI 0
                rw [qn_eq (by omega) (by omega)]
                exact z), X6_firstCamp_55]
              have : ∀ k, i + 1 ≤ k → kc (fun h => sc (35 + h)) k = none := by
                intro k
                induction k with
                | zero => intro h; omega
                | succ k ihk =>
                  intro hk
                  by_cases ek : k = i
                  · subst ek; exact hs
                  · rw [kc, ihk (by omega)]
              rw [this 6 (by omega)]
  rw [X6_firstCamp, sp_pl, sp_pl, sp_pl]
  exact key n 0 (0, 0) (by omega) (by omega) rfl
theorem rq_camps (h : mSC μ ct cd sc stk) (hn : 100 ≤ n) (hF : ∀ h, h < 6 → sc (35 + h) < 64) : X12_camps_11 n n μ 0 0 0 = some (μ, if (rm (fun h => sc (35 + h)) 6).1 &&& (rm (fun h => sc (35 + h)) 6).2 = 0 then nI (rm (fun h => sc (35 + h)) 6).1 else -1) := by
  have g19 : ∀ k, k < 6 → sp_g μ 19 (nI k) = nI (sc (35 + k)) := fun k hk => by rw [qn_g (by omega)]; exact h.2.1.2.2.2.2.2.2.2 k hk
  have inner : ∀ (k11 : sp_St → Int32 → Int32 → Int32 → Option (sp_St × Int32)) (k48 : sp_St → Int32 → Int32 → Int32 → Int32 → Option (sp_St × Int32)) (x : Nat × Nat) (i r : Nat), x.1 < 64 → x.2 < 64 → X12_camps_58 n k11 k48 n μ (nI x.1) (nI x.2) (nI i) (nI r) 0 = k48 μ (nI (wI (fun h => sc (35 + h)) x 6).1) (nI (wI (fun h => sc (35 + h)) x 6).2) (nI i) (nI (r + 1)) := by
    intro k11 k48 x i r x1 x2
    refine lp_up (fun f k => X12_camps_58 n k11 k48 f μ (nI (wI (fun h => sc (35 + h)) x k).1) (nI (wI (fun h => sc (35 + h)) x k).2) (nI i) (nI r) (nI k)) 6 _ (fun f => ?_) (fun f k hk => ?_) n 0 (by omega) (by omega)
    · rw [X12_camps_58, if_pos (show (6 : Int32) ≤ nI 6 by decide), X12_camps_109, sp_pl, nI_1]
    · obtain ⟨l1, l2⟩ := wI_lt (F := fun h => sc (35 + h)) hF x1 x2 k (by omega)
      obtain ⟨m1, m2⟩ := wI_lt (F := fun h => sc (35 + h)) hF x1 x2 (k + 1) (by omega)
      have e84 : ∀ (a b : Nat), b < 64 → X12_camps_84 n k11 k48 (X12_camps_58 n k11 k48 f) μ (nI a) (nI b) (nI i) (nI r) (nI k) = X12_camps_58 n k11 k48 f μ (nI (if b.testBit k then a ||| sc (35 + k) else a)) (nI b) (nI i) (nI r) (nI (k + 1)) := fun a b hb => by
        rw [X12_camps_84, rq_isOf (by omega) (by omega), sp_bd_s]
        cases p : b.testBit k with
        | true => rw [if_pos rfl, if_neg n10, qn_in (by omega) (by omega), sp_ckt, g19 k hk, sp_pl, X12_camps_103, sp_pl, nI_1, qn_or, if_pos rfl]
        | false => rw [show (if false = true then nI 1 else nI 0) = nI 0 from rfl, if_pos n00, X12_camps_103, sp_pl, nI_1, if_neg (by decide)]
      rw [X12_camps_58, if_neg (show ¬ (6 : Int32) ≤ nI k from nI_ge (b := 6) hk (by omega)), rq_isOf (by omega) (by omega), sp_bd_s, wI_s2]
      rw [wI_s1] at m2 ⊢
      cases p : (wI (fun h => sc (35 + h)) x k).1.testBit k with
      | true =>
        rw [p, if_pos rfl] at m2
        rw [if_pos rfl, if_neg n10, qn_in (by omega) (by omega), sp_ckt, g19 k hk, sp_pl, qn_or, if_pos rfl, e84 _ _ m2]
      | false =>
        rw [show (if false = true then nI 1 else nI 0) = nI 0 from rfl, if_pos n00, e84 _ _ l2]
        simp only [Bool.false_eq_true, if_false]
  have mid : ∀ (k11 : sp_St → Int32 → Int32 → Int32 → Option (sp_St × Int32)) (x : Nat × Nat) (i : Nat), x.1 < 64 → x.2 < 64 → X12_camps_48 n k11 n μ (nI x.1) (nI x.2) (nI i) 0 = k11 μ (nI (wS (fun h => sc (35 + h)) x 6).1) (nI (wS (fun h => sc (35 + h)) x 6).2) (nI (i + 1)) := by
    intro k11 x i x1 x2
    refine lp_up (fun f r => X12_camps_48 n k11 f μ (nI (wS (fun h => sc (35 + h)) x r).1) (nI (wS (fun h => sc (35 + h)) x r).2) (nI i) (nI r)) 6 _ (fun f => ?_) (fun f r hr => ?_) n 0 (by omega) (by omega)
    · rw [X12_camps_48, if_pos (show (6 : Int32) ≤ nI 6 by decide), X12_camps_115, sp_pl, nI_1]
    · obtain ⟨l1, l2⟩ := wS_lt (F := fun h => sc (35 + h)) hF x1 x2 r
      rw [X12_camps_48, if_neg (show ¬ (6 : Int32) ≤ nI r from nI_ge (b := 6) hr (by omega)), sp_pl, inner k11 _ _ i r l1 l2]
      rfl
  refine lp_up (fun f i => X12_camps_11 n f μ (nI (rm (fun h => sc (35 + h)) i).1) (nI (rm (fun h => sc (35 + h)) i).2) (nI i)) 6 _ (fun f => ?_) (fun f i hi => ?_) n 0 (by omega) (by omega)
  · obtain ⟨l1, l2⟩ := rm_lt (F := fun h => sc (35 + h)) hF 6 (Nat.le_refl _)
    have l3 : (rm (fun h => sc (35 + h)) 6).1 &&& (rm (fun h => sc (35 + h)) 6).2 < 64 := Nat.lt_of_le_of_lt Nat.and_le_left l1
    rw [X12_camps_11, if_pos (show (6 : Int32) ≤ nI 6 by decide), X12_camps_121, sp_pl, qn_and]
    by_cases z : (rm (fun h => sc (35 + h)) 6).1 &&& (rm (fun h => sc (35 + h)) 6).2 = 0
    · rw [z, if_pos n00, if_pos rfl]
    · rw [if_neg z, if_neg (show ¬ nI ((rm (fun h => sc (35 + h)) 6).1 &&& (rm (fun h => sc (35 + h)) 6).2) = 0 from by show ¬ nI _ = nI 0; rw [qn_eq (by omega) (by omega)]; exact z)]
  · obtain ⟨l1, l2⟩ := rm_lt (F := fun h => sc (35 + h)) hF i (by omega)
    have hFi := hF i hi
    have l3 : (rm (fun h => sc (35 + h)) i).1 ||| (rm (fun h => sc (35 + h)) i).2 < 64 := Nat.or_lt_two_pow (n := 6) l1 l2
    rw [X12_camps_11, if_neg (show ¬ (6 : Int32) ≤ nI i from nI_ge (b := 6) hi (by omega)), qn_in (by omega) (by omega), sp_ckt, g19 i hi, rm]
    by_cases p1 : sc (35 + i) = 0
    · rw [p1, if_pos n00, X12_camps_115, sp_pl, nI_1, if_pos (Or.inl rfl)]
    · rw [if_neg (show ¬ nI (sc (35 + i)) = 0 from by show ¬ nI (sc (35 + i)) = nI 0; rw [qn_eq (by omega) (by omega)]; exact p1), qn_or, rq_isOf (by omega) (by omega), sp_bd_s]
      cases p2 : ((rm (fun h => sc (35 + h)) i).1 ||| (rm (fun h => sc (35 + h)) i).2).testBit i with
      | true => rw [if_pos rfl, if_neg n10, X12_camps_115, sp_pl, nI_1, if_pos (Or.inr rfl)]
      | false =>
        rw [show (if false = true then nI 1 else nI 0) = nI 0 from rfl, if_pos n00, sp_pl, sp_pl, show (1 : Int32) <<< (nI i &&& 31) = nI (2 ^ i) from qn_sh1 (by omega), qn_or, if_neg (by simp [p1]), mid _ ((rm (fun h => sc (35 + h)) i).1 ||| 2 ^ i, (rm (fun h => sc (35 + h)) i).2) i (Nat.or_lt_two_pow (n := 6) l1 (Nat.pow_lt_pow_right (by decide) hi)) l2]
theorem op_camps (hn : 5000 ≤ n) (h : Inv j σ μ) : agi j (X11_camps n σ) (X12_camps n μ) := by
  obtain ⟨c, ct, cd, sc, stk, hI, h3, hS, hM, hG, hD, hc⟩ := Inv_now h
  rw [X12_camps, sp_pl, X11_camps]
  generalize sp_si μ 0 3 0 = μ1 at *
  have hF := hG.1.2.2.2.2.2.1
  rw [sq_camps hS (by omega) hF, sp_bd_s, sp_pl, sp_pl, sp_pl, rq_camps hM (by omega) hF]
  have key := kc_rm (F := fun h => sc (35 + h)) hF hG.1.2.2.2.2.2.2.1 6 (Nat.le_refl _)
  refine ⟨σ, μ1, _, rfl, ?_, hI⟩
  cases e : kc (fun h => sc (35 + h)) 6 with
  | none => rw [e] at key; rw [if_neg key]
  | some x => rw [e] at key; rw [if_pos key.2.2.1, ← key.1]
/-- parts: how many so far, who is met -/
def ptc (F : Nat → Nat) : Nat → Nat × Nat
  | 0 => (0, 0)
  | i + 1 => if F i = 0 ∨ (ptc F i).2.testBit i = true then ptc F i else ((ptc F i).1 + 1, (ptc F i).2 ||| cmp F i)
theorem ptc_lt {F : Nat → Nat} (hF : ∀ h, h < 6 → F h < 64) : ∀ i, i ≤ 6 → (ptc F i).1 ≤ i ∧ (ptc F i).2 < 64 := by
  intro i
  induction i with
  | zero => intro _; rw [ptc]; exact ⟨by decide, by decide⟩
  | succ i ih =>
    intro hi
    obtain ⟨i1, i2⟩ := ih (by omega)
    rw [ptc]
    split
    · exact ⟨by omega, i2⟩
    · exact ⟨by show (ptc F i).1 + 1 ≤ i + 1; omega, Nat.or_lt_two_pow (n := 6) i2 (cmp_lt hF (by omega))⟩
theorem sq_parts (h : qSC σ 23 c ct cd sc) (hn : 100 ≤ n) (hF : ∀ h, h < 6 → sc (35 + h) < 64) : X6_parties n σ = some (σ, nI (ptc (fun h => sc (35 + h)) 6).1) := by
  rw [X6_parties, sp_pl, sp_pl, sp_pl]
  refine lp_up (fun f i => X6_parties_6 n f σ (nI (ptc (fun h => sc (35 + h)) i).1) (nI (ptc (fun h => sc (35 + h)) i).2) (nI i)) 6 _ (fun f => ?_) (fun f i hi => ?_) n 0 (by omega) (by omega)
  · rw [X6_parties_6, if_pos (show (6 : Int32) ≤ nI 6 by decide), X6_parties_60]
  · obtain ⟨l1, l2⟩ := ptc_lt (F := fun h => sc (35 + h)) hF i (by omega)
    have e35 : (35 : Int32) + nI i = nI (35 + i) := nI_add 35 i
    have g : sp_g σ 24 (nI (35 + i)) = nI (sc (35 + i)) := by rw [qn_g (by omega)]; exact h.2.2.2.2.1 (35 + i) (by omega)
    have hFi := hF i hi
    rw [X6_parties_6, if_neg (show ¬ (6 : Int32) ≤ nI i from nI_ge (b := 6) hi (by omega)), e35, qn_in (by omega) (by omega), sp_ckt, g, ptc]
    by_cases p1 : sc (35 + i) = 0
    · rw [p1, if_pos n00, X6_parties_54, sp_pl, nI_1, if_pos (Or.inl rfl)]
    · rw [if_neg (show ¬ nI (sc (35 + i)) = 0 from by show ¬ nI (sc (35 + i)) = nI 0; rw [qn_eq (by omega) (by omega)]; exact p1)]
      cases p2 : (ptc (fun h => sc (35 + h)) i).2.testBit i with
      | true => rw [if_neg (by rw [bit_0 l2 hi, p2]; decide), X6_parties_54, sp_pl, nI_1, if_pos (Or.inr rfl)]
      | false =>
        rw [if_pos (by rw [bit_0 l2 hi]; exact p2), sq_campOf h hn hF hi, sp_bd_s, sq_foSet h hn (cI_lt hF hi 6), sp_bd_s, sp_pl, sp_pl, qn_or, qn_or, X6_parties_54, sp_pl, nI_1, nI_1, if_neg (by simp [p1])]
        rfl
theorem rq_parts (h : mSC μ ct cd sc stk) (hn : 100 ≤ n) (hF : ∀ h, h < 6 → sc (35 + h) < 64) : X12_parts_11 n n μ 0 0 0 = some (μ, nI (ptc (fun h => sc (35 + h)) 6).1) := by
  have g19 : ∀ k, k < 6 → sp_g μ 19 (nI k) = nI (sc (35 + k)) := fun k hk => by rw [qn_g (by omega)]; exact h.2.1.2.2.2.2.2.2.2 k hk
  have inner : ∀ (k11 : sp_St → Int32 → Int32 → Int32 → Option (sp_St × Int32)) (k45 : sp_St → Int32 → Int32 → Int32 → Int32 → Int32 → Option (sp_St × Int32)) (a b : Int32) (x i r : Nat), x < 64 → X12_parts_55 n k11 k45 n μ a b (nI i) (nI x) (nI r) 0 = k45 μ a b (nI i) (nI (pI (fun h => sc (35 + h)) x 6)) (nI (r + 1)) := by
    intro k11 k45 a b x i r hx
    refine lp_up (fun f k => X12_parts_55 n k11 k45 f μ a b (nI i) (nI (pI (fun h => sc (35 + h)) x k)) (nI r) (nI k)) 6 _ (fun f => ?_) (fun f k hk => ?_) n 0 (by omega) (by omega)
    · rw [X12_parts_55, if_pos (show (6 : Int32) ≤ nI 6 by decide), X12_parts_90, sp_pl, nI_1]
    · have l1 := pI_lt (F := fun h => sc (35 + h)) hF hx k (by omega)
      rw [X12_parts_55, if_neg (show ¬ (6 : Int32) ≤ nI k from nI_ge (b := 6) hk (by omega)), rq_isOf (by omega) (by omega), sp_bd_s, pI]
      cases p : (pI (fun h => sc (35 + h)) x k).testBit k with
      | true => rw [if_pos rfl, if_neg n10, qn_in (by omega) (by omega), sp_ckt, g19 k hk, sp_pl, X12_parts_84, sp_pl, nI_1, qn_or, if_pos rfl]
      | false => rw [show (if false = true then nI 1 else nI 0) = nI 0 from rfl, if_pos n00, X12_parts_84, sp_pl, nI_1, if_neg (by decide)]
  have mid : ∀ (k11 : sp_St → Int32 → Int32 → Int32 → Option (sp_St × Int32)) (a b i : Nat), i < 6 → X12_parts_45 n k11 n μ (nI a) (nI b) (nI i) (nI (2 ^ i)) 0 = k11 μ (nI (a ||| cmp (fun h => sc (35 + h)) i)) (nI (b + 1)) (nI (i + 1)) := by
    intro k11 a b i hi
    refine lp_up (fun f r => X12_parts_45 n k11 f μ (nI a) (nI b) (nI i) (nI (pS (fun h => sc (35 + h)) i r)) (nI r)) 6 _ (fun f => ?_) (fun f r hr => ?_) n 0 (by omega) (by omega)
    · rw [X12_parts_45, if_pos (show (6 : Int32) ≤ nI 6 by decide), X12_parts_96, sp_pl, sp_pl, X12_parts_104, sp_pl, nI_1, nI_1, qn_or, pS_cmp hF hi]
    · rw [X12_parts_45, if_neg (show ¬ (6 : Int32) ≤ nI r from nI_ge (b := 6) hr (by omega)), sp_pl, inner k11 _ _ _ _ i r (pS_lt hF hi r)]
      rfl
  refine lp_up (fun f i => X12_parts_11 n f μ (nI (ptc (fun h => sc (35 + h)) i).2) (nI (ptc (fun h => sc (35 + h)) i).1) (nI i)) 6 _ (fun f => ?_) (fun f i hi => ?_) n 0 (by omega) (by omega)
  · rw [X12_parts_11, if_pos (show (6 : Int32) ≤ nI 6 by decide), X12_parts_110]
  · obtain ⟨l1, l2⟩ := ptc_lt (F := fun h => sc (35 + h)) hF i (by omega)
    have hFi := hF i hi
    rw [X12_parts_11, if_neg (show ¬ (6 : Int32) ≤ nI i from nI_ge (b := 6) hi (by omega)), qn_in (by omega) (by omega), sp_ckt, g19 i hi, ptc]
    by_cases p1 : sc (35 + i) = 0
    · rw [p1, if_pos n00, X12_parts_104, sp_pl, nI_1, if_pos (Or.inl rfl)]
    · rw [if_neg (show ¬ nI (sc (35 + i)) = 0 from by show ¬ nI (sc (35 + i)) = nI 0; rw [qn_eq (by omega) (by omega)]; exact p1), rq_isOf (by omega) (by omega), sp_bd_s]
      cases p2 : (ptc (fun h => sc (35 + h)) i).2.testBit i with
      | true => rw [if_pos rfl, if_neg n10, X12_parts_104, sp_pl, nI_1, if_pos (Or.inr rfl)]
      | false =>
        rw [show (if false = true then nI 1 else nI 0) = nI 0 from rfl, if_pos n00, sp_pl, sp_pl, show (1 : Int32) <<< (nI i &&& 31) = nI (2 ^ i) from qn_sh1 (by omega), mid _ _ _ i hi, if_neg (by simp [p1])]
theorem op_parts (hn : 5000 ≤ n) (h : Inv j σ μ) : agi j (X11_parts n σ) (X12_parts n μ) := by
  obtain ⟨c, ct, cd, sc, stk, hI, h3, hS, hM, hG, hD, hc⟩ := Inv_now h
  rw [X12_parts, sp_pl, X11_parts]
  generalize sp_si μ 0 3 0 = μ1 at *
  have hF := hG.1.2.2.2.2.2.1
  rw [sq_parts hS (by omega) hF, sp_bd_s, sp_pl, sp_pl, sp_pl, rq_parts hM (by omega) hF]
  exact ⟨σ, μ1, _, rfl, rfl, hI⟩
end
