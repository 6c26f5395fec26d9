-- ===== THE REFERENCE: a scene is packed into a row, and back =====
def rowOf (μ : sp_St) (j : Nat) : Int32 := if j = 0 then μ.1 0 33 else if j = 1 then μ.1 0 34 else if j < 12 then μ.2.2.1 14 (j - 2) else if j < 22 then μ.2.2.1 15 (j - 12) else if j < 27 then μ.2.2.1 16 (j - 22) else if j < 32 then μ.2.2.1 17 (j - 27) else if j < 82 then μ.2.2.1 18 (j - 32) else μ.2.2.1 19 (j - 82)
theorem row_14 {μ : sp_St} {i : Nat} (h : i < 10) : rowOf μ (2 + i) = μ.2.2.1 14 i := by
  unfold rowOf
  rw [if_neg (by omega), if_neg (by omega), if_pos (by omega)]
  rw [Nat.add_sub_cancel_left]
theorem row_15 {μ : sp_St} {i : Nat} (h : i < 10) : rowOf μ (12 + i) = μ.2.2.1 15 i := by
  unfold rowOf
  rw [if_neg (by omega), if_neg (by omega), if_neg (by omega), if_pos (by omega)]
  rw [Nat.add_sub_cancel_left]
theorem row_16 {μ : sp_St} {i : Nat} (h : i < 5) : rowOf μ (22 + i) = μ.2.2.1 16 i := by
  unfold rowOf
  rw [if_neg (by omega), if_neg (by omega), if_neg (by omega), if_neg (by omega), if_pos (by omega)]
  rw [Nat.add_sub_cancel_left]
theorem row_17 {μ : sp_St} {i : Nat} (h : i < 5) : rowOf μ (27 + i) = μ.2.2.1 17 i := by
  unfold rowOf
  rw [if_neg (by omega), if_neg (by omega), if_neg (by omega), if_neg (by omega), if_neg (by omega), if_pos (by omega)]
  rw [Nat.add_sub_cancel_left]
theorem row_18 {μ : sp_St} {i : Nat} (h : i < 50) : rowOf μ (32 + i) = μ.2.2.1 18 i := by
  unfold rowOf
  rw [if_neg (by omega), if_neg (by omega), if_neg (by omega), if_neg (by omega), if_neg (by omega), if_neg (by omega), if_pos (by omega)]
  rw [Nat.add_sub_cancel_left]
theorem row_19 {μ : sp_St} {i : Nat} : rowOf μ (82 + i) = μ.2.2.1 19 i := by
  unfold rowOf
  rw [if_neg (by omega), if_neg (by omega), if_neg (by omega), if_neg (by omega), if_neg (by omega), if_neg (by omega), if_neg (by omega)]
  rw [Nat.add_sub_cancel_left]
def mRow (r : Nat → Int32) (ct : Nat → Nat → Nat) (sc : Nat → Nat) (stk : Nat → List Nat) : Prop := r 0 = nI (sc 47) ∧ r 1 = nI (sc 48) ∧ (∀ b, b < ct 0 13 → r (2 + b) = nI (sc b)) ∧ (∀ b, b < ct 0 13 → r (12 + b) = nI (sqState sc b)) ∧ (∀ s, s < ct 0 14 → r (22 + s) = nI (sc (30 + s))) ∧ (∀ s, s < ct 0 14 → r (27 + s) = nI (stk s).length) ∧ (∀ s, s < ct 0 14 → ∀ k, k < (stk s).length → r (32 + (10 * s + k)) = nI ((stk s).getD k 0)) ∧ ∀ h, h < 6 → r (82 + h) = nI (sc (35 + h))
theorem mRow_cong {r r' : Nat → Int32} {ct : Nat → Nat → Nat} {sc : Nat → Nat} {stk : Nat → List Nat} (hb10 : ct 0 13 ≤ 10) (hs5 : ct 0 14 ≤ 5) (hl : ∀ s, s < ct 0 14 → (stk s).length ≤ 10) (e : ∀ j, j < 88 → r' j = r j) (h : mRow r ct sc stk) : mRow r' ct sc stk := by
  obtain ⟨h0, h1, h2, h3, h4, h5, h6, h7⟩ := h
  refine ⟨?_, ?_, fun b hb => ?_, fun b hb => ?_, fun s hs => ?_, fun s hs => ?_, fun s hs k hk => ?_, fun h hh => ?_⟩
  · rw [e _ (by omega)]; exact h0
  · rw [e _ (by omega)]; exact h1
  · rw [e _ (by omega)]; exact h2 b hb
  · rw [e _ (by omega)]; exact h3 b hb
  · rw [e _ (by omega)]; exact h4 s hs
  · rw [e _ (by omega)]; exact h5 s hs
  · have := hl s hs
    rw [e _ (by omega)]; exact h6 s hs k hk
  · rw [e _ (by omega)]; exact h7 h hh
theorem mRow_of {μ : sp_St} {ct : Nat → Nat → Nat} {sc : Nat → Nat} {stk : Nat → List Nat} (hb10 : ct 0 13 ≤ 10) (hs5 : ct 0 14 ≤ 5) (hl : ∀ s, s < ct 0 14 → (stk s).length ≤ 10) : mL μ ct sc stk ↔ mRow (rowOf μ) ct sc stk := by
  have e0 : rowOf μ 0 = μ.1 0 33 := rfl
  have e1 : rowOf μ 1 = μ.1 0 34 := rfl
  constructor
  · rintro ⟨h0, h1, h2, h3, h4, h5, h6, h7⟩
    refine ⟨?_, ?_, fun b hb => ?_, fun b hb => ?_, fun s hs => ?_, fun s hs => ?_, fun s hs k hk => ?_, fun h hh => ?_⟩
    · rw [e0]; exact h0
    · rw [e1]; exact h1
    · rw [row_14 (by omega)]; exact h2 b hb
    · rw [row_15 (by omega)]; exact h3 b hb
    · rw [row_16 (by omega)]; exact h4 s hs
    · rw [row_17 (by omega)]; exact h5 s hs
    · have := hl s hs
      rw [row_18 (by omega)]; exact h6 s hs k hk
    · rw [row_19]; exact h7 h hh
  · rintro ⟨h0, h1, h2, h3, h4, h5, h6, h7⟩
    refine ⟨?_, ?_, fun b hb => ?_, fun b hb => ?_, fun s hs => ?_, fun s hs => ?_, fun s hs k hk => ?_, fun h hh => ?_⟩
    · rw [← e0]; exact h0
    · rw [← e1]; exact h1
    · rw [← row_14 (by omega)]; exact h2 b hb
    · rw [← row_15 (by omega)]; exact h3 b hb
    · rw [← row_16 (by omega)]; exact h4 s hs
    · rw [← row_17 (by omega)]; exact h5 s hs
    · have := hl s hs
      rw [← row_18 (by omega)]; exact h6 s hs k hk
    · rw [← row_19]; exact h7 h hh
/-- a row p from a on, where D holds, as the scene is -/
def pkd (μ : sp_St) (p a : Nat) (D : Nat → Bool) : sp_St := (μ.1, μ.2.1, fun q j => if q = p ∧ a ≤ j ∧ D (j - a) = true then rowOf μ (j - a) else μ.2.2.1 q j, μ.2.2.2)
theorem pkd_cong {μ : sp_St} {p a : Nat} {D E : Nat → Bool} (h : ∀ j, D j = E j) : pkd μ p a D = pkd μ p a E := by rw [funext h]
theorem pkd_set {μ : sp_St} {p a k : Nat} {D : Nat → Bool} {v : Int32} (hv : v = rowOf μ k) : sp_sa (pkd μ p a D) p (a + k) v = pkd μ p a (fun j => decide (j = k) || D j) := by
  unfold sp_sa pkd
  refine Prod.ext rfl (Prod.ext rfl (Prod.ext ?_ rfl))
  funext q j
  dsimp only
  by_cases e : q = p ∧ j = a + k
  · obtain ⟨rfl, rfl⟩ := e
    rw [if_pos ⟨rfl, rfl⟩, if_pos ⟨rfl, by omega, by simp⟩, Nat.add_sub_cancel_left, hv]
  · rw [if_neg e]
    by_cases e2 : q = p ∧ a ≤ j ∧ D (j - a) = true
    · rw [if_pos e2, if_pos ⟨e2.1, e2.2.1, by simp [e2.2.2]⟩]
    · rw [if_neg e2, if_neg]
      rintro ⟨h1, h2, h3⟩
      simp only [Bool.or_eq_true, decide_eq_true_eq] at h3
      rcases h3 with h3 | h3
      · exact e ⟨h1, by omega⟩
      · exact e2 ⟨h1, h2, h3⟩
theorem pkd_g {μ : sp_St} {p a q j : Nat} {D : Nat → Bool} (h : q ≠ p) : (pkd μ p a D).2.2.1 q j = μ.2.2.1 q j := by
  unfold pkd
  dsimp only
  rw [if_neg (fun x => h x.1)]
section
variable {μ : sp_St} {n p m a : Nat}
theorem rq_pack (hn : 100 ≤ n) (hp : p < 14 ∨ 19 < p) (ha : a + 88 ≤ m) (hm : m ≤ 4000) : X12_pack n μ p m (nI a) = some (pkd μ p a (fun j => decide (j < 88))) := by
  have st : ∀ D k v, v = rowOf μ k → k < 88 → sp_sa (pkd μ p a D) p (nI (a + k)).toNatClampNeg v = pkd μ p a (fun j => decide (j = k) || D j) := fun D k v hv hk => by
    rw [nI_clamp (by omega)]; exact pkd_set hv
  have wi : ∀ k, k < 88 → sp_in (nI (a + k)) m = true := fun k hk => qn_in (by omega) (by omega)
  have p0 : pkd μ p a (fun _ => false) = μ := by
    unfold pkd
    refine Prod.ext rfl (Prod.ext rfl (Prod.ext ?_ rfl))
    funext q j
    dsimp only
    rw [if_neg (by simp)]
  have r0 : (nI a).toNatClampNeg = (nI (a + 0)).toNatClampNeg := rfl
  have i0 : sp_in (nI a) m = true := wi 0 (by omega)
  have l4 : ∀ f i, i ≤ 6 → 6 - i < f → X12_pack_157 n p m f (pkd μ p a (fun j => decide (j < 82 + i))) (nI (a + 82)) (nI i) = some (pkd μ p a (fun j => decide (j < 88))) := by
    refine lp_up (fun f i => X12_pack_157 n p m f (pkd μ p a (fun j => decide (j < 82 + i))) (nI (a + 82)) (nI i)) 6 _ (fun f => ?_) (fun f i hi => ?_)
    · rw [X12_pack_157, if_pos (show (6 : Int32) ≤ nI 6 by decide)]
    · rw [X12_pack_157, if_neg (show ¬ (6 : Int32) ≤ nI i from nI_ge (b := 6) hi (by omega)), qn_in (by omega) (by omega), sp_ckt, nI_add, Nat.add_assoc, wi (82 + i) (by omega), sp_ckt, sp_pl, st _ (82 + i) _ ?_ (by omega), sp_pl, nI_1]
      · congr 1
        refine pkd_cong fun j => ?_
        rw [Bool.eq_iff_iff]; simp only [Bool.or_eq_true, decide_eq_true_eq]; omega
      · rw [qn_g (by omega), pkd_g (by omega), row_19]
  have l3 : ∀ f i, i ≤ 50 → 50 - i < f → X12_pack_117 n p m f (pkd μ p a (fun j => decide (j < 32 + i))) (nI (a + 32)) (nI i) = some (pkd μ p a (fun j => decide (j < 88))) := by
    refine lp_up (fun f i => X12_pack_117 n p m f (pkd μ p a (fun j => decide (j < 32 + i))) (nI (a + 32)) (nI i)) 50 _ (fun f => ?_) (fun f i hi => ?_)
    · rw [X12_pack_117, if_pos (show (50 : Int32) ≤ nI 50 by decide), X12_pack_146, sp_pl, sp_pl, show nI (a + 32) + 50 = nI (a + 82) from by show nI (a + 32) + nI 50 = _; rw [nI_add]]
      exact l4 n 0 (by omega) (by omega)
    · rw [X12_pack_117, if_neg (show ¬ (50 : Int32) ≤ nI i from nI_ge (b := 50) hi (by omega)), qn_in (by omega) (by omega), sp_ckt, nI_add, Nat.add_assoc, wi (32 + i) (by omega), sp_ckt, sp_pl, st _ (32 + i) _ ?_ (by omega), sp_pl, nI_1]
      · congr 1
        refine pkd_cong fun j => ?_
        rw [Bool.eq_iff_iff]; simp only [Bool.or_eq_true, decide_eq_true_eq]; omega
      · rw [qn_g (by omega), pkd_g (by omega), row_18 hi]
  have l2 : ∀ f i, i ≤ 5 → 5 - i < f → X12_pack_71 n p m f (pkd μ p a (fun j => decide (j < 22 + i) || decide (27 ≤ j ∧ j < 27 + i))) (nI (a + 22)) (nI i) = some (pkd μ p a (fun j => decide (j < 88))) := by
    refine lp_up (fun f i => X12_pack_71 n p m f (pkd μ p a (fun j => decide (j < 22 + i) || decide (27 ≤ j ∧ j < 27 + i))) (nI (a + 22)) (nI i)) 5 _ (fun f => ?_) (fun f i hi => ?_)
    · rw [X12_pack_71, if_pos (show (5 : Int32) ≤ nI 5 by decide), X12_pack_111, sp_pl, sp_pl, show nI (a + 22) + 10 = nI (a + 32) from by show nI (a + 22) + nI 10 = _; rw [nI_add]]
      rw [← l3 n 0 (by omega) (by omega)]
      congr 1
      refine pkd_cong fun j => ?_
      rw [Bool.eq_iff_iff]; simp only [Bool.or_eq_true, decide_eq_true_eq]; omega
    · rw [X12_pack_71, if_neg (show ¬ (5 : Int32) ≤ nI i from nI_ge (b := 5) hi (by omega)), qn_in (by omega) (by omega), sp_ckt, nI_add, Nat.add_assoc, wi (22 + i) (by omega), sp_ckt, sp_pl, sp_ckt, st _ (22 + i) _ ?_ (by omega), show nI (a + 22) + 5 + nI i = nI (a + (27 + i)) from by show nI (a + 22) + nI 5 + nI i = _; rw [nI_add, nI_add]; congr 1; omega, wi (27 + i) (by omega), sp_ckt, sp_pl, st _ (27 + i) _ ?_ (by omega), sp_pl, nI_1]
      · congr 1
        refine pkd_cong fun j => ?_
        rw [Bool.eq_iff_iff]; simp only [Bool.or_eq_true, decide_eq_true_eq]; omega
      · rw [qn_g (by omega), pkd_g (by omega), row_17 hi]
      · rw [qn_g (by omega), pkd_g (by omega), row_16 hi]
  have l1 : ∀ f i, i ≤ 10 → 10 - i < f → X12_pack_23 n p m f (pkd μ p a (fun j => decide (j < 2 + i) || decide (12 ≤ j ∧ j < 12 + i))) (nI (a + 2)) (nI i) = some (pkd μ p a (fun j => decide (j < 88))) := by
    refine lp_up (fun f i => X12_pack_23 n p m f (pkd μ p a (fun j => decide (j < 2 + i) || decide (12 ≤ j ∧ j < 12 + i))) (nI (a + 2)) (nI i)) 10 _ (fun f => ?_) (fun f i hi => ?_)
    · rw [X12_pack_23, if_pos (show (10 : Int32) ≤ nI 10 by decide), X12_pack_65, sp_pl, sp_pl, show nI (a + 2) + 20 = nI (a + 22) from by show nI (a + 2) + nI 20 = _; rw [nI_add]]
      rw [← l2 n 0 (by omega) (by omega)]
      congr 1
      refine pkd_cong fun j => ?_
      rw [Bool.eq_iff_iff]; simp only [Bool.or_eq_true, decide_eq_true_eq]; omega
    · rw [X12_pack_23, if_neg (show ¬ (10 : Int32) ≤ nI i from nI_ge (b := 10) hi (by omega)), qn_in (by omega) (by omega), sp_ckt, nI_add, Nat.add_assoc, wi (2 + i) (by omega), sp_ckt, sp_pl, sp_ckt, st _ (2 + i) _ ?_ (by omega), show nI (a + 2) + 10 + nI i = nI (a + (12 + i)) from by show nI (a + 2) + nI 10 + nI i = _; rw [nI_add, nI_add]; congr 1; omega, wi (12 + i) (by omega), sp_ckt, sp_pl, st _ (12 + i) _ ?_ (by omega), sp_pl, nI_1]
      · congr 1
        refine pkd_cong fun j => ?_
        rw [Bool.eq_iff_iff]; simp only [Bool.or_eq_true, decide_eq_true_eq]; omega
      · rw [qn_g (by omega), pkd_g (by omega), row_15 hi]
      · rw [qn_g (by omega), pkd_g (by omega), row_14 hi]
  have a0 : sp_sa μ p (nI a).toNatClampNeg (μ.1 0 33) = pkd μ p a (fun j => decide (j = 0) || false) := by
    have := st (fun _ => false) 0 (μ.1 0 33) rfl (by omega)
    rw [p0] at this
    exact this
  rw [X12_pack, i0, sp_ckt, sp_pl, a0, show nI a + 1 = nI (a + 1) from nI_1 a, wi 1 (by omega), sp_ckt, sp_pl, st _ 1 ((pkd μ p a (fun j => decide (j = 0) || false)).1 0 34) rfl (by omega), sp_pl, show nI a + 2 = nI (a + 2) from by show nI a + nI 2 = _; rw [nI_add], sp_pl]
  rw [← l1 n 0 (by omega) (by omega)]
  congr 1
  refine pkd_cong fun j => ?_
  rw [Bool.eq_iff_iff]; simp only [Bool.or_eq_true, decide_eq_true_eq, Bool.false_eq_true, or_false]; omega
theorem rq_unpack (hn : 100 ≤ n) (hp : p < 14 ∨ 19 < p) (ha : a + 88 ≤ m) (hm : m ≤ 4000) : sp_wp (X12_unpack n μ p m (nI a)) (fun ν => ν.2.1 = μ.2.1 ∧ (∀ q, q < 14 ∨ 19 < q → ν.2.2.1 q = μ.2.2.1 q) ∧ (∀ k, k ≠ 33 → k ≠ 34 → ν.1 0 k = μ.1 0 k) ∧ ∀ j, j < 88 → rowOf ν j = μ.2.2.1 p (a + j)) := by
  have wi : ∀ k, k < 88 → sp_in (nI (a + k)) m = true := fun k hk => qn_in (by omega) (by omega)
  have i0 : sp_in (nI a) m = true := wi 0 (by omega)
  have g0 : ∀ s : sp_St, sp_g s p (nI a) = s.2.2.1 p (a + 0) := fun s => by rw [qn_g (by omega)]; rfl
  have gk : ∀ (s : sp_St) k, k < 88 → sp_g s p (nI (a + k)) = s.2.2.1 p (a + k) := fun s k hk => by rw [qn_g (by omega)]
  rw [X12_unpack, i0, sp_ckt, sp_pl, show nI a + 1 = nI (a + 1) from nI_1 a, wi 1 (by omega), sp_ckt, sp_pl, sp_pl, show nI a + 2 = nI (a + 2) from by show nI a + nI 2 = _; rw [nI_add], sp_pl, g0, gk _ 1 (by omega)]
  obtain ⟨μ2, e2⟩ : ∃ x, x = sp_si (sp_si μ 0 33 (μ.2.2.1 p (a + 0))) 0 34 ((sp_si μ 0 33 (μ.2.2.1 p (a + 0))).2.2.1 p (a + 1)) := ⟨_, rfl⟩
  rw [← e2]
  have k33 : μ2.1 0 33 = μ.2.2.1 p (a + 0) := by rw [e2, sp_si_ne (by decide), sp_si_eq]
  have k34 : μ2.1 0 34 = μ.2.2.1 p (a + 1) := by rw [e2, sp_si_eq]; rfl
  have kk : ∀ k, k ≠ 33 → k ≠ 34 → μ2.1 0 k = μ.1 0 k := fun k h1 h2 => by rw [e2, sp_si_ne h2, sp_si_ne h1]
  have kq : μ2.2 = μ.2 := by rw [e2]; rfl
  have pp : ∀ q, 14 ≤ q → q ≤ 19 → p ≠ q := fun q h1 h2 => by omega
  clear e2
  -- angers, places
  refine lp_inv (fun f i s => X12_unpack_23 n p m f s (nI (a + 2)) (nI i)) (fun i s => s.1 = μ2.1 ∧ s.2.1 = μ.2.1 ∧ (∀ q, q ≠ 14 → q ≠ 15 → s.2.2.1 q = μ.2.2.1 q) ∧ (∀ j, j < i → s.2.2.1 14 j = μ.2.2.1 p (a + (2 + j))) ∧ (∀ j, j < i → s.2.2.1 15 j = μ.2.2.1 p (a + (12 + j)))) 10 _ (fun f s hI => ?_) (fun f i s hi hI k => ?_) n 0 μ2 (by omega) (by omega) ⟨rfl, by rw [kq], fun q _ _ => by rw [kq], fun j hj => by omega, fun j hj => by omega⟩
  · obtain ⟨g1, g2, g3, g4, g5⟩ := hI
    rw [X12_unpack_23, if_pos (show (10 : Int32) ≤ nI 10 by decide), X12_unpack_65, sp_pl, sp_pl, show nI (a + 2) + 20 = nI (a + 22) from by show nI (a + 2) + nI 20 = _; rw [nI_add]]
    refine lp_inv (fun f i s => X12_unpack_71 n p m f s (nI (a + 22)) (nI i)) (fun i u => u.1 = μ2.1 ∧ u.2.1 = μ.2.1 ∧ (∀ q, q ≠ 16 → q ≠ 17 → u.2.2.1 q = s.2.2.1 q) ∧ (∀ j, j < i → u.2.2.1 16 j = μ.2.2.1 p (a + (22 + j))) ∧ (∀ j, j < i → u.2.2.1 17 j = μ.2.2.1 p (a + (27 + j)))) 5 _ (fun f u hJ => ?_) (fun f i u hi hJ k => ?_) n 0 s (by omega) (by omega) ⟨g1, g2, fun q _ _ => rfl, fun j hj => by omega, fun j hj => by omega⟩
    · obtain ⟨b1, b2, b3, b4, b5⟩ := hJ
      rw [X12_unpack_71, if_pos (show (5 : Int32) ≤ nI 5 by decide), X12_unpack_111, sp_pl, sp_pl, show nI (a + 22) + 10 = nI (a + 32) from by show nI (a + 22) + nI 10 = _; rw [nI_add]]
      refine lp_inv (fun f i s => X12_unpack_117 n p m f s (nI (a + 32)) (nI i)) (fun i v => v.1 = μ2.1 ∧ v.2.1 = μ.2.1 ∧ (∀ q, q ≠ 18 → v.2.2.1 q = u.2.2.1 q) ∧ (∀ j, j < i → v.2.2.1 18 j = μ.2.2.1 p (a + (32 + j)))) 50 _ (fun f v hK => ?_) (fun f i v hi hK k => ?_) n 0 u (by omega) (by omega) ⟨b1, b2, fun q _ => rfl, fun j hj => by omega⟩
      · obtain ⟨c1, c2, c3, c4⟩ := hK
        rw [X12_unpack_117, if_pos (show (50 : Int32) ≤ nI 50 by decide), X12_unpack_146, sp_pl, sp_pl, show nI (a + 32) + 50 = nI (a + 82) from by show nI (a + 32) + nI 50 = _; rw [nI_add]]
        refine lp_inv (fun f i s => X12_unpack_157 n p m f s (nI (a + 82)) (nI i)) (fun i w => w.1 = μ2.1 ∧ w.2.1 = μ.2.1 ∧ (∀ q, q ≠ 19 → w.2.2.1 q = v.2.2.1 q) ∧ (∀ j, j < i → w.2.2.1 19 j = μ.2.2.1 p (a + (82 + j)))) 6 _ (fun f w hM => ?_) (fun f i w hi hM k => ?_) n 0 v (by omega) (by omega) ⟨c1, c2, fun q _ => rfl, fun j hj => by omega⟩
        · obtain ⟨d1, d2, d3, d4⟩ := hM
          rw [X12_unpack_157, if_pos (show (6 : Int32) ≤ nI 6 by decide)]
          refine wp_some.mpr ⟨d2, fun q hq => ?_, fun k h1 h2 => by rw [d1]; exact kk k h1 h2, fun j hj => ?_⟩
          · rw [d3 q (by omega), c3 q (by omega), b3 q (by omega) (by omega), g3 q (by omega) (by omega)]
          · by_cases j0 : j = 0
            · subst j0; show w.1 0 33 = _; rw [d1, k33]
            by_cases j1 : j = 1
            · subst j1; show w.1 0 34 = _; rw [d1, k34]
            by_cases j12 : j < 12
            · obtain ⟨x, rfl⟩ : ∃ x, j = 2 + x := ⟨j - 2, by omega⟩
              rw [row_14 (by omega), d3 14 (by omega), c3 14 (by omega), b3 14 (by omega) (by omega), g4 x (by omega)]
            by_cases j22 : j < 22
            · obtain ⟨x, rfl⟩ : ∃ x, j = 12 + x := ⟨j - 12, by omega⟩
              rw [row_15 (by omega), d3 15 (by omega), c3 15 (by omega), b3 15 (by omega) (by omega), g5 x (by omega)]
            by_cases j27 : j < 27
            · obtain ⟨x, rfl⟩ : ∃ x, j = 22 + x := ⟨j - 22, by omega⟩
              rw [row_16 (by omega), d3 16 (by omega), c3 16 (by omega), b4 x (by omega)]
            by_cases j32 : j < 32
            · obtain ⟨x, rfl⟩ : ∃ x, j = 27 + x := ⟨j - 27, by omega⟩
              rw [row_17 (by omega), d3 17 (by omega), c3 17 (by omega), b5 x (by omega)]
            by_cases j82 : j < 82
            · obtain ⟨x, rfl⟩ : ∃ x, j = 32 + x := ⟨j - 32, by omega⟩
              rw [row_18 (by omega), d3 18 (by omega), c4 x (by omega)]
            · obtain ⟨x, rfl⟩ : ∃ x, j = 82 + x := ⟨j - 82, by omega⟩
              rw [row_19, d4 x (by omega)]
        · obtain ⟨d1, d2, d3, d4⟩ := hM
          rw [X12_unpack_157, if_neg (show ¬ (6 : Int32) ≤ nI i from nI_ge (b := 6) hi (by omega)), nI_add, Nat.add_assoc, wi (82 + i) (by omega), sp_ckt, qn_in (by omega) (by omega), sp_ckt, sp_pl, gk _ (82 + i) (by omega), sp_pl, nI_1, nI_clamp (by omega)]
          refine k _ ⟨d1, d2, fun q hq => ?_, fun j hj => ?_⟩
          · funext y; rw [sp_sa_np hq, d3 q hq]
          · by_cases e : j = i
            · subst e
              rw [sp_sa_eq, d3 p (pp 19 (by omega) (by omega)), c3 p (pp 18 (by omega) (by omega)), b3 p (pp 16 (by omega) (by omega)) (pp 17 (by omega) (by omega)), g3 p (pp 14 (by omega) (by omega)) (pp 15 (by omega) (by omega))]
            · rw [sp_sa_nj e]; exact d4 j (by omega)
      · obtain ⟨c1, c2, c3, c4⟩ := hK
        rw [X12_unpack_117, if_neg (show ¬ (50 : Int32) ≤ nI i from nI_ge (b := 50) hi (by omega)), nI_add, Nat.add_assoc, wi (32 + i) (by omega), sp_ckt, qn_in (by omega) (by omega), sp_ckt, sp_pl, gk _ (32 + i) (by omega), sp_pl, nI_1, nI_clamp (by omega)]
        refine k _ ⟨c1, c2, fun q hq => ?_, fun j hj => ?_⟩
        · funext y; rw [sp_sa_np hq, c3 q hq]
        · by_cases e : j = i
          · subst e
            rw [sp_sa_eq, c3 p (pp 18 (by omega) (by omega)), b3 p (pp 16 (by omega) (by omega)) (pp 17 (by omega) (by omega)), g3 p (pp 14 (by omega) (by omega)) (pp 15 (by omega) (by omega))]
          · rw [sp_sa_nj e]; exact c4 j (by omega)
    · obtain ⟨b1, b2, b3, b4, b5⟩ := hJ
      rw [X12_unpack_71, if_neg (show ¬ (5 : Int32) ≤ nI i from nI_ge (b := 5) hi (by omega)), nI_add, Nat.add_assoc, wi (22 + i) (by omega), sp_ckt, qn_in (by omega) (by omega), sp_ckt, sp_pl, gk _ (22 + i) (by omega), show nI (a + 22) + 5 + nI i = nI (a + (27 + i)) from by show nI (a + 22) + nI 5 + nI i = _; rw [nI_add, nI_add]; congr 1; omega, wi (27 + i) (by omega), sp_ckt, sp_ckt, sp_pl, gk _ (27 + i) (by omega), sp_pl, nI_1, nI_clamp (by omega)]
      refine k _ ⟨b1, b2, fun q h1 h2 => ?_, fun j hj => ?_, fun j hj => ?_⟩
      · funext y; rw [sp_sa_np h2, sp_sa_np h1, b3 q h1 h2]
      · rw [sp_sa_np (by omega)]
        by_cases e : j = i
        · subst e
          rw [sp_sa_eq, b3 p (pp 16 (by omega) (by omega)) (pp 17 (by omega) (by omega)), g3 p (pp 14 (by omega) (by omega)) (pp 15 (by omega) (by omega))]
        · rw [sp_sa_nj e]; exact b4 j (by omega)
      · by_cases e : j = i
        · subst e
          rw [sp_sa_eq, sp_sa_np (pp 16 (by omega) (by omega)), b3 p (pp 16 (by omega) (by omega)) (pp 17 (by omega) (by omega)), g3 p (pp 14 (by omega) (by omega)) (pp 15 (by omega) (by omega))]
        · rw [sp_sa_nj e, sp_sa_np (by omega)]; exact b5 j (by omega)
  · obtain ⟨g1, g2, g3, g4, g5⟩ := hI
    rw [X12_unpack_23, if_neg (show ¬ (10 : Int32) ≤ nI i from nI_ge (b := 10) hi (by omega)), nI_add, Nat.add_assoc, wi (2 + i) (by omega), sp_ckt, qn_in (by omega) (by omega), sp_ckt, sp_pl, gk _ (2 + i) (by omega), show nI (a + 2) + 10 + nI i = nI (a + (12 + i)) from by show nI (a + 2) + nI 10 + nI i = _; rw [nI_add, nI_add]; congr 1; omega, wi (12 + i) (by omega), sp_ckt, sp_ckt, sp_pl, gk _ (12 + i) (by omega), sp_pl, nI_1, nI_clamp (by omega)]
    refine k _ ⟨g1, g2, fun q h1 h2 => ?_, fun j hj => ?_, fun j hj => ?_⟩
    · funext y; rw [sp_sa_np h2, sp_sa_np h1, g3 q h1 h2]
    · rw [sp_sa_np (by omega)]
      by_cases e : j = i
      · subst e
        rw [sp_sa_eq, g3 p (pp 14 (by omega) (by omega)) (pp 15 (by omega) (by omega))]
      · rw [sp_sa_nj e]; exact g4 j (by omega)
    · by_cases e : j = i
      · subst e
        rw [sp_sa_eq, sp_sa_np (pp 14 (by omega) (by omega)), g3 p (pp 14 (by omega) (by omega)) (pp 15 (by omega) (by omega))]
      · rw [sp_sa_nj e, sp_sa_np (by omega)]; exact g5 j (by omega)
end
