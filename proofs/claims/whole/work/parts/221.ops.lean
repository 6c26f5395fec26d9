-- ===== THE CALLS ONE BY ONE: what they ask first =====
theorem sp_bx_n {σ : sp_St} {k : sp_St → Option (sp_St × (Int32 ⊕ Nat))} : sp_bx (some (σ, none)) k = k σ := rfl
theorem sp_bx_s {σ : sp_St} {i : Nat} {k : sp_St → Option (sp_St × (Int32 ⊕ Nat))} : sp_bx (some (σ, some i)) k = some (σ, Sum.inr i) := rfl
def kd1 (k : Nat) : Option Int32 := if k = 1 then some 1 else none
def kd2 (k : Nat) : Option Int32 := if k = 2 then some 1 else none
def kd3 (k : Nat) : Option Int32 := if k = 1 then some 1 else if k = 2 then some 2 else none
def Now (j : Nat) (σ μ : sp_St) (c : Nat) (ct : Nat → Nat → Nat) (cd : List Nat × List Nat) (sc : Nat → Nat) (stk : Nat → List Nat) : Prop := Inv j σ μ ∧ μ.1 0 3 = 0 ∧ qSC σ 23 c ct cd sc ∧ mSC μ ct cd sc stk ∧ sG ct sc stk j ∧ qcd cd ∧ σ.2.1 0 3 = c
theorem Inv_code {j : Nat} {σ μ : sp_St} {v : Int32} (h : Inv j σ μ) : Inv j σ (sp_si μ 0 3 v) := Inv_q h (cq_refl σ) (mq_si (by omega))
theorem Inv_now {j : Nat} {σ μ : sp_St} (h : Inv j σ μ) : ∃ c ct cd sc stk, Now j σ (sp_si μ 0 3 0) c ct cd sc stk := by
  have h' := Inv_code (v := 0) h
  obtain ⟨c, d, ct, cd, h1, h2, h3, h4, h5, h6, h7, h8, h9⟩ := h'
  obtain ⟨sc, stk, m, nr, hs, ht', s, sb, sd, sa, g1, g2, g3, g4, g5⟩ := h6
  exact ⟨c, ct, cd, sc, stk, Inv_code h, sp_si_eq, g1, mSC_of g1.2.2.2.2.2.1 h5 g2 g3, g3, h4, h2⟩
theorem agr_ret {j : Nat} {kd : Nat → Option Int32} {x : Option (sp_St × (Int32 ⊕ Nat))} {y : Option (sp_St × Int32)} {τ υ : sp_St} {v : Int32} (h1 : x = some (τ, Sum.inl v)) (h2 : y = some (υ, v)) (h3 : Inv j τ υ) (h4 : υ.1 0 3 = 0) : agr j kd x y := ⟨τ, υ, _, v, h1, h2, h3, rfl, h4⟩
theorem agr_thr {j k : Nat} {kd : Nat → Option Int32} {x : Option (sp_St × (Int32 ⊕ Nat))} {y : Option (sp_St × Int32)} {τ υ : sp_St} {e w : Int32} (h1 : x = some (τ, Sum.inr k)) (h2 : y = some (υ, w)) (h3 : Inv j τ υ) (h4 : υ.1 0 3 = e) (h5 : kd k = some e) (h6 : e ≠ 0) : agr j kd x y := ⟨τ, υ, _, w, h1, h2, h3, e, h5, h4, h6⟩
theorem lg_lt (x y : Int64) : lg_cmp x y < 0 ↔ x.toInt < y.toInt := by
  unfold lg_cmp
  by_cases h : x > y
  · rw [if_pos h]
    have := Int64.lt_iff_toInt_lt.mp h
    constructor
    · intro h; exact absurd h (by decide)
    · intro h; omega
  · rw [if_neg h]
    by_cases e : x = y
    · rw [if_pos e]
      subst e
      constructor
      · intro h; exact absurd h (by decide)
      · intro h; omega
    · rw [if_neg e]
      have h1 : ¬ y.toInt < x.toInt := fun g => h (Int64.lt_iff_toInt_lt.mpr g)
      have h2 : ¬ x.toInt = y.toInt := fun g => e (Int64.toInt_inj.mp g)
      constructor
      · intro _; omega
      · intro _; decide
theorem lg_gt (x y : Int64) : 0 < lg_cmp x y ↔ y.toInt < x.toInt := by
  unfold lg_cmp
  by_cases h : x > y
  · rw [if_pos h]
    have := Int64.lt_iff_toInt_lt.mp h
    constructor
    · intro _; omega
    · intro _; decide
  · rw [if_neg h]
    have h1 : ¬ y.toInt < x.toInt := fun g => h (Int64.lt_iff_toInt_lt.mpr g)
    constructor
    · intro g
      by_cases e : x = y
      · rw [if_pos e] at g; exact absurd g (by decide)
      · rw [if_neg e] at g; exact absurd g (by decide)
    · intro g; exact absurd g h1
theorem lg_eq (x : Int64) : lg_cmp x x = 0 := by
  unfold lg_cmp
  rw [if_neg (by show ¬ x < x; exact Int64.lt_irrefl), if_pos rfl]
theorem is_in {n : Nat} {μ : sp_St} (a b c : Int64) : X12_isIn n μ a b c = some (μ, if b.toInt ≤ a.toInt ∧ a.toInt ≤ c.toInt then nI 1 else nI 0) := by
  unfold X12_isIn X12_isIn_17 X12_isIn_18
  by_cases h : a.toInt < b.toInt
  · rw [if_pos ((lg_lt a b).mpr h), if_neg (by omega)]; rfl
  · rw [if_neg (fun g => h ((lg_lt a b).mp g))]
    by_cases h2 : c.toInt < a.toInt
    · rw [if_pos ((lg_gt a c).mpr h2), if_neg (by omega)]; rfl
    · rw [if_neg (fun g => h2 ((lg_gt a c).mp g)), if_pos (by omega)]; rfl
theorem t640 : (0 : Int64).toInt = 0 := by decide
theorem t645 : (5 : Int64).toInt = 5 := by decide
theorem t64 (a : Int32) : a.toInt64.toInt = a.toInt := by simp
theorem a_cases (a : Int32) (N : Nat) (hN : N < 2 ^ 31) : (∃ b, b < N ∧ a = nI b) ∨ (a < 0 ∨ ¬ a < nI N) ∧ ¬ (0 ≤ a.toInt ∧ a.toInt ≤ (N : Int) - 1) := by
  by_cases h : a < 0
  · refine Or.inr ⟨Or.inl h, ?_⟩
    have := Int32.lt_iff_toInt_lt.mp h
    have e : (0 : Int32).toInt = 0 := by decide
    omega
  · obtain ⟨m, hm, rfl⟩ := nI_of h
    by_cases g : m < N
    · exact Or.inl ⟨m, g, rfl⟩
    · refine Or.inr ⟨Or.inr (by rw [qn_lt hm hN]; exact g), ?_⟩
      rw [nI_toInt hm]
      omega
section
variable {n j c : Nat} {σ μ : sp_St} {ct : Nat → Nat → Nat} {cd : List Nat × List Nat} {sc : Nat → Nat} {stk : Nat → List Nat}
theorem nb_ok (h : qSC σ 23 c ct cd sc) (hc : σ.2.1 0 3 = c) {b : Nat} (hb : b < ct 0 13) : X11_needBlade n σ (nI b) = some (σ, none) := by
  have hn := h.2.2.2.2.2.1.1
  rw [X11_needBlade, if_neg (nI_pos (by omega)), sp_pl, hc, h.2.2.1, sp_ckt, h.2.2.2.1.1, if_pos ((nI_ltI (by omega) (by omega)).mpr hb)]
theorem ns_ok (h : qSC σ 23 c ct cd sc) (hc : σ.2.1 0 3 = c) {b : Nat} (hb : b < ct 0 14) : X11_needSwallower n σ (nI b) = some (σ, none) := by
  have hn := h.2.2.2.2.2.1.2.1
  rw [X11_needSwallower, if_neg (nI_pos (by omega)), sp_pl, hc, h.2.2.1, sp_ckt, h.2.2.2.1.2.1, if_pos ((nI_ltI (by omega) (by omega)).mpr hb)]
theorem nh_ok {b : Nat} (hb : b < 6) : X11_needHouse n σ (nI b) = some (σ, none) := by
  rw [X11_needHouse, if_neg (nI_pos (by omega)), if_pos (show nI b < 6 from (nI_ltI (a := b) (b := 6) (by omega) (by omega)).mpr hb)]
theorem ib_ok (h : mSC μ ct cd sc stk) {b : Nat} (hb : b < ct 0 13) : X12_isBlade n μ (nI b) = some (μ, nI 1) := by
  have hn := h.2.2.2.1.1
  have e : sp_g μ 3 (2 : Int32) = nI (ct 0 13) := h.1.2.1
  have e2 : (nI (ct 0 13) - 1).toInt = (ct 0 13 : Int) - 1 := pk_sub_toInt (a := ct 0 13) (b := 1) (by omega) (by decide)
  rw [X12_isBlade, is_in, e, t64, t64, e2, nI_toInt (by omega), if_pos (by rw [t640]; omega)]
  rfl
theorem it_ok (h : mSC μ ct cd sc stk) {b : Nat} (hb : b < ct 0 14) : X12_isThroat n μ (nI b) = some (μ, nI 1) := by
  have hn := h.2.2.2.1.2.1
  have e : sp_g μ 3 (1 : Int32) = nI (ct 0 14) := h.1.1
  have e2 : (nI (ct 0 14) - 1).toInt = (ct 0 14 : Int) - 1 := pk_sub_toInt (a := ct 0 14) (b := 1) (by omega) (by decide)
  rw [X12_isThroat, is_in, e, t64, t64, e2, nI_toInt (by omega), if_pos (by rw [t640]; omega)]
  rfl
theorem ih_ok {b : Nat} (hb : b < 6) : X12_isHouse n μ (nI b) = some (μ, nI 1) := by
  rw [X12_isHouse, is_in, t64, nI_toInt (by omega), if_pos (by rw [t640, t645]; omega)]
  rfl
theorem b_cases (h : qSC σ 23 c ct cd sc) (hc : σ.2.1 0 3 = c) (g : mSC μ ct cd sc stk) (a : Int32) : (∃ b, b < ct 0 13 ∧ a = nI b) ∨ X11_needBlade n σ a = some (σ, some 1) ∧ X12_isBlade n μ a = some (μ, nI 0) := by
  have hn := h.2.2.2.2.2.1.1
  rcases a_cases a (ct 0 13) (by omega) with hb | ⟨h1, h2⟩
  · exact Or.inl hb
  · refine Or.inr ⟨?_, ?_⟩
    · unfold X11_needBlade X11_needBlade_15
      rw [sp_pl, hc, h.2.2.1, sp_ckt, h.2.2.2.1.1]
      rcases h1 with h1 | h1
      · rw [if_pos h1]
      · rw [if_neg h1]; split <;> rfl
    · have e : sp_g μ 3 (2 : Int32) = nI (ct 0 13) := g.1.2.1
      have e2 : (nI (ct 0 13) - 1).toInt = (ct 0 13 : Int) - 1 := pk_sub_toInt (a := ct 0 13) (b := 1) (by omega) (by decide)
      rw [X12_isBlade, is_in, e, t64, t64, e2, if_neg (by rw [t640]; omega)]
      rfl
theorem s_cases (h : qSC σ 23 c ct cd sc) (hc : σ.2.1 0 3 = c) (g : mSC μ ct cd sc stk) (a : Int32) : (∃ b, b < ct 0 14 ∧ a = nI b) ∨ X11_needSwallower n σ a = some (σ, some 1) ∧ X12_isThroat n μ a = some (μ, nI 0) := by
  have hn := h.2.2.2.2.2.1.2.1
  rcases a_cases a (ct 0 14) (by omega) with hb | ⟨h1, h2⟩
  · exact Or.inl hb
  · refine Or.inr ⟨?_, ?_⟩
    · unfold X11_needSwallower X11_needSwallower_15
      rw [sp_pl, hc, h.2.2.1, sp_ckt, h.2.2.2.1.2.1]
      rcases h1 with h1 | h1
      · rw [if_pos h1]
      · rw [if_neg h1]; split <;> rfl
    · have e : sp_g μ 3 (1 : Int32) = nI (ct 0 14) := g.1.1
      have e2 : (nI (ct 0 14) - 1).toInt = (ct 0 14 : Int) - 1 := pk_sub_toInt (a := ct 0 14) (b := 1) (by omega) (by decide)
      rw [X12_isThroat, is_in, e, t64, t64, e2, if_neg (by rw [t640]; omega)]
      rfl
theorem h_cases (a : Int32) : (∃ b, b < 6 ∧ a = nI b) ∨ X11_needHouse n σ a = some (σ, some 1) ∧ X12_isHouse n μ a = some (μ, nI 0) := by
  rcases a_cases a 6 (by omega) with hb | ⟨h1, h2⟩
  · exact Or.inl hb
  · refine Or.inr ⟨?_, ?_⟩
    · unfold X11_needHouse X11_needHouse_10
      rcases h1 with h1 | h1
      · rw [if_pos h1]
      · rw [if_neg (show ¬ a < 6 from h1)]; split <;> rfl
    · rw [X12_isHouse, is_in, t64, if_neg (by rw [t640, t645]; omega)]
      rfl
theorem rq_failI {v : Int32} : X12_fail n μ v = some (sp_si μ 0 3 v, 0) := rfl
theorem n10 : ¬ nI 1 = 0 := by decide
theorem n00 : nI 0 = 0 := rfl
theorem kNs : ∀ p, cK p → p < 23 + 3 ∨ 23 + 6 < p := fun p h => by unfold cK at h; omega
theorem op_blade (hn : 1000 ≤ n) (h : Inv j σ μ) (a1 a2 : Int32) : agr j kd1 (X11_blade n σ a1 a2) (X12_blade n μ a1 a2) := by
  obtain ⟨c, ct, cd, sc, stk, hI, h3, hS, hM, hG, hD, hc⟩ := Inv_now h
  have hn1 : 100 ≤ n := by omega
  have hP := qI_P hS.2.2.2.2.2.1.2.1 hG.1
  rw [X12_blade, sp_pl, X11_blade]
  generalize sp_si μ 0 3 0 = μ1 at *
  rcases b_cases (n := n) hS hc hM a1 with ⟨b, hb, rfl⟩ | ⟨e1, e2⟩
  · have hb10 := hS.2.2.2.2.2.1.1
    rw [nb_ok hS hc hb, sp_bx_n, ib_ok hM hb, sp_bd_s, if_neg n10]
    have w10 : sp_in (nI b) 10 = true := qn_in (by omega) (by omega)
    have w20 : sp_in (nI b) 20 = true := qn_in (by omega) (by omega)
    have w50 : sp_in (nI b) 50 = true := qn_in (by omega) (by omega)
    by_cases x0 : a2 = 0
    · rw [if_pos x0, if_pos x0, sp_pl, hc, hS.2.2.1, sp_ckt, w10, sp_ckt, w20, sp_ckt, qn_g (by omega), qn_g (by omega)]
      exact agr_ret (υ := μ1) rfl (by rw [hM.1.2.2.2.2.2.1 b hb, hS.2.2.2.1.2.2.2.1 b hb]) hI h3
    rw [if_neg x0, if_neg x0]
    by_cases x1 : a2 = 1
    · rw [if_pos x1, if_pos x1, sp_pl, hc, hS.2.2.1, sp_ckt, w10, sp_ckt, w20, sp_ckt, qn_g (by omega), qn_g (by omega)]
      exact agr_ret (υ := μ1) rfl (by rw [hM.1.2.2.2.2.2.2.1 b hb, hS.2.2.2.1.2.2.2.2.1 b hb]) hI h3
    rw [if_neg x1, if_neg x1]
    by_cases x2 : a2 = 2
    · rw [if_pos x2, if_pos x2, w10, sp_ckt, w50, sp_ckt, qn_g (by omega), qn_g (by omega)]
      exact agr_ret (υ := μ1) rfl (by rw [hM.2.1.2.2.1 b hb, hS.2.2.2.2.1 b (by omega)]) hI h3
    rw [if_neg x2, if_neg x2]
    by_cases x3 : a2 = 3
    · rw [if_pos x3, if_pos x3, w10, sp_ckt, sq_state hS (by omega), sp_bd_s, qn_g (by omega)]
      exact agr_ret (υ := μ1) rfl (by rw [hM.2.1.2.2.2.1 b hb]) hI h3
    rw [if_neg x3, if_neg x3]
    by_cases x4 : a2 = 4
    · rw [if_pos x4, if_pos x4, sq_swallowerOf hS (by omega), sp_bd_s, rq_throatOf hM hn1 hb, sp_bd_s]
      exact agr_ret (υ := μ1) rfl rfl hI h3
    rw [if_neg x4, if_neg x4]
    by_cases x5 : a2 = 5
    · rw [if_pos x5, if_pos x5, rq_foesOf hM hn1 hb, sp_bd_s, X8_foesNow]
      obtain ⟨τ, e1, ha, hf⟩ := sq_lookRound hS hn1 hP
      rw [e1, sp_bv_s, sq_foesWith (qSC_oth hS hf (by omega) (by omega)) hP ha hb, sp_bd_s, sp_bd_s]
      exact agr_ret (υ := μ1) rfl rfl (Inv_q hI (cq_fp hf (fun p hp => by have := kNs p hp; omega)) (mq_refl _)) h3
    rw [if_neg x5, if_neg x5]
    by_cases x6 : a2 = 6
    · rw [if_pos x6, if_pos x6, X8_changeNow]
      obtain ⟨τ, e1, ha, hf⟩ := sq_lookRound hS hn1 hP
      obtain ⟨⟨τ2, r⟩, e2, g1, g2⟩ := sq_changeOf (qSC_oth hS hf (by omega) (by omega)) hn hP hD ha hb
      obtain ⟨⟨μ2, r2⟩, e3, g3, g4⟩ := rq_changeOf hM hn hD hb
      dsimp only at g1 g2 g3 g4
      subst g1 g3
      rw [e1, sp_bv_s, e2, sp_bd_s, sp_bd_s, e3, sp_bd_s]
      exact agr_ret (υ := μ2) rfl rfl (Inv_q hI (cq_trans (cq_fp hf (fun p hp => by have := kNs p hp; omega)) (cq_fp g2 (fun p hp => by have := kNs p hp; omega))) (mq_fs g4)) (by rw [g4.2.2]; exact h3)
    rw [if_neg x6, if_neg x6, rq_failI, sp_bd_s]
    exact agr_thr rfl rfl (Inv_code hI) sp_si_eq rfl (by decide)
  · rw [e1, sp_bx_s, e2, sp_bd_s, if_pos n00, rq_failI, sp_bd_s]
    exact agr_thr rfl rfl (Inv_code hI) sp_si_eq rfl (by decide)
end
