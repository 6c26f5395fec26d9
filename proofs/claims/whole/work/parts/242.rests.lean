-- ===== rests, worst =====
section
variable {n j c t : Nat} {σ μ : sp_St} {ct : Nat → Nat → Nat} {cd : List Nat × List Nat} {sc : Nat → Nat} {stk : Nat → List Nat}
def rfn (ct : Nat → Nat → Nat) (cd : List Nat × List Nat) (sc : Nat → Nat) (b : Nat) : Option Nat := qf (fun k => decide (qdn ct cd sc k (10 + b) = 6)) 61 0
theorem sq_rests (h : qSC σ 23 c ct cd sc) (hn : 1000 ≤ n) (hI : qI ct sc) (hD : qcd cd) (h47 : sc 47 ≤ 999) {b : Nat} (hb : b < ct 0 13) : sp_wp (X4_daysToRest n σ (nI b)) (fun r => r.2 = qe (rfn ct cd sc b) ∧ cD σ r.1) := by
  have hK := h.2.2.2.2.2.1
  have hb10 := hK.1
  obtain ⟨τ, a1, a2, a3, _⟩ := sq_dream h (by omega : 100 ≤ n)
  rw [X4_daysToRest, a1, sp_bv_s, sp_pl]
  refine lp_inv (fun f i s => X4_daysToRest_13 n f s (nI b) (nI i)) (fun i s => cD σ s ∧ qSC s 50 c ct cd (qdn ct cd sc i) ∧ ∀ k, k < i → ¬ qdn ct cd sc k (10 + b) = 6) 61 _ (fun f s hJ => ?_) (fun f i s hi hJ kk => ?_) n 0 τ (by omega) (by omega) ⟨a2, a3, fun k h2 => by omega⟩
  · obtain ⟨g1, g2, g3⟩ := hJ
    rw [X4_daysToRest_13, if_pos (show (60 : Int32) < nI 61 by decide), X4_daysToRest_51]
    refine wp_some.mpr ⟨?_, g1⟩
    have : rfn ct cd sc b = none := qf_no fun m h1 h2 => by rw [decide_eq_false_iff_not]; exact g3 m (by omega)
    rw [this]
    rfl
  · obtain ⟨g1, g2, g3⟩ := hJ
    have hq := qdn_I (cd := cd) hK hI i
    have hB := g2.2.2.2.2.2.2 (10 + b)
    have e1 : sp_g s 51 (nI (10 + b)) = nI (qdn ct cd sc i (10 + b)) := by rw [qn_g (by omega)]; exact g2.2.2.2.2.1 (10 + b) (by omega)
    rw [X4_daysToRest_13, if_neg (show ¬ (60 : Int32) < nI i from fun h => by
      have := (nI_ltI (a := 60) (b := i) (by omega) (by omega)).mp h
      omega), show (10 : Int32) + nI b = nI (10 + b) from nI_add 10 b, qn_in (by omega) (by omega), sp_ckt, e1]
    by_cases p : qdn ct cd sc i (10 + b) = 6
    · rw [if_pos (by rw [p]; rfl), X4_daysToRest_36]
      refine wp_some.mpr ⟨?_, g1⟩
      have : rfn ct cd sc b = some i := qf_is (by omega) (by omega) (by rw [decide_eq_true_iff]; exact p) (fun m h1 h2 => by rw [decide_eq_false_iff_not]; exact g3 m h2)
      rw [this]
      rfl
    · rw [if_neg (show ¬ nI (qdn ct cd sc i (10 + b)) = 6 from by show ¬ nI (qdn ct cd sc i (10 + b)) = nI 6; rw [qn_eq (by omega) (by omega)]; exact p)]
      refine wp_bv (wp_mono (sq_day g2 hn hq.1 hD (by omega)) ?_)
      rintro υ ⟨r1, r2, _⟩
      rw [sp_pl, nI_1]
      refine kk υ ⟨cD_trans g1 (cD_fp r2 (by omega)), r1, fun k h2 => ?_⟩
      by_cases ek : k = i
      · subst ek; exact p
      · exact g3 k (by omega)
theorem rq_rests (h : mSC μ ct cd sc stk) (hn : 1000 ≤ n) (hI : qI ct sc) (hD : qcd cd) (h47 : sc 47 ≤ 999) {b : Nat} (hb : b < ct 0 13) : sp_wp (sp_bv (X12_pack n μ 25 88 0) fun σ7 => sp_pl (-1 : Int32) fun x8 => sp_pl (0 : Int32) fun x10 => X12_rests_32 n n σ7 (nI b) x8 x10) (fun r => r.2 = qe (rfn ct cd sc b) ∧ mw μ r.1) := by
  have hK := h.2.2.2.1
  have hb10 := hK.1
  have hn1 : 100 ≤ n := by omega
  obtain ⟨ν, b1, b2, b3, b4, b5⟩ := md_start h hn1 (p := 25) (by omega) (by omega)
  rw [b1, sp_bv_s, sp_pl, sp_pl]
  have fin : ∀ (s : sp_St) (v : Int32), mD 25 μ s → v = qe (rfn ct cd sc b) → sp_wp (X12_rests_65 n s v) (fun r => r.2 = qe (rfn ct cd sc b) ∧ mw μ r.1) := by
    intro s v d1 hv
    obtain ⟨ν3, u1, u2, u3, u4⟩ := md_end d1 hn1 (by omega)
    rw [X12_rests_65, u1, sp_bv_s]
    exact wp_some.mpr ⟨hv, u2⟩
  refine lp_inv (fun f i (S : sp_St × Option Nat) => X12_rests_32 n f S.1 (nI b) (qe S.2) (nI i)) (fun i S => mD 25 μ S.1 ∧ (∃ stk', mSC S.1 ct cd (qdn ct cd sc i) stk') ∧ match S.2 with
      | none => ∀ k, k < i → ¬ qdn ct cd sc k (10 + b) = 6
      | some k => rfn ct cd sc b = some k) 61 _ (fun f S hJ => ?_) (fun f i S hi hJ kk => ?_) n 0 (ν, none) (by omega) (by omega) ⟨b2, ⟨stk, b3⟩, fun k h2 => by omega⟩
  · obtain ⟨s, o⟩ := S
    obtain ⟨g1, _, g4⟩ := hJ
    dsimp only at g1 g4 ⊢
    rw [X12_rests_32, if_pos (show (60 : Int32) < nI 61 by decide)]
    refine fin s _ g1 ?_
    cases o with
    | none =>
      have : rfn ct cd sc b = none := qf_no fun m h1 h2 => by rw [decide_eq_false_iff_not]; exact g4 m (by omega)
      rw [this]
    | some k =>
      have g4' : rfn ct cd sc b = some k := g4
      rw [g4']
  · obtain ⟨s, o⟩ := S
    obtain ⟨g1, ⟨stk', g5⟩, g4⟩ := hJ
    dsimp only at g1 g4 g5 ⊢
    rw [X12_rests_32, if_neg (show ¬ (60 : Int32) < nI i from fun h => by
      have := (nI_ltI (a := 60) (b := i) (by omega) (by omega)).mp h
      omega)]
    cases o with
    | some k =>
      have g4' : rfn ct cd sc b = some k := g4
      have hk := qf_some g4'
      rw [if_neg (show ¬ qe (some k) = -1 from fun hh => by
        have h5 : (nI k = -nI 1) = False := qn_meq (by omega)
        rw [← h5]; exact hh)]
      exact fin s _ g1 (by rw [g4'])
    | none =>
      have hq := qdn_I (cd := cd) hK hI i
      have hw := sqs_lt (qdn ct cd sc i) b
      have e1 : sp_g s 15 (nI b) = nI (sqState (qdn ct cd sc i) b) := by rw [qn_g (by omega)]; exact g5.2.1.2.2.2.1 b hb
      have g6 : ∀ k, k < i → ¬ qdn ct cd sc k (10 + b) = 6 := g4
      rw [if_pos (show qe none = -1 from rfl), qn_in (by omega) (by omega), sp_ckt, e1]
      by_cases p : qdn ct cd sc i (10 + b) = 6
      · rw [sqs2.mpr p, if_pos (show nI 2 = 2 from rfl), X12_rests_55]
        refine wp_bv (wp_mono (rq_day g5 hn hq.1 hD (by omega)) ?_)
        rintro υ ⟨r1, r2, _⟩
        rw [sp_pl, nI_1]
        refine kk (υ, some i) ⟨mD_fd (by omega) g1 r2, r1, ?_⟩
        exact qf_is (by omega) (by omega) (by rw [decide_eq_true_iff]; exact p) (fun m h1 h2 => by rw [decide_eq_false_iff_not]; exact g6 m h2)
      · have p' : ¬ sqState (qdn ct cd sc i) b = 2 := fun x => p (sqs2.mp x)
        rw [if_neg (show ¬ nI (sqState (qdn ct cd sc i) b) = 2 from by show ¬ nI (sqState (qdn ct cd sc i) b) = nI 2; rw [qn_eq (by omega) (by omega)]; exact p'), X12_rests_55]
        refine wp_bv (wp_mono (rq_day g5 hn hq.1 hD (by omega)) ?_)
        rintro υ ⟨r1, r2, _⟩
        rw [sp_pl, nI_1]
        refine kk (υ, none) ⟨mD_fd (by omega) g1 r2, r1, fun k h2 => ?_⟩
        by_cases ek : k = i
        · subst ek; exact p
        · exact g6 k (by omega)
theorem op_rests (hn : 5000 ≤ n) (h : Inv j σ μ) (a1 : Int32) : agr j kd1 (X11_rests n σ a1) (X12_rests n μ a1) := by
  obtain ⟨c, ct, cd, sc, stk, hI, h3, hS, hM, hG, hD, hc⟩ := Inv_now h
  rw [X12_rests, sp_pl, X11_rests]
  generalize sp_si μ 0 3 0 = μ1 at *
  rcases b_cases (n := n) hS hc hM a1 with ⟨b, hb, rfl⟩ | ⟨e1, e2⟩
  · obtain ⟨⟨τ, r⟩, b1, b2, b3⟩ := sq_rests hS (by omega : 1000 ≤ n) hG.1 hD hG.2.2.2.1 hb
    obtain ⟨⟨ν, v⟩, d1, d2, d3⟩ := rq_rests hM (by omega : 1000 ≤ n) hG.1 hD hG.2.2.2.1 hb
    dsimp only at b2 b3 d2 d3
    rw [nb_ok hS hc hb, sp_bx_n, ib_ok hM hb, sp_bd_s, if_neg n10, b1, sp_bd_s, d1]
    exact agr_ret rfl (by rw [b2, d2]) (Inv_w hI (cD_q b3) d3) (by rw [d3.2.2 3 (by omega)]; exact h3)
  · rw [e1, sp_bx_s, e2, sp_bd_s, if_pos n00, rq_failI, sp_bd_s]
    exact agr_thr rfl rfl (Inv_code hI) sp_si_eq rfl (by decide)
/-- how often a house fights at most -/
theorem qfa_c {b : Nat} (h : Nat) : (qfa ct sc b).2.2 h ≤ 2 * b := by
  induction b with
  | zero => exact Nat.le_refl _
  | succ b ih =>
    unfold qfa
    cases e : qfoe1 ct (qfa ct sc b).1 (qfa ct sc b).2.1 b with
    | none => show (qfa ct sc b).2.2 h ≤ _; omega
    | some o =>
      show ((qfa ct sc b).2.2 h + if h = ct 1 b then 1 else 0) + (if h = ct 1 o then 1 else 0) ≤ _
      split <;> split <;> omega
theorem qfn_le (hb10 : ct 0 13 ≤ 10) (h : Nat) : ∀ k, qfn ct cd sc h k ≤ 20 * k := by
  intro k
  induction k with
  | zero => exact Nat.le_refl _
  | succ k ih =>
    rw [qfn_s]
    have : qfts ct cd (qdn ct cd sc k) h ≤ 2 * ct 0 13 := qfa_c h
    omega
/-- the least of those with most -/
def wst (v : Nat → Nat) (lo hi : Nat) : Option Nat → Prop
  | none => ∀ o, lo ≤ o → o < hi → v o = 0
  | some h => lo ≤ h ∧ h < hi ∧ 0 < v h ∧ (∀ o, lo ≤ o → o < hi → v o ≤ v h) ∧ ∀ o, lo ≤ o → o < h → v o < v h
theorem wst_u {v : Nat → Nat} {a b : Option Nat} (h1 : wst v 0 6 a) (h2 : wst v 0 6 b) : a = b := by
  cases a with
  | none => cases b with
    | none => rfl
    | some y => obtain ⟨y1, y2, y3, _⟩ := h2; have := h1 y y1 y2; omega
  | some x =>
    obtain ⟨x1, x2, x3, x4, x5⟩ := h1
    cases b with
    | none => have := h2 x x1 x2; omega
    | some y =>
      obtain ⟨y1, y2, y3, y4, y5⟩ := h2
      congr 1
      rcases Nat.lt_trichotomy x y with e | e | e
      · have := y5 x (by omega) e; have := x4 y (by omega) y2; omega
      · exact e
      · have := x5 y (by omega) e; have := y4 x (by omega) x2; omega
theorem sq_worstL {v : Nat → Nat} (hn : 100 ≤ n) (hv : ∀ h, h < 6 → v h < 100000) (h52 : ∀ h, h < 6 → σ.2.2.1 52 h = nI (v h)) : sp_wp (X4_worstHouse_13 n n σ (-1) 0 0) (fun r => r.1 = σ ∧ ∃ o, wst v 0 6 o ∧ r.2 = qe o) := by
  refine lp_inv (fun f i (S : Option Nat × Nat) => X4_worstHouse_13 n f σ (qe S.1) (nI S.2) (nI i)) (fun i S => wst v 0 i S.1 ∧ match S.1 with
      | none => S.2 = 0
      | some h => S.2 = v h) 6 _ (fun f S hJ => ?_) (fun f i S hi hJ kk => ?_) n 0 (none, 0) (by omega) (by omega) ⟨fun o h1 h2 => by omega, rfl⟩
  · rw [X4_worstHouse_13, if_pos (show (6 : Int32) ≤ nI 6 by decide), X4_worstHouse_54]
    exact wp_some.mpr ⟨rfl, S.1, hJ.1, rfl⟩
  · obtain ⟨o, m⟩ := S
    obtain ⟨g1, g2⟩ := hJ
    dsimp only at g1 g2 ⊢
    have e1 : sp_g σ 52 (nI i) = nI (v i) := by rw [qn_g (by omega)]; exact h52 i hi
    have hvi := hv i hi
    have hm : m < 100000 := by
      cases o with
      | none => have g2' : m = 0 := g2; omega
      | some h => have g2' : m = v h := g2; have := hv h (by have := g1.2.1; omega); omega
    rw [X4_worstHouse_13, if_neg (show ¬ (6 : Int32) ≤ nI i from nI_ge (b := 6) hi (by omega)), qn_in (by omega) (by omega), sp_ckt, e1]
    by_cases p : v i ≤ m
    · rw [if_pos ((nI_leI (by omega) (by omega)).mpr p), X4_worstHouse_48, sp_pl, nI_1]
      refine kk (o, m) ⟨?_, g2⟩
      cases o with
      | none =>
        have g2' : m = 0 := g2
        intro q h1 h2
        by_cases eq : q = i
        · subst eq; omega
        · exact g1 q h1 (by omega)
      | some h =>
        have g2' : m = v h := g2
        obtain ⟨x1, x2, x3, x4, x5⟩ := g1
        refine ⟨x1, by omega, x3, fun q h1 h2 => ?_, x5⟩
        by_cases eq : q = i
        · subst eq; omega
        · exact x4 q h1 (by omega)
    · rw [if_neg (nI_ge (by omega) (by omega)), sp_ckt, sp_pl, X4_worstHouse_48, sp_pl, nI_1]
      refine kk (some i, v i) ⟨⟨by omega, by omega, by omega, fun q h1 h2 => ?_, fun q h1 h2 => ?_⟩, rfl⟩
      all_goals
        cases o with
        | none =>
          by_cases eq : q = i
          · subst eq; omega
          · have := g1 q h1 (by omega); omega
        | some h =>
          have g2' : m = v h := g2
          by_cases eq : q = i
          · subst eq; omega
          · have := g1.2.2.2.1 q h1 (by omega); omega
theorem rq_worstL {v : Nat → Nat} (hv : ∀ h, h < 6 → v h < 100000) (h24 : ∀ h, h < 6 → μ.2.2.1 24 h = nI (v h)) : ∀ (i f : Nat) (o : Option Nat), i ≤ 6 → i < f → wst v i 6 o → ∃ o', wst v 0 6 o' ∧ X12_worst_62 n f μ (qe o) (nI i - 1) = X12_worst_103 n μ (qe o') := by
  intro i
  induction i with
  | zero =>
    intro f o _ hf hw
    obtain ⟨f, rfl⟩ : ∃ g, f = g + 1 := ⟨f - 1, by omega⟩
    exact ⟨o, hw, by rw [X12_worst_62, if_pos (show nI 0 - 1 < 0 by decide)]⟩
  | succ i ih =>
    intro f o hi hf hw
    obtain ⟨f, rfl⟩ : ∃ g, f = g + 1 := ⟨f - 1, by omega⟩
    have e1 : sp_g μ 24 (nI i) = nI (v i) := by rw [qn_g (by omega)]; exact h24 i (by omega)
    have hvi := hv i (by omega)
    have em : ∀ o', X12_worst_97 n (X12_worst_62 n f) μ o' (nI i) = X12_worst_62 n f μ o' (nI i - 1) := fun o' => by
      rw [X12_worst_97, sp_pl, Int32.sub_eq_add_neg]
    rw [X12_worst_62, nI_pred, if_neg (nI_pos (by omega)), qn_in (by omega) (by omega), sp_ckt, e1]
    by_cases z : v i = 0
    · rw [z, if_pos (show nI 0 ≤ 0 by decide), em]
      refine ih f o (by omega) (by omega) ?_
      cases o with
      | none =>
        intro q h1 h2
        by_cases eq : q = i
        · subst eq; exact z
        · exact hw q (by omega) h2
      | some h =>
        obtain ⟨x1, x2, x3, x4, x5⟩ := hw
        refine ⟨by omega, x2, x3, fun q h1 h2 => ?_, fun q h1 h2 => ?_⟩
        · by_cases eq : q = i
          · subst eq; omega
          · exact x4 q (by omega) h2
        · by_cases eq : q = i
          · subst eq; omega
          · exact x5 q (by omega) h2
    · rw [if_neg (show ¬ nI (v i) ≤ 0 from by show ¬ nI (v i) ≤ nI 0; rw [qn_le (by omega) (by omega)]; omega)]
      cases o with
      | none =>
        rw [if_pos (show qe none = -1 from rfl), X12_worst_95, em]
        refine ih f (some i) (by omega) (by omega) ⟨by omega, by omega, by omega, fun q h1 h2 => ?_, fun q h1 h2 => by omega⟩
        by_cases eq : q = i
        · subst eq; omega
        · have := hw q (by omega) h2; omega
      | some h =>
        obtain ⟨x1, x2, x3, x4, x5⟩ := hw
        have hvh := hv h x2
        have e2 : sp_g μ 24 (nI h) = nI (v h) := by rw [qn_g (by omega)]; exact h24 h x2
        rw [if_neg (show ¬ qe (some h) = -1 from fun hh => by
          have h5 : (nI h = -nI 1) = False := qn_meq (by omega)
          rw [← h5]; exact hh), sp_ckt, qe, qn_in (by omega) (by omega), sp_ckt, e2]
        by_cases lt : v i < v h
        · rw [if_pos ((nI_ltI (by omega) (by omega)).mpr lt), em]
          refine ih f (some h) (by omega) (by omega) ⟨by omega, x2, x3, fun q h1 h2 => ?_, fun q h1 h2 => ?_⟩
          · by_cases eq : q = i
            · subst eq; omega
            · exact x4 q (by omega) h2
          · by_cases eq : q = i
            · subst eq; exact lt
            · exact x5 q (by omega) h2
        · rw [if_neg (fun hh => lt ((nI_ltI (by omega) (by omega)).mp hh)), X12_worst_95, em]
          refine ih f (some i) (by omega) (by omega) ⟨by omega, by omega, by omega, fun q h1 h2 => ?_, fun q h1 h2 => by omega⟩
          by_cases eq : q = i
          · subst eq; omega
          · have := x4 q (by omega) h2; omega
end
