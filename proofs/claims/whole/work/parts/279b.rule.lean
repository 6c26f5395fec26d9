-- ===== expressions: tests, nots, the whole =====
section
variable {T : Nat → Nat} {n N c a r e b kd v w d : Nat} {σ0 μ0 σ μ : sp_St} {L : List Nat} {kc : sp_St → Int32 → Option (sp_St × Int32)} {km : sp_St → Int32 → Option sp_St}
/-- the reference's readNot_40 goes on to what lays the nots -/
theorem test_out (hn : 1000 ≤ n) (hP : PP T N c a r σ0 μ0 w (fun σ => X7_sum n kc σ (nI d)) (fun μ => X12_readSum n km μ (nI d))) (hE : ES T N c a r σ0 μ0 σ μ e b kd v L) : (∃ τ υ e' b' kd' v' D, X7_test n kc σ (nI d) = some (τ, 1) ∧ (∀ z, X12_readNot_40 n km μ (nI d) z = X12_readNot_94 n km υ z) ∧ ES T N c a r σ0 μ0 τ υ e' b' kd' v' (L ++ D) ∧ D.length + b ≤ b' ∧ 0 < D.length ∧ seg (6 - 2 * r) (w + 1) D) ∨ ∃ τ υ, X7_test n kc σ (nI d) = some (τ, 0) ∧ (∀ z, X12_readNot_40 n km μ (nI d) z = X12_readNot_94 n km υ z) ∧ BD c a r σ0 μ0 τ υ := by
  rcases hP σ μ e b kd v L hE with ⟨τ2, υ2, e2, b2, kd2, v2, D2, p1, p2, p3, p4, p5, p6⟩ | ⟨τ2, υ2, p1, p2, p3⟩
  · have p1' : X7_sum n kc σ (nI d) = some (τ2, 1) := p1
    have p2' : X12_readSum n km μ (nI d) = some υ2 := p2
    have hk := p3.1.2.2.2.2.2.2.2.1
    have m60 : X12_isMarked n υ2 60 = some (υ2, bI (decide (kd2 = 60))) := rq_mk p3.1 p3.2.2.1.1 (x := 60) (by omega) (by omega)
    have m61 : X12_isMarked n υ2 61 = some (υ2, bI (decide (kd2 = 61))) := rq_mk p3.1 p3.2.2.1.1 (x := 61) (by omega) (by omega)
    rw [X7_test, p1', sp_bd_s, if_neg (show ¬ (1 : Int32) = 0 by decide), sp_pl, p3.1.2.2.2.2.2.1]
    -- the second sum
    have sec : ∀ k, (kd2 = 60 ∧ k = 10014 ∨ kd2 = 61 ∧ k = 10015) → (∃ τ υ e' b' kd' v' D, X7_test_32 n kc τ2 (nI d) (nI kd2) = some (τ, 1) ∧ (∀ z, X12_readNot_63 n km υ2 (nI d) z = X12_readNot_94 n km υ z) ∧ ES T N c a r σ0 μ0 τ υ e' b' kd' v' (L ++ D) ∧ D.length + b ≤ b' ∧ 0 < D.length ∧ seg (6 - 2 * r) (w + 1) D) ∨ ∃ τ υ, X7_test_32 n kc τ2 (nI d) (nI kd2) = some (τ, 0) ∧ (∀ z, X12_readNot_63 n km υ2 (nI d) z = X12_readNot_94 n km υ z) ∧ BD c a r σ0 μ0 τ υ := by
      intro k hk2
      have hc8 : (if nI kd2 = 60 then (-11 : Int32) else -12) = encC k := by
        rcases hk2 with ⟨h1, h2⟩ | ⟨h1, h2⟩
        · rw [h1, h2]; rfl
        · rw [h1, h2]; rfl
      have hm8 : (if bI (decide (kd2 = 60)) = 0 then (-25 : Int32) else -24) = encM k := by
        rcases hk2 with ⟨h1, h2⟩ | ⟨h1, h2⟩
        · rw [h1, h2]; rfl
        · rw [h1, h2]; rfl
      obtain ⟨τ3, υ3, e3, b3, kd3, v3, n1, n2, n3, n4⟩ := es_nx hn p3 (by omega)
      have r63 : ∀ z, X12_readNot_63 n km υ2 (nI d) z = sp_bv (X12_readSum n km υ3 (nI d)) fun σ9 => sp_bv (X12_lay n σ9 (encM k)) fun σ11 => X12_readNot_94 n km σ11 z := fun z => by
        rw [X12_readNot_63, m60, sp_bd_s, sp_pl, hm8, n2, sp_bv_s]
      rw [X7_test_32, n1, sp_bv_s]
      have hab := p3.2.2.2
      rcases hP τ3 υ3 e3 b3 kd3 v3 _ n3 with ⟨τ4, υ4, e4, b4, kd4, v4, D4, s1, s2, s3, s4, s5, s6⟩ | ⟨τ4, υ4, s1, s2, s3⟩
      · have s1' : X7_sum n kc τ3 (nI d) = some (τ4, 1) := s1
        have s2' : X12_readSum n km υ3 (nI d) = some υ4 := s2
        obtain ⟨τ5, υ5, q1, q2, q3⟩ := es_add (n := n) s3 (by rw [List.length_append]; omega) k
        have e5 : L ++ D2 ++ D4 ++ [k] = L ++ (D2 ++ D4 ++ [k]) := by simp
        rw [e5] at q3
        rw [s1', sp_bd_s, sp_pl, s3.2.1.1, s3.2.1.2.1, sp_ckt, sp_pl, hc8, q1, sp_bv_s]
        refine Or.inl ⟨τ5, υ5, e4, b4, kd4, v4, D2 ++ D4 ++ [k], rfl, fun z => by rw [r63, s2', sp_bv_s, q2, sp_bv_s], q3, ?_, ?_, seg_op (seg_mono p6 (by omega)) s6 (by omega) (by omega) (by omega) (by omega) (by omega)⟩
        · simp only [List.length_append, List.length_cons, List.length_nil]; omega
        · simp only [List.length_append, List.length_cons, List.length_nil]; omega
      · have s1' : X7_sum n kc τ3 (nI d) = some (τ4, 0) := s1
        have s2' : X12_readSum n km υ3 (nI d) = some υ4 := s2
        obtain ⟨τ5, q1, q3⟩ := bd_add (n := n) s3 (encC k)
        rw [s1', sp_bd_s, sp_pl, s3.2.2.2.1, s3.2.2.2.2.1, sp_ckt, sp_pl, hc8, q1, sp_bv_s]
        exact Or.inr ⟨τ5, υ4, rfl, fun z => by rw [r63, s2', sp_bv_s, rq_layB s3.1, sp_bv_s], q3⟩
    by_cases k60 : kd2 = 60
    · have r40 : ∀ z, X12_readNot_40 n km μ (nI d) z = X12_readNot_63 n km υ2 (nI d) z := fun z => by
        rw [X12_readNot_40, p2', sp_bv_s, m60, sp_bd_s, decide_eq_true k60, if_neg (show ¬ bI true = 0 by decide)]
      rw [if_pos (show nI kd2 = 60 by rw [k60]; rfl)]
      simp only [r40]
      exact sec 10014 (Or.inl ⟨k60, rfl⟩)
    · by_cases k61 : kd2 = 61
      · have r40 : ∀ z, X12_readNot_40 n km μ (nI d) z = X12_readNot_63 n km υ2 (nI d) z := fun z => by
          rw [X12_readNot_40, p2', sp_bv_s, m60, sp_bd_s, decide_eq_false k60, if_pos (show bI false = 0 by decide), m61, sp_bd_s, decide_eq_true k61, if_neg (show ¬ bI true = 0 by decide)]
        rw [if_neg (show ¬ nI kd2 = 60 from mk_ne hk (by decide) k60), if_pos (show nI kd2 = 61 by rw [k61]; rfl)]
        simp only [r40]
        exact sec 10015 (Or.inr ⟨k61, rfl⟩)
      · rw [if_neg (show ¬ nI kd2 = 60 from mk_ne hk (by decide) k60), if_neg (show ¬ nI kd2 = 61 from mk_ne hk (by decide) k61)]
        refine Or.inl ⟨τ2, υ2, e2, b2, kd2, v2, D2, rfl, fun z => ?_, p3, p4, p5, seg_mono p6 (by omega)⟩
        rw [X12_readNot_40, p2', sp_bv_s, m60, sp_bd_s, decide_eq_false k60, if_pos (show bI false = 0 by decide), m61, sp_bd_s, decide_eq_false k61, if_pos (show bI false = 0 by decide)]
  · have p1' : X7_sum n kc σ (nI d) = some (τ2, 0) := p1
    have p2' : X12_readSum n km μ (nI d) = some υ2 := p2
    rw [X7_test, p1', sp_bd_s, if_pos (show (0 : Int32) = 0 from rfl)]
    refine Or.inr ⟨τ2, υ2, rfl, fun z => ?_, p3⟩
    rw [X12_readNot_40, p2', sp_bv_s, rq_mkB p3.1, sp_bd_s, if_pos (show bI false = 0 by decide), rq_mkB p3.1, sp_bd_s, if_pos (show bI false = 0 by decide)]
theorem nots_ok : ∀ k f g i σ μ D, k < f → k < g → i + k ≤ 6 → ES T N c a r σ0 μ0 σ μ e b kd v (L ++ D) → a + (L ++ D).length + k ≤ b → seg (6 - 2 * r) w D → ∃ τ υ, X7_perhapsNot_71 n kc f σ (nI (i + k)) 1 (nI i) = some (τ, 1) ∧ X12_readNot_96 n km g μ (nI (i + k)) (nI i) = some υ ∧ ∃ D', ES T N c a r σ0 μ0 τ υ e b kd v (L ++ D') ∧ D'.length = D.length + k ∧ seg (6 - 2 * r) w D' := by
  intro k
  induction k with
  | zero =>
    intro f g i σ μ D hf hg hi hE hl hs
    obtain ⟨f, rfl⟩ : ∃ x, f = x + 1 := ⟨f - 1, by omega⟩
    obtain ⟨g, rfl⟩ : ∃ x, g = x + 1 := ⟨g - 1, by omega⟩
    rw [X7_perhapsNot_71, if_pos (by rw [qn_le (by omega) (by omega)]; omega), X12_readNot_96, if_pos (by rw [qn_le (by omega) (by omega)]; omega)]
    exact ⟨σ, μ, rfl, rfl, D, hE, rfl, hs⟩
  | succ k ih =>
    intro f g i σ μ D hf hg hi hE hl hs
    obtain ⟨f, rfl⟩ : ∃ x, f = x + 1 := ⟨f - 1, by omega⟩
    obtain ⟨g, rfl⟩ : ∃ x, g = x + 1 := ⟨g - 1, by omega⟩
    obtain ⟨τ, υ, q1, q2, q3⟩ := es_add (n := n) hE (by omega) 10016
    have q1' : X2_addCode n σ c (-13) = some τ := q1
    have q2' : X12_lay n μ (-28) = some υ := q2
    rw [X7_perhapsNot_71, if_neg (by rw [qn_le (by omega) (by omega)]; omega), X12_readNot_96, if_neg (by rw [qn_le (by omega) (by omega)]; omega), sp_pl, hE.2.1.1, hE.2.1.2.1, sp_ckt, q1', sp_bv_s, sp_pl, q2', sp_bv_s, sp_pl, show nI i + 1 = nI (i + 1) from nI_add i 1, show i + (k + 1) = i + 1 + k by omega]
    rw [List.append_assoc] at q3
    obtain ⟨τ2, υ2, x1, x2, D2, x3, x4, x5⟩ := ih f g (i + 1) τ υ (D ++ [10016]) (by omega) (by omega) (by omega) q3 (by simp only [List.length_append, List.length_cons, List.length_nil] at *; omega) (seg_not hs (by omega))
    exact ⟨τ2, υ2, x1, x2, D2, x3, by rw [x4]; simp only [List.length_append, List.length_cons, List.length_nil]; omega, x5⟩
theorem nots_bd : ∀ k f i σ, k < f → i + k ≤ 6 → BD c a r σ0 μ0 σ μ → ∃ τ, X7_perhapsNot_71 n kc f σ (nI (i + k)) 0 (nI i) = some (τ, 0) ∧ BD c a r σ0 μ0 τ μ := by
  intro k
  induction k with
  | zero =>
    intro f i σ hf hi hE
    obtain ⟨f, rfl⟩ : ∃ x, f = x + 1 := ⟨f - 1, by omega⟩
    rw [X7_perhapsNot_71, if_pos (by rw [qn_le (by omega) (by omega)]; omega)]
    exact ⟨σ, rfl, hE⟩
  | succ k ih =>
    intro f i σ hf hi hE
    obtain ⟨f, rfl⟩ : ∃ x, f = x + 1 := ⟨f - 1, by omega⟩
    obtain ⟨τ, q1, q3⟩ := bd_add (n := n) hE (-13)
    rw [X7_perhapsNot_71, if_neg (by rw [qn_le (by omega) (by omega)]; omega), sp_pl, hE.2.2.2.1, hE.2.2.2.2.1, sp_ckt, q1, sp_bv_s, sp_pl, show nI i + 1 = nI (i + 1) from nI_add i 1, show i + (k + 1) = i + 1 + k by omega]
    exact ih f (i + 1) τ (by omega) (by omega) q3
theorem not_62 (hn : 1000 ≤ n) (hP : PP T N c a r σ0 μ0 w (fun σ => X7_sum n kc σ (nI d)) (fun μ => X12_readSum n km μ (nI d))) (hE : ES T N c a r σ0 μ0 σ μ e b kd v L) {i b0 : Nat} (hi : i ≤ 6) (h1 : b0 + i ≤ b) (h2 : a + L.length + i ≤ b) : OUT T N c a r σ0 μ0 (w + 1) b0 L (X7_perhapsNot_62 n kc σ (nI d) (nI i)) (X12_readNot_40 n km μ (nI d) (nI i)) := by
  rcases test_out hn hP hE with ⟨τ, υ, e1, b1, kd1, v1, D, p1, p2, p3, p4, p5, p6⟩ | ⟨τ, υ, p1, p2, p3⟩
  · rw [X7_perhapsNot_62, p1, sp_bd_s, sp_pl, p2, X12_readNot_94, sp_pl]
    obtain ⟨τ2, υ2, x1, x2, D2, x3, x4, x5⟩ := nots_ok (n := n) (kc := kc) (km := km) (w := w + 1) i n n 0 τ υ D (by omega) (by omega) (by omega) p3 (by rw [List.length_append]; omega) p6
    rw [Nat.zero_add] at x1 x2
    exact Or.inl ⟨τ2, υ2, e1, b1, kd1, v1, D2, x1, x2, x3, by omega, by omega, x5⟩
  · rw [X7_perhapsNot_62, p1, sp_bd_s, sp_pl, p2, rq_94B hn p3.1 (by omega)]
    obtain ⟨τ2, x1, x2⟩ := nots_bd (n := n) (kc := kc) i n 0 τ (by omega) (by omega) p3
    rw [Nat.zero_add] at x1
    exact Or.inr ⟨τ2, υ, x1, rfl, x2⟩
theorem not_lp (hn : 1000 ≤ n) (hP : PP T N c a r σ0 μ0 w (fun σ => X7_sum n kc σ (nI d)) (fun μ => X12_readSum n km μ (nI d))) (b0 : Nat) (L : List Nat) : ∀ k f g i σ μ e b kd v, i + k = 6 → k < f → k + 1 < g → ES T N c a r σ0 μ0 σ μ e b kd v L → b0 + i ≤ b → a + L.length + i ≤ b → OUT T N c a r σ0 μ0 (w + 1) b0 L (X7_perhapsNot_4 n kc f σ (nI d) (nI i) (nI i)) (X12_readNot_2 n km g μ (nI d) (nI i)) := by
  intro k
  induction k with
  | zero =>
    intro f g i σ μ e b kd v hi hf hg hE h1 h2
    obtain ⟨f, rfl⟩ : ∃ x, f = x + 1 := ⟨f - 1, by omega⟩
    obtain ⟨g, rfl⟩ : ∃ x, g = x + 1 := ⟨g - 1, by omega⟩
    have h6 : i = 6 := by omega
    subst h6
    rw [X7_perhapsNot_4, if_pos (show (6 : Int32) ≤ nI 6 by decide), X7_perhapsNot_38, if_pos (show nI 6 = 6 from rfl), cq_word hn hE.1 (s := 6) (by omega), sp_bd_s, X12_readNot_2, rq_word hn hE.1 hE.2.2.1.1 (s := 6) (by omega), sp_bd_s]
    cases hw : wdB T e b kd 6 with
    | false =>
      rw [if_pos (show bI false = 0 by decide), if_pos (show bI false = 0 by decide)]
      exact not_62 hn hP hE (by omega) h1 h2
    | true =>
      obtain ⟨g, rfl⟩ : ∃ x, g = x + 1 := ⟨g - 1, by omega⟩
      have hb := mFl_bad (μ := μ) (f := 2) (by omega) (by omega)
      rw [if_neg (show ¬ bI true = 0 by decide), if_neg (show ¬ bI true = 0 by decide), if_pos (show nI 6 = 6 from rfl), show X12_amiss n μ 2 = some (mFl μ 2) from rq_amiss 2 hE.2.2.1.1, sp_bv_s, X12_readNot_23, sp_pl, if_neg hb, show nI 6 + 1 = nI 7 from rfl, rq_2B hn hb (by omega)]
      exact Or.inr ⟨cFl σ 2, mFl μ 2, rfl, rfl, es_fl hE (by omega) (by omega)⟩
  | succ k ih =>
    intro f g i σ μ e b kd v hi hf hg hE h1 h2
    obtain ⟨f, rfl⟩ : ∃ x, f = x + 1 := ⟨f - 1, by omega⟩
    obtain ⟨g, rfl⟩ : ∃ x, g = x + 1 := ⟨g - 1, by omega⟩
    rw [X7_perhapsNot_4, if_neg (show ¬ (6 : Int32) ≤ nI i by show ¬ nI 6 ≤ nI i; rw [qn_le (by omega) (by omega)]; omega), cq_word hn hE.1 (s := 6) (by omega), sp_bd_s, X12_readNot_2, rq_word hn hE.1 hE.2.2.1.1 (s := 6) (by omega), sp_bd_s]
    cases hw : wdB T e b kd 6 with
    | false =>
      rw [if_pos (show bI false = 0 by decide), if_pos (show bI false = 0 by decide), X7_perhapsNot_38, if_neg (show ¬ nI i = 6 by show ¬ nI i = nI 6; rw [qn_eq (by omega) (by omega)]; omega)]
      exact not_62 hn hP hE (by omega) h1 h2
    | true =>
      obtain ⟨τ3, υ3, e3, b3, kd3, v3, n1, n2, n3, n4⟩ := es_nx hn hE (by have := (wdB_1 hw).1; omega)
      rw [if_neg (show ¬ bI true = 0 by decide), if_neg (show ¬ bI true = 0 by decide), if_neg (show ¬ nI i = 6 by show ¬ nI i = nI 6; rw [qn_eq (by omega) (by omega)]; omega), n1, sp_bv_s, sp_pl, sp_pl, X12_readNot_23, sp_pl, if_pos hE.2.2.1.1, n2, sp_bv_s, show nI i + 1 = nI (i + 1) from nI_add i 1]
      exact ih f g (i + 1) τ3 υ3 e3 b3 kd3 v3 (by omega) (by omega) (by omega) n3 (by omega) (by omega)
theorem pp_not (hn : 1000 ≤ n) (hP : PP T N c a r σ0 μ0 w (fun σ => X7_sum n kc σ (nI d)) (fun μ => X12_readSum n km μ (nI d))) : PP T N c a r σ0 μ0 (w + 1) (fun σ => X7_perhapsNot n kc σ (nI d)) (fun μ => X12_readNot n km μ (nI d)) := by
  intro σ μ e b kd v L hE
  exact not_lp hn hP b L 6 n n 0 σ μ e b kd v (by omega) (by omega) (by omega) hE (by omega) (by have := hE.2.2.2; omega)
-- a token with which nothing can begin
theorem no_part (hE : ES T N c a r σ0 μ0 σ μ e b kd v L) (h1 : kd ≠ 1) (h2 : kd ≠ 2) (h40 : kd ≠ 40) {x : Int32} : X7_part n kc σ x = some (cFl σ 1, 0) := by
  have hk := hE.1.2.2.2.2.2.2.2.1
  rw [X7_part, hE.1.2.2.2.2.2.1, if_neg (show ¬ nI kd = 40 from mk_ne hk (by decide) h40), if_neg (show ¬ nI kd = 1 from mk_ne hk (by decide) h1), sp_pl, if_pos (show (0 : Int32) = 0 from rfl), X7_isNumber, hE.1.2.2.2.2.2.1, if_neg (show ¬ nI kd = 2 from mk_ne hk (by decide) h2)]
  rfl
theorem no_expr (hn : 1000 ≤ n) (hE : ES T N c a r σ0 μ0 σ μ e b kd v L) (h1 : kd ≠ 1) (h2 : kd ≠ 2) (h40 : kd ≠ 40) {x : Int32} : (sp_bd (X7_both n kc σ x) fun σ2 v3 => X7_eitherB_30 n kc n σ2 x v3 (nI 0)) = some (cFl σ 1, 0) := by
  have w6 : X10_isWord n σ 6 = some (σ, bI false) := by rw [cq_word hn hE.1 (s := 6) (by omega), wdB_n h1]
  obtain ⟨f, rfl⟩ : ∃ x, n = x + 1 := ⟨n - 1, by omega⟩
  have e1 : X7_product (f + 1) kc σ x = some (cFl σ 1, 0) := by
    rw [X7_product, no_part hE h1 h2 h40, sp_bd_s, sp_pl, X7_product_8, if_neg (show ¬ (700 : Int32) ≤ 0 by decide), if_pos (show (0 : Int32) = 0 from rfl)]; rfl
  have e2 : X7_sum (f + 1) kc σ x = some (cFl σ 1, 0) := by
    rw [X7_sum, e1, sp_bd_s, sp_pl, X7_sum_8, if_neg (show ¬ (700 : Int32) ≤ 0 by decide), if_pos (show (0 : Int32) = 0 from rfl)]; rfl
  have e3 : X7_test (f + 1) kc σ x = some (cFl σ 1, 0) := by
    rw [X7_test, e2, sp_bd_s, if_pos (show (0 : Int32) = 0 from rfl)]
  have e4 : X7_perhapsNot (f + 1) kc σ x = some (cFl σ 1, 0) := by
    rw [X7_perhapsNot, sp_pl, sp_pl, X7_perhapsNot_4, if_neg (show ¬ (6 : Int32) ≤ 0 by decide), w6, sp_bd_s, if_pos (show bI false = 0 by decide), X7_perhapsNot_38, if_neg (show ¬ (0 : Int32) = 6 by decide), X7_perhapsNot_62, e3, sp_bd_s, sp_pl, X7_perhapsNot_71, if_pos (show (0 : Int32) ≤ 0 by decide)]; rfl
  have e5 : X7_both (f + 1) kc σ x = some (cFl σ 1, 0) := by
    rw [X7_both, e4, sp_bd_s, sp_pl, X7_both_8, if_neg (show ¬ (700 : Int32) ≤ 0 by decide), if_pos (show (0 : Int32) = 0 from rfl)]; rfl
  rw [e5, sp_bd_s, X7_eitherB_30, if_neg (show ¬ (700 : Int32) ≤ nI 0 by decide), if_pos (show (0 : Int32) = 0 from rfl)]; rfl
theorem rq_ebF (hn : 1000 ≤ n) (hE : ES T N c a r σ0 μ0 σ μ e b kd v L) (h1 : kd ≠ 1) (h2 : kd ≠ 2) (h40 : kd ≠ 40) {x : Int32} : X12_readExpressionB n km μ x = some (mFl μ 1) := by
  have hk := hE.1.2.2.2.2.2.2.2.1
  have h0 := hE.2.2.1.1
  have m1 : mkd kd ≠ 1 := by unfold mkd; split <;> (try split) <;> omega
  have m2 : mkd kd ≠ 2 := by unfold mkd; split <;> (try split) <;> omega
  have m4 : mkd kd < 256 := by unfold mkd; split <;> (try split) <;> omega
  rw [X12_readExpressionB, if_pos h0, hE.1.2.2.2.2.2.2.1, if_neg (show ¬ nI (mkd kd) = 2 from mk_ne m4 (by decide) m2), if_neg (show ¬ nI (mkd kd) = 1 from mk_ne m4 (by decide) m1), show X12_isMarked n μ 40 = some (μ, bI (decide (kd = 40))) from rq_mk hE.1 h0 (x := 40) (by omega) (by omega), sp_bd_s, decide_eq_false h40, if_pos (show bI false = 0 by decide), X12_readExpressionB_38, if_pos (show (0 : Int32) = 0 from rfl), show X12_amiss n μ 1 = some (mFl μ 1) from rq_amiss 1 h0, sp_bv_s, rq_62B hn (mFl_bad (by omega) (by omega))]
theorem rq_ebT (hE : ES T N c a r σ0 μ0 σ μ e b kd v L) (h : kd = 1 ∨ kd = 2 ∨ kd = 40) {x : Int32} : X12_readExpressionB n km μ x = X12_readExpressionB_33 n km μ x := by
  have h0 := hE.2.2.1.1
  rw [X12_readExpressionB, if_pos h0, hE.1.2.2.2.2.2.2.1, show X12_isMarked n μ 40 = some (μ, bI (decide (kd = 40))) from rq_mk hE.1 h0 (x := 40) (by omega) (by omega), sp_bd_s]
  rcases h with h | h | h
  · rw [h, if_neg (show ¬ nI (mkd 1) = 2 by decide), if_pos (show nI (mkd 1) = 1 from rfl)]
  · rw [h, if_pos (show nI (mkd 2) = 2 from rfl)]
  · rw [h, if_neg (show ¬ nI (mkd 40) = 2 by decide), if_neg (show ¬ nI (mkd 40) = 1 by decide), if_neg (show ¬ bI (decide (40 = 40)) = 0 by decide)]
theorem pp_expr (hn : 1000 ≤ n) (hd : d ≤ 5) (hw : 1 ≤ w) (hK : PP T N c a r σ0 μ0 w (fun σ => kc σ (nI (d + 1))) (fun μ => km μ (nI (d + 1)))) (hB : ∀ (μ : sp_St) x, μ.1 0 22 ≠ 0 → km μ x = some μ) : PP T N c a r σ0 μ0 (w + 5) (fun σ => X7_eitherB n kc σ (nI d)) (fun μ => X12_readExpressionB n km μ (nI d)) := by
  have h5 := pp_or hn (pp_and hn (pp_not hn (pp_sum hn (pp_prod hn (pp_part hn hw hK hB)))))
  intro σ μ e b kd v L hE
  show OUT T N c a r σ0 μ0 (w + 5) b L (X7_eitherB n kc σ (nI d)) (X12_readExpressionB n km μ (nI d))
  have e1 : X7_eitherB n kc σ (nI d) = sp_bd (X7_both n kc σ (nI d)) fun σ2 v3 => X7_eitherB_30 n kc n σ2 (nI d) v3 (nI 0) := by
    rw [X7_eitherB, if_pos (show nI d ≤ 5 by show nI d ≤ nI 5; rw [qn_le (by omega) (by omega)]; exact hd)]
    rfl
  rw [e1]
  by_cases h : kd = 1 ∨ kd = 2 ∨ kd = 40
  · rw [rq_ebT hE h, X12_readExpressionB_33, X12_readExpressionB_38, if_neg (show ¬ (1 : Int32) = 0 by decide), if_neg (show ¬ nI d = 6 by show ¬ nI d = nI 6; rw [qn_eq (by omega) (by omega)]; omega)]
    exact h5 σ μ e b kd v L hE
  · rw [no_expr hn hE (by omega) (by omega) (by omega), rq_ebF hn hE (by omega) (by omega) (by omega)]
    exact Or.inr ⟨cFl σ 1, mFl μ 1, rfl, rfl, es_fl hE (by omega) (by omega)⟩
theorem pp_deep (hn : 1000 ≤ n) {x : Nat} : PP T N c a r σ0 μ0 x (fun σ => X7_eitherB n kc σ (nI 6)) (fun μ => X12_readExpressionB n km μ (nI 6)) := by
  intro σ μ e b kd v L hE
  show OUT T N c a r σ0 μ0 x b L (X7_eitherB n kc σ (nI 6)) (X12_readExpressionB n km μ (nI 6))
  have hk := hE.1.2.2.2.2.2.2.2.1
  have h0 := hE.2.2.1.1
  rw [X7_eitherB, if_neg (show ¬ nI 6 ≤ 5 by decide), X7_partMayStart, hE.1.2.2.2.2.2.1]
  by_cases h : kd = 1 ∨ kd = 2 ∨ kd = 40
  · have e1 : (if nI kd = 2 then X7_partMayStart_34 n σ else if nI kd = 1 then X7_partMayStart_34 n σ else if nI kd = 40 then X7_partMayStart_34 n σ else X7_partMayStart_39 n σ 0) = some (σ, 1) := by
      rcases h with h | h | h <;> (rw [h]; rfl)
    rw [e1, sp_bd_s, if_neg (show ¬ (1 : Int32) = 0 by decide), sp_pl, show X7_fail n σ 2 = some (cFl σ 2, 0) from rfl, sp_bd_s, rq_ebT hE h, X12_readExpressionB_33, X12_readExpressionB_38, if_neg (show ¬ (1 : Int32) = 0 by decide), if_pos (show nI 6 = 6 from rfl), show X12_amiss n μ 2 = some (mFl μ 2) from rq_amiss 2 h0, sp_bv_s, rq_62B hn (mFl_bad (by omega) (by omega))]
    exact Or.inr ⟨cFl σ 2, mFl μ 2, rfl, rfl, es_fl hE (by omega) (by omega)⟩
  · have k1 : kd ≠ 1 := by omega
    have k2 : kd ≠ 2 := by omega
    have k40 : kd ≠ 40 := by omega
    rw [if_neg (show ¬ nI kd = 2 from mk_ne hk (by decide) k2), if_neg (show ¬ nI kd = 1 from mk_ne hk (by decide) k1), if_neg (show ¬ nI kd = 40 from mk_ne hk (by decide) k40), show X7_partMayStart_39 n σ 0 = some (σ, 0) from rfl, sp_bd_s, if_pos (show (0 : Int32) = 0 from rfl), sp_pl, show X7_fail n σ 1 = some (cFl σ 1, 0) from rfl, sp_bd_s, rq_ebF hn hE (by omega) (by omega) (by omega)]
    exact Or.inr ⟨cFl σ 1, mFl μ 1, rfl, rfl, es_fl hE (by omega) (by omega)⟩
theorem pp_all (hn : 1000 ≤ n) : ∀ k d, d + k = 6 → PP T N c a r σ0 μ0 (5 * k + 1) (fun σ => X7_either (k + 2) n σ (nI d)) (fun μ => X12_readExpression (k + 2) n μ (nI d)) := by
  intro k
  induction k with
  | zero =>
    intro d hd
    have h6 : d = 6 := by omega
    subst h6
    exact pp_deep hn
  | succ k ih =>
    intro d hd
    have := pp_expr (w := 5 * k + 1) hn (show d ≤ 5 by omega) (by omega) (ih (d + 1) (by omega)) (fun μ x h0 => by
      show X12_readExpression (k + 1 + 1) n μ x = some μ
      rw [X12_readExpression]; exact rq_exprB h0)
    exact this
end
