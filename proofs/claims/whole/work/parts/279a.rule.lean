-- ===== expressions: what joins, tests, nots, all =====
section
variable {T : Nat → Nat} {n N c a r e b kd v w d : Nat} {σ0 μ0 σ μ : sp_St} {L : List Nat} {kc : sp_St → Int32 → Option (sp_St × Int32)} {km : sp_St → Int32 → Option sp_St}
theorem mk_ne {k x : Nat} (hk : k < 256) (hx : x < 256) (h : k ≠ x) : ¬ nI k = nI x := by rw [qn_eq (by omega) (by omega)]; exact h
theorem i7 {i : Nat} (h : i < 700) : ¬ (700 : Int32) ≤ nI i := by show ¬ nI 700 ≤ nI i; rw [qn_le (by omega) (by omega)]; omega
theorem pp_prod (hn : 1000 ≤ n) (hP : PP T N c a r σ0 μ0 w (fun σ => X7_part n kc σ (nI d)) (fun μ => X12_readPart n km μ (nI d))) : PP T N c a r σ0 μ0 (w + 1) (fun σ => X7_product n kc σ (nI d)) (fun μ => X12_readProduct n km μ (nI d)) := by
  refine pp_loop hn hP (FL := fun f σ z2 z3 => X7_product_8 n kc f σ (nI d) z2 z3) (GL := fun f μ => X12_readProduct_5 n km f μ (nI d)) (op := fun _ _ kd => if kd = 42 then some 10012 else if kd = 47 then some 10013 else none) ?_ ?_ ?_ ?_ ?_
  · intro σ μ e b kd v L f g i hE ho
    have hk := hE.1.2.2.2.2.2.2.2.1
    have k1 : kd ≠ 42 := fun h => by simp [h] at ho
    have k2 : kd ≠ 47 := fun h => by simp [h] at ho
    refine ⟨?_, ?_⟩
    · show X7_product_8 n kc (f + 1) σ (nI d) 1 (nI i) = _
      rw [X7_product_8, hE.1.2.2.2.2.2.1, if_neg (show ¬ (1 : Int32) = 0 by decide), if_neg (show ¬ nI kd = 42 from mk_ne hk (by decide) k1), if_neg (show ¬ nI kd = 47 from mk_ne hk (by decide) k2), ite_self]
      rfl
    · show X12_readProduct_5 n km (g + 1) μ (nI d) = _
      rw [X12_readProduct_5, show X12_isMarked n μ 42 = some (μ, bI (decide (kd = 42))) from rq_mk hE.1 hE.2.2.1.1 (x := 42) (by omega) (by omega), sp_bd_s, decide_eq_false k1, if_pos (show bI false = 0 by decide), show X12_isMarked n μ 47 = some (μ, bI (decide (kd = 47))) from rq_mk hE.1 hE.2.2.1.1 (x := 47) (by omega) (by omega), sp_bd_s, decide_eq_false k2, if_pos (show bI false = 0 by decide)]
  · intro σ μ e b kd v L k f g i hE ho hi
    have hk := hE.1.2.2.2.2.2.2.2.1
    have m42 : X12_isMarked n μ 42 = some (μ, bI (decide (kd = 42))) := rq_mk hE.1 hE.2.2.1.1 (x := 42) (by omega) (by omega)
    have m47 : X12_isMarked n μ 47 = some (μ, bI (decide (kd = 47))) := rq_mk hE.1 hE.2.2.1.1 (x := 47) (by omega) (by omega)
    refine ⟨?_, ?_⟩
    · show X7_product_8 n kc (f + 1) σ (nI d) 1 (nI i) = _
      rw [X7_product_8, hE.1.2.2.2.2.2.1, if_neg (i7 hi), if_neg (show ¬ (1 : Int32) = 0 by decide)]
      by_cases k1 : kd = 42
      · have hk2 : k = 10012 := by simp [k1] at ho; omega
        subst hk2
        rw [if_pos (show nI kd = 42 by rw [k1]; rfl), X7_product_43, hE.1.2.2.2.2.2.1, if_pos (show nI kd = 42 by rw [k1]; rfl)]
        simp only [sp_pl]
        rw [show nI i + 1 = nI (i + 1) from nI_add i 1]
        rfl
      · by_cases k2 : kd = 47
        · have hk2 : k = 10013 := by simp [k2] at ho; omega
          subst hk2
          rw [if_neg (show ¬ nI kd = 42 from mk_ne hk (by decide) k1), if_pos (show nI kd = 47 by rw [k2]; rfl), X7_product_43, hE.1.2.2.2.2.2.1, if_neg (show ¬ nI kd = 42 from mk_ne hk (by decide) k1)]
          simp only [sp_pl]
          rw [show nI i + 1 = nI (i + 1) from nI_add i 1]
          rfl
        · simp [k1, k2] at ho
    · show X12_readProduct_5 n km (g + 1) μ (nI d) = _
      rw [X12_readProduct_5, m42, sp_bd_s]
      by_cases k1 : kd = 42
      · have hk2 : k = 10012 := by simp [k1] at ho; omega
        subst hk2
        rw [decide_eq_true k1, if_neg (show ¬ bI true = 0 by decide), X12_readProduct_23, m42, sp_bd_s, decide_eq_true k1, if_neg (show ¬ bI true = 0 by decide), sp_pl]
        rfl
      · by_cases k2 : kd = 47
        · have hk2 : k = 10013 := by simp [k2] at ho; omega
          subst hk2
          rw [decide_eq_false k1, if_pos (show bI false = 0 by decide), m47, sp_bd_s, decide_eq_true k2, if_neg (show ¬ bI true = 0 by decide), X12_readProduct_23, m42, sp_bd_s, decide_eq_false k1, if_pos (show bI false = 0 by decide), sp_pl]
          rfl
        · simp [k1, k2] at ho
  · intro σ f i
    show X7_product_8 n kc (f + 1) σ (nI d) 0 (nI i) = _
    rw [X7_product_8, if_pos (show (0 : Int32) = 0 from rfl), ite_self]
    rfl
  · intro μ g h0
    show X12_readProduct_5 n km (g + 1) μ (nI d) = _
    rw [X12_readProduct_5, rq_mkB h0, sp_bd_s, if_pos (show bI false = 0 by decide), rq_mkB h0, sp_bd_s, if_pos (show bI false = 0 by decide)]
  · intro e b kd k ho
    by_cases k1 : kd = 42
    · simp [k1] at ho; omega
    · by_cases k2 : kd = 47
      · simp [k2] at ho; omega
      · simp [k1, k2] at ho
theorem pp_sum (hn : 1000 ≤ n) (hP : PP T N c a r σ0 μ0 w (fun σ => X7_product n kc σ (nI d)) (fun μ => X12_readProduct n km μ (nI d))) : PP T N c a r σ0 μ0 (w + 1) (fun σ => X7_sum n kc σ (nI d)) (fun μ => X12_readSum n km μ (nI d)) := by
  refine pp_loop hn hP (FL := fun f σ z2 z3 => X7_sum_8 n kc f σ (nI d) z2 z3) (GL := fun f μ => X12_readSum_5 n km f μ (nI d)) (op := fun _ _ kd => if kd = 43 then some 10010 else if kd = 45 then some 10011 else none) ?_ ?_ ?_ ?_ ?_
  · intro σ μ e b kd v L f g i hE ho
    have hk := hE.1.2.2.2.2.2.2.2.1
    have k1 : kd ≠ 43 := fun h => by simp [h] at ho
    have k2 : kd ≠ 45 := fun h => by simp [h] at ho
    refine ⟨?_, ?_⟩
    · show X7_sum_8 n kc (f + 1) σ (nI d) 1 (nI i) = _
      rw [X7_sum_8, hE.1.2.2.2.2.2.1, if_neg (show ¬ (1 : Int32) = 0 by decide), if_neg (show ¬ nI kd = 43 from mk_ne hk (by decide) k1), if_neg (show ¬ nI kd = 45 from mk_ne hk (by decide) k2), ite_self]
      rfl
    · show X12_readSum_5 n km (g + 1) μ (nI d) = _
      rw [X12_readSum_5, show X12_isMarked n μ 43 = some (μ, bI (decide (kd = 43))) from rq_mk hE.1 hE.2.2.1.1 (x := 43) (by omega) (by omega), sp_bd_s, decide_eq_false k1, if_pos (show bI false = 0 by decide), show X12_isMarked n μ 45 = some (μ, bI (decide (kd = 45))) from rq_mk hE.1 hE.2.2.1.1 (x := 45) (by omega) (by omega), sp_bd_s, decide_eq_false k2, if_pos (show bI false = 0 by decide)]
  · intro σ μ e b kd v L k f g i hE ho hi
    have hk := hE.1.2.2.2.2.2.2.2.1
    have m42 : X12_isMarked n μ 43 = some (μ, bI (decide (kd = 43))) := rq_mk hE.1 hE.2.2.1.1 (x := 43) (by omega) (by omega)
    have m47 : X12_isMarked n μ 45 = some (μ, bI (decide (kd = 45))) := rq_mk hE.1 hE.2.2.1.1 (x := 45) (by omega) (by omega)
    refine ⟨?_, ?_⟩
    · show X7_sum_8 n kc (f + 1) σ (nI d) 1 (nI i) = _
      rw [X7_sum_8, hE.1.2.2.2.2.2.1, if_neg (i7 hi), if_neg (show ¬ (1 : Int32) = 0 by decide)]
      by_cases k1 : kd = 43
      · have hk2 : k = 10010 := by simp [k1] at ho; omega
        subst hk2
        rw [if_pos (show nI kd = 43 by rw [k1]; rfl), X7_sum_43, hE.1.2.2.2.2.2.1, if_pos (show nI kd = 43 by rw [k1]; rfl)]
        simp only [sp_pl]
        rw [show nI i + 1 = nI (i + 1) from nI_add i 1]
        rfl
      · by_cases k2 : kd = 45
        · have hk2 : k = 10011 := by simp [k2] at ho; omega
          subst hk2
          rw [if_neg (show ¬ nI kd = 43 from mk_ne hk (by decide) k1), if_pos (show nI kd = 45 by rw [k2]; rfl), X7_sum_43, hE.1.2.2.2.2.2.1, if_neg (show ¬ nI kd = 43 from mk_ne hk (by decide) k1)]
          simp only [sp_pl]
          rw [show nI i + 1 = nI (i + 1) from nI_add i 1]
          rfl
        · simp [k1, k2] at ho
    · show X12_readSum_5 n km (g + 1) μ (nI d) = _
      rw [X12_readSum_5, m42, sp_bd_s]
      by_cases k1 : kd = 43
      · have hk2 : k = 10010 := by simp [k1] at ho; omega
        subst hk2
        rw [decide_eq_true k1, if_neg (show ¬ bI true = 0 by decide), X12_readSum_23, m42, sp_bd_s, decide_eq_true k1, if_neg (show ¬ bI true = 0 by decide), sp_pl]
        rfl
      · by_cases k2 : kd = 45
        · have hk2 : k = 10011 := by simp [k2] at ho; omega
          subst hk2
          rw [decide_eq_false k1, if_pos (show bI false = 0 by decide), m47, sp_bd_s, decide_eq_true k2, if_neg (show ¬ bI true = 0 by decide), X12_readSum_23, m42, sp_bd_s, decide_eq_false k1, if_pos (show bI false = 0 by decide), sp_pl]
          rfl
        · simp [k1, k2] at ho
  · intro σ f i
    show X7_sum_8 n kc (f + 1) σ (nI d) 0 (nI i) = _
    rw [X7_sum_8, if_pos (show (0 : Int32) = 0 from rfl), ite_self]
    rfl
  · intro μ g h0
    show X12_readSum_5 n km (g + 1) μ (nI d) = _
    rw [X12_readSum_5, rq_mkB h0, sp_bd_s, if_pos (show bI false = 0 by decide), rq_mkB h0, sp_bd_s, if_pos (show bI false = 0 by decide)]
  · intro e b kd k ho
    by_cases k1 : kd = 43
    · simp [k1] at ho; omega
    · by_cases k2 : kd = 45
      · simp [k2] at ho; omega
      · simp [k1, k2] at ho
theorem pp_and (hn : 1000 ≤ n) (hP : PP T N c a r σ0 μ0 w (fun σ => X7_perhapsNot n kc σ (nI d)) (fun μ => X12_readNot n km μ (nI d))) : PP T N c a r σ0 μ0 (w + 1) (fun σ => X7_both n kc σ (nI d)) (fun μ => X12_readAnd n km μ (nI d)) := by
  refine pp_loop hn hP (FL := fun f σ z2 z3 => X7_both_8 n kc f σ (nI d) z2 z3) (GL := fun f μ => X12_readAnd_5 n km f μ (nI d)) (op := fun e b kd => if wdB T e b kd 7 = true then some 10017 else none) ?_ ?_ ?_ ?_ ?_
  · intro σ μ e b kd v L f g i hE ho
    have k1 : wdB T e b kd 7 = false := by
      cases h : wdB T e b kd 7 with
      | false => rfl
      | true => simp [h] at ho
    refine ⟨?_, ?_⟩
    · show X7_both_8 n kc (f + 1) σ (nI d) 1 (nI i) = _
      rw [X7_both_8, cq_word hn hE.1 (s := 7) (by omega), sp_bd_s, k1, if_pos (show bI false = 0 by decide), ite_self, ite_self]
      rfl
    · show X12_readAnd_5 n km (g + 1) μ (nI d) = _
      rw [X12_readAnd_5, rq_word hn hE.1 hE.2.2.1.1 (s := 7) (by omega), sp_bd_s, k1, if_pos (show bI false = 0 by decide)]
  · intro σ μ e b kd v L k f g i hE ho hi
    have k1 : wdB T e b kd 7 = true := by
      cases h : wdB T e b kd 7 with
      | true => rfl
      | false => simp [h] at ho
    have hk2 : k = 10017 := by simp [k1] at ho; omega
    subst hk2
    refine ⟨?_, ?_⟩
    · show X7_both_8 n kc (f + 1) σ (nI d) 1 (nI i) = _
      rw [X7_both_8, if_neg (i7 hi), if_neg (show ¬ (1 : Int32) = 0 by decide), cq_word hn hE.1 (s := 7) (by omega), sp_bd_s, k1, if_neg (show ¬ bI true = 0 by decide)]
      simp only [sp_pl]
      rw [show nI i + 1 = nI (i + 1) from nI_add i 1]
      rfl
    · show X12_readAnd_5 n km (g + 1) μ (nI d) = _
      rw [X12_readAnd_5, rq_word hn hE.1 hE.2.2.1.1 (s := 7) (by omega), sp_bd_s, k1, if_neg (show ¬ bI true = 0 by decide)]
      rfl
  · intro σ f i
    show X7_both_8 n kc (f + 1) σ (nI d) 0 (nI i) = _
    rw [X7_both_8, if_pos (show (0 : Int32) = 0 from rfl), ite_self]
    rfl
  · intro μ g h0
    show X12_readAnd_5 n km (g + 1) μ (nI d) = _
    rw [X12_readAnd_5, rq_wordB (by omega) h0, sp_bd_s, if_pos (show bI false = 0 by decide)]
  · intro e b kd k ho
    cases h : wdB T e b kd 7 with
    | false => simp [h] at ho
    | true =>
      have h1 := (wdB_1 h).1
      simp [h] at ho
      omega
theorem pp_or (hn : 1000 ≤ n) (hP : PP T N c a r σ0 μ0 w (fun σ => X7_both n kc σ (nI d)) (fun μ => X12_readAnd n km μ (nI d))) : PP T N c a r σ0 μ0 (w + 1) (fun σ => sp_bd (X7_both n kc σ (nI d)) fun σ2 v3 => X7_eitherB_30 n kc n σ2 (nI d) v3 (nI 0)) (fun μ => X12_readExpressionB_62 n km μ (nI d)) := by
  refine pp_loop hn hP (FL := fun f σ z2 z3 => X7_eitherB_30 n kc f σ (nI d) z2 z3) (GL := fun f μ => X12_readExpressionB_67 n km f μ (nI d)) (op := fun e b kd => if wdB T e b kd 8 = true then some 10018 else none) ?_ ?_ ?_ ?_ ?_
  · intro σ μ e b kd v L f g i hE ho
    have k1 : wdB T e b kd 8 = false := by
      cases h : wdB T e b kd 8 with
      | false => rfl
      | true => simp [h] at ho
    refine ⟨?_, ?_⟩
    · show X7_eitherB_30 n kc (f + 1) σ (nI d) 1 (nI i) = _
      rw [X7_eitherB_30, cq_word hn hE.1 (s := 8) (by omega), sp_bd_s, k1, if_pos (show bI false = 0 by decide), ite_self, ite_self]
      rfl
    · show X12_readExpressionB_67 n km (g + 1) μ (nI d) = _
      rw [X12_readExpressionB_67, rq_word hn hE.1 hE.2.2.1.1 (s := 8) (by omega), sp_bd_s, k1, if_pos (show bI false = 0 by decide)]
  · intro σ μ e b kd v L k f g i hE ho hi
    have k1 : wdB T e b kd 8 = true := by
      cases h : wdB T e b kd 8 with
      | true => rfl
      | false => simp [h] at ho
    have hk2 : k = 10018 := by simp [k1] at ho; omega
    subst hk2
    refine ⟨?_, ?_⟩
    · show X7_eitherB_30 n kc (f + 1) σ (nI d) 1 (nI i) = _
      rw [X7_eitherB_30, if_neg (i7 hi), if_neg (show ¬ (1 : Int32) = 0 by decide), cq_word hn hE.1 (s := 8) (by omega), sp_bd_s, k1, if_neg (show ¬ bI true = 0 by decide)]
      simp only [sp_pl]
      rw [show nI i + 1 = nI (i + 1) from nI_add i 1]
      rfl
    · show X12_readExpressionB_67 n km (g + 1) μ (nI d) = _
      rw [X12_readExpressionB_67, rq_word hn hE.1 hE.2.2.1.1 (s := 8) (by omega), sp_bd_s, k1, if_neg (show ¬ bI true = 0 by decide)]
      rfl
  · intro σ f i
    show X7_eitherB_30 n kc (f + 1) σ (nI d) 0 (nI i) = _
    rw [X7_eitherB_30, if_pos (show (0 : Int32) = 0 from rfl), ite_self]
    rfl
  · intro μ g h0
    show X12_readExpressionB_67 n km (g + 1) μ (nI d) = _
    rw [X12_readExpressionB_67, rq_wordB (by omega) h0, sp_bd_s, if_pos (show bI false = 0 by decide)]
  · intro e b kd k ho
    cases h : wdB T e b kd 8 with
    | false => simp [h] at ho
    | true =>
      have h1 := (wdB_1 h).1
      simp [h] at ho
      omega
-- a fault that is told already: nothing more happens
theorem rq_prodB (hn : 1 ≤ n) (h0 : μ.1 0 22 ≠ 0) {x : Int32} : X12_readProduct n km μ x = some μ := by
  obtain ⟨f, rfl⟩ : ∃ g, n = g + 1 := ⟨n - 1, by omega⟩
  rw [X12_readProduct, rq_partB h0, sp_bv_s, X12_readProduct_5, rq_mkB h0, sp_bd_s, if_pos (show bI false = 0 by decide), rq_mkB h0, sp_bd_s, if_pos (show bI false = 0 by decide)]
theorem rq_sumB (hn : 1 ≤ n) (h0 : μ.1 0 22 ≠ 0) {x : Int32} : X12_readSum n km μ x = some μ := by
  obtain ⟨f, rfl⟩ : ∃ g, n = g + 1 := ⟨n - 1, by omega⟩
  rw [X12_readSum, rq_prodB (by omega) h0, sp_bv_s, X12_readSum_5, rq_mkB h0, sp_bd_s, if_pos (show bI false = 0 by decide), rq_mkB h0, sp_bd_s, if_pos (show bI false = 0 by decide)]
theorem rq_96B (h0 : μ.1 0 22 ≠ 0) : ∀ k f i, k < f → i + k < 1000 → X12_readNot_96 n km f μ (nI (i + k)) (nI i) = some μ := by
  intro k
  induction k with
  | zero =>
    intro f i hf hi
    obtain ⟨f, rfl⟩ : ∃ g, f = g + 1 := ⟨f - 1, by omega⟩
    rw [X12_readNot_96, if_pos (by rw [qn_le (by omega) (by omega)]; omega)]
  | succ k ih =>
    intro f i hf hi
    obtain ⟨f, rfl⟩ : ∃ g, f = g + 1 := ⟨f - 1, by omega⟩
    rw [X12_readNot_96, if_neg (by rw [qn_le (by omega) (by omega)]; omega), rq_layB h0, sp_bv_s, sp_pl, show nI i + 1 = nI (i + 1) from nI_add i 1, show i + (k + 1) = i + 1 + k by omega]
    exact ih f (i + 1) (by omega) (by omega)
theorem rq_94B (hn : 1000 ≤ n) (h0 : μ.1 0 22 ≠ 0) {k : Nat} (hk : k ≤ 7) : X12_readNot_94 n km μ (nI k) = some μ := by
  rw [X12_readNot_94, sp_pl]
  have := rq_96B (n := n) (km := km) h0 k n 0 (by omega) (by omega)
  rw [Nat.zero_add] at this
  exact this
theorem rq_40B (hn : 1000 ≤ n) (h0 : μ.1 0 22 ≠ 0) {k : Nat} (hk : k ≤ 7) {x : Int32} : X12_readNot_40 n km μ x (nI k) = some μ := by
  rw [X12_readNot_40, rq_sumB (by omega) h0, sp_bv_s, rq_mkB h0, sp_bd_s, if_pos (show bI false = 0 by decide), rq_mkB h0, sp_bd_s, if_pos (show bI false = 0 by decide), rq_94B hn h0 hk]
theorem rq_2B (hn : 1000 ≤ n) (h0 : μ.1 0 22 ≠ 0) {k f : Nat} (hk : k ≤ 7) {x : Int32} : X12_readNot_2 n km (f + 1) μ x (nI k) = some μ := by
  rw [X12_readNot_2, rq_wordB (by omega) h0, sp_bd_s, if_pos (show bI false = 0 by decide), rq_40B hn h0 hk]
theorem rq_notB (hn : 1000 ≤ n) (h0 : μ.1 0 22 ≠ 0) {x : Int32} : X12_readNot n km μ x = some μ := by
  obtain ⟨f, rfl⟩ : ∃ g, n = g + 1 := ⟨n - 1, by omega⟩
  rw [X12_readNot, sp_pl]
  exact rq_2B hn h0 (k := 0) (by omega)
theorem rq_andB (hn : 1000 ≤ n) (h0 : μ.1 0 22 ≠ 0) {x : Int32} : X12_readAnd n km μ x = some μ := by
  rw [X12_readAnd, rq_notB hn h0, sp_bv_s]
  obtain ⟨f, rfl⟩ : ∃ g, n = g + 1 := ⟨n - 1, by omega⟩
  rw [X12_readAnd_5, rq_wordB (by omega) h0, sp_bd_s, if_pos (show bI false = 0 by decide)]
theorem rq_62B (hn : 1000 ≤ n) (h0 : μ.1 0 22 ≠ 0) {x : Int32} : X12_readExpressionB_62 n km μ x = some μ := by
  rw [X12_readExpressionB_62, rq_andB hn h0, sp_bv_s]
  obtain ⟨f, rfl⟩ : ∃ g, n = g + 1 := ⟨n - 1, by omega⟩
  rw [X12_readExpressionB_67, rq_wordB (by omega) h0, sp_bd_s, if_pos (show bI false = 0 by decide)]
theorem rq_exprB (h0 : μ.1 0 22 ≠ 0) {x : Int32} : X12_readExpressionB n km μ x = some μ := by rw [X12_readExpressionB, if_neg h0]
end
