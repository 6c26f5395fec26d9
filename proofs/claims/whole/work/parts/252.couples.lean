-- ===== couples =====
theorem qd_b (S a k : Nat) : (qd S (2 ^ a)).testBit k = (S.testBit k && !decide (a = k)) := by
  rw [qd_t, Nat.testBit_two_pow]
theorem qd_le2 (S T : Nat) {m : Nat} (h : S < 2 ^ m) : qd S T < 2 ^ m := Nat.lt_pow_two_of_testBit _ fun i hi => by
  rw [qd_t, Nat.testBit_lt_two_pow (Nat.lt_of_lt_of_le h (Nat.pow_le_pow_right (by decide) hi))]; rfl
/-- the greatest house stays alone, or makes up with one of the others -/
def mcL (F : Nat → Nat) (g : Nat → Nat) (T k : Nat) : Nat → Nat
  | 0 => g T
  | h + 1 => if T.testBit h = true ∧ (F k).testBit h = true then max (mcL F g T k h) (1 + g (qd T (2 ^ h))) else mcL F g T k h
def mc (F : Nat → Nat) : Nat → Nat → Nat
  | 0, _ => 0
  | k + 1, S => if S.testBit k then mcL F (mc F k) (qd S (2 ^ k)) k k else mc F k S
theorem mcL_ge0 {F g : Nat → Nat} {T k : Nat} : ∀ m, g T ≤ mcL F g T k m := by
  intro m
  induction m with
  | zero => exact Nat.le_refl _
  | succ m ih => rw [mcL]; split <;> omega
theorem mcL_ge {F g : Nat → Nat} {T k h : Nat} (h1 : T.testBit h = true) (h2 : (F k).testBit h = true) : ∀ m, h < m → 1 + g (qd T (2 ^ h)) ≤ mcL F g T k m := by
  intro m
  induction m with
  | zero => intro hm; omega
  | succ m ih =>
    intro hm
    rw [mcL]
    by_cases e : h = m
    · subst e; rw [if_pos ⟨h1, h2⟩]; omega
    · have := ih (by omega)
      split <;> omega
theorem mcL_at {F g : Nat → Nat} {T k : Nat} : ∀ m, mcL F g T k m = g T ∨ ∃ h, h < m ∧ T.testBit h = true ∧ (F k).testBit h = true ∧ mcL F g T k m = 1 + g (qd T (2 ^ h)) := by
  intro m
  induction m with
  | zero => exact Or.inl rfl
  | succ m ih =>
    rw [mcL]
    by_cases p : T.testBit m = true ∧ (F k).testBit m = true
    · rw [if_pos p]
      rcases Nat.le_total (mcL F g T k m) (1 + g (qd T (2 ^ m))) with le | le
      · exact Or.inr ⟨m, by omega, p.1, p.2, by omega⟩
      · rw [Nat.max_eq_left le]
        rcases ih with ih | ⟨h, h1, h2⟩
        · exact Or.inl ih
        · exact Or.inr ⟨h, by omega, h2⟩
    · rw [if_neg p]
      rcases ih with ih | ⟨h, h1, h2⟩
      · exact Or.inl ih
      · exact Or.inr ⟨h, by omega, h2⟩
theorem mc_st {F : Nat → Nat} {k S : Nat} (h : S < 2 ^ k) : ∀ m, k ≤ m → mc F m S = mc F k S := by
  intro m
  induction m with
  | zero => intro hm; rw [show k = 0 by omega]
  | succ m ih =>
    intro hm
    by_cases e : k = m + 1
    · rw [e]
    · rw [mc, if_neg, ih (by omega)]
      rw [Nat.testBit_lt_two_pow (Nat.lt_of_lt_of_le h (Nat.pow_le_pow_right (by decide) (by omega : k ≤ m)))]
      decide
theorem qd_comm (S a b : Nat) : qd (qd S (2 ^ a)) (2 ^ b) = qd (qd S (2 ^ b)) (2 ^ a) := by
  apply Nat.eq_of_testBit_eq
  intro k
  rw [qd_b, qd_b, qd_b, qd_b]
  cases S.testBit k <;> simp [Bool.and_comm]
theorem qd_no {S a : Nat} (h : S.testBit a = false) : qd S (2 ^ a) = S := by
  apply Nat.eq_of_testBit_eq
  intro k
  rw [qd_b]
  by_cases e : a = k
  · subst e; rw [h]; rfl
  · simp [e]
theorem mc_pairs {F : Nat → Nat} (hs : ∀ h o, h < 6 → o < 6 → (F h).testBit o = (F o).testBit h) : ∀ k, k ≤ 6 → ∀ S, S < 2 ^ k → (∀ a b, a < b → b < k → S.testBit a = true → S.testBit b = true → (F a).testBit b = true → 1 + mc F k (qd (qd S (2 ^ a)) (2 ^ b)) ≤ mc F k S) ∧ (mc F k S = 0 ∨ ∃ a b, a < b ∧ b < k ∧ S.testBit a = true ∧ S.testBit b = true ∧ (F a).testBit b = true ∧ mc F k S = 1 + mc F k (qd (qd S (2 ^ a)) (2 ^ b))) := by
  intro k
  induction k with
  | zero => intro _ S _; exact ⟨fun a b _ hb => by omega, Or.inl rfl⟩
  | succ k ih =>
    intro hk S hS
    have ih := ih (by omega)
    have hT : qd S (2 ^ k) < 2 ^ k := Nat.lt_pow_two_of_testBit _ fun i hi => by
      rw [qd_b]
      by_cases e : k = i
      · subst e; simp
      · rw [Nat.testBit_lt_two_pow (Nat.lt_of_lt_of_le hS (Nat.pow_le_pow_right (by decide) (by omega)))]; rfl
    by_cases p : S.testBit k = true
    · have eS : mc F (k + 1) S = mcL F (mc F k) (qd S (2 ^ k)) k k := by rw [mc, if_pos p]
      have one : ∀ a b, a < b → b < k + 1 → S.testBit a = true → S.testBit b = true → (F a).testBit b = true → 1 + mc F (k + 1) (qd (qd S (2 ^ a)) (2 ^ b)) ≤ mc F (k + 1) S := by
        intro a b hab hb ha hb2 hf
        by_cases e : b = k
        · subst e
          have e1 : mc F (b + 1) (qd (qd S (2 ^ a)) (2 ^ b)) = mc F b (qd (qd S (2 ^ b)) (2 ^ a)) := by
            rw [mc, if_neg (by rw [qd_b]; simp), qd_comm]
          rw [e1, eS]
          exact mcL_ge (by rw [qd_b, ha]; simp; omega) (by rw [hs b a (by omega) (by omega)]; exact hf) b hab
        · -- both below k
          have tk : (qd (qd S (2 ^ a)) (2 ^ b)).testBit k = true := by rw [qd_b, qd_b, p]; simp; omega
          have eq2 : qd (qd (qd S (2 ^ a)) (2 ^ b)) (2 ^ k) = qd (qd (qd S (2 ^ k)) (2 ^ a)) (2 ^ b) := by
            rw [qd_comm (qd S (2 ^ a)) b k, qd_comm S a k]
          have e1 : mc F (k + 1) (qd (qd S (2 ^ a)) (2 ^ b)) = mcL F (mc F k) (qd (qd (qd S (2 ^ k)) (2 ^ a)) (2 ^ b)) k k := by rw [mc, if_pos tk, eq2]
          have Ta : (qd S (2 ^ k)).testBit a = true := by rw [qd_b, ha]; simp; omega
          have Tb : (qd S (2 ^ k)).testBit b = true := by rw [qd_b, hb2]; simp; omega
          rw [e1, eS]
          rcases mcL_at (F := F) (g := mc F k) (T := qd (qd (qd S (2 ^ k)) (2 ^ a)) (2 ^ b)) (k := k) k with h0 | ⟨h, h1, h2, h3, h4⟩
          · rw [h0]
            exact Nat.le_trans ((ih _ hT).1 a b hab (by omega) Ta Tb hf) (mcL_ge0 k)
          · rw [h4]
            rw [qd_b, qd_b] at h2
            have hna : ¬ a = h := fun e => by subst e; simp at h2
            have hnb : ¬ b = h := fun e => by subst e; simp at h2
            have hTh : (qd S (2 ^ k)).testBit h = true := by
              simp [hna, hnb] at h2
              exact h2
            have e3 : qd (qd (qd (qd S (2 ^ k)) (2 ^ a)) (2 ^ b)) (2 ^ h) = qd (qd (qd (qd S (2 ^ k)) (2 ^ h)) (2 ^ a)) (2 ^ b) := by
              rw [qd_comm (qd (qd S (2 ^ k)) (2 ^ a)) b h, qd_comm (qd S (2 ^ k)) a h]
            rw [e3]
            have := (ih (qd (qd S (2 ^ k)) (2 ^ h)) (qd_le2 _ _ hT)).1 a b hab (by omega) (by rw [qd_b, Ta]; simp; omega) (by rw [qd_b, Tb]; simp; omega) hf
            have g2 := mcL_ge (F := F) (g := mc F k) (T := qd S (2 ^ k)) (k := k) hTh h3 k h1
            omega
      refine ⟨one, ?_⟩
      rcases mcL_at (F := F) (g := mc F k) (T := qd S (2 ^ k)) (k := k) k with h0 | ⟨h, h1, h2, h3, h4⟩
      · rcases (ih _ hT).2 with z | ⟨a, b, hab, hb, ha, hb2, hf, hv⟩
        · exact Or.inl (by rw [eS, h0, z])
        · have ha' : S.testBit a = true := by rw [qd_b] at ha; simp at ha; exact ha.1
          have hb' : S.testBit b = true := by rw [qd_b] at hb2; simp at hb2; exact hb2.1
          refine Or.inr ⟨a, b, hab, by omega, ha', hb', hf, ?_⟩
          have le := one a b hab (by omega) ha' hb' hf
          have tk : (qd (qd S (2 ^ a)) (2 ^ b)).testBit k = true := by rw [qd_b, qd_b, p]; simp; omega
          have eq2 : qd (qd (qd S (2 ^ a)) (2 ^ b)) (2 ^ k) = qd (qd (qd S (2 ^ k)) (2 ^ a)) (2 ^ b) := by
            rw [qd_comm (qd S (2 ^ a)) b k, qd_comm S a k]
          have ge : mc F k (qd (qd (qd S (2 ^ k)) (2 ^ a)) (2 ^ b)) ≤ mc F (k + 1) (qd (qd S (2 ^ a)) (2 ^ b)) := by
            rw [mc, if_pos tk, eq2]; exact mcL_ge0 k
          rw [eS, h0, hv] at le ⊢
          omega
      · have hh : S.testBit h = true := by rw [qd_b] at h2; simp at h2; exact h2.1
        refine Or.inr ⟨h, k, h1, by omega, hh, p, by rw [hs h k (by omega) (by omega)]; exact h3, ?_⟩
        rw [eS, h4, mc, if_neg (by rw [qd_b]; simp), qd_comm]
    · have eS : ∀ T, T.testBit k = false → mc F (k + 1) T = mc F k T := fun T hT => by rw [mc, if_neg (by rw [hT]; decide)]
      have p' : S.testBit k = false := by simpa using p
      have hS' : S < 2 ^ k := by rw [← qd_no p']; exact hT
      have e2 : ∀ a b, (qd (qd S (2 ^ a)) (2 ^ b)).testBit k = false := fun a b => by rw [qd_b, qd_b, p']; rfl
      rw [eS S p']
      refine ⟨fun a b hab hb ha hb2 hf => ?_, ?_⟩
      · have : ¬ b = k := fun e => by subst e; rw [p'] at hb2; cases hb2
        rw [eS _ (e2 a b)]
        exact (ih S hS').1 a b hab (by omega) ha hb2 hf
      · rcases (ih S hS').2 with z | ⟨a, b, hab, hb, ha, hb2, hf, hv⟩
        · exact Or.inl z
        · exact Or.inr ⟨a, b, hab, by omega, ha, hb2, hf, by rw [eS _ (e2 a b)]; exact hv⟩
/-- the reference's: all couples, one behind the other -/
def coI (F g : Nat → Nat) (S a acc : Nat) : Nat → Nat
  | 0 => acc
  | b + 1 => if a < b ∧ S.testBit a = true ∧ S.testBit b = true ∧ (F a).testBit b = true then max (coI F g S a acc b) (1 + g (qd (qd S (2 ^ a)) (2 ^ b))) else coI F g S a acc b
def coO (F g : Nat → Nat) (S : Nat) : Nat → Nat
  | 0 => 0
  | a + 1 => coI F g S a (coO F g S a) 6
theorem coI_lo {F g : Nat → Nat} {S a acc : Nat} : ∀ b, b ≤ a + 1 → coI F g S a acc b = acc := by
  intro b
  induction b with
  | zero => intro _; rfl
  | succ b ih => intro hb; rw [coI, if_neg (by omega)]; exact ih (by omega)
theorem coI_le {F g : Nat → Nat} {S a acc M : Nat} (h0 : acc ≤ M) (h : ∀ b, a < b → b < 6 → S.testBit a = true → S.testBit b = true → (F a).testBit b = true → 1 + g (qd (qd S (2 ^ a)) (2 ^ b)) ≤ M) : ∀ b, b ≤ 6 → coI F g S a acc b ≤ M := by
  intro b
  induction b with
  | zero => intro _; exact h0
  | succ b ih =>
    intro hb
    have := ih (by omega)
    rw [coI]
    by_cases p : a < b ∧ S.testBit a = true ∧ S.testBit b = true ∧ (F a).testBit b = true
    · rw [if_pos p]
      have := h b p.1 (by omega) p.2.1 p.2.2.1 p.2.2.2
      omega
    · rw [if_neg p]; exact this
theorem coI_acc {F g : Nat → Nat} {S a acc : Nat} : ∀ b, acc ≤ coI F g S a acc b := by
  intro b
  induction b with
  | zero => exact Nat.le_refl _
  | succ b ih => rw [coI]; split <;> omega
theorem coI_ge {F g : Nat → Nat} {S a acc b : Nat} (h1 : a < b) (h2 : S.testBit a = true) (h3 : S.testBit b = true) (h4 : (F a).testBit b = true) : ∀ m, b < m → 1 + g (qd (qd S (2 ^ a)) (2 ^ b)) ≤ coI F g S a acc m := by
  intro m
  induction m with
  | zero => intro h; omega
  | succ m ih =>
    intro hm
    rw [coI]
    by_cases e : b = m
    · subst e; rw [if_pos ⟨h1, h2, h3, h4⟩]; omega
    · have := ih (by omega)
      split <;> omega
theorem coO_is {F g : Nat → Nat} {S M : Nat} (h1 : ∀ a b, a < b → b < 6 → S.testBit a = true → S.testBit b = true → (F a).testBit b = true → 1 + g (qd (qd S (2 ^ a)) (2 ^ b)) ≤ M) (h2 : M = 0 ∨ ∃ a b, a < b ∧ b < 6 ∧ S.testBit a = true ∧ S.testBit b = true ∧ (F a).testBit b = true ∧ M = 1 + g (qd (qd S (2 ^ a)) (2 ^ b))) : coO F g S 6 = M := by
  have le : ∀ a, a ≤ 6 → coO F g S a ≤ M := by
    intro a
    induction a with
    | zero => intro _; exact Nat.zero_le _
    | succ a ih => intro ha; exact coI_le (ih (by omega)) (fun b q1 q2 q3 q4 q5 => h1 a b q1 q2 q3 q4 q5) 6 (Nat.le_refl _)
  refine Nat.le_antisymm (le 6 (Nat.le_refl _)) ?_
  rcases h2 with h2 | ⟨a, b, q1, q2, q3, q4, q5, q6⟩
  · omega
  · have ge : ∀ m, a < m → M ≤ coO F g S m := by
      intro m
      induction m with
      | zero => intro h; omega
      | succ m ih =>
        intro hm
        by_cases e : a = m
        · subst e
          rw [q6, coO]
          exact coI_ge q1 q3 q4 q5 6 q2
        · exact Nat.le_trans (ih (by omega)) (by rw [coO]; exact coI_acc 6)
    exact ge 6 (by omega)
theorem mc_le {F : Nat → Nat} : ∀ k S, mc F k S ≤ k := by
  intro k
  induction k with
  | zero => intro S; exact Nat.le_refl _
  | succ k ih =>
    intro S
    rw [mc]
    split
    · rcases mcL_at (F := F) (g := mc F k) (T := qd S (2 ^ k)) (k := k) k with h | ⟨h, _, _, _, h4⟩
      · rw [h]; have := ih (qd S (2 ^ k)); omega
      · rw [h4]; have := ih (qd (qd S (2 ^ k)) (2 ^ h)); omega
    · have := ih S; omega
section
variable {n j c : Nat} {σ μ : sp_St} {ct : Nat → Nat → Nat} {cd : List Nat × List Nat} {sc : Nat → Nat} {stk : Nat → List Nat}
theorem coO_7 {F g : Nat → Nat} {S : Nat} (hg : ∀ T, g T ≤ 6) : ∀ a, coO F g S a ≤ 7 := by
  intro a
  induction a with
  | zero => exact Nat.zero_le _
  | succ a ih => exact coI_le ih (fun b _ _ _ _ _ => by have := hg (qd (qd S (2 ^ a)) (2 ^ b)); omega) 6 (Nat.le_refl _)
theorem rq_coB (h : mSC μ ct cd sc stk) (hn : 100 ≤ n) (hF : ∀ h, h < 6 → sc (35 + h) < 64) {ke : sp_St → Int32 → Option (sp_St × Int32)} {g : Nat → Nat} {S : Nat} (hS : S < 64) (hg : ∀ T, g T ≤ 6) (hke : ∀ a b, a < b → b < 6 → S.testBit a = true → S.testBit b = true → ke μ (nI (qd (qd S (2 ^ a)) (2 ^ b))) = some (μ, nI (g (qd (qd S (2 ^ a)) (2 ^ b))))) : X12_couplesOfB n ke μ (nI S) = some (μ, nI (coO (fun h => sc (35 + h)) g S 6)) := by
  have g19 : ∀ k, k < 6 → sp_g μ 19 (nI k) = nI (sc (35 + k)) := fun k hk => by rw [qn_g (by omega)]; exact h.2.1.2.2.2.2.2.2.2 k hk
  have inner : ∀ (k4 : sp_St → Int32 → Int32 → Int32 → Option (sp_St × Int32)) (a : Nat), a < 6 → ∀ f2 b, a + 1 ≤ b → b ≤ 6 → 6 - b < f2 → X12_couplesOfB_15 n ke k4 f2 μ (nI S) (nI (coI (fun h => sc (35 + h)) g S a (coO (fun h => sc (35 + h)) g S a) b)) (nI a) (nI b) = k4 μ (nI S) (nI (coO (fun h => sc (35 + h)) g S (a + 1))) (nI (a + 1)) := by
    intro k4 a ha f2
    induction f2 with
    | zero => intro b _ _ hf; omega
    | succ f2 ih =>
      intro b hab hb hf
      by_cases e : b = 6
      · subst e
        rw [X12_couplesOfB_15, if_pos (show (6 : Int32) ≤ nI 6 by decide), X12_couplesOfB_84, sp_pl, nI_1]
        rfl
      · have hb2 : b < 6 := by omega
        have ih := ih (b + 1) (by omega) (by omega) (by omega)
        have e78 : ∀ z, X12_couplesOfB_78 n ke k4 (X12_couplesOfB_15 n ke k4 f2) μ (nI S) z (nI a) (nI b) = X12_couplesOfB_15 n ke k4 f2 μ (nI S) z (nI a) (nI (b + 1)) := fun z => by rw [X12_couplesOfB_78, sp_pl, nI_1]
        have hFa := hF a ha
        rw [coI] at ih
        rw [X12_couplesOfB_15, if_neg (show ¬ (6 : Int32) ≤ nI b from nI_ge (b := 6) hb2 (by omega)), rq_isOf (by omega) (by omega), sp_bd_s]
        cases p1 : S.testBit a with
        | false =>
          rw [if_neg (by rw [p1]; simp)] at ih
          rw [show (if false = true then nI 1 else nI 0) = nI 0 from rfl, if_pos n00, e78, ih]
        | true =>
          rw [if_pos rfl, if_neg n10, rq_isOf (by omega) (by omega), sp_bd_s]
          cases p2 : S.testBit b with
          | false =>
            rw [if_neg (by rw [p2]; simp)] at ih
            rw [show (if false = true then nI 1 else nI 0) = nI 0 from rfl, if_pos n00, e78, ih]
          | true =>
            rw [if_pos rfl, if_neg n10, qn_in (by omega) (by omega), sp_ckt, g19 a ha, rq_isOf (by omega) (by omega), sp_bd_s]
            cases p3 : (sc (35 + a)).testBit b with
            | false =>
              rw [if_neg (by rw [p3]; simp)] at ih
              rw [show (if false = true then nI 1 else nI 0) = nI 0 from rfl, if_pos n00, e78, ih]
            | true =>
              rw [if_pos ⟨by omega, p1, p2, p3⟩] at ih
              have ea : (nI S &&& (((1 : Int32) <<< (nI a &&& 31)) ^^^ (-1 : Int32))) &&& (((1 : Int32) <<< (nI b &&& 31)) ^^^ (-1 : Int32)) = nI (qd (qd S (2 ^ a)) (2 ^ b)) := by
                rw [show (1 : Int32) <<< (nI a &&& 31) = nI (2 ^ a) from qn_sh1 (by omega), show (1 : Int32) <<< (nI b &&& 31) = nI (2 ^ b) from qn_sh1 (by omega)]
                rw [show nI S &&& (nI (2 ^ a) ^^^ (-1 : Int32)) = nI (qd S (2 ^ a)) from qn_dif _ _]
                exact qn_dif _ _
              have l1 := hg (qd (qd S (2 ^ a)) (2 ^ b))
              have l2 : coI (fun h => sc (35 + h)) g S a (coO (fun h => sc (35 + h)) g S a) b ≤ 7 := coI_le (coO_7 hg a) (fun b _ _ _ _ _ => by have := hg (qd (qd S (2 ^ a)) (2 ^ b)); omega) b hb
              rw [if_pos rfl, if_neg n10, ea, hke a b (by omega) hb2 p1 p2, sp_bd_s, show (1 : Int32) + nI (g (qd (qd S (2 ^ a)) (2 ^ b))) = nI (1 + g (qd (qd S (2 ^ a)) (2 ^ b))) from nI_add 1 _, qn_max (by omega) (by omega), sp_pl, e78, ih]
  rw [X12_couplesOfB, sp_pl, sp_pl]
  refine lp_up (fun f a => X12_couplesOfB_4 n ke f μ (nI S) (nI (coO (fun h => sc (35 + h)) g S a)) (nI a)) 6 _ (fun f => ?_) (fun f a ha => ?_) n 0 (by omega) (by omega)
  · rw [X12_couplesOfB_4, if_pos (show (6 : Int32) ≤ nI 6 by decide), X12_couplesOfB_90]
  · rw [X12_couplesOfB_4, if_neg (show ¬ (6 : Int32) ≤ nI a from nI_ge (b := 6) ha (by omega)), sp_pl, show nI a + (1 : Int32) = nI (a + 1) from nI_1 a]
    have := inner (X12_couplesOfB_4 n ke f) a ha n (a + 1) (by omega) (by omega) (by omega)
    rw [coI_lo (a + 1) (by omega)] at this
    exact this
theorem rq_couplesOf (h : mSC μ ct cd sc stk) (hn : 100 ≤ n) (hF : ∀ h, h < 6 → sc (35 + h) < 64) (hs : ∀ h o, h < 6 → o < 6 → (sc (35 + h)).testBit o = (sc (35 + o)).testBit h) : ∀ d S, S < 64 → cnt S < 2 * (d + 1) → X12_couplesOf (d + 1) n μ (nI S) = some (μ, nI (mc (fun h => sc (35 + h)) 6 S)) := by
  intro d
  induction d with
  | zero =>
    intro S hS hc
    rw [X12_couplesOf, rq_coB (g := mc (fun h => sc (35 + h)) 6) h hn hF hS (mc_le 6) (fun a b hab hb h1 h2 => ?_)]
    · rw [coO_is (mc_pairs (F := fun h => sc (35 + h)) hs 6 (Nat.le_refl _) S hS).1 (mc_pairs (F := fun h => sc (35 + h)) hs 6 (Nat.le_refl _) S hS).2]
    · exfalso
      have e1 : cnt (qd S (2 ^ a)) < cnt S := cnt_lt (x := a) (fun k _ hk => by rw [qd_b] at hk; simp at hk; exact hk.1) (by omega) (by rw [qd_b]; simp) h1
      have e2 : 1 ≤ cnt (qd S (2 ^ a)) := cnt_pos (x := b) hb (by rw [qd_b, h2]; simp; omega)
      omega
  | succ d ih =>
    intro S hS hc
    rw [X12_couplesOf, rq_coB (g := mc (fun h => sc (35 + h)) 6) h hn hF hS (mc_le 6) (fun a b hab hb h1 h2 => ?_)]
    · rw [coO_is (mc_pairs (F := fun h => sc (35 + h)) hs 6 (Nat.le_refl _) S hS).1 (mc_pairs (F := fun h => sc (35 + h)) hs 6 (Nat.le_refl _) S hS).2]
    · have e1 : cnt (qd S (2 ^ a)) < cnt S := cnt_lt (x := a) (fun k _ hk => by rw [qd_b] at hk; simp at hk; exact hk.1) (by omega) (by rw [qd_b]; simp) h1
      have e2 : cnt (qd (qd S (2 ^ a)) (2 ^ b)) < cnt (qd S (2 ^ a)) := cnt_lt (x := b) (fun k _ hk => by rw [qd_b] at hk; simp at hk; exact hk.1) hb (by rw [qd_b]; simp) (by rw [qd_b, h2]; simp; omega)
      exact ih _ (qd_le2 (m := 6) _ _ (qd_le2 (m := 6) _ _ hS)) (by omega)
end
