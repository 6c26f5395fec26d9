section
variable {n j c : Nat} {σ μ : sp_St} {ct : Nat → Nat → Nat} {cd : List Nat × List Nat} {sc : Nat → Nat} {stk : Nat → List Nat}
theorem qd_top {S k : Nat} (h : S < 2 ^ (k + 1)) : qd S (2 ^ k) < 2 ^ k := Nat.lt_pow_two_of_testBit _ fun i hi => by
  rw [qd_b]
  by_cases e : k = i
  · subst e; simp
  · rw [Nat.testBit_lt_two_pow (Nat.lt_of_lt_of_le h (Nat.pow_le_pow_right (by decide) (by omega)))]; rfl
theorem top_ge {S k : Nat} (h : S.testBit k = true) : 2 ^ k ≤ S := Nat.le_of_not_lt fun g => by rw [Nat.testBit_lt_two_pow g] at h; cases h
theorem top_lt {S k : Nat} (h : S < 2 ^ (k + 1)) (g : S.testBit k = false) : S < 2 ^ k := by rw [← qd_no g]; exact qd_top h
theorem sq_mc20 (h : qSC σ 23 c ct cd sc) (hn : 100 ≤ n) (hF : ∀ h, h < 6 → sc (35 + h) < 64) {S k : Nat} (hk : k < 6) (hS : S < 2 ^ (k + 1)) (ht : S.testBit k = true) (hT : ∀ T, T < S → σ.2.2.1 67 T = nI (mc (fun h => sc (35 + h)) 6 T)) : X6_mostCouplesIn_20 n σ (nI S) (nI k) = some (σ, nI (mc (fun h => sc (35 + h)) 6 S)) := by
  have k64 : 2 ^ k ≤ 32 := Nat.le_trans (Nat.pow_le_pow_right (by decide) (by omega : k ≤ 5)) (by decide)
  have l0 := qd_top hS
  have l1 := top_ge ht
  have eS : mc (fun h => sc (35 + h)) 6 S = mcL (fun h => sc (35 + h)) (mc (fun h => sc (35 + h)) k) (qd S (2 ^ k)) k k := by
    rw [mc_st hS 6 (by omega), mc, if_pos ht]
  have tab : ∀ T, T < 2 ^ k → sp_g σ 67 (nI T) = nI (mc (fun h => sc (35 + h)) k T) := fun T hT2 => by
    rw [qn_g (by omega), hT T (by omega), mc_st hT2 6 (by omega)]
  have x1 : nI S &&& (((1 : Int32) <<< (nI k &&& 31)) ^^^ (-1 : Int32)) = nI (qd S (2 ^ k)) := by
    rw [show (1 : Int32) <<< (nI k &&& 31) = nI (2 ^ k) from qn_sh1 (by omega)]
    exact qn_dif _ _
  rw [X6_mostCouplesIn_20, sp_pl, x1, qn_in (by omega) (by omega), sp_ckt, sp_pl, tab _ l0, sp_pl, eS]
  refine lp_up (fun f b => X6_mostCouplesIn_39 n f σ (nI k) (nI (qd S (2 ^ k))) (nI (mcL (fun h => sc (35 + h)) (mc (fun h => sc (35 + h)) k) (qd S (2 ^ k)) k b)) (nI b)) k _ (fun f => ?_) (fun f b hb => ?_) n 0 (by omega) (by omega)
  · rw [X6_mostCouplesIn_39, if_pos (by rw [qn_le (by omega) (by omega)]; exact Nat.le_refl _), X6_mostCouplesIn_92]
  · have e86 : ∀ z, X6_mostCouplesIn_86 n (X6_mostCouplesIn_39 n f) σ (nI k) (nI (qd S (2 ^ k))) z (nI b) = X6_mostCouplesIn_39 n f σ (nI k) (nI (qd S (2 ^ k))) z (nI (b + 1)) := fun z => by rw [X6_mostCouplesIn_86, sp_pl, nI_1]
    rw [X6_mostCouplesIn_39, if_neg (by rw [qn_le (by omega) (by omega)]; omega), mcL]
    cases p1 : (qd S (2 ^ k)).testBit b with
    | false => rw [if_pos (by rw [bit_0 (by omega) (by omega)]; exact p1), e86, if_neg (by simp)]
    | true =>
      rw [if_neg (by rw [bit_0 (by omega) (by omega), p1]; decide), sq_between h hk (by omega), sp_bd_s]
      cases p2 : (sc (35 + k)).testBit b with
      | false => rw [show (if false = true then nI 1 else nI 0) = nI 0 from rfl, if_pos n00, e86, if_neg (by simp)]
      | true =>
        have x2 : nI (qd S (2 ^ k)) &&& (((1 : Int32) <<< (nI b &&& 31)) ^^^ (-1 : Int32)) = nI (qd (qd S (2 ^ k)) (2 ^ b)) := by
          rw [show (1 : Int32) <<< (nI b &&& 31) = nI (2 ^ b) from qn_sh1 (by omega)]
          exact qn_dif _ _
        have l2 : qd (qd S (2 ^ k)) (2 ^ b) < 2 ^ k := qd_le2 _ _ l0
        have l3 := mc_le (F := fun h => sc (35 + h)) k (qd (qd S (2 ^ k)) (2 ^ b))
        have l4 : mcL (fun h => sc (35 + h)) (mc (fun h => sc (35 + h)) k) (qd S (2 ^ k)) k b ≤ 1 + k := by
          rcases mcL_at (F := fun h => sc (35 + h)) (g := mc (fun h => sc (35 + h)) k) (T := qd S (2 ^ k)) (k := k) b with h | ⟨h, _, _, _, h4⟩
          · rw [h]; have := mc_le (F := fun h => sc (35 + h)) k (qd S (2 ^ k)); omega
          · rw [h4]; have := mc_le (F := fun h => sc (35 + h)) k (qd (qd S (2 ^ k)) (2 ^ h)); omega
        rw [if_pos rfl, if_neg n10, x2, qn_in (by omega) (by omega), sp_ckt, tab _ l2, show (1 : Int32) + nI (mc (fun h => sc (35 + h)) k (qd (qd S (2 ^ k)) (2 ^ b))) = nI (1 + mc (fun h => sc (35 + h)) k (qd (qd S (2 ^ k)) (2 ^ b))) from nI_add 1 _, qn_max (by omega) (by omega), sp_pl, e86, if_pos ⟨rfl, rfl⟩]
theorem sq_mcIn (h : qSC σ 23 c ct cd sc) (hn : 100 ≤ n) (hF : ∀ h, h < 6 → sc (35 + h) < 64) {S : Nat} (h1 : 1 ≤ S) (hT : ∀ T, T < S → σ.2.2.1 67 T = nI (mc (fun h => sc (35 + h)) 6 T)) : ∀ f k, k < 6 → k < f → S < 2 ^ (k + 1) → X6_mostCouplesIn_2 n f σ (nI S) (nI k) = some (σ, nI (mc (fun h => sc (35 + h)) 6 S)) := by
  intro f
  induction f with
  | zero => intro k _ hf; omega
  | succ f ih =>
    intro k hk hf hS
    have k64 : 2 ^ (k + 1) ≤ 64 := Nat.le_trans (Nat.pow_le_pow_right (by decide) (by omega : k + 1 ≤ 6)) (by decide)
    rw [X6_mostCouplesIn_2]
    by_cases e : k = 0
    · subst e
      have : S = 1 := by omega
      subst this
      rw [if_pos (show nI 0 ≤ 0 by decide), sq_mc20 h hn hF (by omega) hS (by decide) hT]
    · rw [if_neg (show ¬ nI k ≤ 0 from by show ¬ nI k ≤ nI 0; rw [qn_le (by omega) (by omega)]; omega)]
      cases p : S.testBit k with
      | true => rw [if_neg (by rw [bit_0 (by omega) hk, p]; decide), sq_mc20 h hn hF hk hS p hT]
      | false =>
        obtain ⟨k', rfl⟩ : ∃ k', k = k' + 1 := ⟨k - 1, by omega⟩
        rw [if_pos (by rw [bit_0 (by omega) hk]; exact p), sp_pl, show nI (k' + 1) + (-1) = nI k' from pk_m1 k']
        exact ih k' (by omega) (by omega) (top_lt hS p)
theorem sq_most (hn : 100 ≤ n) (hF : ∀ h, h < 6 → sc (35 + h) < 64) : ∀ f S (σ : sp_St), 1 ≤ S → S ≤ 64 → 64 - S < f → qSC σ 23 c ct cd sc → (∀ T, T < S → σ.2.2.1 67 T = nI (mc (fun h => sc (35 + h)) 6 T)) → ∃ τ, X6_mostCouples_2 n f σ (nI S) = some (τ, nI (mc (fun h => sc (35 + h)) 6 63)) ∧ τ.1 = σ.1 ∧ τ.2.1 = σ.2.1 ∧ (∀ p, p ≠ 67 → τ.2.2.1 p = σ.2.2.1 p) ∧ τ.2.2.1 67 0 = σ.2.2.1 67 0 := by
  intro f
  induction f with
  | zero => intro S σ _ _ hf; omega
  | succ f ih =>
    intro S σ h1 h2 hf h hT
    rw [X6_mostCouples_2]
    by_cases e : S = 64
    · subst e
      refine ⟨σ, ?_, rfl, rfl, fun _ _ => rfl, rfl⟩
      rw [if_pos (show (64 : Int32) ≤ nI 64 by decide), X6_mostCouples_25, show sp_g σ 67 (63 : Int32) = sp_g σ 67 (nI 63) from rfl, qn_g (by omega), hT 63 (by omega)]
    · have np : ∀ p, p ≠ 67 → (sp_sa σ 67 S (nI (mc (fun h => sc (35 + h)) 6 S))).2.2.1 p = σ.2.2.1 p := fun p hp => by
        funext i
        rw [sp_sa_np hp]
      rw [if_neg (show ¬ (64 : Int32) ≤ nI S from nI_ge (b := 64) (by omega) (by omega)), X6_mostCouplesIn, sp_pl, show (5 : Int32) = nI 5 from rfl, sq_mcIn h hn hF h1 hT n 5 (by omega) (by omega) (by omega), sp_bd_s, qn_in (by omega) (by omega), sp_ckt, nI_clamp (by omega), sp_pl, sp_pl, nI_1]
      obtain ⟨τ, t1, t2, t3, t4, t5⟩ := ih (S + 1) (sp_sa σ 67 S (nI (mc (fun h => sc (35 + h)) 6 S))) (by omega) (by omega) (by omega) (qSC_q (σ := σ) (fun p hp => ⟨rfl, np p (by omega)⟩) rfl (np 24 (by omega)) h) (fun T hT2 => by
        by_cases eT : T = S
        · subst eT; rw [sp_sa_eq]
        · rw [sp_sa_nj eT]; exact hT T (by omega))
      exact ⟨τ, t1, t2, t3, fun p hp => (t4 p hp).trans (np p hp), t5.trans (sp_sa_nj (by omega))⟩
theorem op_couples (hn : 5000 ≤ n) (h : Inv j σ μ) : agi j (X11_couples n σ) (X12_couples n μ) := by
  have h67 : σ.2.2.1 67 0 = 0 := by
    obtain ⟨_, _, _, _, _, _, _, _, _, _, _, _, ⟨_, _, _, _, _, h67⟩, _⟩ := h
    exact h67
  obtain ⟨c, ct, cd, sc, stk, hI, h3, hS, hM, hG, hD, hc⟩ := Inv_now h
  rw [X12_couples, sp_pl, X11_couples, X6_mostCouples, sp_pl]
  generalize sp_si μ 0 3 0 = μ1 at *
  have hF := hG.1.2.2.2.2.2.1
  obtain ⟨τ, t1, t2, t3, t4, t5⟩ := sq_most (c := c) (ct := ct) (cd := cd) (by omega : 100 ≤ n) hF n 1 σ (by omega) (by omega) (by omega) hS (fun T hT => by
    rw [show T = 0 by omega, h67, mc_st (k := 0) (by decide) 6 (by omega)]; rfl)
  rw [show X6_mostCouples_2 n n σ (1 : Int32) = X6_mostCouples_2 n n σ (nI 1) from rfl, t1, sp_bd_s, show (63 : Int32) = nI 63 from rfl, rq_couplesOf hM (by omega) hF hG.1.2.2.2.2.2.2.1 7 63 (by omega) (by have := cnt_6 63; omega), sp_bd_s]
  exact ⟨τ, μ1, _, rfl, rfl, Inv_q0 hI (fun p hp => ⟨by rw [t2], by rw [t3], t4 p (by unfold cK at hp; omega)⟩) t5 (mq_refl _)⟩
end
