-- ===== takeIn =====
def prT (w A : Nat → Nat) (N r : Nat) (R : List Nat) (S z T : Nat) : Prop := Sb T S ∧ sW w N T ≤ r ∧ ∃ y, isM w A N R (qd S T) y ∧ sW A N T + y = z
section
variable {n j c : Nat} {σ μ : sp_St} {ct : Nat → Nat → Nat} {cd : List Nat × List Nat} {sc : Nat → Nat} {stk : Nat → List Nat}
theorem sq_leastSet (h : qSC σ 23 c ct cd sc) (hn : 1100 ≤ n) (hA : ∀ b, b < ct 0 13 → sc b ≤ 99) (hu : ∀ s, s < ct 0 14 → qus ct sc s ≤ sc (30 + s)) (h99 : ∀ s, s < ct 0 14 → lfO ct sc s ≤ 99) {s S z : Nat} {R : List Nat} (hs : s < ct 0 14) (hS : S < 1024) (hz : z ≤ 990) (hT : tM σ (ct 2) sc (ct 0 13) R S 1024) (hex : ∃ T, prT (ct 2) sc (ct 0 13) (lfO ct sc s) R S z T) : ∃ t, X5_leastSet n σ (nI s) (nI S) (nI z) = some (σ, nI t) ∧ prT (ct 2) sc (ct 0 13) (lfO ct sc s) R S z t ∧ ∀ u, u < t → ¬ prT (ct 2) sc (ct 0 13) (lfO ct sc s) R S z u := by
  have hb10 := h.2.2.2.2.2.1.1
  have hs5 := h.2.2.2.2.2.1.2.1
  have hL := h.2.2.2.2.2.1.2.2.2.2.1
  have key : ∀ f k, k ≤ S + 1 → S + 1 - k < f → (∀ u, u < k → ¬ prT (ct 2) sc (ct 0 13) (lfO ct sc s) R S z u) → ∃ t, X5_leastSet_13 n f σ (nI S) (nI z) (nI (lfO ct sc s)) (nI k) = some (σ, nI t) ∧ prT (ct 2) sc (ct 0 13) (lfO ct sc s) R S z t ∧ ∀ u, u < t → ¬ prT (ct 2) sc (ct 0 13) (lfO ct sc s) R S z u := by
    intro f
    induction f with
    | zero => intro k _ hf; omega
    | succ f ih =>
      intro k hk hf hlow
      by_cases e : S < k
      · obtain ⟨T, hT⟩ := hex
        exact absurd hT (hlow T (Nat.lt_of_le_of_lt (Sb_le hT.1) e))
      · have e72 : X5_leastSet_72 n (X5_leastSet_13 n f) σ (nI S) (nI z) (nI (lfO ct sc s)) (nI k) = X5_leastSet_13 n f σ (nI S) (nI z) (nI (lfO ct sc s)) (nI (k + 1)) := by rw [X5_leastSet_72, sp_pl, nI_1]
        have next : ¬ prT (ct 2) sc (ct 0 13) (lfO ct sc s) R S z k → ∃ t, X5_leastSet_13 n f σ (nI S) (nI z) (nI (lfO ct sc s)) (nI (k + 1)) = some (σ, nI t) ∧ prT (ct 2) sc (ct 0 13) (lfO ct sc s) R S z t ∧ ∀ u, u < t → ¬ prT (ct 2) sc (ct 0 13) (lfO ct sc s) R S z u := fun hk' => ih (k + 1) (by omega) (by omega) (fun u hu => by
          by_cases eu : u = k
          · subst eu; exact hk'
          · exact hlow u (by omega))
        rw [X5_leastSet_13, if_neg (by rw [qn_lt (by omega) (by omega)]; exact e), if_neg (show ¬ (1024 : Int32) ≤ nI k from nI_ge (b := 1024) (by omega) (by omega))]
        by_cases p : Sb k S
        · have l1 : qd S k < 1024 := qd_le2 (m := 10) _ _ hS
          obtain ⟨y, y1, y2, y3⟩ := hT (qd S k) l1 Sb_qd
          have a990 := sW_990 (S := k) hA hb10
          have lw : sW (ct 2) (ct 0 13) k ≤ ct 0 13 * 40 := qs_le (fun k hk => by
            have := (hL k).2
            split <;> omega)
          have l99 := h99 s hs
          rw [if_pos (by rw [qn_dif0 (by omega)]; exact p), sq_angerOf h (by omega) (by omega), sp_bd_s, show nI S &&& (nI k ^^^ (-1 : Int32)) = nI (qd S k) from qn_dif S k, qn_in (by omega) (by omega), sp_ckt, qn_g (by omega), y2, nI_add]
          by_cases q : sW sc (ct 0 13) k + y = z
          · rw [if_pos (by rw [qn_eq (by omega) (by omega)]; exact q), sq_lengthOf h (by omega) (by omega), sp_bd_s]
            by_cases r : lfO ct sc s < sW (ct 2) (ct 0 13) k
            · rw [if_pos (by rw [qn_lt (by omega) (by omega)]; exact r), e72]
              exact next (fun hp => by have := hp.2.1; omega)
            · rw [if_neg (by rw [qn_lt (by omega) (by omega)]; exact r), X5_leastSet_69]
              exact ⟨k, rfl, ⟨p, by omega, y, y3, q⟩, hlow⟩
          · rw [if_neg (by rw [qn_eq (by omega) (by omega)]; exact q), e72]
            exact next (fun hp => by
              obtain ⟨y', a1, a2⟩ := hp.2.2
              rw [isM_u a1 y3] at a2
              exact q a2)
        · rw [if_neg (by rw [qn_dif0 (by omega)]; exact p), e72]
          exact next (fun hp => p hp.1)
  rw [X5_leastSet, sq_leftN h (by omega) (by omega) (hu s hs), sp_bd_s, sp_pl]
  exact key n 0 (by omega) (by omega) (fun u hu => by omega)
theorem rq_going (h : mSC μ ct cd sc stk) (hn : 1100 ≤ n) (hA : ∀ b, b < ct 0 13 → sc b ≤ 99) (hu : ∀ s, s < ct 0 14 → qus ct sc s ≤ sc (30 + s)) (h99 : ∀ s, s < ct 0 14 → lfO ct sc s ≤ 99) {s S z O : Nat} {R Q : List Nat} (hs : s < ct 0 14) (hS : S < 1024) (hSO : Sb S O) (hT : tR μ (ct 2) sc (ct 0 13) R O ((s + 1) * 1024) 1024) (hQ : tR μ (ct 2) sc (ct 0 13) Q O (s * 1024) 1024) (hz : isM (ct 2) sc (ct 0 13) Q S z) (hex : ∃ T, prT (ct 2) sc (ct 0 13) (lfO ct sc s) R S z T) : ∃ t, X12_goingTo n μ (nI s) (nI S) = some (μ, nI t) ∧ prT (ct 2) sc (ct 0 13) (lfO ct sc s) R S z t ∧ ∀ u, u < t → ¬ prT (ct 2) sc (ct 0 13) (lfO ct sc s) R S z u := by
  have hb10 := h.2.2.2.1.1
  have hs5 := h.2.2.2.1.2.1
  have hL := h.2.2.2.1.2.2.2.2.1
  obtain ⟨z', z1, z2, z3⟩ := hQ S hS hSO
  obtain rfl : z' = z := isM_u z3 hz
  have key : ∀ f k, k ≤ S → S - k < f → (∀ u, u < k → ¬ prT (ct 2) sc (ct 0 13) (lfO ct sc s) R S z' u) → ∃ t, X12_goingTo_2 n f μ (nI s) (nI S) (nI k) = some (μ, nI t) ∧ prT (ct 2) sc (ct 0 13) (lfO ct sc s) R S z' t ∧ ∀ u, u < t → ¬ prT (ct 2) sc (ct 0 13) (lfO ct sc s) R S z' u := by
    intro f
    induction f with
    | zero => intro k _ hf; omega
    | succ f ih =>
      intro k hk hf hlow
      rw [X12_goingTo_2]
      by_cases e : k = S
      · subst e
        obtain ⟨T, hT⟩ := hex
        have : T = k := Nat.le_antisymm (Sb_le hT.1) (Nat.le_of_not_lt fun hlt => hlow T hlt hT)
        subst this
        exact ⟨T, by rw [if_pos (Int32.le_refl _), X12_goingTo_73], hT, hlow⟩
      · have e67 : X12_goingTo_67 n (X12_goingTo_2 n f) μ (nI s) (nI S) (nI k) = X12_goingTo_2 n f μ (nI s) (nI S) (nI (k + 1)) := by rw [X12_goingTo_67, sp_pl, nI_1]
        have next : ¬ prT (ct 2) sc (ct 0 13) (lfO ct sc s) R S z' k → ∃ t, X12_goingTo_2 n f μ (nI s) (nI S) (nI (k + 1)) = some (μ, nI t) ∧ prT (ct 2) sc (ct 0 13) (lfO ct sc s) R S z' t ∧ ∀ u, u < t → ¬ prT (ct 2) sc (ct 0 13) (lfO ct sc s) R S z' u := fun hk' => ih (k + 1) (by omega) (by omega) (fun u hu => by
          by_cases eu : u = k
          · subst eu; exact hk'
          · exact hlow u (by omega))
        rw [if_neg (by rw [qn_le (by omega) (by omega)]; omega)]
        by_cases p : Sb k S
        · have l1 : qd S k < 1024 := qd_le2 (m := 10) _ _ hS
          obtain ⟨y, y1, y2, y3⟩ := hT (qd S k) l1 (Sb_trans Sb_qd hSO)
          have a990 := sW_990 (S := k) hA hb10
          have lw : sW (ct 2) (ct 0 13) k ≤ ct 0 13 * 40 := qs_le (fun k hk => by
            have := (hL k).2
            split <;> omega)
          have l99 := h99 s hs
          rw [if_pos (by rw [qn_dif0 (by omega)]; exact p), rq_lengths h (by omega) (by omega), sp_bd_s, rq_leftOf h (by omega) hs (hu s hs), sp_bd_s]
          show ∃ t, (if nI (lfO ct sc s) < nI (sW (ct 2) (ct 0 13) k) then _ else _) = _ ∧ _
          by_cases r : lfO ct sc s < sW (ct 2) (ct 0 13) k
          · rw [if_pos (by rw [qn_lt (by omega) (by omega)]; exact r), e67]
            exact next (fun hp => by have := hp.2.1; omega)
          · rw [if_neg (by rw [qn_lt (by omega) (by omega)]; exact r), rq_angers h (by omega) (by omega), sp_bd_s, show nI S &&& (nI k ^^^ (-1 : Int32)) = nI (qd S k) from qn_dif S k, show nI s + (1 : Int32) = nI (s + 1) from nI_1 s, ix10 (by omega) l1, ix10 (by omega) hS, qn_in (by omega) (by omega), sp_ckt, qn_in (by omega) (by omega), sp_ckt, qn_g (by omega), qn_g (by omega), y2, z2]
            show ∃ t, (if nI (sW sc (ct 0 13) k) + nI y = nI z' then _ else _) = _ ∧ _
            rw [nI_add]
            by_cases q : sW sc (ct 0 13) k + y = z'
            · rw [if_pos (by rw [qn_eq (by omega) (by omega)]; exact q), X12_goingTo_65]
              exact ⟨k, rfl, ⟨p, by omega, y, y3, q⟩, hlow⟩
            · rw [if_neg (by rw [qn_eq (by omega) (by omega)]; exact q), e67]
              exact next (fun hp => by
                obtain ⟨y', a1, a2⟩ := hp.2.2
                rw [isM_u a1 y3] at a2
                exact q a2)
        · rw [if_neg (by rw [qn_dif0 (by omega)]; exact p), e67]
          exact next (fun hp => p hp.1)
  rw [X12_goingTo, sp_pl]
  exact key n 0 (by omega) (by omega) (fun u hu => by omega)
theorem lock_take (h : qSC σ 23 c ct cd sc) (hM : mSC μ ct cd sc stk) (hn : 1100 ≤ n) (hA : ∀ b, b < ct 0 13 → sc b ≤ 99) (hu : ∀ s, s < ct 0 14 → qus ct sc s ≤ sc (30 + s)) (h99 : ∀ s, s < ct 0 14 → lfO ct sc s ≤ 99) {O b : Nat} (hO : O < 2 ^ ct 0 13) (hb : b < 10) (hR : ∀ s, s ≤ ct 0 14 → tR μ (ct 2) sc (ct 0 13) (rr (lfO ct sc) s (ct 0 14 - s)) O (s * 1024) 1024) : ∀ f s τ S z, s ≤ ct 0 14 → ct 0 14 - s < f → qfp 60 63 σ τ → Sb S O → isM (ct 2) sc (ct 0 13) (rr (lfO ct sc) s (ct 0 14 - s)) S z → ∃ υ r, X5_bestSwallower_24 n f τ (nI b) (nI S) (nI z) (nI s) = some (υ, r) ∧ X12_takeIn_59 n f μ (nI b) (nI S) (nI s) = some (μ, r) ∧ qfp 60 63 σ υ := by
  have hb10 := h.2.2.2.2.2.1.1
  have hs5 := h.2.2.2.2.2.1.2.1
  have hO2 : O < 1024 := Nat.lt_of_lt_of_le hO (Nat.pow_le_pow_right (by decide) hb10 : 2 ^ ct 0 13 ≤ 2 ^ 10)
  have w31 : sp_g μ 3 (1 : Int32) = nI (ct 0 14) := hM.1.1
  intro f
  induction f with
  | zero => intro s τ S z _ hf; omega
  | succ f ih =>
    intro s τ S z hs hf g hSO hz
    have hτ := qSC_pk h g
    have lS : S ≤ O := Sb_le hSO
    rw [X5_bestSwallower_24, sp_pl, hτ.2.1, hτ.2.2.1, sp_ckt, hτ.2.2.2.1.2.1, X12_takeIn_59, w31]
    by_cases e : s = ct 0 14
    · subst e
      exact ⟨τ, -1, by rw [if_pos (Int32.le_refl _), X5_bestSwallower_92], by rw [if_pos (Int32.le_refl _), X12_takeIn_104], g⟩
    · have hs2 : s < ct 0 14 := by omega
      obtain ⟨τ1, a1, a2, a3⟩ := sq_weigh hτ hn hA hu h99 (s := s + 1) (O := S) (by omega) (by omega)
      have g1 := qfp_trans g a2
      have hR1 := hR (s + 1) (by omega)
      have hz990 := isM_990 hA hb10 hz
      have hz' := hz
      rw [show rr (lfO ct sc) s (ct 0 14 - s) = lfO ct sc s :: rr (lfO ct sc) (s + 1) (ct 0 14 - (s + 1)) by rw [show ct 0 14 - s = (ct 0 14 - (s + 1)) + 1 by omega, rr]] at hz'
      have hex : ∃ T, prT (ct 2) sc (ct 0 13) (lfO ct sc s) (rr (lfO ct sc) (s + 1) (ct 0 14 - (s + 1))) S z T := by
        have gg : ∀ T, Sb T S → isM (ct 2) sc (ct 0 13) (rr (lfO ct sc) (s + 1) (ct 0 14 - (s + 1))) (qd S T) (μ.2.2.1 27 ((s + 1) * 1024 + qd S T)).toNatClampNeg := fun T _ => (tR_g hR1 (qd_le2 (m := 10) _ _ (by omega)) (Sb_trans Sb_qd hSO)).2.2
        obtain ⟨T, t1, t2, t3⟩ := isM_ex (g := fun X => (μ.2.2.1 27 ((s + 1) * 1024 + X)).toNatClampNeg) hz' gg
        exact ⟨T, t1, t2, _, gg T t1, t3⟩
      obtain ⟨t, t1, t2, t3⟩ := sq_leastSet (qSC_pk h g1) hn hA hu h99 hs2 (show S < 1024 by omega) hz990 a3 hex
      obtain ⟨t', u1, u2, u3⟩ := rq_going hM hn hA hu h99 hs2 (show S < 1024 by omega) hSO hR1 (hR s (by omega)) hz hex
      obtain rfl : t = t' := by
        rcases Nat.lt_trichotomy t t' with q | q | q
        · exact absurd t2 (u3 t q)
        · exact q
        · exact absurd u2 (t3 t' q)
      have lt1 : t < 1024 := Nat.lt_of_le_of_lt (Sb_le t2.1) (by omega)
      rw [if_neg (nI_ge hs2 (by omega)), if_neg (nI_ge hs2 (by omega)), show nI s + (1 : Int32) = nI (s + 1) from nI_1 s, a1, sp_bv_s, t1, sp_bd_s, u1, sp_bd_s, rq_isOf (by omega) (by omega), sp_bd_s]
      cases p : t.testBit b with
      | true =>
        exact ⟨τ1, nI s, by rw [if_neg (by rw [show (nI t >>> (nI b &&& 31) &&& 1 = 0) = (t.testBit b = false) from qn_bit0 (by omega) (by omega), p]; decide), X5_bestSwallower_67], by rw [if_pos rfl, if_neg n10, X12_takeIn_88], g1⟩
      | false =>
        obtain ⟨y, y1, y2⟩ := t2.2.2
        obtain ⟨υ, r, x1, x2, x3⟩ := ih (s + 1) τ1 (qd S t) y (by omega) (by omega) g1 (Sb_trans Sb_qd hSO) y1
        refine ⟨υ, r, ?_, ?_, x3⟩
        · rw [if_pos (by rw [show (nI t >>> (nI b &&& 31) &&& 1 = 0) = (t.testBit b = false) from qn_bit0 (by omega) (by omega)]; exact p), sp_pl, show nI S &&& (nI t ^^^ (-1 : Int32)) = nI (qd S t) from qn_dif S t, sq_angerOf (qSC_pk h g1) (by omega) lt1, sp_bd_s, sp_pl, qn_sub (by omega), show z - sW sc (ct 0 13) t = y by omega, sp_pl]
          exact x1
        · rw [show (if false = true then nI 1 else nI 0) = nI 0 from rfl, if_pos n00, sp_pl, show nI S &&& (nI t ^^^ (-1 : Int32)) = nI (qd S t) from qn_dif S t, sp_pl]
          exact x2
end
