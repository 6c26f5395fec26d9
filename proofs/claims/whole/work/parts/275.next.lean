-- ===== one token on, both sides =====
def mkd (k : Nat) : Nat := if k ≤ 2 then k else if k = 3 then 4 else 3
/-- both stand at the same place of the same text -/
def TP (T : Nat → Nat) (N : Nat) (σ μ : sp_St) (e : Nat) : Prop := cTx T N σ ∧ mTx T N μ ∧ e ≤ N ∧ σ.1 20 2 = nI e ∧ μ.1 0 16 = nI e
/-- both have the same token: from b to e, of kind kd, a number's value v -/
def TK (T : Nat → Nat) (N : Nat) (σ μ : sp_St) (e b kd v : Nat) : Prop := TP T N σ μ e ∧ b ≤ e ∧ σ.1 20 3 = nI b ∧ μ.1 0 20 = nI b ∧ μ.1 0 21 = nI e ∧ σ.1 20 4 = nI kd ∧ μ.1 0 18 = nI (mkd kd) ∧ kd < 256 ∧ (kd = 0 → b = N) ∧ (kd ≠ 0 → b < e) ∧ (3 < kd → T b = kd ∧ isG kd = true) ∧ (kd = 2 → σ.1 20 5 = nI v ∧ v ≤ 10000 ∧ (e - b ≤ 4 → μ.1 0 19 = nI v ∧ v < 10000) ∧ (4 < e - b → v = 10000))
def cfT (σ τ : sp_St) : Prop := τ.2 = σ.2 ∧ ∀ p k, ¬ (p = 20 ∧ 2 ≤ k) → τ.1 p k = σ.1 p k
def mfT (μ υ : sp_St) : Prop := υ.2 = μ.2 ∧ ∀ k, ¬ (k = 16 ∨ 18 ≤ k ∧ k ≤ 21) → υ.1 0 k = μ.1 0 k
theorem cfT_si {σ : sp_St} {k : Nat} {v : Int32} (h : 2 ≤ k) : cfT σ (sp_si σ 20 k v) := ⟨rfl, fun p j hj => by rw [sp_si_g, if_neg (by omega)]⟩
theorem cfT_tr {σ τ υ : sp_St} (h : cfT σ τ) (g : cfT τ υ) : cfT σ υ := ⟨g.1.trans h.1, fun p k hk => (g.2 p k hk).trans (h.2 p k hk)⟩
theorem mfT_si {μ : sp_St} {k : Nat} {v : Int32} (h : k = 16 ∨ 18 ≤ k ∧ k ≤ 21) : mfT μ (sp_si μ 0 k v) := ⟨rfl, fun j hj => by rw [sp_si_g, if_neg (by omega)]⟩
theorem mfT_tr {σ τ υ : sp_St} (h : mfT σ τ) (g : mfT τ υ) : mfT σ υ := ⟨g.1.trans h.1, fun k hk => (g.2 k hk).trans (h.2 k hk)⟩
theorem cTx_f {T : Nat → Nat} {N : Nat} {σ τ : sp_St} (h : cTx T N σ) (g : cfT σ τ) : cTx T N τ := ⟨by rw [g.2 20 1 (by omega)]; exact h.1, h.2.1, by rw [g.1]; exact h.2.2⟩
theorem mTx_f {T : Nat → Nat} {N : Nat} {σ τ : sp_St} (h : mTx T N σ) (g : mfT σ τ) : mTx T N τ := ⟨by rw [g.2 17 (by omega)]; exact h.1, h.2.1, by rw [g.1]; exact h.2.2⟩
theorem gG : ∀ x, x < 256 → isG x = true → 3 < x := by decide +kernel
section
variable {n N : Nat} {T : Nat → Nat} {σ μ : sp_St}
theorem tk_nx (hn : 1000 ≤ n) {e : Nat} (h : TP T N σ μ e) : ∃ τ υ e' b' kd' v', X10_next n σ = some τ ∧ X12_stepOn n μ = some υ ∧ TK T N τ υ e' b' kd' v' ∧ e ≤ b' ∧ cfT σ τ ∧ mfT μ υ := by
  obtain ⟨hc, hm, heN, h2, h16⟩ := h
  have hN7 := hc.2.1
  obtain ⟨b1, b2, b3, b4⟩ := eR_b (P := isB) (T := T) (N := N) (N - e) e rfl heN
  rw [X10_next, X10_blanksEnd, h2, cq_blanks hc n e heN (by omega), sp_bd_s, X12_stepOn, rq_blanks n e μ hm h16 heN (by omega)]
  generalize eR isB T N e = b at *
  have hc1 : cTx T N (sp_si σ 20 3 (nI b)) := cTx_si hc (by omega)
  have f1 : cfT σ (sp_si σ 20 3 (nI b)) := cfT_si (by omega)
  have k3 : (sp_si σ 20 3 (nI b)).1 20 3 = nI b := sp_si_eq
  rw [X12_stepOn_39]
  simp only [sp_pl]
  rw [k3, hc1.1]
  have hm0 : mTx T N (sp_si μ 0 16 (nI b)) := mTx_si hm (by omega)
  have m16 : (sp_si μ 0 16 (nI b)).1 0 16 = nI b := sp_si_eq
  have g0 : mfT μ (sp_si μ 0 16 (nI b)) := mfT_si (by omega)
  rw [m16]
  generalize sp_si μ 0 16 (nI b) = μ1 at *
  have hm1 : mTx T N (sp_si μ1 0 20 (nI b)) := mTx_si hm0 (by omega)
  have m16' : (sp_si μ1 0 20 (nI b)).1 0 16 = nI b := by rw [sp_si_ne (by omega)]; exact m16
  have m20 : (sp_si μ1 0 20 (nI b)).1 0 20 = nI b := sp_si_eq
  have g1 : mfT μ (sp_si μ1 0 20 (nI b)) := mfT_tr g0 (mfT_si (by omega))
  rw [m16']
  generalize sp_si σ 20 3 (nI b) = σ1 at *
  generalize sp_si μ1 0 20 (nI b) = μ2 at *
  by_cases hbN : b = N
  · -- the end
    subst hbN
    rw [if_neg (by rw [qn_lt (by omega) (by omega)]; omega), rq_byteN hm1, sp_bd_s, if_pos rfl, X12_stepOn_212, sp_pl]
    have k3' : (sp_si σ1 20 4 0).1 20 3 = nI b := by rw [sp_si_ne (by omega)]; exact k3
    rw [k3']
    have q16 : (sp_si μ2 0 18 0).1 0 16 = nI b := by rw [sp_si_ne (by omega)]; exact m16'
    rw [q16]
    refine ⟨_, _, b, b, 0, 0, rfl, rfl, ?_, b1, cfT_tr f1 (cfT_tr (cfT_si (by omega)) (cfT_si (by omega))), mfT_tr g1 (mfT_tr (mfT_si (by omega)) (mfT_si (by omega)))⟩
    refine ⟨⟨cTx_si (cTx_si hc1 (by omega)) (by omega), mTx_si (mTx_si hm1 (by omega)) (by omega), by omega, sp_si_eq, ?_⟩, Nat.le_refl _, ?_, ?_, sp_si_eq, ?_, ?_, by omega, fun _ => rfl, fun h => absurd rfl h, fun h => by omega, fun h => by omega⟩
    · rw [sp_si_ne (by omega)]; exact q16
    · rw [sp_si_ne (by omega)]; exact k3'
    · rw [sp_si_ne (by omega), sp_si_ne (by omega)]; exact m20
    · rw [sp_si_ne (by omega)]; exact sp_si_eq
    · rw [sp_si_ne (by omega)]; exact sp_si_eq
  · have hlt : b < N := by omega
    have hb := (hc1.2.2 b hlt).1
    have h256 := (hc1.2.2 b hlt).2
    rw [if_pos (by rw [qn_lt (by omega) (by omega)]; exact hlt), rq_byte hm1 hlt, sp_bd_s, if_neg (m1n h256), qn_in (by omega) (by omega), sp_ckt, qn_g (by omega), hb, cq_isLetter h256, sp_bd_s, rq_isLetter h256, sp_bd_s]
    cases pL : isL (T b) with
    | true =>
      have hc2 : cTx T N (sp_si σ1 20 4 1) := cTx_si hc1 (by omega)
      have k3' : (sp_si σ1 20 4 1).1 20 3 = nI b := by rw [sp_si_ne (by omega)]; exact k3
      obtain ⟨c1, c2, c3, c4⟩ := eR_b (P := isL) (T := T) (N := N) (N - b) b rfl (by omega)
      have c5 : b + 1 ≤ eR isL T N b := by
        rw [eR_t hlt pL]
        exact (eR_b (P := isL) (T := T) (N := N) (N - (b + 1)) (b + 1) rfl (by omega)).1
      rw [if_neg (show ¬ bI true = 0 by decide), if_neg (show ¬ bI true = 0 by decide), k3', X10_lettersEnd, cq_letters hc2 n b (by omega) (by omega), sp_bd_s, X10_next_143, rq_letters n b μ2 hm1 m16' (by omega) (by omega)]
      generalize eR isL T N b = w at *
      rw [X12_stepOn_103, sp_pl, X12_stepOn_212, sp_pl]
      have q16 : (sp_si (sp_si μ2 0 16 (nI w)) 0 18 1).1 0 16 = nI w := by rw [sp_si_ne (by omega)]; exact sp_si_eq
      rw [q16]
      refine ⟨_, _, w, b, 1, 0, rfl, rfl, ?_, b1, cfT_tr f1 (cfT_tr (cfT_si (by omega)) (cfT_si (by omega))), mfT_tr g1 (mfT_tr (mfT_si (by omega)) (mfT_tr (mfT_si (by omega)) (mfT_si (by omega))))⟩
      refine ⟨⟨cTx_si hc2 (by omega), mTx_si (mTx_si (mTx_si hm1 (by omega)) (by omega)) (by omega), by omega, sp_si_eq, ?_⟩, c1, ?_, ?_, sp_si_eq, ?_, ?_, by omega, fun h => by omega, fun h => by omega, fun h => by omega, fun h => by omega⟩
      · rw [sp_si_ne (by omega)]; exact q16
      · rw [sp_si_ne (by omega)]; exact k3'
      · rw [sp_si_ne (by omega), sp_si_ne (by omega), sp_si_ne (by omega)]; exact m20
      · rw [sp_si_ne (by omega)]; exact sp_si_eq
      · rw [sp_si_ne (by omega)]; exact sp_si_eq
    | false =>
      rw [if_pos (show bI false = 0 by decide), if_pos (show bI false = 0 by decide), cq_isDigit h256, sp_bd_s, rq_isDigit h256, sp_bd_s]
      cases pD : isD (T b) with
      | true =>
        have hc2 : cTx T N (sp_si σ1 20 4 2) := cTx_si hc1 (by omega)
        have k3' : (sp_si σ1 20 4 2).1 20 3 = nI b := by rw [sp_si_ne (by omega)]; exact k3
        obtain ⟨c1, c2, c3, c4⟩ := eR_b (P := isD) (T := T) (N := N) (N - b) b rfl (by omega)
        have c5 : b + 1 ≤ eR isD T N b := by
          rw [eR_t hlt pD]
          exact (eR_b (P := isD) (T := T) (N := N) (N - (b + 1)) (b + 1) rfl (by omega)).1
        obtain ⟨k, hk⟩ : ∃ k, eR isD T N b = b + k := ⟨eR isD T N b - b, by omega⟩
        rw [if_neg (show ¬ bI true = 0 by decide), if_neg (show ¬ bI true = 0 by decide), k3', X10_digitsEnd, cq_digits hc2 n b (by omega) (by omega), sp_bd_s, rq_digits k n b 0 (sp_si μ2 0 19 0) (mTx_si hm1 (by omega)) (by rw [sp_si_ne (by omega)]; exact m16') sp_si_eq (by omega) hk (by omega) (by omega), hk]
        rw [hk] at c1 c2 c3 c4 c5
        have hc3 : cTx T N (sp_si (sp_si σ1 20 4 2) 20 2 (nI (b + k))) := cTx_si hc2 (by omega)
        have q3 : (sp_si (sp_si σ1 20 4 2) 20 2 (nI (b + k))).1 20 3 = nI b := by rw [sp_si_ne (by omega)]; exact k3'
        have q2 : (sp_si (sp_si σ1 20 4 2) 20 2 (nI (b + k))).1 20 2 = nI (b + k) := sp_si_eq
        have q4 : (sp_si (sp_si σ1 20 4 2) 20 2 (nI (b + k))).1 20 4 = 2 := by rw [sp_si_ne (by omega)]; exact sp_si_eq
        rw [q3, q2, si_si, X12_stepOn_178, sp_pl, X12_stepOn_212, sp_pl]
        have fT : cfT σ (sp_si (sp_si σ1 20 4 2) 20 2 (nI (b + k))) := cfT_tr f1 (cfT_tr (cfT_si (by omega)) (cfT_si (by omega)))
        generalize sp_si (sp_si σ1 20 4 2) 20 2 (nI (b + k)) = σ2 at *
        have q16 : (sp_si (sp_si (sp_si μ2 0 19 (nI (ww T k b 0))) 0 16 (nI (b + k))) 0 18 2).1 0 16 = nI (b + k) := by rw [sp_si_ne (by omega)]; exact sp_si_eq
        rw [q16]
        have hv : ∃ v, X10_valueOf n σ2 (nI b) (nI (b + k)) = some (σ2, nI v) ∧ v ≤ 10000 ∧ (k ≤ 4 → ww T k b 0 = v ∧ v < 10000) ∧ (4 < k → v = 10000) := by
          rw [X10_valueOf, qn_sub (by omega), show b + k - b = k by omega]
          by_cases k4 : k ≤ 4
          · obtain ⟨w1, w2⟩ := vv_lt (T := T) (k := k) (e := b) (fun i h1 h2 => c3 i h1 (by omega)) k4
            refine ⟨vv T k b 0, ?_, by omega, fun _ => ⟨w1, w2⟩, fun h => by omega⟩
            rw [if_pos (show nI k ≤ 4 by show nI k ≤ nI 4; rw [qn_le (by omega) (by omega)]; exact k4), sp_pl]
            exact cq_value hc3 k n b 0 (fun i h1 h2 => c3 i h1 (by omega)) (by omega) (by omega)
          · exact ⟨10000, by rw [if_neg (show ¬ nI k ≤ 4 by show ¬ nI k ≤ nI 4; rw [qn_le (by omega) (by omega)]; exact k4)]; rfl, by omega, fun h => absurd h k4, fun _ => rfl⟩
        obtain ⟨v, v1, v2, v3, v4⟩ := hv
        rw [v1, sp_bd_s, X10_next_143]
        refine ⟨_, _, b + k, b, 2, v, rfl, rfl, ?_, b1, cfT_tr fT (cfT_si (by omega)), mfT_tr g1 (mfT_tr (mfT_si (by omega)) (mfT_tr (mfT_si (by omega)) (mfT_tr (mfT_si (by omega)) (mfT_si (by omega)))))⟩
        refine ⟨⟨cTx_si hc3 (by omega), mTx_si (mTx_si (mTx_si (mTx_si hm1 (by omega)) (by omega)) (by omega)) (by omega), c2, ?_, ?_⟩, c1, ?_, ?_, sp_si_eq, ?_, ?_, by omega, fun h => by omega, fun h => by omega, fun h => by omega, fun _ => ⟨sp_si_eq, v2, fun h4 => ?_, fun h4 => v4 (by omega)⟩⟩
        · rw [sp_si_ne (by omega)]; exact q2
        · rw [sp_si_ne (by omega)]; exact q16
        · rw [sp_si_ne (by omega)]; exact q3
        · rw [sp_si_ne (by omega), sp_si_ne (by omega), sp_si_ne (by omega), sp_si_ne (by omega)]; exact m20
        · rw [sp_si_ne (by omega)]; exact q4
        · rw [sp_si_ne (by omega)]; exact sp_si_eq
        · obtain ⟨x1, x2⟩ := v3 (by omega)
          refine ⟨?_, x2⟩
          rw [sp_si_ne (by omega), sp_si_ne (by omega), sp_si_ne (by omega), ← x1]; exact sp_si_eq
      | false =>
        rw [if_pos (show bI false = 0 by decide), if_pos (show bI false = 0 by decide), cq_isSign h256 (by omega), sp_bd_s, m16', show nI b + 1 = nI (b + 1) from nI_add b 1, rq_isMark h256, sp_bd_s, X12_stepOn_212, sp_pl, X10_next_143]
        have kE : ∃ kd, (if bI (isG (T b)) = 0 then (3 : Int32) else nI (T b)) = nI kd ∧ (if bI (isG (T b)) = 0 then (4 : Int32) else 3) = nI (mkd kd) ∧ kd < 256 ∧ 3 ≤ kd ∧ (3 < kd → T b = kd ∧ isG kd = true) := by
          cases pG : isG (T b) with
          | true =>
            have h3 := gG _ h256 pG
            refine ⟨T b, by rw [if_neg (show ¬ bI true = 0 by decide)], ?_, h256, by omega, fun _ => ⟨rfl, pG⟩⟩
            rw [if_neg (show ¬ bI true = 0 by decide)]
            unfold mkd
            rw [if_neg (by omega), if_neg (by omega)]; rfl
          | false => exact ⟨3, rfl, rfl, by omega, by omega, fun h => by omega⟩
        obtain ⟨kd, e1, e2, e3, e4, e5⟩ := kE
        rw [e1, e2]
        have q16 : (sp_si (sp_si μ2 0 16 (nI (b + 1))) 0 18 (nI (mkd kd))).1 0 16 = nI (b + 1) := by rw [sp_si_ne (by omega)]; exact sp_si_eq
        have q3 : (sp_si σ1 20 4 (nI kd)).1 20 3 = nI b := by rw [sp_si_ne (by omega)]; exact k3
        rw [q16, q3]
        refine ⟨_, _, b + 1, b, kd, 0, rfl, rfl, ?_, b1, cfT_tr f1 (cfT_tr (cfT_si (by omega)) (cfT_si (by omega))), mfT_tr g1 (mfT_tr (mfT_si (by omega)) (mfT_tr (mfT_si (by omega)) (mfT_si (by omega))))⟩
        refine ⟨⟨cTx_si (cTx_si hc1 (by omega)) (by omega), mTx_si (mTx_si (mTx_si hm1 (by omega)) (by omega)) (by omega), by omega, ?_, ?_⟩, by omega, ?_, ?_, sp_si_eq, ?_, ?_, e3, fun h => by omega, fun h => by omega, e5, fun h => by omega⟩
        · rw [show nI b + 1 = nI (b + 1) from nI_add b 1]; exact sp_si_eq
        · rw [sp_si_ne (by omega)]; exact q16
        · rw [sp_si_ne (by omega)]; exact q3
        · rw [sp_si_ne (by omega), sp_si_ne (by omega), sp_si_ne (by omega)]; exact m20
        · rw [sp_si_ne (by omega)]; exact sp_si_eq
        · rw [sp_si_ne (by omega)]; exact sp_si_eq
end
