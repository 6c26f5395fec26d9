-- ===== game =====
def gvP (ct : Nat → Nat → Nat) (h o w b : Nat) : Bool := (decide (ct 1 b = h) && decide (w / 2 = 1)) || (decide (ct 1 b = o) && decide (w % 2 = 1))
def qgs (ct : Nat → Nat → Nat) (sc : Nat → Nat) (h o w : Nat) : Nat → Nat → Nat
  | 0 => sc
  | i + 1 => if gvP ct h o w i = true ∧ qgs ct sc h o w i (10 + i) = 0 then qputL ct (qgs ct sc h o w i) i else qgs ct sc h o w i
def lsc (ct : Nat → Nat → Nat) (cd : List Nat × List Nat) (sc : Nat → Nat) (h : Nat) : Nat := 5 * qfn ct cd sc h 10 + qc (fun b => decide (¬ qdn ct cd sc 10 (10 + b) = 0 ∧ ¬ qdn ct cd sc 10 (10 + b) = 6) && decide (ct 1 b = h)) (ct 0 13)
def gmr (l1 l2 : Nat → Nat) : Nat → Nat × Option Nat
  | 0 => (0, none)
  | i + 1 => if l1 (i ^^^ 2) < l1 i ∨ l2 (i ^^^ 1) < l2 i then gmr l1 l2 i else ((gmr l1 l2 i).1 + 1, some ((gmr l1 l2 i).2.getD (10 * (i / 2) + i % 2)))
theorem x4 : ∀ i, i < 4 → i ^^^ 2 < 4 ∧ i ^^^ 1 < 4 := by decide
theorem e4 : ∀ i, i < 4 → ((nI i >>> ((1 : Int32) &&& 31)) * 10) + (nI i &&& 1) = nI (10 * (i / 2) + i % 2) ∧ ((10 : Int32) * (nI i / 2)) + (nI i - nI i / 2 * 2) = nI (10 * (i / 2) + i % 2) ∧ (nI i / 2 = 1 ↔ i / 2 = 1) ∧ (nI i - nI i / 2 * 2 = 1 ↔ i % 2 = 1) ∧ (((nI i >>> ((1 : Int32) &&& 31)) &&& 1 = 0) ↔ ¬ i / 2 = 1) ∧ ((nI i &&& 1 = 0) ↔ ¬ i % 2 = 1) := by decide +kernel
theorem gmr_le {l1 l2 : Nat → Nat} : ∀ i, (gmr l1 l2 i).1 ≤ i ∧ ∀ x, (gmr l1 l2 i).2 = some x → x < 100000 ∨ 4 < i := by
  intro i
  induction i with
  | zero => exact ⟨Nat.le_refl _, fun x hx => by cases hx⟩
  | succ i ih =>
    rw [gmr]
    split
    · exact ⟨by omega, fun x hx => by have := ih.2 x hx; omega⟩
    · refine ⟨by show (gmr l1 l2 i).1 + 1 ≤ i + 1; omega, fun x hx => ?_⟩
      have hx' : (gmr l1 l2 i).2.getD (10 * (i / 2) + i % 2) = x := by cases hx; rfl
      cases e : (gmr l1 l2 i).2 with
      | none => rw [e] at hx'; have : 10 * (i / 2) + i % 2 = x := hx'; omega
      | some y => rw [e] at hx'; have : y = x := hx'; have := ih.2 y e; omega
section
variable {n j c t : Nat} {σ μ : sp_St} {ct : Nat → Nat → Nat} {cd : List Nat × List Nat} {sc : Nat → Nat} {stk : Nat → List Nat}
theorem qputL_I {b : Nat} (hK : qK ct) (h : qI ct sc) (hb : b < ct 0 13) (ho : sc (10 + b) = 0) : qI ct (qputL ct sc b) ∧ qputL ct sc b 47 = sc 47 ∧ qputL ct sc b 48 = sc 48 ∧ qputL ct sc b 49 ≤ sc 49 + 1 := by
  have hb10 := hK.1
  unfold qputL
  cases e : qroom ct sc b with
  | none => exact ⟨h, rfl, rfl, Nat.le_succ _⟩
  | some s =>
    obtain ⟨_, e2, e3, _⟩ := qf_some e
    rw [decide_eq_true_iff] at e3
    refine ⟨qI_put hK h hb (by omega) ho e3, ?_, ?_, ?_⟩
    · show qput sc b s 47 = _; rw [qput_oth (by omega) (by omega) (by omega)]
    · show qput sc b s 48 = _; rw [qput_oth (by omega) (by omega) (by omega)]
    · show qput sc b s 49 ≤ _; rw [qput_49 (by omega)]; exact Nat.le_refl _
theorem qgs_I {h o w : Nat} (hK : qK ct) (hI : qI ct sc) : ∀ i, i ≤ ct 0 13 → qI ct (qgs ct sc h o w i) ∧ qgs ct sc h o w i 47 = sc 47 ∧ qgs ct sc h o w i 48 = sc 48 ∧ qgs ct sc h o w i 49 ≤ sc 49 + i := by
  intro i
  induction i with
  | zero => intro _; exact ⟨hI, rfl, rfl, Nat.le_refl _⟩
  | succ i ih =>
    intro hi
    obtain ⟨i1, i2, i3, i4⟩ := ih (by omega)
    rw [qgs]
    by_cases p : gvP ct h o w i = true ∧ qgs ct sc h o w i (10 + i) = 0
    · rw [if_pos p]
      have := qputL_I hK i1 (by omega) p.2
      exact ⟨this.1, by rw [this.2.1, i2], by rw [this.2.2.1, i3], by omega⟩
    · rw [if_neg p]
      exact ⟨i1, i2, i3, by omega⟩
theorem sq_dSw {h o w g : Nat} (hS : qSC σ 50 c ct cd sc) (hn : 100 ≤ n) (hI : qI ct sc) (h49 : sc 49 < 10000) (hg : g < 1024) (hgv : ∀ b, b < ct 0 13 → g.testBit b = gvP ct h o w b) : sp_wp (X4_dreamSwallowing n σ (nI g)) (fun τ => qSC τ 50 c ct cd (qgs ct sc h o w (ct 0 13)) ∧ qfp 51 51 σ τ) := by
  have hK := hS.2.2.2.2.2.1
  have hb10 := hK.1
  rw [X4_dreamSwallowing, sp_pl]
  refine lp_inv (fun f i s => X4_dreamSwallowing_2 n f s (nI g) (nI i)) (fun i s => qSC s 50 c ct cd (qgs ct sc h o w i) ∧ qfp 51 51 σ s) (ct 0 13) _ (fun f s hJ => ?_) (fun f i s hi hJ kk => ?_) n 0 σ (by omega) (by omega) ⟨hS, qfp_refl σ⟩
  · obtain ⟨g1, g2⟩ := hJ
    rw [X4_dreamSwallowing_2, sp_pl, g1.2.1, g1.2.2.1, sp_ckt, g1.2.2.2.1.1, if_pos (Int32.le_refl _)]
    exact wp_some.mpr ⟨g1, g2⟩
  · obtain ⟨g1, g2⟩ := hJ
    have hq := qgs_I (h := h) (o := o) (w := w) hK hI i (by omega)
    have e43 : ∀ x, X4_dreamSwallowing_43 n (X4_dreamSwallowing_2 n f) x (nI g) (nI i) = X4_dreamSwallowing_2 n f x (nI g) (nI (i + 1)) := fun x => by rw [X4_dreamSwallowing_43, sp_pl, nI_1]
    have hbit : ((nI g >>> (nI i &&& 31)) &&& 1 = 0) = (g.testBit i = false) := qn_bit0 (by omega) (by omega)
    rw [X4_dreamSwallowing_2, sp_pl, g1.2.1, g1.2.2.1, sp_ckt, g1.2.2.2.1.1, if_neg (nI_ge hi (by omega))]
    by_cases p1 : gvP ct h o w i = false
    · rw [if_pos (by rw [hbit, hgv i hi]; exact p1), e43]
      refine kk s ⟨?_, g2⟩
      rw [qgs, if_neg (by rw [p1]; simp)]
      exact g1
    · have p1' : gvP ct h o w i = true := by simpa using p1
      rw [if_neg (by rw [hbit, hgv i hi]; exact p1), sq_isOut g1 (by omega), sp_bd_s]
      by_cases p2 : qgs ct sc h o w i (10 + i) = 0
      · rw [if_pos p2, if_neg n10]
        refine wp_bv (wp_mono (sq_putIntoLeast g1 hn hi (by omega) hq.1.2.2.2.1) ?_)
        rintro τ ⟨r1, r2⟩
        rw [e43]
        refine kk τ ⟨?_, qfp_trans g2 r2⟩
        rw [qgs, if_pos ⟨p1', p2⟩]
        exact r1
      · rw [if_neg p2, if_pos n00, e43]
        refine kk s ⟨?_, g2⟩
        rw [qgs, if_neg (fun x => p2 x.2)]
        exact g1
theorem sq_loss {F : Nat → Nat} {h : Nat} (hS : qSC σ 50 c ct cd sc) (hn : 100 ≤ n) (hh : h < 6) (h52 : σ.2.2.1 52 h = nI (F h)) : X4_lossOf n σ (nI h) = some (σ, nI (5 * F h + qc (fun b => decide (¬ sc (10 + b) = 0 ∧ ¬ sc (10 + b) = 6) && decide (ct 1 b = h)) (ct 0 13))) := by
  have hK := hS.2.2.2.2.2.1
  have hb10 := hK.1
  have w6 : sp_in (nI h) 6 = true := qn_in hh (by omega)
  have g4 : sp_g σ (c + 4) (nI h) = nI (bs (fun b => decide (ct 1 b = h)) (ct 0 13)) := by
    rw [qn_g (by omega), hS.2.2.2.1.2.2.2.2.2.2.1 h hh, hK.2.2.2.2.2.2 h hh]
  have g5 : sp_g σ 52 (nI h) = nI (F h) := by rw [qn_g (by omega)]; exact h52
  rw [X4_lossOf, w6, sp_ckt, sq_bladesIn hS hn, sp_bd_s, sp_pl, hS.2.1, hS.2.2.1, sp_ckt, sp_ckt, g4, qn_and, bs_and, bc_bs n σ _ hb10, sp_bd_s, g5, show (5 : Int32) * nI (F h) = nI (5 * F h) from pk_mul 5 (F h), nI_add]
theorem rq_insideOf {h : Nat} (hM : mSC μ ct cd sc stk) (hn : 100 ≤ n) (hh : h < 6) : X12_insideOf n μ (nI h) = some (μ, nI (qc (fun b => decide (¬ sc (10 + b) = 0 ∧ ¬ sc (10 + b) = 6) && decide (ct 1 b = h)) (ct 0 13))) := by
  have hb10 := hM.2.2.2.1.1
  have w3 : sp_g μ 3 (2 : Int32) = nI (ct 0 13) := hM.1.2.1
  rw [X12_insideOf, sp_pl, sp_pl]
  refine lp_up (fun f i => X12_insideOf_4 n f μ (nI h) (nI (qc (fun b => decide (¬ sc (10 + b) = 0 ∧ ¬ sc (10 + b) = 6) && decide (ct 1 b = h)) i)) (nI i)) (ct 0 13) _ (fun f => ?_) (fun f i hi => ?_) n 0 (by omega) (by omega)
  · rw [X12_insideOf_4, w3, if_pos (Int32.le_refl _), X12_insideOf_48]
  · have g1 : sp_g μ 15 (nI i) = nI (sqState sc i) := by rw [qn_g (by omega)]; exact hM.2.1.2.2.2.1 i hi
    have g2 : sp_g μ 7 (nI i) = nI (ct 1 i) := by rw [qn_g (by omega)]; exact hM.1.2.2.2.2.2.1 i hi
    have hw := sqs_lt sc i
    have hhi := hM.2.2.2.1.2.2.2.1 i
    have z0 : ∀ x : Nat, nI x + 0 = nI x := fun x => Int32.add_zero _
    rw [X12_insideOf_4, w3, if_neg (nI_ge hi (by omega)), qn_in (by omega) (by omega), sp_ckt, g1, qc_s]
    by_cases p : ¬ sc (10 + i) = 0 ∧ ¬ sc (10 + i) = 6
    · rw [sqs1.mpr (by omega), if_pos (show nI 1 = 1 from rfl), qn_in (by omega) (by omega), sp_ckt, g2]
      by_cases q : ct 1 i = h
      · rw [if_pos (by rw [q]), X12_insideOf_40, sp_pl, sp_pl, nI_1, nI_1, decide_eq_true p, decide_eq_true q]
        rfl
      · rw [if_neg (show ¬ nI (ct 1 i) = nI h by rw [qn_eq (by omega) (by omega)]; exact q), X12_insideOf_39, X12_insideOf_40, sp_pl, sp_pl, z0, nI_1, decide_eq_true p, decide_eq_false q]
        rfl
    · have p' : ¬ sqState sc i = 1 := fun x => by have := sqs1.mp x; omega
      rw [if_neg (show ¬ nI (sqState sc i) = 1 from by show ¬ nI (sqState sc i) = nI 1; rw [qn_eq (by omega) (by omega)]; exact p'), X12_insideOf_39, X12_insideOf_40, sp_pl, sp_pl, z0, nI_1, decide_eq_false p]
      rfl
theorem lsc_lt {h : Nat} (hb10 : ct 0 13 ≤ 10) : lsc ct cd sc h < 100000 := by
  unfold lsc
  have h1 := qfn_le (cd := cd) (sc := sc) hb10 h 10
  have h2 := qc_le (fun b => decide (¬ qdn ct cd sc 10 (10 + b) = 0 ∧ ¬ qdn ct cd sc 10 (10 + b) = 6) && decide (ct 1 b = h)) (ct 0 13)
  omega
theorem sq_play {h o : Nat} (hS : qSC σ 23 c ct cd sc) (hn : 1000 ≤ n) (hI : qI ct sc) (hD : qcd cd) (h47 : sc 47 ≤ 999) (h49 : sc 49 < 1000) (hh : h < 6) (ho : o < 6) : sp_wp (X4_play n σ (nI h) (nI o)) (fun τ => cD σ τ ∧ τ.1 57 7 = nI (gmr (fun w => lsc ct cd (qgs ct sc h o w (ct 0 13)) h) (fun w => lsc ct cd (qgs ct sc h o w (ct 0 13)) o) 4).1 ∧ τ.1 57 8 = qe (gmr (fun w => lsc ct cd (qgs ct sc h o w (ct 0 13)) h) (fun w => lsc ct cd (qgs ct sc h o w (ct 0 13)) o) 4).2) := by
  have hK := hS.2.2.2.2.2.1
  have hb10 := hK.1
  have hn1 : 100 ≤ n := by omega
  rw [X4_play, sp_pl]
  have hl : ∀ w h, lsc ct cd (qgs ct sc h o w (ct 0 13)) h < 100000 := fun w h => lsc_lt hb10
  refine lp_inv (fun f i s => X4_play_2 n f s (nI h) (nI o) (nI i)) (fun i s => cD σ s ∧ (∀ w, w < i → s.2.2.1 58 w = nI (lsc ct cd (qgs ct sc h o w (ct 0 13)) h)) ∧ ∀ w, w < i → s.2.2.1 59 w = nI (lsc ct cd (qgs ct sc h o w (ct 0 13)) o)) 4 _ (fun f s hJ => ?_) (fun f i s hi hJ kk => ?_) n 0 σ (by omega) (by omega) ⟨cD_refl σ, fun w hw => by omega, fun w hw => by omega⟩
  · obtain ⟨g1, g2, g3⟩ := hJ
    have b1 : ∀ w, lsc ct cd (qgs ct sc h o w (ct 0 13)) h < 100000 := fun w => lsc_lt hb10
    have b2 : ∀ w, lsc ct cd (qgs ct sc h o w (ct 0 13)) o < 100000 := fun w => lsc_lt hb10
    rw [X4_play_2, if_pos (show (4 : Int32) ≤ nI 4 by decide), X4_play_114, sp_pl, sp_pl, sp_pl]
    obtain ⟨l1, el1⟩ : ∃ x : Nat → Nat, x = fun w => lsc ct cd (qgs ct sc h o w (ct 0 13)) h := ⟨_, rfl⟩
    obtain ⟨l2, el2⟩ : ∃ x : Nat → Nat, x = fun w => lsc ct cd (qgs ct sc h o w (ct 0 13)) o := ⟨_, rfl⟩
    have g2' : ∀ w, w < 4 → s.2.2.1 58 w = nI (l1 w) := fun w hw => by rw [g2 w hw, el1]
    have g3' : ∀ w, w < 4 → s.2.2.1 59 w = nI (l2 w) := fun w hw => by rw [g3 w hw, el2]
    have c1 : ∀ w, l1 w < 100000 := fun w => by rw [el1]; exact b1 w
    have c2 : ∀ w, l2 w < 100000 := fun w => by rw [el2]; exact b2 w
    rw [← el1, ← el2]
    refine lp_inv (fun f i s => X4_play_126 n f s (nI i)) (fun i u => cD σ u ∧ u.2.2.1 = s.2.2.1 ∧ u.1 57 7 = nI (gmr l1 l2 i).1 ∧ u.1 57 8 = qe (gmr l1 l2 i).2) 4 _ (fun f u hJ => ?_) (fun f i u hi hJ kk => ?_) n 0 _ (by omega) (by omega) ⟨cD_trans g1 (cD_trans (cD_si (by omega)) (cD_si (by omega))), rfl, by rw [sp_si_ne (by decide), sp_si_eq]; rfl, by rw [sp_si_eq]; rfl⟩
    · rw [X4_play_126, if_pos (show (4 : Int32) ≤ nI 4 by decide)]
      exact wp_some.mpr ⟨hJ.1, hJ.2.2⟩
    · obtain ⟨k1, k2, k3, k4⟩ := hJ
      obtain ⟨x1, x2⟩ := x4 i hi
      have r58 : ∀ w, w < 4 → sp_g u 58 (nI w) = nI (l1 w) := fun w hw => by rw [qn_g (by omega), k2]; exact g2' w hw
      have r59 : ∀ w, w < 4 → sp_g u 59 (nI w) = nI (l2 w) := fun w hw => by rw [qn_g (by omega), k2]; exact g3' w hw
      have e2 : nI i ^^^ 2 = nI (i ^^^ 2) := qn_xor i 2
      have e1 : nI i ^^^ 1 = nI (i ^^^ 1) := qn_xor i 1
      have e197 : ∀ x, X4_play_197 n (X4_play_126 n f) x (nI i) = X4_play_126 n f x (nI (i + 1)) := fun x => by rw [X4_play_197, sp_pl, nI_1]
      have := c1 i
      have := c1 (i ^^^ 2)
      have := c2 i
      have := c2 (i ^^^ 1)
      rw [X4_play_126, if_neg (show ¬ (4 : Int32) ≤ nI i from nI_ge (b := 4) hi (by omega)), qn_in (by omega) (by omega), sp_ckt, e2, qn_in x1 (by omega), sp_ckt, r58 _ x1, r58 _ hi, e1, sp_ckt, qn_in x2 (by omega), sp_ckt, r59 _ x2, r59 _ hi]
      by_cases p1 : l1 (i ^^^ 2) < l1 i
      · rw [if_pos ((nI_ltI (by omega) (by omega)).mpr p1), e197]
        have eg : gmr l1 l2 (i + 1) = gmr l1 l2 i := by rw [gmr, if_pos (Or.inl p1)]
        exact kk u ⟨k1, k2, by rw [eg]; exact k3, by rw [eg]; exact k4⟩
      · rw [if_neg (fun hh => p1 ((nI_ltI (by omega) (by omega)).mp hh))]
        by_cases p2 : l2 (i ^^^ 1) < l2 i
        · rw [if_pos ((nI_ltI (by omega) (by omega)).mpr p2), e197]
          have eg : gmr l1 l2 (i + 1) = gmr l1 l2 i := by rw [gmr, if_pos (Or.inr p2)]
          exact kk u ⟨k1, k2, by rw [eg]; exact k3, by rw [eg]; exact k4⟩
        · have eg : gmr l1 l2 (i + 1) = ((gmr l1 l2 i).1 + 1, some ((gmr l1 l2 i).2.getD (10 * (i / 2) + i % 2))) := by rw [gmr, if_neg (by omega)]
          rw [if_neg (fun hh => p2 ((nI_ltI (by omega) (by omega)).mp hh)), sp_pl, k3, nI_1, sp_si_ne (by decide), k4]
          cases e : (gmr l1 l2 i).2 with
          | none =>
            rw [if_pos (show qe none = -1 from rfl), sp_pl, e197, (e4 i hi).1]
            refine kk _ ⟨cD_trans k1 (cD_trans (cD_si (by omega)) (cD_si (by omega))), k2, ?_, ?_⟩
            · rw [sp_si_ne (by decide), sp_si_eq, eg]
            · rw [sp_si_eq, eg, e]; rfl
          | some x =>
            have hx := (gmr_le (l1 := l1) (l2 := l2) i).2 x e
            rw [if_neg (show ¬ qe (some x) = -1 from fun hh => by
              have h5 : (nI x = -nI 1) = False := qn_meq (by omega)
              rw [← h5]; exact hh), e197]
            refine kk _ ⟨cD_trans k1 (cD_si (by omega)), k2, ?_, ?_⟩
            · rw [sp_si_eq, eg]
            · rw [sp_si_ne (by decide), k4, eg, e]; rfl
  · obtain ⟨g1, g2, g3⟩ := hJ
    have hs := qSC_q (σ := σ) (τ := s) (fun p hp => ⟨(g1 p (by omega)).1, (g1 p (by omega)).2.2⟩) (by rw [(g1 23 (by omega)).2.1]) (g1 24 (by omega)).2.2 hS
    obtain ⟨υ, a1, a2, a3, a4, a5⟩ := sq_dream hs hn1
    have h23 : υ.2.1 23 0 = c := by rw [(a2 23 (by omega)).2.1]; exact hs.2.1
    have g4 : ∀ q, q < 6 → sp_g υ (c + 4) (nI q) = nI (ct 4 q) := fun q hq => by
      rw [qn_g (by omega)]; exact a3.2.2.2.1.2.2.2.2.2.2.1 q hq
    have hG4 := hK.2.2.1 4
    obtain ⟨_, _, _, _, e5, e6⟩ := e4 i hi
    -- the rest of one couple
    have rest : ∀ g : Nat, g < 1024 → (∀ b, b < ct 0 13 → g.testBit b = gvP ct h o i b) → ∀ z0 z1 : Int32, z1 ||| z0 = nI g → sp_wp (X4_play_68 n (X4_play_2 n f) υ (nI h) (nI o) (nI i) z0 z1) (fun τ => cD σ τ ∧ τ.1 57 7 = nI (gmr (fun w => lsc ct cd (qgs ct sc h o w (ct 0 13)) h) (fun w => lsc ct cd (qgs ct sc h o w (ct 0 13)) o) 4).1 ∧ τ.1 57 8 = qe (gmr (fun w => lsc ct cd (qgs ct sc h o w (ct 0 13)) h) (fun w => lsc ct cd (qgs ct sc h o w (ct 0 13)) o) 4).2) := by
      intro g hg1 hg2 z0 z1 hz
      have hq := qgs_I (h := h) (o := o) (w := i) hK hI (ct 0 13) (Nat.le_refl _)
      rw [X4_play_68, hz, sp_pl]
      refine wp_bv (wp_mono (sq_dSw a3 hn1 hI (by omega) hg1 hg2) ?_)
      rintro υ2 ⟨r1, r2⟩
      refine wp_bv (wp_mono (sq_days r1 hn hq.1 hD (by rw [hq.2.1]; omega) (k := 10) (by omega)) ?_)
      rintro υ3 ⟨t1, t2, t3⟩
      have t3' : ∀ q, q < 6 → υ3.2.2.1 52 q = nI (qfn ct cd (qgs ct sc h o i (ct 0 13)) q 10) := fun q hq2 => by
        have e := t3 q hq2
        have e0 : υ2.2.2.1 (50 + 2) q = 0 := by rw [(r2.2.2 (50 + 2) (by omega)).2]; exact a4 q hq2
        rw [e0, Int32.zero_add] at e
        exact e
      have f3 : cD σ υ3 := cD_trans g1 (cD_trans a2 (cD_trans (cD_fp r2 (by omega)) (cD_fp t2 (by omega))))
      have k58 : υ3.2.2.1 58 = s.2.2.1 58 := by rw [(t2.2.2 58 (by omega)).2, (r2.2.2 58 (by omega)).2, (a5 58 (by omega)).2.2.1]
      have k59 : υ3.2.2.1 59 = s.2.2.1 59 := by rw [(t2.2.2 59 (by omega)).2, (r2.2.2 59 (by omega)).2, (a5 59 (by omega)).2.2.1]
      have l1 := sq_loss (F := fun q => qfn ct cd (qgs ct sc h o i (ct 0 13)) q 10) (n := n) t1 hn1 hh (t3' h hh)
      have t1b : ∀ v, qSC (sp_sa υ3 58 i v) 50 c ct cd (qdn ct cd (qgs ct sc h o i (ct 0 13)) 10) := fun v => qSC_q (σ := υ3) (fun p hp => ⟨rfl, by funext y; rw [sp_sa_np (by omega)]⟩) rfl (by funext y; rw [sp_sa_np (by omega)]) t1
      have l2 : ∀ v, X4_lossOf n (sp_sa υ3 58 i v) (nI o) = _ := fun v => sq_loss (F := fun q => qfn ct cd (qgs ct sc h o i (ct 0 13)) q 10) (n := n) (t1b v) hn1 ho (by rw [sp_sa_np (by omega)]; exact t3' o ho)
      rw [l1, sp_bd_s, qn_in (by omega) (by omega), sp_ckt, sp_pl, nI_clamp (by omega), l2, sp_bd_s, sp_ckt, sp_pl, sp_pl, nI_1]
      refine kk _ ⟨cD_trans f3 (cD_trans (cD_sa (by omega)) (cD_sa (by omega))), fun w hw => ?_, fun w hw => ?_⟩
      · rw [sp_sa_np (by omega)]
        by_cases ew : w = i
        · subst ew; rw [sp_sa_eq]; rfl
        · rw [sp_sa_nj ew, k58]; exact g2 w (by omega)
      · by_cases ew : w = i
        · subst ew; rw [sp_sa_eq]; rfl
        · rw [sp_sa_nj ew, sp_sa_np (by omega), k59]; exact g3 w (by omega)
    have hb4 : ∀ q b, q < 6 → b < ct 0 13 → (ct 4 q).testBit b = decide (ct 1 b = q) := fun q b hq hb => by
      rw [hK.2.2.2.2.2.2 q hq, bs_t]; simp [hb]
    have w6h : sp_in (nI h) 6 = true := qn_in hh (by omega)
    have w6o : sp_in (nI o) 6 = true := qn_in ho (by omega)
    rw [X4_play_2, if_neg (show ¬ (4 : Int32) ≤ nI i from nI_ge (b := 4) hi (by omega)), a1, sp_bv_s]
    have z0 : ∀ x : Nat, nI x ||| (0 : Int32) = nI x := fun x => by
      have := qn_or x 0
      rw [Nat.or_zero] at this
      exact this
    have z1 : ∀ x : Nat, (0 : Int32) ||| nI x = nI x := fun x => by
      have := qn_or 0 x
      rw [Nat.zero_or] at this
      exact this
    by_cases q1 : i / 2 = 1
    · rw [if_neg (fun hh => (e5.mp hh) q1), sp_pl, h23, hs.2.2.1, sp_ckt, w6h, sp_ckt, g4 h hh, X4_play_42]
      by_cases q2 : i % 2 = 1
      · rw [if_neg (fun hh => (e6.mp hh) q2), sp_pl, h23, hs.2.2.1, sp_ckt, w6o, sp_ckt, g4 o ho]
        refine rest (ct 4 h ||| ct 4 o) (Nat.or_lt_two_pow (n := 10) (hG4 h) (hG4 o)) (fun b hb => ?_) _ _ (qn_or _ _)
        rw [Nat.testBit_or, hb4 h b hh hb, hb4 o b ho hb]
        simp [gvP, q1, q2]
      · rw [if_pos (e6.mpr q2)]
        refine rest (ct 4 h) (hG4 h) (fun b hb => ?_) _ _ (z0 _)
        rw [hb4 h b hh hb]
        simp [gvP, q1, q2]
    · rw [if_pos (e5.mpr q1), X4_play_42]
      by_cases q2 : i % 2 = 1
      · rw [if_neg (fun hh => (e6.mp hh) q2), sp_pl, h23, hs.2.2.1, sp_ckt, w6o, sp_ckt, g4 o ho]
        refine rest (ct 4 o) (hG4 o) (fun b hb => ?_) _ _ (z1 _)
        rw [hb4 o b ho hb]
        simp [gvP, q1, q2]
      · rw [if_pos (e6.mpr q2)]
        refine rest 0 (by omega) (fun b hb => ?_) _ _ (by decide)
        rw [Nat.zero_testBit]
        simp [gvP, q1, q2]
end
