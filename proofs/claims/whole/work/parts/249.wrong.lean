-- ===== wrong =====
/-- 100 by a blade and an anger: another one than it has, by which all that is seen would be so -/
def fP (ct : Nat → Nat → Nat) (cd : List Nat × List Nat) (s : Nat) (sb sd sa : Nat → Nat) (sc : Nat → Nat) (b v : Nat) : Bool := !decide (v = sc b) && fitB ct cd s sb sd sa (qu sc b v)
def fL (P : Nat → Bool) : Nat → List Nat
  | 0 => []
  | q + 1 => if P q then fL P q ++ [q] else fL P q
theorem fL_len (P : Nat → Bool) : ∀ q, (fL P q).length ≤ q := by
  intro q
  induction q with
  | zero => exact Nat.le_refl _
  | succ q ih =>
    rw [fL]
    split
    · rw [List.length_append]; show (fL P q).length + 1 ≤ q + 1; omega
    · omega
theorem fL_mem (P : Nat → Bool) : ∀ q x, x ∈ fL P q → x < q ∧ P x = true := by
  intro q
  induction q with
  | zero => intro x h; cases h
  | succ q ih =>
    intro x h
    rw [fL] at h
    by_cases p : P q = true
    · rw [if_pos p, List.mem_append, List.mem_singleton] at h
      rcases h with h | h
      · have := ih x h; exact ⟨by omega, this.2⟩
      · subst h; exact ⟨by omega, p⟩
    · rw [if_neg p] at h
      have := ih x h; exact ⟨by omega, this.2⟩
theorem fL_hd (P : Nat → Bool) : ∀ q, (fL P q).head? = qf P q 0 := by
  intro q
  induction q with
  | zero => rfl
  | succ q ih =>
    rw [fL]
    by_cases p : P q = true
    · rw [if_pos p]
      cases e : fL P q with
      | nil =>
        have h0 : qf P q 0 = none := by rw [← ih, e]; rfl
        have : qf P (q + 1) 0 = some q := qf_is (by omega) (by omega) p (fun m h1 h2 => qf_none h0 m h1 (by omega))
        rw [this]; rfl
      | cons x l =>
        have h0 : qf P q 0 = some x := by rw [← ih, e]; rfl
        obtain ⟨a1, a2, a3, a4⟩ := qf_some h0
        have : qf P (q + 1) 0 = some x := qf_is a1 (by omega) a3 a4
        rw [this]; rfl
    · rw [if_neg p, ih]
      cases e : qf P q 0 with
      | none =>
        refine (qf_no fun m h1 h2 => ?_).symm
        by_cases em : m = q
        · subst em; simpa using p
        · exact qf_none e m h1 (by omega)
      | some x =>
        obtain ⟨a1, a2, a3, a4⟩ := qf_some e
        exact (qf_is a1 (by omega) a3 a4).symm
section
variable {n j c t s : Nat} {σ μ : sp_St} {ct : Nat → Nat → Nat} {cd : List Nat × List Nat} {sc : Nat → Nat} {stk : Nat → List Nat} {sb sd sa : Nat → Nat}
theorem sq_fitsIs (h : cS σ ct s sb sd sa) (hS : qSC σ 23 c ct cd sc) (hn : 1000 ≤ n) (hI : qI ct sc) (hD : qcd cd) (h47 : sc 47 ≤ 999) : sp_wp (X3_fits n σ (-1) 0) (fun r => r.2 = (if fitB ct cd s sb sd sa sc then nI 1 else nI 0) ∧ cD σ r.1) := by
  obtain ⟨τ, a1, a2, a3, _, _⟩ := sq_dream hS (by omega : 100 ≤ n)
  rw [X3_fits, a1, sp_bv_s, if_pos rfl]
  refine wp_mono (sq_fits26 (cS_D h a2) a3 hn hI hD h47) ?_
  rintro r ⟨r1, r2⟩
  exact ⟨r1, cD_trans a2 (cD_fp r2 (by omega))⟩
theorem sq_fits (h : cS σ ct s sb sd sa) (hS : qSC σ 23 c ct cd sc) (hn : 1000 ≤ n) (hI : qI ct sc) (hD : qcd cd) (h47 : sc 47 ≤ 999) {b v : Nat} (hb : b < ct 0 13) (hv : v ≤ 99) : sp_wp (X3_fits n σ (nI b) (nI v)) (fun r => r.2 = (if fitB ct cd s sb sd sa (qu sc b v) then nI 1 else nI 0) ∧ cD σ r.1 ∧ ∀ p, 57 ≤ p → r.1.1 p = σ.1 p ∧ r.1.2.2.1 p = σ.2.2.1 p ∧ r.1.2.2.2 = σ.2.2.2) := by
  have hK := hS.2.2.2.2.2.1
  have hb10 := hK.1
  obtain ⟨τ, a1, a2, a3, _, a5⟩ := sq_dream hS (by omega : 100 ≤ n)
  rw [X3_fits, a1, sp_bv_s, if_neg (show ¬ nI b = -1 from fun hh => by
    have h5 : (nI b = -nI 1) = False := qn_meq (by omega)
    rw [← h5]; exact hh), qn_in (by omega) (by omega), sp_ckt, sp_pl, nI_clamp (by omega)]
  have a4 : qSC (sp_sa τ 51 b (nI v)) 50 c ct cd (qu sc b v) := qSC_set a3 (by omega)
  have f4 : cD τ (sp_sa τ 51 b (nI v)) := cD_sa (by omega)
  refine wp_mono (sq_fits26 (cS_D h (cD_trans a2 f4)) a4 hn (qI_ang hK hI hb hv) hD (by rw [qu_n (by omega)]; exact h47)) ?_
  rintro r ⟨r1, r2⟩
  refine ⟨r1, cD_trans (cD_trans a2 f4) (cD_fp r2 (by omega)), fun p hp => ⟨?_, ?_, ?_⟩⟩
  · rw [(r2.2.2 p (by omega)).1]; exact (a5 p hp).1
  · rw [(r2.2.2 p (by omega)).2]
    have : (sp_sa τ 51 b (nI v)).2.2.1 p = τ.2.2.1 p := by funext y; rw [sp_sa_np (by omega)]
    rw [this]; exact (a5 p hp).2.2.1
  · rw [r2.2.1]; exact (a5 p hp).2.2.2
/-- the codes that fit, so far -/
def fQ (ct : Nat → Nat → Nat) (cd : List Nat × List Nat) (s : Nat) (sb sd sa : Nat → Nat) (sc : Nat → Nat) (q : Nat) : Bool := fP ct cd s sb sd sa sc (q / 100) (q % 100)
theorem fQ_is {b v : Nat} (hv : v < 100) : fQ ct cd s sb sd sa sc (100 * b + v) = fP ct cd s sb sd sa sc b v := by
  unfold fQ
  rw [show (100 * b + v) / 100 = b by omega, show (100 * b + v) % 100 = v by omega]
theorem qSC_D {τ : sp_St} (hS : qSC σ 23 c ct cd sc) (g : cD σ τ) : qSC τ 23 c ct cd sc := qSC_q (σ := σ) (τ := τ) (fun p hp => ⟨(g p (by omega)).1, (g p (by omega)).2.2⟩) (by rw [(g 23 (by omega)).2.1]) (g 24 (by omega)).2.2 hS
theorem sq_many (h : cS σ ct s sb sd sa) (hS : qSC σ 23 c ct cd sc) (hn : 1000 ≤ n) (hI : qI ct sc) (hD : qcd cd) (h47 : sc 47 ≤ 999) : sp_wp (X3_howMany n σ) (fun r => r.2 = nI (fL (fQ ct cd s sb sd sa sc) (100 * ct 0 13)).length ∧ cD σ r.1) := by
  have hK := hS.2.2.2.2.2.1
  have hb10 := hK.1
  rw [X3_howMany, sp_pl, sp_pl]
  refine lp_inv (fun f i u => X3_howMany_4 n f u (nI (fL (fQ ct cd s sb sd sa sc) (100 * i)).length) (nI i)) (fun i u => cD σ u) (ct 0 13) _ (fun f u hJ => ?_) (fun f i u hi hJ kk => ?_) n 0 σ (by omega) (by omega) (cD_refl σ)
  · have hu := qSC_D hS hJ
    rw [X3_howMany_4, sp_pl, hu.2.1, hu.2.2.1, sp_ckt, hu.2.2.2.1.1, if_pos (Int32.le_refl _), X3_howMany_63]
    exact wp_some.mpr ⟨rfl, hJ⟩
  · have hu := qSC_D hS hJ
    rw [X3_howMany_4, sp_pl, hu.2.1, hu.2.2.1, sp_ckt, hu.2.2.2.1.1, if_neg (nI_ge hi (by omega)), sp_pl]
    refine lp_inv (fun f2 v w => X3_howMany_20 n (X3_howMany_4 n f) f2 w (nI (fL (fQ ct cd s sb sd sa sc) (100 * i + v)).length) (nI i) (nI v)) (fun v w => cD σ w) 100 _ (fun f2 w hL => ?_) (fun f2 v w hv hL kk2 => ?_) n 0 u (by omega) (by omega) hJ
    · rw [X3_howMany_20, if_pos (show (99 : Int32) < nI 100 by decide), X3_howMany_57, sp_pl, nI_1, show 100 * i + 100 = 100 * (i + 1) by omega]
      exact kk w hL
    · have hw := qSC_D hS hL
      have ha := hI.1 i hi
      have hl := fL_len (fQ ct cd s sb sd sa sc) (100 * i + v)
      have g24 : sp_g w 24 (nI i) = nI (sc i) := by rw [qn_g (by omega)]; exact hw.2.2.2.2.1 i (by omega)
      have e51 : ∀ (x : sp_St) (y : Int32), X3_howMany_51 n (X3_howMany_4 n f) (X3_howMany_20 n (X3_howMany_4 n f) f2) x y (nI i) (nI v) = X3_howMany_20 n (X3_howMany_4 n f) f2 x y (nI i) (nI (v + 1)) := fun x y => by rw [X3_howMany_51, sp_pl, nI_1]
      have eL : fL (fQ ct cd s sb sd sa sc) (100 * i + (v + 1)) = if fP ct cd s sb sd sa sc i v then fL (fQ ct cd s sb sd sa sc) (100 * i + v) ++ [100 * i + v] else fL (fQ ct cd s sb sd sa sc) (100 * i + v) := by
        rw [← Nat.add_assoc, fL, fQ_is hv]
      rw [X3_howMany_20, if_neg (show ¬ (99 : Int32) < nI v from fun hh => by
        have := (nI_ltI (a := 99) (b := v) (by omega) (by omega)).mp hh
        omega), qn_in (by omega) (by omega), sp_ckt, g24]
      by_cases p : v = sc i
      · have eP : fP ct cd s sb sd sa sc i v = false := by unfold fP; rw [decide_eq_true p]; rfl
        rw [if_pos (by rw [p]), e51]
        have := kk2 w hL
        rw [eL, eP, if_neg (by decide)] at this
        exact this
      · rw [if_neg (show ¬ nI v = nI (sc i) by rw [qn_eq (by omega) (by omega)]; exact p)]
        refine wp_bd (wp_mono (sq_fits (cS_D h hL) hw hn hI hD h47 hi (by omega)) ?_)
        rintro ⟨y, r⟩ ⟨r1, r2, _⟩
        dsimp only at r1 r2 ⊢
        subst r1
        have eP : fP ct cd s sb sd sa sc i v = fitB ct cd s sb sd sa (qu sc i v) := by unfold fP; rw [decide_eq_false p]; rfl
        have := kk2 y (cD_trans hL r2)
        rw [eL, eP] at this
        cases e : fitB ct cd s sb sd sa (qu sc i v) with
        | true =>
          rw [e, if_pos rfl, List.length_append] at this
          rw [if_pos rfl, if_neg n10, sp_pl, nI_1, e51]
          exact this
        | false =>
          rw [e, if_neg (by decide)] at this
          rw [show (if false = true then nI 1 else nI 0) = nI 0 from rfl, if_pos n00, e51]
          exact this
theorem sq_first (h : cS σ ct s sb sd sa) (hS : qSC σ 23 c ct cd sc) (hn : 1000 ≤ n) (hI : qI ct sc) (hD : qcd cd) (h47 : sc 47 ≤ 999) : sp_wp (X3_first n σ) (fun r => r.2 = qe (qf (fQ ct cd s sb sd sa sc) (100 * ct 0 13) 0) ∧ cD σ r.1) := by
  have hK := hS.2.2.2.2.2.1
  have hb10 := hK.1
  rw [X3_first, sp_pl]
  refine lp_inv (fun f i u => X3_first_2 n f u (nI i)) (fun i u => cD σ u ∧ ∀ q, q < 100 * i → fQ ct cd s sb sd sa sc q = false) (ct 0 13) _ (fun f u hJ => ?_) (fun f i u hi hJ kk => ?_) n 0 σ (by omega) (by omega) ⟨cD_refl σ, fun q hq => by omega⟩
  · have hu := qSC_D hS hJ.1
    rw [X3_first_2, sp_pl, hu.2.1, hu.2.2.1, sp_ckt, hu.2.2.2.1.1, if_pos (Int32.le_refl _), X3_first_65]
    refine wp_some.mpr ⟨?_, hJ.1⟩
    rw [qf_no fun m h1 h2 => hJ.2 m (by omega)]
    rfl
  · have hu := qSC_D hS hJ.1
    rw [X3_first_2, sp_pl, hu.2.1, hu.2.2.1, sp_ckt, hu.2.2.2.1.1, if_neg (nI_ge hi (by omega)), sp_pl]
    refine lp_inv (fun f2 v w => X3_first_18 n (X3_first_2 n f) f2 w (nI i) (nI v)) (fun v w => cD σ w ∧ ∀ q, q < 100 * i + v → fQ ct cd s sb sd sa sc q = false) 100 _ (fun f2 w hL => ?_) (fun f2 v w hv hL kk2 => ?_) n 0 u (by omega) (by omega) ⟨hJ.1, fun q hq => hJ.2 q (by omega)⟩
    · rw [X3_first_18, if_pos (show (99 : Int32) < nI 100 by decide), X3_first_59, sp_pl, nI_1]
      exact kk w ⟨hL.1, fun q hq => hL.2 q (by omega)⟩
    · have hw := qSC_D hS hL.1
      have ha := hI.1 i hi
      have g24 : sp_g w 24 (nI i) = nI (sc i) := by rw [qn_g (by omega)]; exact hw.2.2.2.2.1 i (by omega)
      have e53 : ∀ (x : sp_St), X3_first_53 n (X3_first_2 n f) (X3_first_18 n (X3_first_2 n f) f2) x (nI i) (nI v) = X3_first_18 n (X3_first_2 n f) f2 x (nI i) (nI (v + 1)) := fun x => by rw [X3_first_53, sp_pl, nI_1]
      have no : fP ct cd s sb sd sa sc i v = false → ∀ q, q < 100 * i + (v + 1) → fQ ct cd s sb sd sa sc q = false := fun hf q hq => by
        by_cases eq : q = 100 * i + v
        · subst eq; rw [fQ_is hv]; exact hf
        · exact hL.2 q (by omega)
      rw [X3_first_18, if_neg (show ¬ (99 : Int32) < nI v from fun hh => by
        have := (nI_ltI (a := 99) (b := v) (by omega) (by omega)).mp hh
        omega), qn_in (by omega) (by omega), sp_ckt, g24]
      by_cases p : v = sc i
      · have eP : fP ct cd s sb sd sa sc i v = false := by unfold fP; rw [decide_eq_true p]; rfl
        rw [if_pos (by rw [p]), e53]
        exact kk2 w ⟨hL.1, no eP⟩
      · rw [if_neg (show ¬ nI v = nI (sc i) by rw [qn_eq (by omega) (by omega)]; exact p)]
        refine wp_bd (wp_mono (sq_fits (cS_D h hL.1) hw hn hI hD h47 hi (by omega)) ?_)
        rintro ⟨y, r⟩ ⟨r1, r2, _⟩
        dsimp only at r1 r2 ⊢
        subst r1
        have eP : fP ct cd s sb sd sa sc i v = fitB ct cd s sb sd sa (qu sc i v) := by unfold fP; rw [decide_eq_false p]; rfl
        cases e : fitB ct cd s sb sd sa (qu sc i v) with
        | true =>
          rw [if_pos rfl, if_neg n10, X3_first_46]
          refine wp_some.mpr ⟨?_, cD_trans hL.1 r2⟩
          rw [qf_is (j := 100 * i + v) (by omega) (by omega) (by rw [fQ_is hv, eP]; exact e) (fun m h1 h2 => hL.2 m h2)]
          show (100 : Int32) * nI i + nI v = nI (100 * i + v)
          rw [show (100 : Int32) * nI i = nI (100 * i) from pk_mul 100 i, nI_add]
        | false =>
          rw [show (if false = true then nI 1 else nI 0) = nI 0 from rfl, if_pos n00, e53]
          exact kk2 y ⟨cD_trans hL.1 r2, no (by rw [eP]; exact e)⟩
/-- the reference's list of those that fit -/
theorem rq_tellFits (h : mS μ ct s sb sd sa) (hM : mSC μ ct cd sc stk) (hn : 1000 ≤ n) (hI : qI ct sc) (hD : qcd cd) (h47 : sc 47 ≤ 999) : sp_wp (X12_tellFits n μ) (fun ν => mw μ ν ∧ ν.1 0 51 = nI (fL (fQ ct cd s sb sd sa sc) (100 * ct 0 13)).length ∧ ∀ k, k < (fL (fQ ct cd s sb sd sa sc) (100 * ct 0 13)).length → ν.2.2.1 33 k = nI ((fL (fQ ct cd s sb sd sa sc) (100 * ct 0 13)).getD k 0)) := by
  have hK := hM.2.2.2.1
  have hb10 := hK.1
  rw [X12_tellFits, sp_pl, sp_pl]
  -- what is the same as at first, but one's anger
  have mS_w : ∀ ν, mw μ ν → mS ν ct s sb sd sa := fun ν g => by
    unfold mS at *
    rw [g.2.2 36 (by omega), g.2.1 29 (by omega), g.2.1 30 (by omega), g.2.1 31 (by omega)]
    exact h
  refine lp_inv (fun f i u => X12_tellFits_7 n f u (nI i)) (fun i u => mw μ u ∧ u.1 0 51 = nI (fL (fQ ct cd s sb sd sa sc) (100 * i)).length ∧ ∀ k, k < (fL (fQ ct cd s sb sd sa sc) (100 * i)).length → u.2.2.1 33 k = nI ((fL (fQ ct cd s sb sd sa sc) (100 * i)).getD k 0)) (ct 0 13) _ (fun f u hJ => ?_) (fun f i u hi hJ kk => ?_) n 0 _ (by omega) (by omega) ⟨⟨fun x _ => ?_, fun _ _ => rfl, fun k hk => sp_si_ne (by omega)⟩, sp_si_eq, fun k hk => absurd hk (by simp [fL])⟩
  · have hu := mSC_w hM hJ.1
    have w3 : sp_g u 3 (2 : Int32) = nI (ct 0 13) := hu.1.2.1
    rw [X12_tellFits_7, w3, if_pos (Int32.le_refl _)]
    exact wp_some.mpr hJ
  · obtain ⟨g1, g2, g3⟩ := hJ
    have hu := mSC_w hM g1
    have w3 : sp_g u 3 (2 : Int32) = nI (ct 0 13) := hu.1.2.1
    have e14 : sp_g u 14 (nI i) = nI (sc i) := by rw [qn_g (by omega)]; exact hu.2.1.2.2.1 i hi
    rw [X12_tellFits_7, w3, if_neg (nI_ge hi (by omega)), qn_in (by omega) (by omega), sp_ckt, e14, sp_pl, sp_pl]
    -- w is u, but for i's anger, the list, and rows that don't matter
    refine lp_inv (fun f2 v w => X12_tellFits_26 n (X12_tellFits_7 n f) f2 w (nI i) (nI (sc i)) (nI v)) (fun v w => (∀ x, x < 88 → x ≠ 2 + i → rowOf w x = rowOf μ x) ∧ (∀ p, p < 14 ∨ p = 20 ∨ 29 ≤ p ∧ p ≤ 31 ∨ 37 ≤ p ∧ p ≤ 42 → w.2.2.1 p = μ.2.2.1 p) ∧ (∀ k, k = 3 ∨ k = 15 ∨ k = 24 ∨ 35 ≤ k ∧ k ≤ 36 ∨ 55 ≤ k ∧ k ≤ 57 → w.1 0 k = μ.1 0 k) ∧ w.1 0 51 = nI (fL (fQ ct cd s sb sd sa sc) (100 * i + v)).length ∧ ∀ k, k < (fL (fQ ct cd s sb sd sa sc) (100 * i + v)).length → w.2.2.1 33 k = nI ((fL (fQ ct cd s sb sd sa sc) (100 * i + v)).getD k 0)) 100 _ (fun f2 w hL => ?_) (fun f2 v w hv hL kk2 => ?_) n 0 u (by omega) (by omega) ⟨fun x hx _ => g1.1 x hx, g1.2.1, g1.2.2, g2, g3⟩
    · obtain ⟨l1, l2, l3, l4, l5⟩ := hL
      rw [X12_tellFits_26, if_pos (show (99 : Int32) < nI 100 by decide), X12_tellFits_85, qn_in (by omega) (by omega), sp_ckt, sp_pl, sp_pl, nI_1, nI_clamp (by omega)]
      refine kk _ ⟨⟨fun x hx => ?_, fun p hp => ?_, l3⟩, ?_, fun k hk => ?_⟩
      · by_cases ex : x = 2 + i
        · subst ex
          rw [row_14 (by omega), sp_sa_eq, row_14 (by omega)]
          exact (hM.2.1.2.2.1 i hi).symm
        · rw [← l1 x hx ex]
          unfold rowOf
          rw [sp_sa_1]
          by_cases q0 : x = 0
          · rw [if_pos q0, if_pos q0]
          by_cases q1 : x = 1
          · rw [if_neg q0, if_pos q1, if_neg q0, if_pos q1]
          by_cases q2 : x < 12
          · rw [if_neg q0, if_neg q1, if_pos q2, if_neg q0, if_neg q1, if_pos q2, sp_sa_nj (by omega)]
          · rw [if_neg q0, if_neg q1, if_neg q2, if_neg q0, if_neg q1, if_neg q2, sp_sa_np (by omega), sp_sa_np (by omega), sp_sa_np (by omega), sp_sa_np (by omega), sp_sa_np (by omega)]
      · funext y; rw [sp_sa_np (by omega), l2 p hp]
      · rw [sp_sa_1, show 100 * (i + 1) = 100 * i + 100 by omega]; exact l4
      · rw [sp_sa_np (by omega)]
        rw [show 100 * (i + 1) = 100 * i + 100 by omega] at hk ⊢
        exact l5 k hk
    · obtain ⟨l1, l2, l3, l4, l5⟩ := hL
      have ha := hI.1 i hi
      have hl := fL_len (fQ ct cd s sb sd sa sc) (100 * i + v)
      have e79 : ∀ (x : sp_St), X12_tellFits_79 n (X12_tellFits_7 n f) (X12_tellFits_26 n (X12_tellFits_7 n f) f2) x (nI i) (nI (sc i)) (nI v) = X12_tellFits_26 n (X12_tellFits_7 n f) f2 x (nI i) (nI (sc i)) (nI (v + 1)) := fun x => by rw [X12_tellFits_79, sp_pl, nI_1]
      have eL : fL (fQ ct cd s sb sd sa sc) (100 * i + (v + 1)) = if fP ct cd s sb sd sa sc i v then fL (fQ ct cd s sb sd sa sc) (100 * i + v) ++ [100 * i + v] else fL (fQ ct cd s sb sd sa sc) (100 * i + v) := by
        rw [← Nat.add_assoc, fL, fQ_is hv]
      rw [X12_tellFits_26, if_neg (show ¬ (99 : Int32) < nI v from fun hh => by
        have := (nI_ltI (a := 99) (b := v) (by omega) (by omega)).mp hh
        omega), qn_in (by omega) (by omega), sp_ckt, sp_pl, nI_clamp (by omega)]
      have m1 : ∀ x, x < 88 → x ≠ 2 + i → rowOf (sp_sa w 14 i (nI v)) x = rowOf μ x := fun x hx ex => by
        rw [← l1 x hx ex]
        unfold rowOf
        rw [sp_sa_1]
        by_cases q0 : x = 0
        · rw [if_pos q0, if_pos q0]
        by_cases q1 : x = 1
        · rw [if_neg q0, if_pos q1, if_neg q0, if_pos q1]
        by_cases q2 : x < 12
        · rw [if_neg q0, if_neg q1, if_pos q2, if_neg q0, if_neg q1, if_pos q2, sp_sa_nj (by omega)]
        · rw [if_neg q0, if_neg q1, if_neg q2, if_neg q0, if_neg q1, if_neg q2, sp_sa_np (by omega), sp_sa_np (by omega), sp_sa_np (by omega), sp_sa_np (by omega), sp_sa_np (by omega)]
      have m14 : (sp_sa w 14 i (nI v)).2.2.1 14 i = nI v := sp_sa_eq
      have m2 : ∀ p, p ≠ 14 → (sp_sa w 14 i (nI v)).2.2.1 p = w.2.2.1 p := fun p hp => by funext y; rw [sp_sa_np hp]
      have m3 : (sp_sa w 14 i (nI v)).1 = w.1 := rfl
      generalize sp_sa w 14 i (nI v) = w2 at *
      have l2' : ∀ p, p < 14 ∨ p = 20 ∨ 29 ≤ p ∧ p ≤ 31 ∨ 37 ≤ p ∧ p ≤ 42 → w2.2.2.1 p = μ.2.2.1 p := fun p hp => by rw [m2 p (by omega)]; exact l2 p hp
      have l4' : w2.1 0 51 = nI (fL (fQ ct cd s sb sd sa sc) (100 * i + v)).length := by rw [m3]; exact l4
      have l5' : ∀ k, k < (fL (fQ ct cd s sb sd sa sc) (100 * i + v)).length → w2.2.2.1 33 k = nI ((fL (fQ ct cd s sb sd sa sc) (100 * i + v)).getD k 0) := fun k hk => by rw [m2 33 (by omega)]; exact l5 k hk
      by_cases p : v = sc i
      · have eP : fP ct cd s sb sd sa sc i v = false := by unfold fP; rw [decide_eq_true p]; rfl
        rw [if_pos (by rw [p]), e79]
        refine kk2 w2 ⟨m1, l2', by rw [m3]; exact l3, ?_, ?_⟩
        · rw [eL, eP, if_neg (by decide)]; exact l4'
        · rw [eL, eP, if_neg (by decide)]; exact l5'
      · rw [if_neg (show ¬ nI v = nI (sc i) by rw [qn_eq (by omega) (by omega)]; exact p)]
        have hw2 : mSC w2 ct cd (qu sc i v) stk := by
          have hl10 := stk_10 hK.1 hM.2.2.1
          have hr := (mRow_of hK.1 hK.2.1 hl10).mp hM.2.1
          refine ⟨?_, ?_, ?_, hK, qu_lt hM.2.2.2.2.1 (by omega), fun b hb => by rw [qu_n (by omega)]; exact hM.2.2.2.2.2 b hb⟩
          · have := hM.1
            unfold mC at *
            rw [l2' 3 (by omega), l2' 7 (by omega), l2' 8 (by omega), l2' 6 (by omega), l2' 10 (by omega), l2' 11 (by omega)]
            exact this
          · obtain ⟨k0, k1, k2, k3, k4, k5, k6, k7⟩ := hr
            refine (mRow_of hK.1 hK.2.1 hl10).mpr ⟨?_, ?_, fun b hb => ?_, fun b hb => ?_, fun r hr => ?_, fun r hr => ?_, fun r hr k hk => ?_, fun x hx => ?_⟩
            · rw [m1 0 (by omega) (by omega), qu_n (by omega)]; exact k0
            · rw [m1 1 (by omega) (by omega), qu_n (by omega)]; exact k1
            · by_cases eb : b = i
              · subst eb; rw [row_14 (by omega), qu_e]; exact m14
              · rw [m1 (2 + b) (by omega) (by omega), qu_n eb]; exact k2 b hb
            · rw [m1 (12 + b) (by omega) (by omega), k3 b hb]
              unfold sqState
              rw [qu_n (by omega)]
            · have := hK.2.1
              rw [m1 (22 + r) (by omega) (by omega), qu_n (by omega)]; exact k4 r hr
            · have := hK.2.1
              rw [m1 (27 + r) (by omega) (by omega)]; exact k5 r hr
            · have h1 := hl10 r hr
              have := hK.2.1
              rw [m1 _ (by omega) (by omega)]; exact k6 r hr k hk
            · rw [m1 (82 + x) (by omega) (by omega), qu_n (by omega)]; exact k7 x hx
          · intro r hr
            refine ⟨List.Pairwise.imp_of_mem ?_ (hM.2.2.1 r hr).1, fun b => ?_⟩
            · intro x y hx hy hxy
              rw [qu_n (by omega), qu_n (by omega)]
              exact hxy
            · rw [(hM.2.2.1 r hr).2 b]
              rw [qu_n (by omega)]
        have hs2 : mS w2 ct s sb sd sa := by
          have := h
          unfold mS at *
          rw [m3, l3 36 (by omega), l2' 29 (by omega), l2' 30 (by omega), l2' 31 (by omega)]
          exact this
        refine wp_bd (wp_mono (rq_asSeen hs2 hw2 hn (qI_ang hK hI hi (by omega)) hD (by rw [qu_n (by omega)]; exact h47)) ?_)
        rintro ⟨y, r⟩ ⟨r1, r2, r3, r4⟩
        dsimp only at r1 r2 r3 r4 ⊢
        subst r1
        have eP : fP ct cd s sb sd sa sc i v = fitB ct cd s sb sd sa (qu sc i v) := by unfold fP; rw [decide_eq_false p]; rfl
        have y1 : ∀ x, x < 88 → x ≠ 2 + i → rowOf y x = rowOf μ x := fun x hx ex => by rw [r2.1 x hx]; exact m1 x hx ex
        have y2 : ∀ p, p < 14 ∨ p = 20 ∨ 29 ≤ p ∧ p ≤ 31 ∨ 37 ≤ p ∧ p ≤ 42 → y.2.2.1 p = μ.2.2.1 p := fun p hp => by rw [r2.2.1 p hp]; exact l2' p hp
        have y3 : ∀ k, k = 3 ∨ k = 15 ∨ k = 24 ∨ 35 ≤ k ∧ k ≤ 36 ∨ 55 ≤ k ∧ k ≤ 57 → y.1 0 k = μ.1 0 k := fun k hk => by rw [r2.2.2 k hk, m3]; exact l3 k hk
        have y4 : y.1 0 51 = nI (fL (fQ ct cd s sb sd sa sc) (100 * i + v)).length := by rw [r4]; exact l4'
        have y5 : ∀ k, k < (fL (fQ ct cd s sb sd sa sc) (100 * i + v)).length → y.2.2.1 33 k = nI ((fL (fQ ct cd s sb sd sa sc) (100 * i + v)).getD k 0) := fun k hk => by rw [r3 33 (by omega)]; exact l5' k hk
        cases e : fitB ct cd s sb sd sa (qu sc i v) with
        | true =>
          rw [e] at eP
          have el : ((100 : Int32) * nI i) + nI v = nI (100 * i + v) := by rw [show (100 : Int32) * nI i = nI (100 * i) from pk_mul 100 i, nI_add]
          rw [if_pos rfl, if_neg n10, y4, qn_in (by omega) (by omega), sp_ckt, sp_pl, sp_pl, sp_sa_1, y4, nI_1, nI_clamp (by omega), el, e79]
          refine kk2 _ ⟨fun x hx ex => ?_, fun p hp => ?_, fun k hk => ?_, ?_, ?_⟩
          · rw [← y1 x hx ex]
            unfold rowOf
            rw [sp_si_ne (by decide), sp_si_ne (by decide)]
            show (if x = 0 then y.1 0 33 else if x = 1 then y.1 0 34 else if x < 12 then (sp_sa y 33 _ _).2.2.1 14 (x - 2) else if x < 22 then (sp_sa y 33 _ _).2.2.1 15 (x - 12) else if x < 27 then (sp_sa y 33 _ _).2.2.1 16 (x - 22) else if x < 32 then (sp_sa y 33 _ _).2.2.1 17 (x - 27) else if x < 82 then (sp_sa y 33 _ _).2.2.1 18 (x - 32) else (sp_sa y 33 _ _).2.2.1 19 (x - 82)) = _
            rw [sp_sa_np (by omega), sp_sa_np (by omega), sp_sa_np (by omega), sp_sa_np (by omega), sp_sa_np (by omega), sp_sa_np (by omega)]
          · show (sp_sa y 33 _ _).2.2.1 p = _
            funext q; rw [sp_sa_np (by omega), y2 p hp]
          · rw [sp_si_ne (by omega)]
            exact y3 k hk
          · rw [sp_si_eq, eL, eP, if_pos rfl, List.length_append]; rfl
          · intro k hk
            rw [eL, eP, if_pos rfl] at hk ⊢
            rw [List.length_append] at hk
            have hk' : k < (fL (fQ ct cd s sb sd sa sc) (100 * i + v)).length + 1 := hk
            show (sp_sa y 33 _ _).2.2.1 33 k = _
            by_cases ek : k = (fL (fQ ct cd s sb sd sa sc) (100 * i + v)).length
            · subst ek; rw [sp_sa_eq, gd_app2]
            · rw [sp_sa_nj ek, gd_app1 (by omega)]; exact y5 k (by omega)
        | false =>
          rw [e] at eP
          rw [show (if false = true then nI 1 else nI 0) = nI 0 from rfl, if_pos n00, e79]
          refine kk2 y ⟨y1, y2, y3, ?_, ?_⟩
          · rw [eL, eP, if_neg (by decide)]; exact y4
          · rw [eL, eP, if_neg (by decide)]; exact y5
  · unfold rowOf
    rw [sp_si_ne (by decide), sp_si_ne (by decide)]
    rfl
theorem Inv_see (h : Inv j σ μ) (hS : qSC σ 23 c ct cd sc) (hM : mSC μ ct cd sc stk) : ∃ s sb sd sa, cS σ ct s sb sd sa ∧ mS μ ct s sb sd sa := by
  obtain ⟨c', d', ct', cd', h1, h2, h3, h4, h5, ⟨sc', stk', m, nr, hs, ht', s, sb, sd, sa, g1, g2, g3, g4, g5, g6, g7, g8⟩, _⟩ := h
  have e13 : ct' 0 13 = ct 0 13 := by
    have a1 := hM.1.2.1
    have a2 := h5.2.1
    have b1 := hS.2.2.2.2.2.1.1
    have b2 := g1.2.2.2.2.2.1.1
    rw [a1] at a2
    have : (nI (ct 0 13) = nI (ct' 0 13)) = (ct 0 13 = ct' 0 13) := qn_eq (by omega) (by omega)
    exact (Eq.mp this a2).symm
  obtain ⟨s1, s2, s3⟩ := g6
  refine ⟨s, sb, sd, sa, ⟨s1, s2, fun i hi => ?_⟩, ⟨s1, g7, fun i hi => ?_⟩⟩
  · obtain ⟨z1, z2, z3, z4, z5, z6, z7, z8, z9⟩ := s3 i hi
    exact ⟨z1, z2, z3, by omega, z8, z9⟩
  · obtain ⟨z1, z2, z3, z4, z5, z6, z7, z8, z9⟩ := s3 i hi
    exact ⟨z4, z5, z6, by omega, z8, z9⟩
theorem op_wrong (hn : 5000 ≤ n) (h : Inv j σ μ) (a1 : Int32) : agr j kd1 (X11_wrong n σ a1) (X12_wrong n μ a1) := by
  obtain ⟨c, ct, cd, sc, stk, hI, h3, hS, hM, hG, hD, hc⟩ := Inv_now h
  have hb10 := hS.2.2.2.2.2.1.1
  rw [X12_wrong, sp_pl, X11_wrong]
  generalize sp_si μ 0 3 0 = μ1 at *
  obtain ⟨s, sb, sd, sa, hcs, hms⟩ := Inv_see hI hS hM
  rcases wh_cases (n := n) (σ := σ) a1 (m := 2) (by omega) with ⟨w, hw, rfl⟩ | ⟨e1, _, e2⟩
  · rw [show X11_needWhat n σ (nI w) 2 = some (σ, none) from wh_ok (m := 2) hw (by omega), sp_bx_n, is_y (lo := 0) (hi := 2) (by decide) (by decide) (by rw [nI_toInt (by omega)]; omega), sp_bd_s, if_neg n10]
    by_cases w2 : nI w = 2
    · obtain ⟨⟨τ, r⟩, b1, b2, b3⟩ := sq_fitsIs hcs hS (by omega : 1000 ≤ n) hG.1 hD hG.2.2.2.1
      obtain ⟨⟨ν, v⟩, d1, d2, d3, _⟩ := rq_asSeen hms hM (by omega : 1000 ≤ n) hG.1 hD hG.2.2.2.1
      dsimp only at b2 b3 d2 d3
      subst b2 d2
      have hz : sp_zb (if fitB ct cd s sb sd sa sc = true then nI 1 else nI 0) = true := by cases fitB ct cd s sb sd sa sc <;> rfl
      have hf : X3_fitsAsItIs n σ = some (τ, if fitB ct cd s sb sd sa sc = true then nI 1 else nI 0) := by rw [X3_fitsAsItIs, b1, sp_bd_s, hz, sp_ckt]
      rw [if_pos w2, if_pos w2, hf, sp_bd_s, sp_pl, d1, sp_bd_s, sp_pl]
      exact agr_ret rfl rfl (Inv_w hI (cD_q b3) d3) (by rw [d3.2.2 3 (by omega)]; exact h3)
    · rw [if_neg w2, if_neg w2]
      obtain ⟨ν, d1, d2, d3, d4⟩ := rq_tellFits hms hM (by omega : 1000 ≤ n) hG.1 hD hG.2.2.2.1
      have hl := fL_len (fQ ct cd s sb sd sa sc) (100 * ct 0 13)
      rw [d1, sp_bv_s]
      by_cases w0 : nI w = 0
      · obtain ⟨⟨τ, r⟩, b1, b2, b3⟩ := sq_many hcs hS (by omega : 1000 ≤ n) hG.1 hD hG.2.2.2.1
        dsimp only at b2 b3
        subst b2
        rw [if_pos w0, if_pos w0, b1, sp_bd_s, d3]
        exact agr_ret rfl rfl (Inv_w hI (cD_q b3) d2) (by rw [d2.2.2 3 (by omega)]; exact h3)
      · obtain ⟨⟨τ, r⟩, b1, b2, b3⟩ := sq_first hcs hS (by omega : 1000 ≤ n) hG.1 hD hG.2.2.2.1
        dsimp only at b2 b3
        subst b2
        rw [if_neg w0, if_neg w0, b1, sp_bd_s, d3, ← fL_hd]
        have hR : Inv j τ ν := Inv_w hI (cD_q b3) d2
        have h3' : ν.1 0 3 = 0 := by rw [d2.2.2 3 (by omega)]; exact h3
        cases e : fL (fQ ct cd s sb sd sa sc) (100 * ct 0 13) with
        | nil =>
          rw [show nI ([] : List Nat).length = 0 from rfl, if_pos rfl]
          exact agr_ret (υ := ν) (v := -1) rfl rfl hR h3'
        | cons x l =>
          have h0 : sp_g ν 33 (0 : Int32) = nI x := by
            have := d4 0 (by rw [e]; simp)
            rw [e] at this
            exact this
          rw [e] at hl
          rw [if_neg (show ¬ nI (x :: l).length = 0 from by show ¬ nI (x :: l).length = nI 0; rw [qn_eq (by omega) (by omega)]; simp), h0]
          exact agr_ret (υ := ν) (v := nI x) rfl rfl hR h3'
  · rw [show X11_needWhat n σ a1 2 = some (σ, some 1) from e1, sp_bx_s, is_no (lo := 0) (hi := 2) (by decide) (by decide) e2, sp_bd_s, if_pos n00, rq_failI, sp_bd_s]
    exact agr_thr rfl rfl (Inv_code hI) sp_si_eq rfl (by decide)
end
