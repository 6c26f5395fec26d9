/-- some of the first q codes that fit leads blade i to the anger v -/
def an (P : Nat → Bool) (S : Nat → Nat → Nat) : Nat → Nat → Nat → Bool
  | 0, _, _ => false
  | q + 1, i, v => an P S q i v || (P q && decide (S q i = v))
def sD (ct : Nat → Nat → Nat) (cd : List Nat × List Nat) (sc : Nat → Nat) (r : Nat) : Nat → Nat := qdn ct cd (qu sc (r / 100) (r % 100)) 3
theorem an_no {P : Nat → Bool} {S : Nat → Nat → Nat} {q : Nat} (h : P q = false) : an P S (q + 1) = an P S q := by
  funext i v
  rw [an, h]; simp
theorem an_yes {P : Nat → Bool} {S : Nat → Nat → Nat} {q : Nat} (h : P q = true) : an P S (q + 1) = fun i v => an P S q i v || decide (S q i = v) := by
  funext i v
  rw [an, h]; simp
/-- the first greatest -/
def bf (D : Nat → Nat) : Nat → Int32 × Nat
  | 0 => (-1, 0)
  | i + 1 => if D i ≤ (bf D i).2 then bf D i else (nI i, D i)
theorem bf_le {D : Nat → Nat} {B : Nat} (h : ∀ i, D i ≤ B) : ∀ i, (bf D i).2 ≤ B := by
  intro i
  induction i with
  | zero => exact Nat.zero_le _
  | succ i ih => rw [bf]; split; · exact ih
                 · exact h i
def aD (a : Nat → Nat → Bool) (i : Nat) : Nat := qc (fun k => a i (64 * 0 + k)) 64 + qc (fun k => a i (64 * 1 + k)) 64
theorem aD_le (a : Nat → Nat → Bool) (i : Nat) : aD a i ≤ 128 := by
  have := qc_le (fun k => a i (64 * 0 + k)) 64
  have := qc_le (fun k => a i (64 * 1 + k)) 64
  unfold aD; omega
theorem bs_f : ∀ N, bs (fun _ => false) N = 0 := by
  intro N
  induction N with
  | zero => rfl
  | succ N ih => rw [bs_s, ih]; rfl
section
variable {n j c s : Nat} {σ μ : sp_St} {ct : Nat → Nat → Nat} {cd : List Nat × List Nat} {sc : Nat → Nat} {stk : Nat → List Nat} {sb sd sa : Nat → Nat}
theorem pop_bs {P : Nat → Bool} : J13_bitCount_95d88 n σ (lI (bs P 64)) = some (σ, nI (qc P 64)) := by
  rw [pop64 (bs_lt P 64), show qc (fun k => (bs P 64).testBit k) 64 = qc P 64 from qc_cong fun k hk => by rw [bs_t, decide_eq_true hk, Bool.true_and]]
theorem sq_best {a : Nat → Nat → Bool} (hS : qSC σ 23 c ct cd sc) (hn : 100 ≤ n) (hR : mR σ a (ct 0 13)) : sp_wp (X3_seekNext_88 n σ) (fun τ => cD σ τ ∧ τ.1 64 4 = (bf (aD a) (ct 0 13)).1 ∧ τ.1 64 5 = nI (bf (aD a) (ct 0 13)).2) := by
  have hb10 := hS.2.2.2.2.2.1.1
  rw [X3_seekNext_88, sp_pl, sp_pl, sp_pl]
  refine lp_inv (fun f i u => X3_seekNext_100 n f u (nI i)) (fun i u => cD σ u ∧ mR u a (ct 0 13) ∧ u.1 64 4 = (bf (aD a) i).1 ∧ u.1 64 5 = nI (bf (aD a) i).2) (ct 0 13) _ (fun f u hJ => ?_) (fun f i u hi hJ kk => ?_) n 0 _ (by omega) (by omega) ⟨cD_trans (cD_si (by omega)) (cD_si (by omega)), hR, ?_, ?_⟩
  · obtain ⟨g1, g2, g3, g4⟩ := hJ
    have hu := qSC_D hS g1
    rw [X3_seekNext_100, sp_pl, hu.2.1, hu.2.2.1, sp_ckt, hu.2.2.2.1.1, if_pos (Int32.le_refl _)]
    exact wp_some.mpr ⟨g1, g3, g4⟩
  · obtain ⟨g1, g2, g3, g4⟩ := hJ
    have hu := qSC_D hS g1
    have l0 : sp_gl u 65 (nI (2 * i)) = lI (bs (fun k => a i (64 * 0 + k)) 64) := by
      show u.2.2.2 65 (nI (2 * i)).toNatClampNeg = _
      rw [nI_clamp (by omega)]; exact g2 i hi 0 (by omega)
    have l1 : sp_gl u 65 (nI (2 * i + 1)) = lI (bs (fun k => a i (64 * 1 + k)) 64) := by
      show u.2.2.2 65 (nI (2 * i + 1)).toNatClampNeg = _
      rw [nI_clamp (by omega)]; exact g2 i hi 1 (by omega)
    have e158 : ∀ (x : sp_St), X3_seekNext_158 n (X3_seekNext_100 n f) x (nI i) = X3_seekNext_100 n f x (nI (i + 1)) := fun x => by rw [X3_seekNext_158, sp_pl, nI_1]
    have b1 := aD_le a i
    have b2 := bf_le (B := 128) (aD_le a) i
    rw [X3_seekNext_100, sp_pl, hu.2.1, hu.2.2.1, sp_ckt, hu.2.2.2.1.1, if_neg (nI_ge hi (by omega)), show (2 : Int32) * nI i = nI (2 * i) from pk_mul 2 i, qn_in (by omega) (by omega), sp_ckt, l0, pop_bs, sp_bd_s, show nI (2 * i) + (1 : Int32) = nI (2 * i + 1) from nI_1 _, qn_in (by omega) (by omega), sp_ckt, l1, pop_bs, sp_bd_s, nI_add, sp_pl, g4]
    show sp_wp (if nI (aD a i) ≤ nI (bf (aD a) i).2 then _ else _) _
    have kk := kk
    by_cases p : aD a i ≤ (bf (aD a) i).2
    · rw [if_pos (by rw [qn_le (by omega) (by omega)]; exact p), e158]
      refine kk u ⟨g1, g2, ?_, ?_⟩
      · rw [bf, if_pos p]; exact g3
      · rw [bf, if_pos p]; exact g4
    · rw [if_neg (by rw [qn_le (by omega) (by omega)]; exact p), sp_pl, sp_pl, e158]
      refine kk _ ⟨cD_trans g1 (cD_trans (cD_si (p := 64) (by omega)) (cD_si (p := 64) (by omega))), g2, ?_, ?_⟩
      · rw [bf, if_neg p, sp_si_g, if_pos ⟨rfl, rfl⟩]
      · rw [bf, if_neg p, sp_si_g, if_neg (by omega), sp_si_g, if_pos ⟨rfl, rfl⟩]; rfl
  · rw [sp_si_g, if_neg (by omega), sp_si_g, if_pos ⟨rfl, rfl⟩]; rfl
  · rw [sp_si_g, if_pos ⟨rfl, rfl⟩]; rfl
theorem sq_seekNext (h : cS σ ct s sb sd sa) (hS : qSC σ 23 c ct cd sc) (hn : 1000 ≤ n) (hI : qI ct sc) (hD : qcd cd) (h47 : sc 47 ≤ 999) : sp_wp (X3_seekNext n σ) (fun τ => cD σ τ ∧ τ.1 64 4 = (bf (aD (an (fQ ct cd s sb sd sa sc) (sD ct cd sc) (100 * ct 0 13))) (ct 0 13)).1 ∧ τ.1 64 5 = nI (bf (aD (an (fQ ct cd s sb sd sa sc) (sD ct cd sc) (100 * ct 0 13))) (ct 0 13)).2) := by
  have hK := hS.2.2.2.2.2.1
  have hb10 := hK.1
  rw [X3_seekNext, sp_pl]
  refine lp_inv (fun f i u => X3_seekNext_2 n f u (nI i)) (fun i u => cD σ u ∧ ∀ x, x < i → u.2.2.2 65 x = 0) 20 _ (fun f u hJ => ?_) (fun f i u hi hJ kk => ?_) n 0 σ (by omega) (by omega) ⟨cD_refl σ, fun x hx => by omega⟩
  · rw [X3_seekNext_2, if_pos (show (20 : Int32) ≤ nI 20 by decide), X3_seekNext_24, sp_pl]
    obtain ⟨j1, j2⟩ := hJ
    refine lp_inv (fun f i u => X3_seekNext_26 n f u (nI i)) (fun i u => cD σ u ∧ mR u (an (fQ ct cd s sb sd sa sc) (sD ct cd sc) (100 * i)) (ct 0 13)) (ct 0 13) _ (fun f u hJ => ?_) (fun f i u hi hJ kk => ?_) n 0 u (by omega) (by omega) ⟨j1, fun i hi h hh => by
      rw [j2 _ (by omega)]
      have : bs (fun k => an (fQ ct cd s sb sd sa sc) (sD ct cd sc) (100 * 0) i (64 * h + k)) 64 = 0 := bs_f 64
      rw [this]; rfl⟩
    · have hu := qSC_D hS hJ.1
      rw [X3_seekNext_26, sp_pl, hu.2.1, hu.2.2.1, sp_ckt, hu.2.2.2.1.1, if_pos (Int32.le_refl _)]
      refine wp_mono (sq_best hu (by omega) hJ.2) ?_
      rintro τ ⟨r1, r2, r3⟩
      exact ⟨cD_trans hJ.1 r1, r2, r3⟩
    · have hu := qSC_D hS hJ.1
      rw [X3_seekNext_26, sp_pl, hu.2.1, hu.2.2.1, sp_ckt, hu.2.2.2.1.1, if_neg (nI_ge hi (by omega)), sp_pl]
      refine lp_inv (fun f2 v w => X3_seekNext_42 n (X3_seekNext_26 n f) f2 w (nI i) (nI v)) (fun v w => cD σ w ∧ mR w (an (fQ ct cd s sb sd sa sc) (sD ct cd sc) (100 * i + v)) (ct 0 13)) 100 _ (fun f2 w hL => ?_) (fun f2 v w hv hL kk2 => ?_) n 0 u (by omega) (by omega) hJ
      · rw [X3_seekNext_42, if_pos (show (99 : Int32) < nI 100 by decide), X3_seekNext_82, sp_pl, nI_1]
        have := kk w
        rw [show 100 * (i + 1) = 100 * i + 100 by omega] at this
        exact this hL
      · have hw := qSC_D hS hL.1
        have ha := hI.1 i hi
        have g24 : sp_g w 24 (nI i) = nI (sc i) := by rw [qn_g (by omega)]; exact hw.2.2.2.2.1 i (by omega)
        have e76 : ∀ (x : sp_St), X3_seekNext_76 n (X3_seekNext_26 n f) (X3_seekNext_42 n (X3_seekNext_26 n f) f2) x (nI i) (nI v) = X3_seekNext_42 n (X3_seekNext_26 n f) f2 x (nI i) (nI (v + 1)) := fun x => by rw [X3_seekNext_76, sp_pl, nI_1]
        rw [X3_seekNext_42, if_neg (show ¬ (99 : Int32) < nI v from fun hh => by
          have := (nI_ltI (a := 99) (b := v) (by omega) (by omega)).mp hh
          omega), qn_in (by omega) (by omega), sp_ckt, g24]
        by_cases p : v = sc i
        · have eP : fQ ct cd s sb sd sa sc (100 * i + v) = false := by rw [fQ_is hv]; unfold fP; rw [decide_eq_true p]; rfl
          rw [if_pos (by rw [p]), e76]
          refine kk2 w ⟨hL.1, ?_⟩
          rw [← Nat.add_assoc, an_no eP]; exact hL.2
        · rw [if_neg (show ¬ nI v = nI (sc i) by rw [qn_eq (by omega) (by omega)]; exact p)]
          refine wp_bd (wp_mono (sq_fits (cS_D h hL.1) hw hn hI hD h47 hi (by omega)) ?_)
          rintro ⟨y, r⟩ ⟨r1, r2, r3⟩
          dsimp only at r1 r2 r3 ⊢
          subst r1
          have eP : fQ ct cd s sb sd sa sc (100 * i + v) = fitB ct cd s sb sd sa (qu sc i v) := by rw [fQ_is hv]; unfold fP; rw [decide_eq_false p]; rfl
          have yR : mR y (an (fQ ct cd s sb sd sa sc) (sD ct cd sc) (100 * i + v)) (ct 0 13) := fun x hx h hh => by rw [(r3 57 (by omega)).2.2]; exact hL.2 x hx h hh
          cases e : fitB ct cd s sb sd sa (qu sc i v) with
          | true =>
            rw [e] at eP
            rw [if_pos rfl, if_neg n10]
            have hy := qSC_D hS (cD_trans hL.1 r2)
            refine wp_bv (wp_mono (sq_mark hy hn hI hD h47 hi (show v ≤ 99 by omega) yR) ?_)
            rintro z ⟨z1, z2⟩
            rw [e76]
            refine kk2 z ⟨cD_trans (cD_trans hL.1 r2) z1, ?_⟩
            rw [← Nat.add_assoc, an_yes eP]
            have es : sD ct cd sc (100 * i + v) = qdn ct cd (qu sc i v) 3 := by
              unfold sD
              rw [show (100 * i + v) / 100 = i by omega, show (100 * i + v) % 100 = v by omega]
            rw [es]; exact z2
          | false =>
            rw [e] at eP
            rw [show (if false = true then nI 1 else nI 0) = nI 0 from rfl, if_pos n00, e76]
            refine kk2 y ⟨cD_trans hL.1 r2, ?_⟩
            rw [← Nat.add_assoc, an_no eP]; exact yR
  · rw [X3_seekNext_2, if_neg (show ¬ (20 : Int32) ≤ nI i from nI_ge (b := 20) hi (by omega)), qn_in (by omega) (by omega), sp_ckt, nI_clamp (by omega), sp_pl, sp_pl, nI_1]
    refine kk _ ⟨cD_trans hJ.1 cD_sl, fun x hx => ?_⟩
    by_cases e : x = i
    · subst e; rw [sp_sl_eq]
    · rw [sp_sl_nj e]; exact hJ.2 x (by omega)
end
