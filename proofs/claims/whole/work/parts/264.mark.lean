-- ===== look: the class's marks =====
theorem sh64 : ∀ r, r < 64 → (1 : Int64) <<< ((nI r).toInt64 &&& 63) = lI (2 ^ r) := by decide +kernel
/-- the marks: for each blade below nb the angers a -/
def mR (u : sp_St) (a : Nat → Nat → Bool) (nb : Nat) : Prop := ∀ i, i < nb → ∀ h, h < 2 → u.2.2.2 65 (2 * i + h) = lI (bs (fun k => a i (64 * h + k)) 64)
theorem sp_sl_eq {σ : sp_St} {p i : Nat} {v : Int64} : (sp_sl σ p i v).2.2.2 p i = v := by simp [sp_sl]
theorem sp_sl_nj {σ : sp_St} {p i j : Nat} {v : Int64} (h : j ≠ i) : (sp_sl σ p i v).2.2.2 p j = σ.2.2.2 p j := by simp [sp_sl, h]
theorem cD_sl {σ : sp_St} {p k : Nat} {v : Int64} : cD σ (sp_sl σ p k v) := fun _ _ => ⟨rfl, rfl, rfl⟩
theorem bs_ins (P : Nat → Bool) {r N : Nat} (hr : r < N) : bs P N ||| 2 ^ r = bs (fun k => P k || decide (r = k)) N := by
  apply Nat.eq_of_testBit_eq
  intro k
  rw [Nat.testBit_or, bs_t, bs_t, Nat.testBit_two_pow]
  by_cases e : r = k
  · subst e; simp [hr]
  · simp [e]
section
variable {n j c : Nat} {σ μ : sp_St} {ct : Nat → Nat → Nat} {cd : List Nat × List Nat} {sc : Nat → Nat} {stk : Nat → List Nat}
theorem sq_mark (hS : qSC σ 23 c ct cd sc) (hn : 1000 ≤ n) (hI : qI ct sc) (hD : qcd cd) (h47 : sc 47 ≤ 999) {b v : Nat} (hb : b < ct 0 13) (hv : v ≤ 99) {a : Nat → Nat → Bool} (hR : mR σ a (ct 0 13)) : sp_wp (X3_markAngers n σ (nI b) (nI v)) (fun τ => cD σ τ ∧ mR τ (fun i w => a i w || decide (qdn ct cd (qu sc b v) 3 i = w)) (ct 0 13)) := by
  have hK := hS.2.2.2.2.2.1
  have hb10 := hK.1
  obtain ⟨τ, a1, a2, a3, _, a5⟩ := sq_dream hS (by omega : 100 ≤ n)
  have a4 : qSC (sp_sa τ 51 b (nI v)) 50 c ct cd (qu sc b v) := qSC_set a3 (by omega)
  have f4 : cD σ (sp_sa τ 51 b (nI v)) := cD_trans a2 (cD_sa (by omega))
  have r4 : mR (sp_sa τ 51 b (nI v)) a (ct 0 13) := fun i hi h hh => by
    show τ.2.2.2 65 _ = _
    rw [(a5 57 (by omega)).2.2.2]; exact hR i hi h hh
  have hI2 := qI_ang hK hI hb hv
  have h47' : qu sc b v 47 = sc 47 := qu_n (by omega)
  rw [X3_markAngers, a1, sp_bv_s, qn_in (by omega) (by omega), sp_ckt, nI_clamp (by omega), sp_pl, sp_pl]
  generalize sp_sa τ 51 b (nI v) = τ1 at *
  generalize hq0 : qu sc b v = sc0 at *
  refine lp_inv (fun f i s => X3_markAngers_23 n f s (nI i)) (fun i s => qSC s 50 c ct cd (qdn ct cd sc0 i) ∧ cD σ s ∧ mR s a (ct 0 13)) 3 _ (fun f s hJ => ?_) (fun f i s hi hJ kk => ?_) n 0 τ1 (by omega) (by omega) ⟨a4, f4, r4⟩
  · obtain ⟨j1, j2, j3⟩ := hJ
    have hq := qdn_I (cd := cd) hK hI2 3
    rw [X3_markAngers_23, if_pos (show (3 : Int32) ≤ nI 3 by decide), X3_markAngers_41, sp_pl]
    generalize qdn ct cd sc0 3 = sc3 at *
    refine lp_inv (fun f i s => X3_markAngers_43 n f s (nI i)) (fun i s => qSC s 50 c ct cd sc3 ∧ cD σ s ∧ mR s (fun x w => a x w || (decide (x < i) && decide (sc3 x = w))) (ct 0 13)) (ct 0 13) _ (fun f s hJ => ?_) (fun f i s hi hJ kk => ?_) n 0 s (by omega) (by omega) ⟨j1, j2, fun i hi h hh => by rw [j3 i hi h hh]; simp⟩
    · obtain ⟨l1, l2, l3⟩ := hJ
      have hs23 := qSC_D hS l2
      rw [X3_markAngers_43, sp_pl, hs23.2.1, hs23.2.2.1, sp_ckt, hs23.2.2.2.1.1, if_pos (Int32.le_refl _)]
      refine wp_some.mpr ⟨l2, fun i hi h hh => ?_⟩
      rw [l3 i hi h hh]
      simp [hi]
    · obtain ⟨l1, l2, l3⟩ := hJ
      have hs23 := qSC_D hS l2
      have ha := hq.1.1 i hi
      have g51 : sp_g s 51 (nI i) = nI (sc3 i) := by rw [qn_g (by omega)]; exact l1.2.2.2.2.1 i (by omega)
      have ix : (2 : Int32) * nI i + nI (sc3 i) / 64 = nI (2 * i + sc3 i / 64) := by
        rw [show (2 : Int32) * nI i = nI (2 * i) from pk_mul 2 i, show nI (sc3 i) / (64 : Int32) = nI (sc3 i / 64) from pk_div (d := 64) (by omega) (by omega) (by omega), nI_add]
      have rm : nI (sc3 i) - nI (sc3 i) / (64 : Int32) * (64 : Int32) = nI (sc3 i % 64) := pk_rem (d := 64) (by omega) (by omega) (by omega)
      have gl : sp_gl s 65 (nI (2 * i + sc3 i / 64)) = lI (bs (fun k => a i (64 * (sc3 i / 64) + k) || (decide (i < i) && decide (sc3 i = 64 * (sc3 i / 64) + k))) 64) := by
        show s.2.2.2 65 (nI (2 * i + sc3 i / 64)).toNatClampNeg = _
        rw [nI_clamp (by omega)]; exact l3 i hi (sc3 i / 64) (by omega)
      rw [X3_markAngers_43, sp_pl, hs23.2.1, hs23.2.2.1, sp_ckt, hs23.2.2.2.1.1, if_neg (nI_ge hi (by omega)), qn_in (by omega) (by omega), sp_ckt, g51, sp_pl, show (!decide ((64 : Int32) = 0)) = true by decide, sp_ckt, ix, qn_in (by omega) (by omega), sp_ckt, sp_ckt, sp_ckt, rm, sh64 _ (by omega), gl, lI_or, bs_ins _ (by omega : sc3 i % 64 < 64), nI_clamp (by omega), sp_pl, sp_pl, nI_1]
      refine kk _ ⟨l1, cD_trans l2 cD_sl, fun x hx h hh => ?_⟩
      by_cases e : x = i ∧ h = sc3 i / 64
      · obtain ⟨rfl, rfl⟩ := e
        rw [sp_sl_eq]
        congr 1
        refine bs_cong fun k hk => ?_
        have e2 : (sc3 x % 64 = k) ↔ (sc3 x = 64 * (sc3 x / 64) + k) := by omega
        simp [e2]
      · rw [sp_sl_nj (by omega), l3 x hx h hh]
        congr 1
        refine bs_cong fun k hk => ?_
        by_cases ex : x = i
        · subst ex
          have : ¬ sc3 x = 64 * h + k := by omega
          simp [this]
        · have : (x < i + 1) ↔ (x < i) := by omega
          simp [this]
  · obtain ⟨j1, j2, j3⟩ := hJ
    have hq := qdn_I (cd := cd) hK hI2 i
    rw [X3_markAngers_23, if_neg (show ¬ (3 : Int32) ≤ nI i from nI_ge (b := 3) hi (by omega))]
    refine wp_bv (wp_mono (sq_day j1 hn hq.1 hD (by omega)) ?_)
    rintro τ2 ⟨r1, r2, r3⟩
    rw [sp_pl, nI_1]
    exact kk τ2 ⟨r1, cD_trans j2 (cD_fp r2 (by omega)), fun x hx h hh => by rw [r2.2.1]; exact j3 x hx h hh⟩
end
