-- ===== THE CALLS: lacks, count, fault =====
section
variable {n j c : Nat} {σ μ : sp_St} {ct : Nat → Nat → Nat} {cd : List Nat × List Nat} {sc : Nat → Nat} {stk : Nat → List Nat}
def qlf (ct : Nat → Nat → Nat) (sc : Nat → Nat) (s : Nat) : Nat := sc (30 + s) - qus ct sc s
def qlm (ct : Nat → Nat → Nat) (sc : Nat → Nat) : Nat → Nat
  | 0 => 0
  | s + 1 => max (qlm ct sc s) (qlf ct sc s)
theorem op_lacks (hn : 1000 ≤ n) (h : Inv j σ μ) (a1 : Int32) : agr j kd1 (X11_lacks n σ a1) (X12_lacks n μ a1) := by
  obtain ⟨c, ct, cd, sc, stk, hI, h3, hS, hM, hG, hD, hc⟩ := Inv_now h
  have hn1 : 100 ≤ n := by omega
  have hb10 := hS.2.2.2.2.2.1.1
  have hs5 := hS.2.2.2.2.2.1.2.1
  rw [X12_lacks, sp_pl, X11_lacks]
  generalize sp_si μ 0 3 0 = μ1 at *
  rcases b_cases (n := n) hS hc hM a1 with ⟨b, hb, rfl⟩ | ⟨e1, e2⟩
  · have g15 : sp_g μ1 15 (nI b) = nI (sqState sc b) := by rw [qn_g (by omega)]; exact hM.2.1.2.2.2.1 b hb
    have w3 : sp_g μ1 3 (1 : Int32) = nI (ct 0 14) := hM.1.1
    have hw := sqs_lt sc b
    rw [nb_ok hS hc hb, sp_bx_n, ib_ok hM hb, sp_bd_s, if_neg n10, sq_isOut hS (by omega), sp_bd_s, qn_in (by omega) (by omega), sp_ckt, g15]
    by_cases p : sc (10 + b) = 0
    · rw [if_pos p, if_neg n10, sqs0.mpr p, if_pos n00, sp_pl, hc, hS.2.2.1, sp_ckt, hS.2.2.2.1.2.1, w3]
      by_cases z : ct 0 14 = 0
      · rw [z, if_pos n00, if_pos n00]
        exact agr_ret (υ := μ1) (v := -1) rfl rfl hI h3
      · have c2 : ¬ nI (ct 0 14) = 0 := by
          show ¬ nI (ct 0 14) = nI 0
          rw [qn_eq (by omega) (by omega)]
          exact z
        have hlf : ∀ s, s < ct 0 14 → qlf ct sc s ≤ 99 := fun s hs => by
          have := hG.1.2.2.2.2.1 s hs
          unfold qlf
          omega
        have hlm : ∀ i, i ≤ ct 0 14 → qlm ct sc i ≤ 99 := by
          intro i
          induction i with
          | zero => intro _; exact Nat.zero_le _
          | succ i ih =>
            intro hi
            have h1 := ih (by omega)
            have h2 := hlf i (by omega)
            show max (qlm ct sc i) (qlf ct sc i) ≤ 99
            omega
        have hL := hS.2.2.2.2.2.1.2.2.2.2.1 b
        have gL : sp_g σ (c + 2) (nI b) = nI (ct 2 b) := by rw [qn_g (by omega)]; exact hS.2.2.2.1.2.2.2.2.1 b hb
        have gM : sp_g μ1 8 (nI b) = nI (ct 2 b) := by rw [qn_g (by omega)]; exact hM.1.2.2.2.2.2.2.1 b hb
        have k1 : X11_lacks_38 n n σ (nI b) 0 0 = some (σ, Sum.inl (nI (ct 2 b - qlm ct sc (ct 0 14)))) := by
          refine lp_up (fun f i => X11_lacks_38 n f σ (nI b) (nI (qlm ct sc i)) (nI i)) (ct 0 14) _ (fun f => ?_) (fun f i hi => ?_) n 0 (by omega) (by omega)
          · have h2 := hlm (ct 0 14) (Nat.le_refl _)
            rw [X11_lacks_38, sp_pl, hc, hS.2.2.1, sp_ckt, hS.2.2.2.1.2.1, if_pos (Int32.le_refl _), X11_lacks_67, sp_pl, hc, hS.2.2.1, sp_ckt, qn_in (by omega) (by omega), sp_ckt, gL, sp_pl, show sp_max 0 (nI (ct 2 b) - nI (qlm ct sc (ct 0 14))) = nI (ct 2 b - qlm ct sc (ct 0 14)) from qn_subm (by omega) (by omega)]
          · have h1 := hlm i (by omega)
            have h2 := hlf i hi
            rw [X11_lacks_38, sp_pl, hc, hS.2.2.1, sp_ckt, hS.2.2.2.1.2.1, if_neg (nI_ge hi (by omega)), sq_leftN hS hn1 (by omega) (hG.1.2.2.2.1 i hi), sp_bd_s, sp_pl, sp_pl, nI_1]
            show X11_lacks_38 n f σ (nI b) (sp_max (nI (qlm ct sc i)) (nI (qlf ct sc i))) (nI (i + 1)) = _
            rw [qn_max (by omega) (by omega)]
            rfl
        have k2 : X12_lacks_44 n n μ1 (nI b) 100000 0 = some (μ1, nI (ct 2 b - qlm ct sc (ct 0 14))) := by
          have := lp_up (fun f i => X12_lacks_44 n f μ1 (nI b) (nI (if i = 0 then 100000 else ct 2 b - qlm ct sc i)) (nI i)) (ct 0 14) (some (μ1, nI (ct 2 b - qlm ct sc (ct 0 14)))) (fun f => ?_) (fun f i hi => ?_) n 0 (by omega) (by omega)
          · rw [if_pos rfl] at this
            exact this
          · rw [X12_lacks_44, w3, if_pos (Int32.le_refl _), X12_lacks_81, if_neg z]
          · have h1 := hlm i (by omega)
            have h2 := hlf i hi
            have h5 : (if i = 0 then 100000 else ct 2 b - qlm ct sc i) < 2 ^ 31 := by split <;> omega
            rw [X12_lacks_44, w3, if_neg (nI_ge hi (by omega)), qn_in (by omega) (by omega), sp_ckt, rq_leftOf hM hn1 hi (hG.1.2.2.2.1 i hi), sp_bd_s, gM, sp_pl, sp_pl, sp_pl, nI_1]
            show X12_lacks_44 n f μ1 (nI b) (sp_min (nI (if i = 0 then 100000 else ct 2 b - qlm ct sc i)) (sp_max (nI 0) (nI (ct 2 b) - nI (qlf ct sc i)))) (nI (i + 1)) = _
            rw [qn_subm (by omega) (by omega), qn_min h5 (by omega), if_neg (show ¬ i + 1 = 0 by omega)]
            congr 2
            show _ = ct 2 b - max (qlm ct sc i) (qlf ct sc i)
            by_cases i0 : i = 0
            · subst i0
              show min 100000 _ = ct 2 b - max 0 (qlf ct sc 0)
              omega
            · rw [if_neg i0]
              omega
        rw [if_neg c2, if_neg c2, sp_pl, sp_pl, sp_pl, sp_pl, k1, k2]
        exact agr_ret (υ := μ1) rfl rfl hI h3
    · have : ¬ sqState sc b = 0 := fun x => p (sqs0.mp x)
      rw [if_neg p, if_pos n00, if_neg (show ¬ nI (sqState sc b) = 0 from by show ¬ nI (sqState sc b) = nI 0; rw [qn_eq (by omega) (by omega)]; exact this)]
      exact agr_ret (υ := μ1) (v := -1) rfl rfl hI h3
  · rw [e1, sp_bx_s, e2, sp_bd_s, if_pos n00, rq_failI, sp_bd_s]
    exact agr_thr rfl rfl (Inv_code hI) sp_si_eq rfl (by decide)
theorem op_fault (h : Inv j σ μ) : agi j (X11_fault n σ) (X12_fault n μ) := by
  obtain ⟨c, d, ct, cd, h1, h2, h3, h4, h5, h6, h7, h8, h9, h10⟩ := h
  refine ⟨σ, sp_si μ 0 3 0, σ.1 0 2, rfl, ?_, Inv_code ⟨c, d, ct, cd, h1, h2, h3, h4, h5, h6, h7, h8, h9, h10⟩⟩
  rw [h10]
  rfl
theorem op_count (hn : 1000 ≤ n) (h : Inv j σ μ) (a1 : Int32) : agr j kd1 (X11_count n σ a1) (X12_count n μ a1) := by
  obtain ⟨c, ct, cd, sc, stk, hI, h3, hS, hM, hG, hD, hc⟩ := Inv_now h
  have hn1 : 100 ≤ n := by omega
  have hb10 := hS.2.2.2.2.2.1.1
  rw [X12_count, sp_pl, X11_count]
  generalize sp_si μ 0 3 0 = μ1 at *
  have hI0 := hI
  obtain ⟨c', d', ct', cd', i1, i2, i3, i4, i5, ⟨sc', stk', m, nr, hs, ht', s, sb, sd, sa, f1, f2, f3, f4, f5, f6, f7, f8⟩, i7, i8, ⟨tp, t1, t2, t3, t4⟩, i10⟩ := hI0
  by_cases x0 : a1 = 0
  · rw [if_pos x0, if_pos x0, sq_howMany hS hn1 hG.1.2.2.2.2.2.1, sp_bd_s, rq_feudMany hM hn1 hG.1.2.2.2.2.2.1, sp_bd_s]
    exact agr_ret (υ := μ1) rfl rfl hI h3
  rw [if_neg x0, if_neg x0]
  by_cases x1 : a1 = 1
  · subst x1
    rw [if_pos rfl, if_pos rfl, sp_pl, hc, hS.2.2.1, sp_ckt]
    exact agr_ret (υ := μ1) rfl (by rw [hS.2.2.2.1.2.1, ← hM.1.1]; rfl) hI h3
  rw [if_neg x1, if_neg x1]
  by_cases x2 : a1 = 2
  · subst x2
    rw [if_pos rfl, if_pos rfl, sp_pl, hc, hS.2.2.1, sp_ckt]
    exact agr_ret (υ := μ1) rfl (by rw [hS.2.2.2.1.1, ← hM.1.2.1]; rfl) hI h3
  rw [if_neg x2, if_neg x2]
  by_cases x3 : a1 = 3
  · subst x3
    rw [if_pos rfl, if_pos rfl, sp_pl, hc, hS.2.2.1, sp_ckt]
    exact agr_ret (υ := μ1) rfl (by rw [hS.2.2.2.1.2.2.1, ← hM.1.2.2.1]; rfl) hI h3
  rw [if_neg x3, if_neg x3]
  by_cases x4 : a1 = 4
  · rw [if_pos x4, if_pos x4, show sp_g σ 24 (47 : Int32) = nI (sc 47) from hS.2.2.2.2.1 47 (by omega)]
    exact agr_ret (υ := μ1) rfl (by rw [hM.2.1.1]) hI h3
  rw [if_neg x4, if_neg x4]
  by_cases x5 : a1 = 5
  · subst x5
    rw [if_pos rfl, if_pos rfl, sq_bladesOut hS hn1, sp_bd_s, show (5 : Int32) - 5 = nI 0 by decide, rq_whereSet hM hn1 (by omega), sp_bd_s]
    exact agr_ret (υ := μ1) rfl (by
      congr 3
      refine bs_cong fun k _ => ?_
      exact decide_eq_decide.mpr sqs0) hI h3
  rw [if_neg x5, if_neg x5]
  by_cases x6 : a1 = 6
  · subst x6
    rw [if_pos rfl, if_pos rfl, sq_bladesIn hS hn1, sp_bd_s, show (6 : Int32) - 5 = nI 1 by decide, rq_whereSet hM hn1 (by omega), sp_bd_s]
    exact agr_ret (υ := μ1) rfl (by
      congr 3
      refine bs_cong fun k _ => ?_
      refine decide_eq_decide.mpr (sqs1.trans ?_)
      omega) hI h3
  rw [if_neg x6, if_neg x6]
  by_cases x7 : a1 = 7
  · subst x7
    rw [if_pos rfl, if_pos rfl, sq_bladesAtRest hS hn1, sp_bd_s, show (7 : Int32) - 5 = nI 2 by decide, rq_whereSet hM hn1 (by omega), sp_bd_s]
    exact agr_ret (υ := μ1) rfl (by
      congr 3
      refine bs_cong fun k _ => ?_
      exact decide_eq_decide.mpr sqs2) hI h3
  rw [if_neg x7, if_neg x7]
  by_cases x8 : a1 = 8
  · rw [if_pos x8, if_pos x8, show sp_g σ 24 (48 : Int32) = nI (sc 48) from hS.2.2.2.2.1 48 (by omega)]
    exact agr_ret (υ := μ1) rfl (by rw [hM.2.1.2.1]) hI h3
  rw [if_neg x8, if_neg x8]
  by_cases x9 : a1 = 9
  · rw [if_pos x9, if_pos x9]
    exact agr_ret (υ := μ1) rfl (by rw [f5, f4.2.2.2.1]) hI h3
  rw [if_neg x9, if_neg x9]
  by_cases x10 : a1 = 10
  · rw [if_pos x10, if_pos x10]
    exact agr_ret (υ := μ1) rfl (by rw [f7, ← f6.2.1]) hI h3
  rw [if_neg x10, if_neg x10]
  by_cases x11 : a1 = 11
  · rw [if_pos x11, if_pos x11]
    exact agr_ret (υ := μ1) rfl (by rw [t2, t3]) hI h3
  rw [if_neg x11, if_neg x11]
  by_cases x12 : a1 = 12
  · subst x12
    rw [if_pos rfl, if_pos rfl]
    exact agr_ret (υ := μ1) rfl (by rw [show sp_g σ 34 (0 : Int32) = μ1.2.2.1 12 0 from f8 0 (by omega)]; rfl) hI h3
  rw [if_neg x12, if_neg x12]
  by_cases x13 : a1 = 13
  · subst x13
    rw [if_pos rfl, if_pos rfl]
    exact agr_ret (υ := μ1) rfl (by rw [show sp_g σ 34 (1 : Int32) = μ1.2.2.1 12 1 from f8 1 (by omega)]; rfl) hI h3
  rw [if_neg x13, if_neg x13]
  by_cases x14 : a1 = 14
  · subst x14
    rw [if_pos rfl, if_pos rfl]
    exact agr_ret (υ := μ1) rfl (by rw [show sp_g σ 34 (2 : Int32) = μ1.2.2.1 12 2 from f8 2 (by omega)]; rfl) hI h3
  rw [if_neg x14, if_neg x14, rq_failI, sp_bd_s]
  exact agr_thr rfl rfl (Inv_code hI) sp_si_eq rfl (by decide)
end
