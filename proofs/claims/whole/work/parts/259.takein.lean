section
variable {n j c : Nat} {σ μ : sp_St} {ct : Nat → Nat → Nat} {cd : List Nat × List Nat} {sc : Nat → Nat} {stk : Nat → List Nat}
theorem cq_pk {τ : sp_St} (h : qfp 60 63 σ τ) : cq σ τ := cq_fp h (fun p hp => by unfold cK at hp; omega) (by omega)
theorem mq_27 {ν : sp_St} (h : m27 μ ν) : mq μ ν := ⟨fun p hp => h.2.2 p (by omega), fun k _ => by rw [h.1]⟩
theorem outs_eq {N : Nat} : bs (fun b => decide (sqState sc b = 0)) N = bs (fun b => decide (sc (10 + b) = 0)) N := bs_cong (fun k _ => by rw [decide_eq_decide]; exact sqs0)
theorem m1_ne {b : Nat} (hb : b < 10) : ¬ nI b = (-1 : Int32) := by
  show ¬ nI b = -nI 1
  rw [qn_meq (by omega)]; exact id
theorem op_takeIn (hn : 5000 ≤ n) (h : Inv j σ μ) (a1 : Int32) : agr j kd1 (X11_takeIn n σ a1) (X12_takeIn n μ a1) := by
  obtain ⟨c, ct, cd, sc, stk, hI, h3, hS, hM, hG, hD, hc⟩ := Inv_now h
  rw [X12_takeIn, sp_pl, X11_takeIn]
  generalize sp_si μ 0 3 0 = μ1 at *
  have hb10 := hS.2.2.2.2.2.1.1
  have hs5 := hS.2.2.2.2.2.1.2.1
  have hn2 : 1100 ≤ n := by omega
  have hA := hG.1.1
  have hu := hG.1.2.2.2.1
  have h99 : ∀ s, s < ct 0 14 → lfO ct sc s ≤ 99 := fun s hs => by have := hG.1.2.2.2.2.1 s hs; unfold lfO; omega
  have hO := bs_lt (fun b => decide (sc (10 + b) = 0)) (ct 0 13)
  have w32 : sp_g μ1 3 (2 : Int32) = nI (ct 0 13) := hM.1.2.1
  have e2 : (nI (ct 0 13) - 1).toInt = (ct 0 13 : Int) - 1 := pk_sub_toInt (a := ct 0 13) (b := 1) (by omega) (by decide)
  have tm : (-1 : Int64).toInt = -1 := by decide
  have wO : X12_whereSet n μ1 (0 : Int32) = some (μ1, nI (bs (fun b => decide (sc (10 + b) = 0)) (ct 0 13))) := by
    rw [show (0 : Int32) = nI 0 from rfl, rq_whereSet hM (by omega) (by omega), outs_eq]
  have cO := sq_bladesOut hS (show 100 ≤ n by omega)
  generalize bs (fun b => decide (sc (10 + b) = 0)) (ct 0 13) = O at *
  have hO2 : O < 1024 := Nat.lt_of_lt_of_le hO (Nat.pow_le_pow_right (by decide) hb10 : 2 ^ ct 0 13 ≤ 2 ^ 10)
  obtain ⟨ν, n1, n2, n3⟩ := rq_tell hM hn2 hA hu h99 hO
  obtain ⟨τ, t1, t2, t3⟩ := sq_weigh hS hn2 hA hu h99 (s := 0) (by omega) hO
  have R0 := n3 0 (Nat.zero_le _)
  obtain ⟨v, v1, v2, v3⟩ := R0 O hO2 Sb_refl
  obtain ⟨z, z1, z2, z3⟩ := t3 O hO2 Sb_refl
  obtain rfl : z = v := isM_u z3 v3
  rw [Nat.zero_mul, Nat.zero_add] at v2
  rw [is_in, w32, t64, t64, e2, tm, sp_bd_s]
  have fin : ∀ {υ : sp_St}, qfp 60 63 σ υ → Inv j υ ν := fun {υ} hq => Inv_q hI (cq_pk hq) (mq_27 n2)
  have h3' : ν.1 0 3 = 0 := by rw [n2.1]; exact h3
  by_cases em : a1 = -1
  · subst em
    have q1 : (-1 : Int32).toInt = -1 := by decide
    rw [if_pos rfl, X11_takeIn_10, if_pos rfl, X5_mostAnger, cO, sp_bd_s, show (0 : Int32) = nI 0 from rfl, t1, sp_bv_s, qn_in hO2 (by omega), sp_ckt, sp_bd_s, X11_takeIn_33, qn_g (by omega), z2]
    rw [if_pos (show (-1 : Int) ≤ (-1 : Int32).toInt ∧ (-1 : Int32).toInt ≤ (ct 0 13 : Int) - 1 by rw [q1]; omega), if_neg (show ¬ nI 1 = nI 0 from n10), show nI 0 = (0 : Int32) from rfl, wO, sp_bd_s, n1, sp_bv_s, if_pos rfl, qn_in (by omega) (by omega), sp_ckt, qn_g (by omega), v2]
    exact agr_ret rfl rfl (fin t2) h3'
  · rw [if_neg em]
    rcases b_cases (n := n) hS hc hM a1 with ⟨b, hb, rfl⟩ | ⟨e1, e2'⟩
    · rw [nb_ok hS hc hb, sp_bx_n, X11_takeIn_10, if_neg em, X5_bestSwallower, cO, sp_bd_s, show (0 : Int32) = nI 0 from rfl, t1, sp_bv_s, qn_in hO2 (by omega), sp_ckt, sp_pl, sp_pl, qn_g (by omega), z2]
      rw [nI_toInt (by omega), if_pos (show (-1 : Int) ≤ (b : Int) ∧ (b : Int) ≤ (ct 0 13 : Int) - 1 by omega), if_neg (show ¬ nI 1 = nI 0 from n10), show nI 0 = (0 : Int32) from rfl, wO, sp_bd_s, n1, sp_bv_s, if_neg em, sp_pl]
      obtain ⟨υ, r, x1, x2, x3⟩ := lock_take hS (mSC_27 hM n2) hn2 hA hu h99 hO (show b < 10 by omega) n3 n 0 τ O z (by omega) (by omega) t2 Sb_refl v3
      rw [show X5_bestSwallower_24 n n τ (nI b) (nI O) (nI z) 0 = some (υ, r) from x1, sp_bd_s, X11_takeIn_33, show X12_takeIn_59 n n ν (nI b) (nI O) 0 = some (ν, r) from x2]
      exact agr_ret rfl rfl (fin x3) h3'
    · have hb' : ¬ ((-1 : Int) ≤ a1.toInt ∧ a1.toInt ≤ (ct 0 13 : Int) - 1) := by
        intro hh
        rcases a_cases a1 (ct 0 13) (by omega) with ⟨b, hb, rfl⟩ | ⟨_, q⟩
        · rw [nb_ok hS hc hb] at e1; cases e1
        · apply em
          apply Int32.toInt_inj.mp
          have q1 : (-1 : Int32).toInt = -1 := by decide
          rw [q1]; omega
      rw [e1, sp_bx_s, if_neg hb', if_pos n00, rq_failI, sp_bd_s]
      exact agr_thr rfl rfl (Inv_code hI) sp_si_eq rfl (by decide)
end
