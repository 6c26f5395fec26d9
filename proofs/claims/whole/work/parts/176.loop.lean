set_option maxHeartbeats 4000000 in
set_option maxRecDepth 100000 in
/-- THE LAW'S LOOP: with an invariant of the two states that every step keeps, it comes to its end with true -/
theorem lg_loop {X : sp_X} (hX : sp_OK shL X cL_law RL 7 room_1) {b L : Nat} {xs : Nat → Int32} (hs : lg_scr X b L xs) (hL : L ≤ 3072) (hQ : sx_Q X = lw_Z (sx_b X) #[Value.ref b] (sx_s X)) (hret : (sx_h X).sig.returnType = ret) (harg : sx_a X = #[Value.ref b]) (hA : ∀ z, sx_A X z → (sx_s X).heap.size ≤ z) {n : Nat} {Inv : Nat → sp_St → sp_St → Prop}
    (hstep : ∀ (j : Nat) (σ μ : sp_St) (op a1 a2 a3 a4 a5 : Int32), j < 512 → Inv j σ μ → ∃ τ υ, LK n op σ μ a1 a2 a3 a4 a5 = some (τ, υ) ∧ Inv (j + 1) τ υ) (K S : Nat) (hK : K + 4 * 513 ≤ 601024) (hS0 : S + 24 * 513 ≤ 7293034) :
    ∀ (m j : Nat) (σ μ : sp_St) (i : Int32), Inv j σ μ → i = nI (6 * j) → 513 ≤ j + m → j ≤ 512 → sp_GG shL X (sp_pair σ μ) 7 [some (.ref b), some (.ref (sx_ad X 0)), some (.ref (sx_ad X 69)), some (.ref (sx_ad X 68)), some (.int i), none, none] [] 23 (K + 4 * j) (S + 24 * j) := by
  intro m
  induction m with
  | zero =>
    intro j σ μ i _ _ h1 h2
    omega
  | succ m ih =>
    intro j σ μ i hI hi hm hj
    have h6 : (nI L - 6).toInt = (L : Int) - 6 := pk_sub_toInt (a := L) (b := 6) (by omega) (by decide)
    have hii : i.toInt = ((6 * j : Nat) : Int) := by rw [hi]; exact nI_toInt (by omega)
    refine sp_iload (i := 4) (q := 25) hX dL_law_23 rfl rfl ?_
    refine sp_aload_n (i := 0) (q := 26) hX dL_law_25 rfl rfl rfl ?_
    refine lg_sln (q := 27) hX hs dL_law_26 rfl ?_
    refine sp_bipush (v := 6) (q := 29) hX dL_law_27 lb_6 rfl ?_
    refine sp_isub (q := 30) hX dL_law_29 rfl ?_
    refine sp_icmp_gt (tgt := 2176) (q := 33) hX dL_law_30 (by decide) rfl (fun hc => ?_) (fun hc => ?_)
    · refine sp_iconst (v := 1) (q := 2177) hX dL_law_2176 li_1 rfl ?_
      intro ls H locs hl hP hS
      rw [hQ, sp_rm hX, harg]
      refine va_forget (fun q hq => hA _ (hS.2.2 q hq)) ?_
      refine W.widen (k := 601024) (n := 7293034) (by omega) (by omega) ?_
      exact lw_ret (sp_ex hX) (sp_co hX) hret (sp_lo hX) dL_law_2177
    · have hle : 6 * j + 6 ≤ L := by
        have h7 : ¬ (nI L - 6).toInt < i.toInt := fun h => hc (Int32.lt_iff_toInt_lt.mpr h)
        rw [h6, hii] at h7
        omega
      have harg' : ∀ c : Nat, c < 6 → vp_in (nI (6 * j) + nI c) L := fun c hc6 => by rw [nI_add]; exact vp_in_nI (by omega) (by omega)
      refine sp_aload_n (i := 0) (q := 34) hX dL_law_33 rfl rfl rfl ?_
      refine sp_iload (i := 4) (q := 36) hX dL_law_34 rfl rfl ?_
      refine lg_sld (v := xs i.toNatClampNeg) (q := 37) hX hs ⟨by rw [hi]; exact vp_in_nI (by omega) (by omega), rfl⟩ dL_law_36 rfl ?_
      refine sp_bipush (v := 63) (q := 39) hX dL_law_37 lb_63 rfl ?_
      refine sp_iand (q := 40) hX dL_law_39 rfl ?_
      obtain ⟨τ, υ, hf, hI'⟩ := hstep j σ μ (xs i.toNatClampNeg &&& 63) (xs (i + 1).toNatClampNeg) (xs (i + 2).toNatClampNeg) (xs (i + 3).toNatClampNeg) (xs (i + 4).toNatClampNeg) (xs (i + 5).toNatClampNeg) (by omega) hI
      refine hLK (i := i) hX hs ⟨⟨by rw [hi]; exact harg' 1 (by decide), rfl⟩, ⟨by rw [hi]; exact harg' 2 (by decide), rfl⟩, ⟨by rw [hi]; exact harg' 3 (by decide), rfl⟩, ⟨by rw [hi]; exact harg' 4 (by decide), rfl⟩, ⟨by rw [hi]; exact harg' 5 (by decide), rfl⟩⟩ (by omega) (by omega) hf ?_
      obtain ⟨i2, e2⟩ : ∃ x : Int32, x = i + 6 := ⟨_, rfl⟩
      refine sp_iinc (i := 4) (v := i2) (lv' := [some (.ref b), some (.ref (sx_ad X 0)), some (.ref (sx_ad X 69)), some (.ref (sx_ad X 68)), some (.int i2), none, none]) (q := 2173) hX dL_law_2170 rfl (by rw [e2]; rfl) (Nat.le_of_ble_eq_true rfl) rfl rfl rfl ?_
      refine sp_goto (tgt := 23) hX dL_law_2173 (by decide) ?_
      exact ih (j + 1) τ υ i2 hI' (by rw [e2, hi]; show nI (6 * j) + nI 6 = _; rw [nI_add]; rfl) (by omega) (by omega)
