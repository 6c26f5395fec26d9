def rmJ3_checkIndex_8e157 : Room := { frames := 0, cells := 0, slots := 0, locals := 0 }
def rmJ0_checkIndex_df160 : Room := { frames := 1, cells := 0, slots := 0, locals := 22 }
set_option maxRecDepth 100000 in
theorem cnJ3_checkIndex_8e157 {sh : sp_Sh} {l : Launch} (hst : l.stackTraces = false) {w : sp_Wd} {σ : sp_St} {a0 a1 : Int32} {fv : Value} (hv : fv = .null ∨ ∃ a, fv = .ref a) (h0 : 0 ≤ a0) (h1 : a0 < a1) : sp_Ci sh l w yJ3_checkIndex_8e157 cJ3_checkIndex_8e157 3 (some .int) rmJ3_checkIndex_8e157 0 0 σ [.int a0, .int a1, fv] σ a0 := by
  rcases hv with rfl | ⟨a, rfl⟩
  · refine sp_ci (own := RJ3) (by decide) rfl hst (Nat.le_of_ble_eq_true rfl) rfl (fun X hX hw hl hR => ?_)
    subst hw
    subst hl
    refine sp_iload_n (i := 0) (q := 1) hX dJ3_checkIndex_8e157_0 rfl rfl rfl ?_
    refine sp_if_lt (tgt := 9) (q := 4) hX dJ3_checkIndex_8e157_1 (by decide) rfl (fun hc => absurd h0 (Int32.not_le.mpr hc)) (fun hc => ?_)
    refine sp_iload_n (i := 0) (q := 5) hX dJ3_checkIndex_8e157_4 rfl rfl rfl ?_
    refine sp_iload_n (i := 1) (q := 6) hX dJ3_checkIndex_8e157_5 rfl rfl rfl ?_
    refine sp_icmp_lt (tgt := 16) (q := 9) hX dJ3_checkIndex_8e157_6 (by decide) rfl (fun hc => ?_) (fun hc => absurd h1 hc)
    refine sp_iload_n (i := 0) (q := 17) hX dJ3_checkIndex_8e157_16 rfl rfl rfl ?_
    exact sp_iret hX hR dJ3_checkIndex_8e157_17 rfl (Nat.le_of_ble_eq_true rfl) (Nat.le_of_ble_eq_true rfl)
  · refine sp_ci (own := RJ3) (by decide) rfl hst (Nat.le_of_ble_eq_true rfl) rfl (fun X hX hw hl hR => ?_)
    subst hw
    subst hl
    refine sp_iload_n (i := 0) (q := 1) hX dJ3_checkIndex_8e157_0 rfl rfl rfl ?_
    refine sp_if_lt (tgt := 9) (q := 4) hX dJ3_checkIndex_8e157_1 (by decide) rfl (fun hc => absurd h0 (Int32.not_le.mpr hc)) (fun hc => ?_)
    refine sp_iload_n (i := 0) (q := 5) hX dJ3_checkIndex_8e157_4 rfl rfl rfl ?_
    refine sp_iload_n (i := 1) (q := 6) hX dJ3_checkIndex_8e157_5 rfl rfl rfl ?_
    refine sp_icmp_lt (tgt := 16) (q := 9) hX dJ3_checkIndex_8e157_6 (by decide) rfl (fun hc => ?_) (fun hc => absurd h1 hc)
    refine sp_iload_n (i := 0) (q := 17) hX dJ3_checkIndex_8e157_16 rfl rfl rfl ?_
    exact sp_iret hX hR dJ3_checkIndex_8e157_17 rfl (Nat.le_of_ble_eq_true rfl) (Nat.le_of_ble_eq_true rfl)
def J0_checkIndex_df160 (_ : Nat) (σ : sp_St) (a0 a1 : Int32) : Option sp_St := sp_ck (decide (0 ≤ a0) && decide (a0 < a1)) (some σ)
set_option maxRecDepth 100000 in
theorem cnJ0_checkIndex_df160 {sh : sp_Sh} {l : Launch} (hst : l.stackTraces = false) {w : sp_Wd} {n : Nat} {σ τ : sp_St} {a0 a1 : Int32} (hf : J0_checkIndex_df160 n σ a0 a1 = some τ) : sp_Cv sh l w yJ0_checkIndex_df160 cJ0_checkIndex_df160 2 rmJ0_checkIndex_df160 0 0 σ [.int a0, .int a1] τ := by
  unfold J0_checkIndex_df160 at hf
  obtain ⟨hk, hf⟩ := sp_ck_some hf
  simp only [Bool.and_eq_true, decide_eq_true_eq] at hk
  refine sp_cv (own := RJ0) (by decide) rfl hst (Nat.le_of_ble_eq_true rfl) rfl (fun X hX hw hl hR => ?_)
  subst hw
  subst hl
  refine sp_iload_n (i := 0) (q := 1) hX dJ0_checkIndex_df160_0 rfl rfl rfl ?_
  refine sp_iload_n (i := 1) (q := 2) hX dJ0_checkIndex_df160_1 rfl rfl rfl ?_
  refine sp_fmt (q := 5) hX wd_1014 dJ0_checkIndex_df160_2 rfl ?_ (fun a => ?_)
  · refine sp_callSi (r := a0) (τ := σ) (As := [.int a0, .int a1, .null]) (rest := []) (q := 8) hX (cnJ3_checkIndex_8e157 (sp_st hX) (Or.inl rfl) hk.1 hk.2) cwJ0_1059 rfl rfl rfl rfl (Nat.le_of_ble_eq_true rfl) (Nat.le_of_ble_eq_true rfl) (Nat.le_of_ble_eq_true rfl) (Nat.le_of_ble_eq_true rfl) (Nat.le_of_ble_eq_true rfl) dJ0_checkIndex_df160_5 rfl ?_
    refine sp_pop (q := 9) hX dJ0_checkIndex_df160_8 rfl rfl ?_
    exact sp_vret hX hR dJ0_checkIndex_df160_9 hf (Nat.le_of_ble_eq_true rfl) (Nat.le_of_ble_eq_true rfl)
  · refine sp_callSi (r := a0) (τ := σ) (As := [.int a0, .int a1, .ref a]) (rest := []) (q := 8) hX (cnJ3_checkIndex_8e157 (sp_st hX) (Or.inr ⟨a, rfl⟩) hk.1 hk.2) cwJ0_1059 rfl rfl rfl rfl (Nat.le_of_ble_eq_true rfl) (Nat.le_of_ble_eq_true rfl) (Nat.le_of_ble_eq_true rfl) (Nat.le_of_ble_eq_true rfl) (Nat.le_of_ble_eq_true rfl) dJ0_checkIndex_df160_5 rfl ?_
    refine sp_pop (q := 9) hX dJ0_checkIndex_df160_8 rfl rfl ?_
    exact sp_vret hX hR dJ0_checkIndex_df160_9 hf (Nat.le_of_ble_eq_true rfl) (Nat.le_of_ble_eq_true rfl)
