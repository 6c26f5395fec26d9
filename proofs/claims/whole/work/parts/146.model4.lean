def rmX12_swallow : Room := { frames := 3, cells := 0, slots := 0, locals := 65 }
def X12_swallow_50 (n : Nat) (σ : sp_St) : Option (sp_St × Int32) :=
  sp_bd (X12_refuse n σ ((1 : Int32))) fun σ2 v3 =>
  some (σ2, v3)
def X12_swallow_21 (n : Nat) (σ : sp_St) : Option (sp_St × Int32) :=
  sp_bd (X12_fail n σ ((1 : Int32))) fun σ2 v3 =>
  some (σ2, v3)
def X12_swallow (n : Nat)  (σ : sp_St) (a1 : Int32) (a2 : Int32) : Option (sp_St × Int32) :=
  sp_pl (sp_si σ 0 3 ((0 : Int32))) fun σ1 =>
  sp_bd (X12_isBlade n σ1 a1) fun σ4 v5 =>
  if v5 = 0 then
    X12_swallow_21 n σ4
  else
    sp_bd (X12_isThroat n σ4 a2) fun σ7 v8 =>
    if v8 = 0 then
      X12_swallow_21 n σ7
    else
      sp_ck (sp_in a1 10) <|
      if (sp_g σ7 15 a1) = 0 then
        sp_ck (sp_in a1 20) <|
        sp_bd (X12_leftOf n σ7 a2) fun σ12 v13 =>
        if (sp_g σ7 8 a1) ≤ v13 then
          sp_bv (X12_keep n σ12) fun σ15 =>
          sp_bv (X12_putIn n σ15 a1 a2) fun σ17 =>
          sp_bd (X12_leftOf n σ17 a2) fun σ19 v20 =>
          some (σ19, v20)
        else
          X12_swallow_50 n σ12
      else
        X12_swallow_50 n σ7
set_option maxRecDepth 100000 in
set_option maxHeartbeats 4000000 in
theorem hX12_swallow_50 {X : sp_X} (hX : sp_OK shM X cX12_swallow RX12 3 rmX12_swallow) {τ : sp_St} {r : Int32} (hR : sp_Ri shM X (some .int) τ r 0 0) {n : Nat}    {σ : sp_St} (hf : X12_swallow_50 n σ = some (τ, r)) : sp_GG shM X σ 3 [some (.ref (sx_ad X 0)), none, none] [] 50 0 0 := by
  unfold X12_swallow_50 at hf
  refine sp_aload_n (i := 0) (q := 51) hX dX12_swallow_50 rfl rfl rfl ?_
  refine sp_iconst (v := 1) (q := 52) hX dX12_swallow_51 li_1 rfl ?_
  obtain ⟨σ2, v3, h1, hf⟩ := sp_bd_so hf
  refine sp_callVi (As := [.int ((1 : Int32))]) (rest := []) (q := 55) hX (cnX12_refuse (sp_st hX)  h1) cwX12_420 atM_0 rfl rfl rfl rfl rfl (Nat.le_of_ble_eq_true rfl) (Nat.le_of_ble_eq_true rfl) (Nat.le_of_ble_eq_true rfl) (Nat.le_of_ble_eq_true rfl) (Nat.le_of_ble_eq_true rfl) dX12_swallow_52 rfl ?_
  exact sp_iret hX hR dX12_swallow_55 hf (Nat.le_of_ble_eq_true rfl) (Nat.le_of_ble_eq_true rfl)
set_option maxRecDepth 100000 in
set_option maxHeartbeats 4000000 in
theorem hX12_swallow_21 {X : sp_X} (hX : sp_OK shM X cX12_swallow RX12 3 rmX12_swallow) {τ : sp_St} {r : Int32} (hR : sp_Ri shM X (some .int) τ r 0 0) {n : Nat}    {σ : sp_St} (hf : X12_swallow_21 n σ = some (τ, r)) : sp_GG shM X σ 3 [some (.ref (sx_ad X 0)), none, none] [] 21 0 0 := by
  unfold X12_swallow_21 at hf
  refine sp_aload_n (i := 0) (q := 22) hX dX12_swallow_21 rfl rfl rfl ?_
  refine sp_iconst (v := 1) (q := 23) hX dX12_swallow_22 li_1 rfl ?_
  obtain ⟨σ2, v3, h1, hf⟩ := sp_bd_so hf
  refine sp_callVi (As := [.int ((1 : Int32))]) (rest := []) (q := 26) hX (cnX12_fail (sp_st hX)  h1) cwX12_312 atM_0 rfl rfl rfl rfl rfl (Nat.le_of_ble_eq_true rfl) (Nat.le_of_ble_eq_true rfl) (Nat.le_of_ble_eq_true rfl) (Nat.le_of_ble_eq_true rfl) (Nat.le_of_ble_eq_true rfl) dX12_swallow_23 rfl ?_
  exact sp_iret hX hR dX12_swallow_26 hf (Nat.le_of_ble_eq_true rfl) (Nat.le_of_ble_eq_true rfl)
set_option maxRecDepth 100000 in
set_option maxHeartbeats 4000000 in
theorem hX12_swallow {X : sp_X} (hX : sp_OK shM X cX12_swallow RX12 3 rmX12_swallow) {τ : sp_St} {r : Int32} (hR : sp_Ri shM X (some .int) τ r 0 0) {n : Nat}  {σ : sp_St} {a1 : Int32} {a2 : Int32}  (hf : X12_swallow n σ a1 a2 = some (τ, r)) : sp_GG shM X σ 3 [some (.ref (sx_ad X 0)), some (.int a1), some (.int a2)] [] 0 0 0 := by
  unfold X12_swallow at hf
  refine sp_aload_n (i := 0) (q := 1) hX dX12_swallow_0 rfl rfl rfl ?_
  refine sp_iconst (v := 0) (q := 2) hX dX12_swallow_1 li_0 rfl ?_
  obtain ⟨σ1, e2, hf⟩ := sp_pl_some hf
  refine sp_puti (q := 5) hX fpX12_158 fkX12_3 atM_0 dX12_swallow_2 rfl ?_
  refine sp_nms e2 ?_
  refine sp_aload_n (i := 0) (q := 6) hX dX12_swallow_5 rfl rfl rfl ?_
  refine sp_iload_n (i := 1) (q := 7) hX dX12_swallow_6 rfl rfl rfl ?_
  obtain ⟨σ4, v5, h3, hf⟩ := sp_bd_so hf
  refine sp_callVi (As := [.int a1]) (rest := []) (q := 10) hX (cnX12_isBlade (sp_st hX)  h3) cwX12_399 atM_0 rfl rfl rfl rfl rfl (Nat.le_of_ble_eq_true rfl) (Nat.le_of_ble_eq_true rfl) (Nat.le_of_ble_eq_true rfl) (Nat.le_of_ble_eq_true rfl) (Nat.le_of_ble_eq_true rfl) dX12_swallow_7 rfl ?_
  refine sp_if_eq (tgt := 21) (q := 13) hX dX12_swallow_10 (by decide) rfl (fun hc => ?_) (fun hc => ?_)
  · rw [if_pos hc] at hf
    refine sp_drop (lv' := [some (.ref (sx_ad X 0)), none, none]) (And.intro rfl trivial) ?_
    exact hX12_swallow_21 hX hR hf
  · rw [if_neg hc] at hf
    refine sp_aload_n (i := 0) (q := 14) hX dX12_swallow_13 rfl rfl rfl ?_
    refine sp_iload_n (i := 2) (q := 15) hX dX12_swallow_14 rfl rfl rfl ?_
    obtain ⟨σ7, v8, h6, hf⟩ := sp_bd_so hf
    refine sp_callVi (As := [.int a2]) (rest := []) (q := 18) hX (cnX12_isThroat (sp_st hX)  h6) cwX12_402 atM_0 rfl rfl rfl rfl rfl (Nat.le_of_ble_eq_true rfl) (Nat.le_of_ble_eq_true rfl) (Nat.le_of_ble_eq_true rfl) (Nat.le_of_ble_eq_true rfl) (Nat.le_of_ble_eq_true rfl) dX12_swallow_15 rfl ?_
    refine sp_if_ne (tgt := 27) (q := 21) hX dX12_swallow_18 (by decide) rfl (fun hc => ?_) (fun hc => ?_)
    · rw [if_neg hc] at hf
      refine sp_aload_n (i := 0) (q := 28) hX dX12_swallow_27 rfl rfl rfl ?_
      refine sp_gets (t := 15) (q := 31) hX flX12_72 fkX12_27 atM_0 srM_0_27 dX12_swallow_28 rfl ?_
      refine sp_iload_n (i := 1) (q := 32) hX dX12_swallow_31 rfl rfl rfl ?_
      obtain ⟨h9, hf⟩ := sp_ck_some hf
      refine sp_iald (q := 33) hX arM_15 h9 dX12_swallow_32 rfl ?_
      refine sp_if_ne (tgt := 50) (q := 36) hX dX12_swallow_33 (by decide) rfl (fun hc => ?_) (fun hc => ?_)
      · rw [if_neg hc] at hf
        refine sp_drop (lv' := [some (.ref (sx_ad X 0)), none, none]) (And.intro rfl trivial) ?_
        exact hX12_swallow_50 hX hR hf
      · rw [if_pos hc] at hf
        refine sp_aload_n (i := 0) (q := 37) hX dX12_swallow_36 rfl rfl rfl ?_
        refine sp_gets (t := 8) (q := 40) hX flX12_49 fkX12_9 atM_0 srM_0_9 dX12_swallow_37 rfl ?_
        refine sp_iload_n (i := 1) (q := 41) hX dX12_swallow_40 rfl rfl rfl ?_
        obtain ⟨h10, hf⟩ := sp_ck_some hf
        refine sp_iald (q := 42) hX arM_8 h10 dX12_swallow_41 rfl ?_
        refine sp_aload_n (i := 0) (q := 43) hX dX12_swallow_42 rfl rfl rfl ?_
        refine sp_iload_n (i := 2) (q := 44) hX dX12_swallow_43 rfl rfl rfl ?_
        obtain ⟨σ12, v13, h11, hf⟩ := sp_bd_so hf
        refine sp_callVi (As := [.int a2]) (rest := [.int (sp_g σ7 8 a1)]) (q := 47) hX (cnX12_leftOf (sp_st hX)  h11) cwX12_405 atM_0 rfl rfl rfl rfl rfl (Nat.le_of_ble_eq_true rfl) (Nat.le_of_ble_eq_true rfl) (Nat.le_of_ble_eq_true rfl) (Nat.le_of_ble_eq_true rfl) (Nat.le_of_ble_eq_true rfl) dX12_swallow_44 rfl ?_
        refine sp_icmp_le (tgt := 56) (q := 50) hX dX12_swallow_47 (by decide) rfl (fun hc => ?_) (fun hc => ?_)
        · rw [if_pos hc] at hf
          refine sp_aload_n (i := 0) (q := 57) hX dX12_swallow_56 rfl rfl rfl ?_
          obtain ⟨σ15, h14, hf⟩ := sp_bv_so hf
          refine sp_callVv (As := []) (rest := []) (q := 60) hX (cnX12_keep (sp_st hX)  h14) cwX12_423 atM_0 rfl rfl rfl rfl rfl (Nat.le_of_ble_eq_true rfl) (Nat.le_of_ble_eq_true rfl) (Nat.le_of_ble_eq_true rfl) (Nat.le_of_ble_eq_true rfl) (Nat.le_of_ble_eq_true rfl) dX12_swallow_57 rfl ?_
          refine sp_aload_n (i := 0) (q := 61) hX dX12_swallow_60 rfl rfl rfl ?_
          refine sp_iload_n (i := 1) (q := 62) hX dX12_swallow_61 rfl rfl rfl ?_
          refine sp_iload_n (i := 2) (q := 63) hX dX12_swallow_62 rfl rfl rfl ?_
          obtain ⟨σ17, h16, hf⟩ := sp_bv_so hf
          refine sp_callVv (As := [.int a1, .int a2]) (rest := []) (q := 66) hX (cnX12_putIn (sp_st hX)  h16) cwX12_429 atM_0 rfl rfl rfl rfl rfl (Nat.le_of_ble_eq_true rfl) (Nat.le_of_ble_eq_true rfl) (Nat.le_of_ble_eq_true rfl) (Nat.le_of_ble_eq_true rfl) (Nat.le_of_ble_eq_true rfl) dX12_swallow_63 rfl ?_
          refine sp_aload_n (i := 0) (q := 67) hX dX12_swallow_66 rfl rfl rfl ?_
          refine sp_iload_n (i := 2) (q := 68) hX dX12_swallow_67 rfl rfl rfl ?_
          obtain ⟨σ19, v20, h18, hf⟩ := sp_bd_so hf
          refine sp_callVi (As := [.int a2]) (rest := []) (q := 71) hX (cnX12_leftOf (sp_st hX)  h18) cwX12_405 atM_0 rfl rfl rfl rfl rfl (Nat.le_of_ble_eq_true rfl) (Nat.le_of_ble_eq_true rfl) (Nat.le_of_ble_eq_true rfl) (Nat.le_of_ble_eq_true rfl) (Nat.le_of_ble_eq_true rfl) dX12_swallow_68 rfl ?_
          exact sp_iret hX hR dX12_swallow_71 hf (Nat.le_of_ble_eq_true rfl) (Nat.le_of_ble_eq_true rfl)
        · rw [if_neg hc] at hf
          refine sp_drop (lv' := [some (.ref (sx_ad X 0)), none, none]) (And.intro rfl trivial) ?_
          exact hX12_swallow_50 hX hR hf
    · rw [if_pos hc] at hf
      refine sp_drop (lv' := [some (.ref (sx_ad X 0)), none, none]) (And.intro rfl trivial) ?_
      exact hX12_swallow_21 hX hR hf
set_option maxRecDepth 100000 in
set_option maxHeartbeats 4000000 in
theorem cnX12_swallow {l : Launch} (hst : l.stackTraces = false) {w : sp_Wd} {n : Nat}  {σ : sp_St} {a1 : Int32} {a2 : Int32} {τ : sp_St} {r : Int32}  (hf : X12_swallow n σ a1 a2 = some (τ, r)) : sp_Ci shM l w yX12_swallow cX12_swallow 3 (some .int) rmX12_swallow 0 0 σ [.ref (w.2.1 0), .int a1, .int a2] τ r :=
  sp_ci (own := RX12) (by decide) rfl hst (Nat.le_of_ble_eq_true rfl) rfl (fun X hX hw hl hR => by subst hw; subst hl; exact hX12_swallow hX hR   hf)
def rmX12_draw : Room := { frames := 2, cells := 0, slots := 0, locals := 49 }
def X12_draw (n : Nat)  (σ : sp_St) (a1 : Int32) : Option (sp_St × Int32) :=
  sp_pl (sp_si σ 0 3 ((0 : Int32))) fun σ1 =>
  sp_bd (X12_isThroat n σ1 a1) fun σ4 v5 =>
  if v5 = 0 then
    sp_bd (X12_fail n σ4 ((1 : Int32))) fun σ18 v19 =>
    some (σ18, v19)
  else
    sp_ck (sp_in a1 5) <|
    if (sp_g σ4 17 a1) = 0 then
      sp_bd (X12_refuse n σ4 ((1 : Int32))) fun σ15 v16 =>
      some (σ15, v16)
    else
      sp_bv (X12_keep n σ4) fun σ8 =>
      sp_bd (X12_topOf n σ8 a1) fun σ10 v11 =>
      sp_bv (X12_takeOut n σ10 v11 ((0 : Int32))) fun σ13 =>
      some (σ13, v11)
set_option maxRecDepth 100000 in
set_option maxHeartbeats 4000000 in
theorem hX12_draw {X : sp_X} (hX : sp_OK shM X cX12_draw RX12 3 rmX12_draw) {τ : sp_St} {r : Int32} (hR : sp_Ri shM X (some .int) τ r 0 0) {n : Nat}  {σ : sp_St} {a1 : Int32}  (hf : X12_draw n σ a1 = some (τ, r)) : sp_GG shM X σ 3 [some (.ref (sx_ad X 0)), some (.int a1), none] [] 0 0 0 := by
  unfold X12_draw at hf
  refine sp_aload_n (i := 0) (q := 1) hX dX12_draw_0 rfl rfl rfl ?_
  refine sp_iconst (v := 0) (q := 2) hX dX12_draw_1 li_0 rfl ?_
  obtain ⟨σ1, e2, hf⟩ := sp_pl_some hf
  refine sp_puti (q := 5) hX fpX12_158 fkX12_3 atM_0 dX12_draw_2 rfl ?_
  refine sp_nms e2 ?_
  refine sp_aload_n (i := 0) (q := 6) hX dX12_draw_5 rfl rfl rfl ?_
  refine sp_iload_n (i := 1) (q := 7) hX dX12_draw_6 rfl rfl rfl ?_
  obtain ⟨σ4, v5, h3, hf⟩ := sp_bd_so hf
  refine sp_callVi (As := [.int a1]) (rest := []) (q := 10) hX (cnX12_isThroat (sp_st hX)  h3) cwX12_402 atM_0 rfl rfl rfl rfl rfl (Nat.le_of_ble_eq_true rfl) (Nat.le_of_ble_eq_true rfl) (Nat.le_of_ble_eq_true rfl) (Nat.le_of_ble_eq_true rfl) (Nat.le_of_ble_eq_true rfl) dX12_draw_7 rfl ?_
  refine sp_if_ne (tgt := 19) (q := 13) hX dX12_draw_10 (by decide) rfl (fun hc => ?_) (fun hc => ?_)
  · rw [if_neg hc] at hf
    refine sp_aload_n (i := 0) (q := 20) hX dX12_draw_19 rfl rfl rfl ?_
    refine sp_gets (t := 17) (q := 23) hX flX12_78 fkX12_29 atM_0 srM_0_29 dX12_draw_20 rfl ?_
    refine sp_iload_n (i := 1) (q := 24) hX dX12_draw_23 rfl rfl rfl ?_
    obtain ⟨h6, hf⟩ := sp_ck_some hf
    refine sp_iald (q := 25) hX arM_17 h6 dX12_draw_24 rfl ?_
    refine sp_if_ne (tgt := 34) (q := 28) hX dX12_draw_25 (by decide) rfl (fun hc => ?_) (fun hc => ?_)
    · rw [if_neg hc] at hf
      refine sp_aload_n (i := 0) (q := 35) hX dX12_draw_34 rfl rfl rfl ?_
      obtain ⟨σ8, h7, hf⟩ := sp_bv_so hf
      refine sp_callVv (As := []) (rest := []) (q := 38) hX (cnX12_keep (sp_st hX)  h7) cwX12_423 atM_0 rfl rfl rfl rfl rfl (Nat.le_of_ble_eq_true rfl) (Nat.le_of_ble_eq_true rfl) (Nat.le_of_ble_eq_true rfl) (Nat.le_of_ble_eq_true rfl) (Nat.le_of_ble_eq_true rfl) dX12_draw_35 rfl ?_
      refine sp_aload_n (i := 0) (q := 39) hX dX12_draw_38 rfl rfl rfl ?_
      refine sp_iload_n (i := 1) (q := 40) hX dX12_draw_39 rfl rfl rfl ?_
      obtain ⟨σ10, v11, h9, hf⟩ := sp_bd_so hf
      refine sp_callVi (As := [.int a1]) (rest := []) (q := 43) hX (cnX12_topOf (sp_st hX)  h9) cwX12_387 atM_0 rfl rfl rfl rfl rfl (Nat.le_of_ble_eq_true rfl) (Nat.le_of_ble_eq_true rfl) (Nat.le_of_ble_eq_true rfl) (Nat.le_of_ble_eq_true rfl) (Nat.le_of_ble_eq_true rfl) dX12_draw_40 rfl ?_
      refine sp_istore_n (i := 2) (lv' := [some (.ref (sx_ad X 0)), some (.int a1), some (.int v11)]) (q := 44) hX dX12_draw_43 rfl (Nat.le_of_ble_eq_true rfl) rfl rfl rfl ?_
      refine sp_aload_n (i := 0) (q := 45) hX dX12_draw_44 rfl rfl rfl ?_
      refine sp_iload_n (i := 2) (q := 46) hX dX12_draw_45 rfl rfl rfl ?_
      refine sp_iconst (v := 0) (q := 47) hX dX12_draw_46 li_0 rfl ?_
      obtain ⟨σ13, h12, hf⟩ := sp_bv_so hf
      refine sp_callVv (As := [.int v11, .int ((0 : Int32))]) (rest := []) (q := 50) hX (cnX12_takeOut (sp_st hX)  h12) cwX12_377 atM_0 rfl rfl rfl rfl rfl (Nat.le_of_ble_eq_true rfl) (Nat.le_of_ble_eq_true rfl) (Nat.le_of_ble_eq_true rfl) (Nat.le_of_ble_eq_true rfl) (Nat.le_of_ble_eq_true rfl) dX12_draw_47 rfl ?_
      refine sp_iload_n (i := 2) (q := 51) hX dX12_draw_50 rfl rfl rfl ?_
      exact sp_iret hX hR dX12_draw_51 hf (Nat.le_of_ble_eq_true rfl) (Nat.le_of_ble_eq_true rfl)
    · rw [if_pos hc] at hf
      refine sp_aload_n (i := 0) (q := 29) hX dX12_draw_28 rfl rfl rfl ?_
      refine sp_iconst (v := 1) (q := 30) hX dX12_draw_29 li_1 rfl ?_
      obtain ⟨σ15, v16, h14, hf⟩ := sp_bd_so hf
      refine sp_callVi (As := [.int ((1 : Int32))]) (rest := []) (q := 33) hX (cnX12_refuse (sp_st hX)  h14) cwX12_420 atM_0 rfl rfl rfl rfl rfl (Nat.le_of_ble_eq_true rfl) (Nat.le_of_ble_eq_true rfl) (Nat.le_of_ble_eq_true rfl) (Nat.le_of_ble_eq_true rfl) (Nat.le_of_ble_eq_true rfl) dX12_draw_30 rfl ?_
      exact sp_iret hX hR dX12_draw_33 hf (Nat.le_of_ble_eq_true rfl) (Nat.le_of_ble_eq_true rfl)
  · rw [if_pos hc] at hf
    refine sp_aload_n (i := 0) (q := 14) hX dX12_draw_13 rfl rfl rfl ?_
    refine sp_iconst (v := 1) (q := 15) hX dX12_draw_14 li_1 rfl ?_
    obtain ⟨σ18, v19, h17, hf⟩ := sp_bd_so hf
    refine sp_callVi (As := [.int ((1 : Int32))]) (rest := []) (q := 18) hX (cnX12_fail (sp_st hX)  h17) cwX12_312 atM_0 rfl rfl rfl rfl rfl (Nat.le_of_ble_eq_true rfl) (Nat.le_of_ble_eq_true rfl) (Nat.le_of_ble_eq_true rfl) (Nat.le_of_ble_eq_true rfl) (Nat.le_of_ble_eq_true rfl) dX12_draw_15 rfl ?_
    exact sp_iret hX hR dX12_draw_18 hf (Nat.le_of_ble_eq_true rfl) (Nat.le_of_ble_eq_true rfl)
set_option maxRecDepth 100000 in
set_option maxHeartbeats 4000000 in
theorem cnX12_draw {l : Launch} (hst : l.stackTraces = false) {w : sp_Wd} {n : Nat}  {σ : sp_St} {a1 : Int32} {τ : sp_St} {r : Int32}  (hf : X12_draw n σ a1 = some (τ, r)) : sp_Ci shM l w yX12_draw cX12_draw 3 (some .int) rmX12_draw 0 0 σ [.ref (w.2.1 0), .int a1] τ r :=
  sp_ci (own := RX12) (by decide) rfl hst (Nat.le_of_ble_eq_true rfl) rfl (fun X hX hw hl hR => by subst hw; subst hl; exact hX12_draw hX hR   hf)
def rmX12_broth : Room := { frames := 2, cells := 0, slots := 0, locals := 46 }
def X12_broth (n : Nat)  (σ : sp_St) (a1 : Int32) (a2 : Int32) : Option (sp_St × Int32) :=
  sp_pl (sp_si σ 0 3 ((0 : Int32))) fun σ1 =>
  sp_bd (X12_isThroat n σ1 a1) fun σ4 v5 =>
  if v5 = 0 then
    sp_bd (X12_fail n σ4 ((1 : Int32))) fun σ22 v23 =>
    some (σ22, v23)
  else
    sp_bd (X12_isIn n σ4 a2.toInt64 ((1 : Int64)) ((20 : Int64))) fun σ7 v8 =>
    if v8 = 0 then
      sp_bd (X12_refuse n σ7 ((1 : Int32))) fun σ19 v20 =>
      some (σ19, v20)
    else
      sp_bv (X12_keep n σ7) fun σ10 =>
      sp_ck (sp_in a1 5) <|
      sp_pl (sp_min ((99 : Int32)) ((sp_g σ10 16 a1) + a2)) fun v12 =>
      sp_ck (sp_in a1 5) <|
      sp_pl (sp_sa σ10 16 a1.toNatClampNeg v12) fun σ15 =>
      sp_ck (sp_in a1 5) <|
      some (σ15, sp_g σ15 16 a1)
set_option maxRecDepth 100000 in
set_option maxHeartbeats 4000000 in
theorem hX12_broth {X : sp_X} (hX : sp_OK shM X cX12_broth RX12 3 rmX12_broth) {τ : sp_St} {r : Int32} (hR : sp_Ri shM X (some .int) τ r 0 0) {n : Nat}  {σ : sp_St} {a1 : Int32} {a2 : Int32}  (hf : X12_broth n σ a1 a2 = some (τ, r)) : sp_GG shM X σ 3 [some (.ref (sx_ad X 0)), some (.int a1), some (.int a2)] [] 0 0 0 := by
  unfold X12_broth at hf
  refine sp_aload_n (i := 0) (q := 1) hX dX12_broth_0 rfl rfl rfl ?_
  refine sp_iconst (v := 0) (q := 2) hX dX12_broth_1 li_0 rfl ?_
  obtain ⟨σ1, e2, hf⟩ := sp_pl_some hf
  refine sp_puti (q := 5) hX fpX12_158 fkX12_3 atM_0 dX12_broth_2 rfl ?_
  refine sp_nms e2 ?_
  refine sp_aload_n (i := 0) (q := 6) hX dX12_broth_5 rfl rfl rfl ?_
  refine sp_iload_n (i := 1) (q := 7) hX dX12_broth_6 rfl rfl rfl ?_
  obtain ⟨σ4, v5, h3, hf⟩ := sp_bd_so hf
  refine sp_callVi (As := [.int a1]) (rest := []) (q := 10) hX (cnX12_isThroat (sp_st hX)  h3) cwX12_402 atM_0 rfl rfl rfl rfl rfl (Nat.le_of_ble_eq_true rfl) (Nat.le_of_ble_eq_true rfl) (Nat.le_of_ble_eq_true rfl) (Nat.le_of_ble_eq_true rfl) (Nat.le_of_ble_eq_true rfl) dX12_broth_7 rfl ?_
  refine sp_if_ne (tgt := 19) (q := 13) hX dX12_broth_10 (by decide) rfl (fun hc => ?_) (fun hc => ?_)
  · rw [if_neg hc] at hf
    refine sp_iload_n (i := 2) (q := 20) hX dX12_broth_19 rfl rfl rfl ?_
    refine sp_i2l (q := 21) hX dX12_broth_20 rfl ?_
    refine sp_lconst (v := 1) (q := 22) hX dX12_broth_21 (by decide) rfl ?_
    refine sp_ldc2 (v := 20) (q := 25) hX wd_2028 dX12_broth_22 rfl ?_
    obtain ⟨σ7, v8, h6, hf⟩ := sp_bd_so hf
    refine sp_callSi (As := [.long a2.toInt64, .long ((1 : Int64)), .long ((20 : Int64))]) (rest := []) (q := 28) hX (cnX12_isIn (sp_st hX)  h6) cwX12_161 rfl rfl rfl rfl (Nat.le_of_ble_eq_true rfl) (Nat.le_of_ble_eq_true rfl) (Nat.le_of_ble_eq_true rfl) (Nat.le_of_ble_eq_true rfl) (Nat.le_of_ble_eq_true rfl) dX12_broth_25 rfl ?_
    refine sp_if_ne (tgt := 37) (q := 31) hX dX12_broth_28 (by decide) rfl (fun hc => ?_) (fun hc => ?_)
    · rw [if_neg hc] at hf
      refine sp_aload_n (i := 0) (q := 38) hX dX12_broth_37 rfl rfl rfl ?_
      obtain ⟨σ10, h9, hf⟩ := sp_bv_so hf
      refine sp_callVv (As := []) (rest := []) (q := 41) hX (cnX12_keep (sp_st hX)  h9) cwX12_423 atM_0 rfl rfl rfl rfl rfl (Nat.le_of_ble_eq_true rfl) (Nat.le_of_ble_eq_true rfl) (Nat.le_of_ble_eq_true rfl) (Nat.le_of_ble_eq_true rfl) (Nat.le_of_ble_eq_true rfl) dX12_broth_38 rfl ?_
      refine sp_aload_n (i := 0) (q := 42) hX dX12_broth_41 rfl rfl rfl ?_
      refine sp_gets (t := 16) (q := 45) hX flX12_75 fkX12_28 atM_0 srM_0_28 dX12_broth_42 rfl ?_
      refine sp_iload_n (i := 1) (q := 46) hX dX12_broth_45 rfl rfl rfl ?_
      refine sp_bipush (v := 99) (q := 48) hX dX12_broth_46 lb_99 rfl ?_
      refine sp_aload_n (i := 0) (q := 49) hX dX12_broth_48 rfl rfl rfl ?_
      refine sp_gets (t := 16) (q := 52) hX flX12_75 fkX12_28 atM_0 srM_0_28 dX12_broth_49 rfl ?_
      refine sp_iload_n (i := 1) (q := 53) hX dX12_broth_52 rfl rfl rfl ?_
      obtain ⟨h11, hf⟩ := sp_ck_some hf
      refine sp_iald (q := 54) hX arM_16 h11 dX12_broth_53 rfl ?_
      refine sp_iload_n (i := 2) (q := 55) hX dX12_broth_54 rfl rfl rfl ?_
      refine sp_iadd (q := 56) hX dX12_broth_55 rfl ?_
      obtain ⟨v12, e13, hf⟩ := sp_pl_some hf
      refine sp_mmin (q := 59) hX wd_1825 wd_607 wd_144 wd_608 (Nat.le_of_ble_eq_true rfl) (Nat.le_of_ble_eq_true rfl) (Nat.le_of_ble_eq_true rfl) (Nat.le_of_ble_eq_true rfl) dX12_broth_56 rfl ?_
      refine sp_nmi e13 ?_
      obtain ⟨h14, hf⟩ := sp_ck_some hf
      obtain ⟨σ15, e16, hf⟩ := sp_pl_some hf
      refine sp_iast (q := 60) hX arM_16 h14 dX12_broth_59 rfl ?_
      refine sp_nms e16 ?_
      refine sp_aload_n (i := 0) (q := 61) hX dX12_broth_60 rfl rfl rfl ?_
      refine sp_gets (t := 16) (q := 64) hX flX12_75 fkX12_28 atM_0 srM_0_28 dX12_broth_61 rfl ?_
      refine sp_iload_n (i := 1) (q := 65) hX dX12_broth_64 rfl rfl rfl ?_
      obtain ⟨h17, hf⟩ := sp_ck_some hf
      refine sp_iald (q := 66) hX arM_16 h17 dX12_broth_65 rfl ?_
      exact sp_iret hX hR dX12_broth_66 hf (Nat.le_of_ble_eq_true rfl) (Nat.le_of_ble_eq_true rfl)
    · rw [if_pos hc] at hf
      refine sp_aload_n (i := 0) (q := 32) hX dX12_broth_31 rfl rfl rfl ?_
      refine sp_iconst (v := 1) (q := 33) hX dX12_broth_32 li_1 rfl ?_
      obtain ⟨σ19, v20, h18, hf⟩ := sp_bd_so hf
      refine sp_callVi (As := [.int ((1 : Int32))]) (rest := []) (q := 36) hX (cnX12_refuse (sp_st hX)  h18) cwX12_420 atM_0 rfl rfl rfl rfl rfl (Nat.le_of_ble_eq_true rfl) (Nat.le_of_ble_eq_true rfl) (Nat.le_of_ble_eq_true rfl) (Nat.le_of_ble_eq_true rfl) (Nat.le_of_ble_eq_true rfl) dX12_broth_33 rfl ?_
      exact sp_iret hX hR dX12_broth_36 hf (Nat.le_of_ble_eq_true rfl) (Nat.le_of_ble_eq_true rfl)
  · rw [if_pos hc] at hf
    refine sp_aload_n (i := 0) (q := 14) hX dX12_broth_13 rfl rfl rfl ?_
    refine sp_iconst (v := 1) (q := 15) hX dX12_broth_14 li_1 rfl ?_
    obtain ⟨σ22, v23, h21, hf⟩ := sp_bd_so hf
    refine sp_callVi (As := [.int ((1 : Int32))]) (rest := []) (q := 18) hX (cnX12_fail (sp_st hX)  h21) cwX12_312 atM_0 rfl rfl rfl rfl rfl (Nat.le_of_ble_eq_true rfl) (Nat.le_of_ble_eq_true rfl) (Nat.le_of_ble_eq_true rfl) (Nat.le_of_ble_eq_true rfl) (Nat.le_of_ble_eq_true rfl) dX12_broth_15 rfl ?_
    exact sp_iret hX hR dX12_broth_18 hf (Nat.le_of_ble_eq_true rfl) (Nat.le_of_ble_eq_true rfl)
set_option maxRecDepth 100000 in
set_option maxHeartbeats 4000000 in
theorem cnX12_broth {l : Launch} (hst : l.stackTraces = false) {w : sp_Wd} {n : Nat}  {σ : sp_St} {a1 : Int32} {a2 : Int32} {τ : sp_St} {r : Int32}  (hf : X12_broth n σ a1 a2 = some (τ, r)) : sp_Ci shM l w yX12_broth cX12_broth 3 (some .int) rmX12_broth 0 0 σ [.ref (w.2.1 0), .int a1, .int a2] τ r :=
  sp_ci (own := RX12) (by decide) rfl hst (Nat.le_of_ble_eq_true rfl) rfl (fun X hX hw hl hR => by subst hw; subst hl; exact hX12_broth hX hR   hf)
def rmX12_make : Room := { frames := 2, cells := 0, slots := 0, locals := 45 }
def X12_make_44 (n : Nat) (σ : sp_St) : Option (sp_St × Int32) :=
  sp_pl (sp_sa σ 12 ((1 : Int32)).toNatClampNeg ((sp_g σ 12 ((1 : Int32))) + ((1 : Int32)))) fun σ1 =>
  some (σ1, (0 : Int32))
def X12_make_19 (n : Nat) (σ : sp_St) : Option (sp_St × Int32) :=
  sp_bd (X12_failing n σ ((1 : Int32))) fun σ2 v3 =>
  sp_ck (sp_zb v3) <|
  some (σ2, v3)
def X12_make (n : Nat)  (σ : sp_St) (a1 : Int32) (a2 : Int32) (a3 : Int32) : Option (sp_St × Int32) :=
  sp_pl (sp_si σ 0 3 ((0 : Int32))) fun σ1 =>
  sp_bd (X12_isHouse n σ1 a1) fun σ4 v5 =>
  if v5 = 0 then
    X12_make_19 n σ4
  else
    sp_bd (X12_isHouse n σ4 a2) fun σ7 v8 =>
    if v8 = 0 then
      X12_make_19 n σ7
    else
      if a1 = a2 then
        X12_make_44 n σ7
      else
        sp_ck (sp_in a1 6) <|
        sp_bd (X12_isOf n σ7 (sp_g σ7 19 a1) a2) fun σ11 v12 =>
        if v12 = a3 then
          X12_make_44 n σ11
        else
          sp_bv (X12_keep n σ11) fun σ14 =>
          sp_ck (sp_in a1 6) <|
          sp_ck (sp_in a1 6) <|
          sp_pl (sp_sa σ14 19 a1.toNatClampNeg ((sp_g σ14 19 a1) ^^^ (((1 : Int32)) <<< (a2 &&& 31)))) fun σ17 =>
          sp_ck (sp_in a2 6) <|
          sp_ck (sp_in a2 6) <|
          sp_pl (sp_sa σ17 19 a2.toNatClampNeg ((sp_g σ17 19 a2) ^^^ (((1 : Int32)) <<< (a1 &&& 31)))) fun σ21 =>
          some (σ21, (1 : Int32))
set_option maxRecDepth 100000 in
set_option maxHeartbeats 4000000 in
theorem hX12_make_44 {X : sp_X} (hX : sp_OK shM X cX12_make RX12 4 rmX12_make) {τ : sp_St} {r : Int32} (hR : sp_Ri shM X (some .boolean) τ r 0 0) {n : Nat}    {σ : sp_St} (hf : X12_make_44 n σ = some (τ, r)) : sp_GG shM X σ 4 [some (.ref (sx_ad X 0)), none, none, none] [] 44 0 0 := by
  unfold X12_make_44 at hf
  refine sp_aload_n (i := 0) (q := 45) hX dX12_make_44 rfl rfl rfl ?_
  refine sp_gets (t := 12) (q := 48) hX flX12_60 fkX12_13 atM_0 srM_0_13 dX12_make_45 rfl ?_
  refine sp_iconst (v := 1) (q := 49) hX dX12_make_48 li_1 rfl ?_
  refine sp_dup2 (q := 50) hX dX12_make_49 rfl rfl rfl ?_
  refine sp_iald (q := 51) hX arM_12 (by decide) dX12_make_50 rfl ?_
  refine sp_iconst (v := 1) (q := 52) hX dX12_make_51 li_1 rfl ?_
  refine sp_iadd (q := 53) hX dX12_make_52 rfl ?_
  obtain ⟨σ1, e2, hf⟩ := sp_pl_some hf
  refine sp_iast (q := 54) hX arM_12 (by decide) dX12_make_53 rfl ?_
  refine sp_nms e2 ?_
  refine sp_iconst (v := 0) (q := 55) hX dX12_make_54 li_0 rfl ?_
  exact sp_zret hX hR (by decide) dX12_make_55 hf (Nat.le_of_ble_eq_true rfl) (Nat.le_of_ble_eq_true rfl)
set_option maxRecDepth 100000 in
set_option maxHeartbeats 4000000 in
theorem hX12_make_19 {X : sp_X} (hX : sp_OK shM X cX12_make RX12 4 rmX12_make) {τ : sp_St} {r : Int32} (hR : sp_Ri shM X (some .boolean) τ r 0 0) {n : Nat}    {σ : sp_St} (hf : X12_make_19 n σ = some (τ, r)) : sp_GG shM X σ 4 [some (.ref (sx_ad X 0)), none, none, none] [] 19 0 0 := by
  unfold X12_make_19 at hf
  refine sp_aload_n (i := 0) (q := 20) hX dX12_make_19 rfl rfl rfl ?_
  refine sp_iconst (v := 1) (q := 21) hX dX12_make_20 li_1 rfl ?_
  obtain ⟨σ2, v3, h1, hf⟩ := sp_bd_so hf
  refine sp_callVi (As := [.int ((1 : Int32))]) (rest := []) (q := 24) hX (cnX12_failing (sp_st hX)  h1) cwX12_411 atM_0 rfl rfl rfl rfl rfl (Nat.le_of_ble_eq_true rfl) (Nat.le_of_ble_eq_true rfl) (Nat.le_of_ble_eq_true rfl) (Nat.le_of_ble_eq_true rfl) (Nat.le_of_ble_eq_true rfl) dX12_make_21 rfl ?_
  obtain ⟨h4, hf⟩ := sp_ck_some hf
  exact sp_zret hX hR h4 dX12_make_24 hf (Nat.le_of_ble_eq_true rfl) (Nat.le_of_ble_eq_true rfl)
set_option maxRecDepth 100000 in
set_option maxHeartbeats 4000000 in
theorem hX12_make {X : sp_X} (hX : sp_OK shM X cX12_make RX12 4 rmX12_make) {τ : sp_St} {r : Int32} (hR : sp_Ri shM X (some .boolean) τ r 0 0) {n : Nat}  {σ : sp_St} {a1 : Int32} {a2 : Int32} {a3 : Int32}  (hf : X12_make n σ a1 a2 a3 = some (τ, r)) : sp_GG shM X σ 4 [some (.ref (sx_ad X 0)), some (.int a1), some (.int a2), some (.int a3)] [] 0 0 0 := by
  unfold X12_make at hf
  refine sp_aload_n (i := 0) (q := 1) hX dX12_make_0 rfl rfl rfl ?_
  refine sp_iconst (v := 0) (q := 2) hX dX12_make_1 li_0 rfl ?_
  obtain ⟨σ1, e2, hf⟩ := sp_pl_some hf
  refine sp_puti (q := 5) hX fpX12_158 fkX12_3 atM_0 dX12_make_2 rfl ?_
  refine sp_nms e2 ?_
  refine sp_iload_n (i := 1) (q := 6) hX dX12_make_5 rfl rfl rfl ?_
  obtain ⟨σ4, v5, h3, hf⟩ := sp_bd_so hf
  refine sp_callSi (As := [.int a1]) (rest := []) (q := 9) hX (cnX12_isHouse (sp_st hX)  h3) cwX12_408 rfl rfl rfl rfl (Nat.le_of_ble_eq_true rfl) (Nat.le_of_ble_eq_true rfl) (Nat.le_of_ble_eq_true rfl) (Nat.le_of_ble_eq_true rfl) (Nat.le_of_ble_eq_true rfl) dX12_make_6 rfl ?_
  refine sp_if_eq (tgt := 19) (q := 12) hX dX12_make_9 (by decide) rfl (fun hc => ?_) (fun hc => ?_)
  · rw [if_pos hc] at hf
    refine sp_drop (lv' := [some (.ref (sx_ad X 0)), none, none, none]) (And.intro rfl trivial) ?_
    exact hX12_make_19 hX hR hf
  · rw [if_neg hc] at hf
    refine sp_iload_n (i := 2) (q := 13) hX dX12_make_12 rfl rfl rfl ?_
    obtain ⟨σ7, v8, h6, hf⟩ := sp_bd_so hf
    refine sp_callSi (As := [.int a2]) (rest := []) (q := 16) hX (cnX12_isHouse (sp_st hX)  h6) cwX12_408 rfl rfl rfl rfl (Nat.le_of_ble_eq_true rfl) (Nat.le_of_ble_eq_true rfl) (Nat.le_of_ble_eq_true rfl) (Nat.le_of_ble_eq_true rfl) (Nat.le_of_ble_eq_true rfl) dX12_make_13 rfl ?_
    refine sp_if_ne (tgt := 25) (q := 19) hX dX12_make_16 (by decide) rfl (fun hc => ?_) (fun hc => ?_)
    · rw [if_neg hc] at hf
      refine sp_iload_n (i := 1) (q := 26) hX dX12_make_25 rfl rfl rfl ?_
      refine sp_iload_n (i := 2) (q := 27) hX dX12_make_26 rfl rfl rfl ?_
      refine sp_icmp_eq (tgt := 44) (q := 30) hX dX12_make_27 (by decide) rfl (fun hc => ?_) (fun hc => ?_)
      · rw [if_pos hc] at hf
        refine sp_drop (lv' := [some (.ref (sx_ad X 0)), none, none, none]) (And.intro rfl trivial) ?_
        exact hX12_make_44 hX hR hf
      · rw [if_neg hc] at hf
        refine sp_aload_n (i := 0) (q := 31) hX dX12_make_30 rfl rfl rfl ?_
        refine sp_gets (t := 19) (q := 34) hX flX12_84 fkX12_31 atM_0 srM_0_31 dX12_make_31 rfl ?_
        refine sp_iload_n (i := 1) (q := 35) hX dX12_make_34 rfl rfl rfl ?_
        obtain ⟨h9, hf⟩ := sp_ck_some hf
        refine sp_iald (q := 36) hX arM_19 h9 dX12_make_35 rfl ?_
        refine sp_iload_n (i := 2) (q := 37) hX dX12_make_36 rfl rfl rfl ?_
        obtain ⟨σ11, v12, h10, hf⟩ := sp_bd_so hf
        refine sp_callSi (As := [.int (sp_g σ7 19 a1), .int a2]) (rest := []) (q := 40) hX (cnX12_isOf (sp_st hX)  h10) cwX12_284 rfl rfl rfl rfl (Nat.le_of_ble_eq_true rfl) (Nat.le_of_ble_eq_true rfl) (Nat.le_of_ble_eq_true rfl) (Nat.le_of_ble_eq_true rfl) (Nat.le_of_ble_eq_true rfl) dX12_make_37 rfl ?_
        refine sp_iload_n (i := 3) (q := 41) hX dX12_make_40 rfl rfl rfl ?_
        refine sp_icmp_ne (tgt := 56) (q := 44) hX dX12_make_41 (by decide) rfl (fun hc => ?_) (fun hc => ?_)
        · rw [if_neg hc] at hf
          refine sp_aload_n (i := 0) (q := 57) hX dX12_make_56 rfl rfl rfl ?_
          obtain ⟨σ14, h13, hf⟩ := sp_bv_so hf
          refine sp_callVv (As := []) (rest := []) (q := 60) hX (cnX12_keep (sp_st hX)  h13) cwX12_423 atM_0 rfl rfl rfl rfl rfl (Nat.le_of_ble_eq_true rfl) (Nat.le_of_ble_eq_true rfl) (Nat.le_of_ble_eq_true rfl) (Nat.le_of_ble_eq_true rfl) (Nat.le_of_ble_eq_true rfl) dX12_make_57 rfl ?_
          refine sp_aload_n (i := 0) (q := 61) hX dX12_make_60 rfl rfl rfl ?_
          refine sp_gets (t := 19) (q := 64) hX flX12_84 fkX12_31 atM_0 srM_0_31 dX12_make_61 rfl ?_
          refine sp_iload_n (i := 1) (q := 65) hX dX12_make_64 rfl rfl rfl ?_
          refine sp_dup2 (q := 66) hX dX12_make_65 rfl rfl rfl ?_
          obtain ⟨h15, hf⟩ := sp_ck_some hf
          refine sp_iald (q := 67) hX arM_19 h15 dX12_make_66 rfl ?_
          refine sp_iconst (v := 1) (q := 68) hX dX12_make_67 li_1 rfl ?_
          refine sp_iload_n (i := 2) (q := 69) hX dX12_make_68 rfl rfl rfl ?_
          refine sp_ishl (q := 70) hX dX12_make_69 rfl ?_
          refine sp_ixor (q := 71) hX dX12_make_70 rfl ?_
          obtain ⟨h16, hf⟩ := sp_ck_some hf
          obtain ⟨σ17, e18, hf⟩ := sp_pl_some hf
          refine sp_iast (q := 72) hX arM_19 h16 dX12_make_71 rfl ?_
          refine sp_nms e18 ?_
          refine sp_aload_n (i := 0) (q := 73) hX dX12_make_72 rfl rfl rfl ?_
          refine sp_gets (t := 19) (q := 76) hX flX12_84 fkX12_31 atM_0 srM_0_31 dX12_make_73 rfl ?_
          refine sp_iload_n (i := 2) (q := 77) hX dX12_make_76 rfl rfl rfl ?_
          refine sp_dup2 (q := 78) hX dX12_make_77 rfl rfl rfl ?_
          obtain ⟨h19, hf⟩ := sp_ck_some hf
          refine sp_iald (q := 79) hX arM_19 h19 dX12_make_78 rfl ?_
          refine sp_iconst (v := 1) (q := 80) hX dX12_make_79 li_1 rfl ?_
          refine sp_iload_n (i := 1) (q := 81) hX dX12_make_80 rfl rfl rfl ?_
          refine sp_ishl (q := 82) hX dX12_make_81 rfl ?_
          refine sp_ixor (q := 83) hX dX12_make_82 rfl ?_
          obtain ⟨h20, hf⟩ := sp_ck_some hf
          obtain ⟨σ21, e22, hf⟩ := sp_pl_some hf
          refine sp_iast (q := 84) hX arM_19 h20 dX12_make_83 rfl ?_
          refine sp_nms e22 ?_
          refine sp_iconst (v := 1) (q := 85) hX dX12_make_84 li_1 rfl ?_
          exact sp_zret hX hR (by decide) dX12_make_85 hf (Nat.le_of_ble_eq_true rfl) (Nat.le_of_ble_eq_true rfl)
        · rw [if_pos hc] at hf
          refine sp_drop (lv' := [some (.ref (sx_ad X 0)), none, none, none]) (And.intro rfl trivial) ?_
          exact hX12_make_44 hX hR hf
    · rw [if_pos hc] at hf
      refine sp_drop (lv' := [some (.ref (sx_ad X 0)), none, none, none]) (And.intro rfl trivial) ?_
      exact hX12_make_19 hX hR hf
set_option maxRecDepth 100000 in
set_option maxHeartbeats 4000000 in
theorem cnX12_make {l : Launch} (hst : l.stackTraces = false) {w : sp_Wd} {n : Nat}  {σ : sp_St} {a1 : Int32} {a2 : Int32} {a3 : Int32} {τ : sp_St} {r : Int32}  (hf : X12_make n σ a1 a2 a3 = some (τ, r)) : sp_Ci shM l w yX12_make cX12_make 4 (some .boolean) rmX12_make 0 0 σ [.ref (w.2.1 0), .int a1, .int a2, .int a3] τ r :=
  sp_ci (own := RX12) (by decide) rfl hst (Nat.le_of_ble_eq_true rfl) rfl (fun X hX hw hl hR => by subst hw; subst hl; exact hX12_make hX hR   hf)
def rmX12_undo : Room := { frames := 1, cells := 0, slots := 0, locals := 24 }
def X12_undo (n : Nat)  (σ : sp_St)  : Option (sp_St × Int32) :=
  sp_pl (sp_si σ 0 3 ((0 : Int32))) fun σ1 =>
  if (σ1.1 0 35) = 0 then
    some (σ1, (-1 : Int32))
  else
    sp_pl (sp_si σ1 0 35 ((σ1.1 0 35) - ((1 : Int32)))) fun σ3 =>
    sp_bv (X12_unpack n σ3 20 3520 (((88 : Int32)) * (σ3.1 0 35))) fun σ6 =>
    some (σ6, σ6.1 0 35)
set_option maxRecDepth 100000 in
set_option maxHeartbeats 4000000 in
theorem hX12_undo {X : sp_X} (hX : sp_OK shM X cX12_undo RX12 1 rmX12_undo) {τ : sp_St} {r : Int32} (hR : sp_Ri shM X (some .int) τ r 0 0) {n : Nat}  {σ : sp_St}   (hf : X12_undo n σ = some (τ, r)) : sp_GG shM X σ 1 [some (.ref (sx_ad X 0))] [] 0 0 0 := by
  unfold X12_undo at hf
  refine sp_aload_n (i := 0) (q := 1) hX dX12_undo_0 rfl rfl rfl ?_
  refine sp_iconst (v := 0) (q := 2) hX dX12_undo_1 li_0 rfl ?_
  obtain ⟨σ1, e2, hf⟩ := sp_pl_some hf
  refine sp_puti (q := 5) hX fpX12_158 fkX12_3 atM_0 dX12_undo_2 rfl ?_
  refine sp_nms e2 ?_
  refine sp_aload_n (i := 0) (q := 6) hX dX12_undo_5 rfl rfl rfl ?_
  refine sp_geti (q := 9) hX flX12_330 fkX12_35 atM_0 dX12_undo_6 rfl ?_
  refine sp_if_ne (tgt := 14) (q := 12) hX dX12_undo_9 (by decide) rfl (fun hc => ?_) (fun hc => ?_)
  · rw [if_neg hc] at hf
    refine sp_aload_n (i := 0) (q := 15) hX dX12_undo_14 rfl rfl rfl ?_
    refine sp_dup (q := 16) hX dX12_undo_15 rfl rfl ?_
    refine sp_geti (q := 19) hX flX12_330 fkX12_35 atM_0 dX12_undo_16 rfl ?_
    refine sp_iconst (v := 1) (q := 20) hX dX12_undo_19 li_1 rfl ?_
    refine sp_isub (q := 21) hX dX12_undo_20 rfl ?_
    obtain ⟨σ3, e4, hf⟩ := sp_pl_some hf
    refine sp_puti (q := 24) hX fpX12_330 fkX12_35 atM_0 dX12_undo_21 rfl ?_
    refine sp_nms e4 ?_
    refine sp_aload_n (i := 0) (q := 25) hX dX12_undo_24 rfl rfl rfl ?_
    refine sp_aload_n (i := 0) (q := 26) hX dX12_undo_25 rfl rfl rfl ?_
    refine sp_gets (t := 20) (q := 29) hX flX12_87 fkX12_32 atM_0 srM_0_32 dX12_undo_26 rfl ?_
    refine sp_bipush (v := 88) (q := 31) hX dX12_undo_29 lb_88 rfl ?_
    refine sp_aload_n (i := 0) (q := 32) hX dX12_undo_31 rfl rfl rfl ?_
    refine sp_geti (q := 35) hX flX12_330 fkX12_35 atM_0 dX12_undo_32 rfl ?_
    refine sp_imul (q := 36) hX dX12_undo_35 rfl ?_
    obtain ⟨σ6, h5, hf⟩ := sp_bv_so hf
    refine sp_callVv (As := [.ref (sx_ad X 20), .int (((88 : Int32)) * (σ3.1 0 35))]) (rest := []) (q := 39) hX (cnX12_unpack (sp_st hX) arM_20 h5) cwX12_432 atM_0 rfl rfl rfl rfl rfl (Nat.le_of_ble_eq_true rfl) (Nat.le_of_ble_eq_true rfl) (Nat.le_of_ble_eq_true rfl) (Nat.le_of_ble_eq_true rfl) (Nat.le_of_ble_eq_true rfl) dX12_undo_36 rfl ?_
    refine sp_aload_n (i := 0) (q := 40) hX dX12_undo_39 rfl rfl rfl ?_
    refine sp_geti (q := 43) hX flX12_330 fkX12_35 atM_0 dX12_undo_40 rfl ?_
    exact sp_iret hX hR dX12_undo_43 hf (Nat.le_of_ble_eq_true rfl) (Nat.le_of_ble_eq_true rfl)
  · rw [if_pos hc] at hf
    refine sp_iconst (v := -1) (q := 13) hX dX12_undo_12 li_m1 rfl ?_
    exact sp_iret hX hR dX12_undo_13 hf (Nat.le_of_ble_eq_true rfl) (Nat.le_of_ble_eq_true rfl)
set_option maxRecDepth 100000 in
set_option maxHeartbeats 4000000 in
theorem cnX12_undo {l : Launch} (hst : l.stackTraces = false) {w : sp_Wd} {n : Nat}  {σ : sp_St}  {τ : sp_St} {r : Int32}  (hf : X12_undo n σ = some (τ, r)) : sp_Ci shM l w yX12_undo cX12_undo 1 (some .int) rmX12_undo 0 0 σ [.ref (w.2.1 0)] τ r :=
  sp_ci (own := RX12) (by decide) rfl hst (Nat.le_of_ble_eq_true rfl) rfl (fun X hX hw hl hR => by subst hw; subst hl; exact hX12_undo hX hR   hf)
def rmX12_then : Room := { frames := 7, cells := 0, slots := 0, locals := 154 }
def X12_then_79 (n : Nat) (σ : sp_St) (zs0 : Int32) : Option (sp_St × Int32) :=
  sp_bv (X12_unpack n σ 25 88 ((0 : Int32))) fun σ2 =>
  some (σ2, zs0)
def X12_then_22 (n : Nat) (σ : sp_St) : Option (sp_St × Int32) :=
  sp_bd (X12_fail n σ ((1 : Int32))) fun σ2 v3 =>
  some (σ2, v3)
def X12_then (n : Nat)  (σ : sp_St) (a1 : Int32) (a2 : Int32) (a3 : Int32) : Option (sp_St × Int32) :=
  sp_pl (sp_si σ 0 3 ((0 : Int32))) fun σ1 =>
  sp_bd (X12_isBlade n σ1 a1) fun σ4 v5 =>
  if v5 = 0 then
    X12_then_22 n σ4
  else
    if a3 < 0 then
      X12_then_22 n σ4
    else
      if a3 ≤ ((1 : Int32)) then
        sp_bd (X12_isIn n σ4 a2.toInt64 ((0 : Int64)) ((60 : Int64))) fun σ7 v8 =>
        if v8 = 0 then
          sp_bd (X12_fail n σ7 ((2 : Int32))) fun σ16 v17 =>
          some (σ16, v17)
        else
          sp_bv (X12_pack n σ7 25 88 ((0 : Int32))) fun σ10 =>
          sp_bv (X12_goOn n σ10 a2) fun σ12 =>
          if a3 = 0 then
            sp_ck (sp_in a1 10) <|
            X12_then_79 n σ12 (sp_g σ12 14 a1)
          else
            sp_ck (sp_in a1 10) <|
            X12_then_79 n σ12 (sp_g σ12 15 a1)
      else
        X12_then_22 n σ4
set_option maxRecDepth 100000 in
set_option maxHeartbeats 4000000 in
theorem hX12_then_79 {X : sp_X} (hX : sp_OK shM X cX12_then RX12 5 rmX12_then) {τ : sp_St} {r : Int32} (hR : sp_Ri shM X (some .int) τ r 0 0) {n : Nat}    {σ : sp_St} {zs0 : Int32} (hf : X12_then_79 n σ zs0 = some (τ, r)) : sp_GG shM X σ 5 [some (.ref (sx_ad X 0)), none, none, none, none] [.int zs0] 79 0 0 := by
  unfold X12_then_79 at hf
  refine sp_istore (i := 4) (lv' := [some (.ref (sx_ad X 0)), none, none, none, some (.int zs0)]) (q := 81) hX dX12_then_79 (Nat.le_of_ble_eq_true rfl) rfl rfl rfl ?_
  refine sp_aload_n (i := 0) (q := 82) hX dX12_then_81 rfl rfl rfl ?_
  refine sp_aload_n (i := 0) (q := 83) hX dX12_then_82 rfl rfl rfl ?_
  refine sp_gets (t := 25) (q := 86) hX flX12_102 fkX12_41 atM_0 srM_0_41 dX12_then_83 rfl ?_
  refine sp_iconst (v := 0) (q := 87) hX dX12_then_86 li_0 rfl ?_
  obtain ⟨σ2, h1, hf⟩ := sp_bv_so hf
  refine sp_callVv (As := [.ref (sx_ad X 25), .int ((0 : Int32))]) (rest := []) (q := 90) hX (cnX12_unpack (sp_st hX) arM_25 h1) cwX12_432 atM_0 rfl rfl rfl rfl rfl (Nat.le_of_ble_eq_true rfl) (Nat.le_of_ble_eq_true rfl) (Nat.le_of_ble_eq_true rfl) (Nat.le_of_ble_eq_true rfl) (Nat.le_of_ble_eq_true rfl) dX12_then_87 rfl ?_
  refine sp_iload (i := 4) (q := 92) hX dX12_then_90 rfl rfl ?_
  exact sp_iret hX hR dX12_then_92 hf (Nat.le_of_ble_eq_true rfl) (Nat.le_of_ble_eq_true rfl)
set_option maxRecDepth 100000 in
set_option maxHeartbeats 4000000 in
theorem hX12_then_22 {X : sp_X} (hX : sp_OK shM X cX12_then RX12 5 rmX12_then) {τ : sp_St} {r : Int32} (hR : sp_Ri shM X (some .int) τ r 0 0) {n : Nat}    {σ : sp_St} (hf : X12_then_22 n σ = some (τ, r)) : sp_GG shM X σ 5 [some (.ref (sx_ad X 0)), none, none, none, none] [] 22 0 0 := by
  unfold X12_then_22 at hf
  refine sp_aload_n (i := 0) (q := 23) hX dX12_then_22 rfl rfl rfl ?_
  refine sp_iconst (v := 1) (q := 24) hX dX12_then_23 li_1 rfl ?_
  obtain ⟨σ2, v3, h1, hf⟩ := sp_bd_so hf
  refine sp_callVi (As := [.int ((1 : Int32))]) (rest := []) (q := 27) hX (cnX12_fail (sp_st hX)  h1) cwX12_312 atM_0 rfl rfl rfl rfl rfl (Nat.le_of_ble_eq_true rfl) (Nat.le_of_ble_eq_true rfl) (Nat.le_of_ble_eq_true rfl) (Nat.le_of_ble_eq_true rfl) (Nat.le_of_ble_eq_true rfl) dX12_then_24 rfl ?_
  exact sp_iret hX hR dX12_then_27 hf (Nat.le_of_ble_eq_true rfl) (Nat.le_of_ble_eq_true rfl)
set_option maxRecDepth 100000 in
set_option maxHeartbeats 4000000 in
theorem hX12_then {X : sp_X} (hX : sp_OK shM X cX12_then RX12 5 rmX12_then) {τ : sp_St} {r : Int32} (hR : sp_Ri shM X (some .int) τ r 0 0) {n : Nat}  {σ : sp_St} {a1 : Int32} {a2 : Int32} {a3 : Int32}  (hf : X12_then n σ a1 a2 a3 = some (τ, r)) : sp_GG shM X σ 5 [some (.ref (sx_ad X 0)), some (.int a1), some (.int a2), some (.int a3), none] [] 0 0 0 := by
  unfold X12_then at hf
  refine sp_aload_n (i := 0) (q := 1) hX dX12_then_0 rfl rfl rfl ?_
  refine sp_iconst (v := 0) (q := 2) hX dX12_then_1 li_0 rfl ?_
  obtain ⟨σ1, e2, hf⟩ := sp_pl_some hf
  refine sp_puti (q := 5) hX fpX12_158 fkX12_3 atM_0 dX12_then_2 rfl ?_
  refine sp_nms e2 ?_
  refine sp_aload_n (i := 0) (q := 6) hX dX12_then_5 rfl rfl rfl ?_
  refine sp_iload_n (i := 1) (q := 7) hX dX12_then_6 rfl rfl rfl ?_
  obtain ⟨σ4, v5, h3, hf⟩ := sp_bd_so hf
  refine sp_callVi (As := [.int a1]) (rest := []) (q := 10) hX (cnX12_isBlade (sp_st hX)  h3) cwX12_399 atM_0 rfl rfl rfl rfl rfl (Nat.le_of_ble_eq_true rfl) (Nat.le_of_ble_eq_true rfl) (Nat.le_of_ble_eq_true rfl) (Nat.le_of_ble_eq_true rfl) (Nat.le_of_ble_eq_true rfl) dX12_then_7 rfl ?_
  refine sp_if_eq (tgt := 22) (q := 13) hX dX12_then_10 (by decide) rfl (fun hc => ?_) (fun hc => ?_)
  · rw [if_pos hc] at hf
    refine sp_drop (lv' := [some (.ref (sx_ad X 0)), none, none, none, none]) (And.intro rfl trivial) ?_
    exact hX12_then_22 hX hR hf
  · rw [if_neg hc] at hf
    refine sp_iload_n (i := 3) (q := 14) hX dX12_then_13 rfl rfl rfl ?_
    refine sp_if_lt (tgt := 22) (q := 17) hX dX12_then_14 (by decide) rfl (fun hc => ?_) (fun hc => ?_)
    · rw [if_pos hc] at hf
      refine sp_drop (lv' := [some (.ref (sx_ad X 0)), none, none, none, none]) (And.intro rfl trivial) ?_
      exact hX12_then_22 hX hR hf
    · rw [if_neg hc] at hf
      refine sp_iload_n (i := 3) (q := 18) hX dX12_then_17 rfl rfl rfl ?_
      refine sp_iconst (v := 1) (q := 19) hX dX12_then_18 li_1 rfl ?_
      refine sp_icmp_le (tgt := 28) (q := 22) hX dX12_then_19 (by decide) rfl (fun hc => ?_) (fun hc => ?_)
      · rw [if_pos hc] at hf
        refine sp_iload_n (i := 2) (q := 29) hX dX12_then_28 rfl rfl rfl ?_
        refine sp_i2l (q := 30) hX dX12_then_29 rfl ?_
        refine sp_lconst (v := 0) (q := 31) hX dX12_then_30 (by decide) rfl ?_
        refine sp_ldc2 (v := 60) (q := 34) hX wd_2097 dX12_then_31 rfl ?_
        obtain ⟨σ7, v8, h6, hf⟩ := sp_bd_so hf
        refine sp_callSi (As := [.long a2.toInt64, .long ((0 : Int64)), .long ((60 : Int64))]) (rest := []) (q := 37) hX (cnX12_isIn (sp_st hX)  h6) cwX12_161 rfl rfl rfl rfl (Nat.le_of_ble_eq_true rfl) (Nat.le_of_ble_eq_true rfl) (Nat.le_of_ble_eq_true rfl) (Nat.le_of_ble_eq_true rfl) (Nat.le_of_ble_eq_true rfl) dX12_then_34 rfl ?_
        refine sp_if_ne (tgt := 46) (q := 40) hX dX12_then_37 (by decide) rfl (fun hc => ?_) (fun hc => ?_)
        · rw [if_neg hc] at hf
          refine sp_aload_n (i := 0) (q := 47) hX dX12_then_46 rfl rfl rfl ?_
          refine sp_aload_n (i := 0) (q := 48) hX dX12_then_47 rfl rfl rfl ?_
          refine sp_gets (t := 25) (q := 51) hX flX12_102 fkX12_41 atM_0 srM_0_41 dX12_then_48 rfl ?_
          refine sp_iconst (v := 0) (q := 52) hX dX12_then_51 li_0 rfl ?_
          obtain ⟨σ10, h9, hf⟩ := sp_bv_so hf
          refine sp_callVv (As := [.ref (sx_ad X 25), .int ((0 : Int32))]) (rest := []) (q := 55) hX (cnX12_pack (sp_st hX) arM_25 h9) cwX12_414 atM_0 rfl rfl rfl rfl rfl (Nat.le_of_ble_eq_true rfl) (Nat.le_of_ble_eq_true rfl) (Nat.le_of_ble_eq_true rfl) (Nat.le_of_ble_eq_true rfl) (Nat.le_of_ble_eq_true rfl) dX12_then_52 rfl ?_
          refine sp_aload_n (i := 0) (q := 56) hX dX12_then_55 rfl rfl rfl ?_
          refine sp_iload_n (i := 2) (q := 57) hX dX12_then_56 rfl rfl rfl ?_
          obtain ⟨σ12, h11, hf⟩ := sp_bv_so hf
          refine sp_callVv (As := [.int a2]) (rest := []) (q := 60) hX (cnX12_goOn (sp_st hX)  h11) cwX12_426 atM_0 rfl rfl rfl rfl rfl (Nat.le_of_ble_eq_true rfl) (Nat.le_of_ble_eq_true rfl) (Nat.le_of_ble_eq_true rfl) (Nat.le_of_ble_eq_true rfl) (Nat.le_of_ble_eq_true rfl) dX12_then_57 rfl ?_
          refine sp_iload_n (i := 3) (q := 61) hX dX12_then_60 rfl rfl rfl ?_
          refine sp_if_ne (tgt := 73) (q := 64) hX dX12_then_61 (by decide) rfl (fun hc => ?_) (fun hc => ?_)
          · rw [if_neg hc] at hf
            refine sp_aload_n (i := 0) (q := 74) hX dX12_then_73 rfl rfl rfl ?_
            refine sp_gets (t := 15) (q := 77) hX flX12_72 fkX12_27 atM_0 srM_0_27 dX12_then_74 rfl ?_
            refine sp_iload_n (i := 1) (q := 78) hX dX12_then_77 rfl rfl rfl ?_
            obtain ⟨h13, hf⟩ := sp_ck_some hf
            refine sp_iald (q := 79) hX arM_15 h13 dX12_then_78 rfl ?_
            refine sp_drop (lv' := [some (.ref (sx_ad X 0)), none, none, none, none]) (And.intro rfl trivial) ?_
            exact hX12_then_79 hX hR hf
          · rw [if_pos hc] at hf
            refine sp_aload_n (i := 0) (q := 65) hX dX12_then_64 rfl rfl rfl ?_
            refine sp_gets (t := 14) (q := 68) hX flX12_70 fkX12_26 atM_0 srM_0_26 dX12_then_65 rfl ?_
            refine sp_iload_n (i := 1) (q := 69) hX dX12_then_68 rfl rfl rfl ?_
            obtain ⟨h14, hf⟩ := sp_ck_some hf
            refine sp_iald (q := 70) hX arM_14 h14 dX12_then_69 rfl ?_
            refine sp_goto (tgt := 79) hX dX12_then_70 (by decide) ?_
            refine sp_drop (lv' := [some (.ref (sx_ad X 0)), none, none, none, none]) (And.intro rfl trivial) ?_
            exact hX12_then_79 hX hR hf
        · rw [if_pos hc] at hf
          refine sp_aload_n (i := 0) (q := 41) hX dX12_then_40 rfl rfl rfl ?_
          refine sp_iconst (v := 2) (q := 42) hX dX12_then_41 li_2 rfl ?_
          obtain ⟨σ16, v17, h15, hf⟩ := sp_bd_so hf
          refine sp_callVi (As := [.int ((2 : Int32))]) (rest := []) (q := 45) hX (cnX12_fail (sp_st hX)  h15) cwX12_312 atM_0 rfl rfl rfl rfl rfl (Nat.le_of_ble_eq_true rfl) (Nat.le_of_ble_eq_true rfl) (Nat.le_of_ble_eq_true rfl) (Nat.le_of_ble_eq_true rfl) (Nat.le_of_ble_eq_true rfl) dX12_then_42 rfl ?_
          exact sp_iret hX hR dX12_then_45 hf (Nat.le_of_ble_eq_true rfl) (Nat.le_of_ble_eq_true rfl)
      · rw [if_neg hc] at hf
        refine sp_drop (lv' := [some (.ref (sx_ad X 0)), none, none, none, none]) (And.intro rfl trivial) ?_
        exact hX12_then_22 hX hR hf
set_option maxRecDepth 100000 in
set_option maxHeartbeats 4000000 in
theorem cnX12_then {l : Launch} (hst : l.stackTraces = false) {w : sp_Wd} {n : Nat}  {σ : sp_St} {a1 : Int32} {a2 : Int32} {a3 : Int32} {τ : sp_St} {r : Int32}  (hf : X12_then n σ a1 a2 a3 = some (τ, r)) : sp_Ci shM l w yX12_then cX12_then 5 (some .int) rmX12_then 0 0 σ [.ref (w.2.1 0), .int a1, .int a2, .int a3] τ r :=
  sp_ci (own := RX12) (by decide) rfl hst (Nat.le_of_ble_eq_true rfl) rfl (fun X hX hw hl hR => by subst hw; subst hl; exact hX12_then hX hR   hf)
def rmX12_peaceOf : Room := { frames := 6, cells := 0, slots := 0, locals := 132 }
def X12_peaceOf_53 (n : Nat) (σ : sp_St) (z2 : Int32) : Option (sp_St × Int32) :=
  sp_bv (X12_unpack n σ 26 88 ((0 : Int32))) fun σ2 =>
  some (σ2, z2)
def X12_peaceOf_47 (n : Nat) (k20 : sp_St → Int32 → Int32 → Int32 → Option (sp_St × Int32)) (σ : sp_St) (z1 : Int32) (z2 : Int32) (z3 : Int32) : Option (sp_St × Int32) :=
  sp_pl (z3 + 1) fun x1 =>
  k20 σ z1 z2 x1
def X12_peaceOf_20 (n : Nat) : Nat → sp_St → Int32 → Int32 → Int32 → Option (sp_St × Int32)
  | 0, _, _, _, _ => none
  | f + 1, σ, z1, z2, z3 =>
    if ((60 : Int32)) < z3 then
      X12_peaceOf_53 n σ z2
    else
      if z2 = ((1000 : Int32)) then
        sp_bv (X12_aDay n σ) fun σ2 =>
        if (σ2.1 0 34) ≤ z1 then
          X12_peaceOf_47 n (X12_peaceOf_20 n f) σ2 z1 z2 z3
        else
          X12_peaceOf_47 n (X12_peaceOf_20 n f) σ2 z1 z3 z3
      else
        X12_peaceOf_53 n σ z2
def X12_peaceOf (n : Nat)  (σ : sp_St)  : Option (sp_St × Int32) :=
  sp_bv (X12_pack n σ 26 88 ((0 : Int32))) fun σ2 =>
  sp_pl (σ2.1 0 34) fun x3 =>
  sp_pl ((1000 : Int32)) fun x5 =>
  sp_pl ((1 : Int32)) fun x7 =>
  X12_peaceOf_20 n n σ2 x3 x5 x7
set_option maxRecDepth 100000 in
set_option maxHeartbeats 4000000 in
theorem hX12_peaceOf_53 {X : sp_X} (hX : sp_OK shM X cX12_peaceOf RX12 4 rmX12_peaceOf) {τ : sp_St} {r : Int32} (hR : sp_Ri shM X (some .int) τ r 0 0) {n : Nat}    {σ : sp_St} {z2 : Int32} (hf : X12_peaceOf_53 n σ z2 = some (τ, r)) : sp_GG shM X σ 4 [some (.ref (sx_ad X 0)), none, some (.int z2), none] [] 53 0 0 := by
  unfold X12_peaceOf_53 at hf
  refine sp_aload_n (i := 0) (q := 54) hX dX12_peaceOf_53 rfl rfl rfl ?_
  refine sp_aload_n (i := 0) (q := 55) hX dX12_peaceOf_54 rfl rfl rfl ?_
  refine sp_gets (t := 26) (q := 58) hX flX12_105 fkX12_42 atM_0 srM_0_42 dX12_peaceOf_55 rfl ?_
  refine sp_iconst (v := 0) (q := 59) hX dX12_peaceOf_58 li_0 rfl ?_
  obtain ⟨σ2, h1, hf⟩ := sp_bv_so hf
  refine sp_callVv (As := [.ref (sx_ad X 26), .int ((0 : Int32))]) (rest := []) (q := 62) hX (cnX12_unpack (sp_st hX) arM_26 h1) cwX12_432 atM_0 rfl rfl rfl rfl rfl (Nat.le_of_ble_eq_true rfl) (Nat.le_of_ble_eq_true rfl) (Nat.le_of_ble_eq_true rfl) (Nat.le_of_ble_eq_true rfl) (Nat.le_of_ble_eq_true rfl) dX12_peaceOf_59 rfl ?_
  refine sp_iload_n (i := 2) (q := 63) hX dX12_peaceOf_62 rfl rfl rfl ?_
  exact sp_iret hX hR dX12_peaceOf_63 hf (Nat.le_of_ble_eq_true rfl) (Nat.le_of_ble_eq_true rfl)
set_option maxRecDepth 100000 in
set_option maxHeartbeats 4000000 in
theorem hX12_peaceOf_47 {X : sp_X} (hX : sp_OK shM X cX12_peaceOf RX12 4 rmX12_peaceOf) {τ : sp_St} {r : Int32} (hR : sp_Ri shM X (some .int) τ r 0 0) {n : Nat}   {k20 : sp_St → Int32 → Int32 → Int32 → Option (sp_St × Int32)} (hk20 : ∀ (σ : sp_St) (z1 : Int32) (z2 : Int32) (z3 : Int32), k20 σ z1 z2 z3 = some (τ, r) → sp_GG shM X σ 4 [some (.ref (sx_ad X 0)), some (.int z1), some (.int z2), some (.int z3)] [] 20 0 0) {σ : sp_St} {z1 : Int32} {z2 : Int32} {z3 : Int32} (hf : X12_peaceOf_47 n k20 σ z1 z2 z3 = some (τ, r)) : sp_GG shM X σ 4 [some (.ref (sx_ad X 0)), some (.int z1), some (.int z2), some (.int z3)] [] 47 0 0 := by
  unfold X12_peaceOf_47 at hf
  obtain ⟨x1, e2, hf⟩ := sp_pl_some hf
  refine sp_iinc (i := 3) (v := x1) (lv' := [some (.ref (sx_ad X 0)), some (.int z1), some (.int z2), some (.int x1)]) (q := 50) hX dX12_peaceOf_47 rfl (by rw [e2, li_1]) (Nat.le_of_ble_eq_true rfl) rfl rfl rfl ?_
  refine sp_goto (tgt := 20) hX dX12_peaceOf_50 (by decide) ?_
  exact hk20 σ z1 z2 x1 hf
set_option maxRecDepth 100000 in
set_option maxHeartbeats 4000000 in
theorem hX12_peaceOf_20 {X : sp_X} (hX : sp_OK shM X cX12_peaceOf RX12 4 rmX12_peaceOf) {τ : sp_St} {r : Int32} (hR : sp_Ri shM X (some .int) τ r 0 0) {n : Nat}    : ∀ (f : Nat) (σ : sp_St) (z1 : Int32) (z2 : Int32) (z3 : Int32), X12_peaceOf_20 n f σ z1 z2 z3 = some (τ, r) → sp_GG shM X σ 4 [some (.ref (sx_ad X 0)), some (.int z1), some (.int z2), some (.int z3)] [] 20 0 0 := by
  intro f
  induction f with
  | zero =>
    intro σ z1 z2 z3 hf
    rw [X12_peaceOf_20] at hf
    cases hf
  | succ f ih =>
    intro σ z1 z2 z3 hf
    rw [X12_peaceOf_20] at hf
    refine sp_iload_n (i := 3) (q := 21) hX dX12_peaceOf_20 rfl rfl rfl ?_
    refine sp_bipush (v := 60) (q := 23) hX dX12_peaceOf_21 lb_60 rfl ?_
    refine sp_icmp_gt (tgt := 53) (q := 26) hX dX12_peaceOf_23 (by decide) rfl (fun hc => ?_) (fun hc => ?_)
    · rw [if_pos hc] at hf
      refine sp_drop (lv' := [some (.ref (sx_ad X 0)), none, some (.int z2), none]) (And.intro rfl (And.intro rfl trivial)) ?_
      exact hX12_peaceOf_53 hX hR hf
    · rw [if_neg hc] at hf
      refine sp_iload_n (i := 2) (q := 27) hX dX12_peaceOf_26 rfl rfl rfl ?_
      refine sp_sipush (v := 1000) (q := 30) hX dX12_peaceOf_27 ls_1000 rfl ?_
      refine sp_icmp_ne (tgt := 53) (q := 33) hX dX12_peaceOf_30 (by decide) rfl (fun hc => ?_) (fun hc => ?_)
      · rw [if_neg hc] at hf
        refine sp_drop (lv' := [some (.ref (sx_ad X 0)), none, some (.int z2), none]) (And.intro rfl (And.intro rfl trivial)) ?_
        exact hX12_peaceOf_53 hX hR hf
      · rw [if_pos hc] at hf
        refine sp_aload_n (i := 0) (q := 34) hX dX12_peaceOf_33 rfl rfl rfl ?_
        obtain ⟨σ2, h1, hf⟩ := sp_bv_so hf
        refine sp_callVv (As := []) (rest := []) (q := 37) hX (cnX12_aDay (sp_st hX)  h1) cwX12_393 atM_0 rfl rfl rfl rfl rfl (Nat.le_of_ble_eq_true rfl) (Nat.le_of_ble_eq_true rfl) (Nat.le_of_ble_eq_true rfl) (Nat.le_of_ble_eq_true rfl) (Nat.le_of_ble_eq_true rfl) dX12_peaceOf_34 rfl ?_
        refine sp_aload_n (i := 0) (q := 38) hX dX12_peaceOf_37 rfl rfl rfl ?_
        refine sp_geti (q := 41) hX flX12_327 fkX12_34 atM_0 dX12_peaceOf_38 rfl ?_
        refine sp_iload_n (i := 1) (q := 42) hX dX12_peaceOf_41 rfl rfl rfl ?_
        refine sp_icmp_le (tgt := 47) (q := 45) hX dX12_peaceOf_42 (by decide) rfl (fun hc => ?_) (fun hc => ?_)
        · rw [if_pos hc] at hf
          exact hX12_peaceOf_47 hX hR ih hf
        · rw [if_neg hc] at hf
          refine sp_iload_n (i := 3) (q := 46) hX dX12_peaceOf_45 rfl rfl rfl ?_
          refine sp_istore_n (i := 2) (lv' := [some (.ref (sx_ad X 0)), some (.int z1), some (.int z3), some (.int z3)]) (q := 47) hX dX12_peaceOf_46 rfl (Nat.le_of_ble_eq_true rfl) rfl rfl rfl ?_
          exact hX12_peaceOf_47 hX hR ih hf
set_option maxRecDepth 100000 in
set_option maxHeartbeats 4000000 in
theorem hX12_peaceOf {X : sp_X} (hX : sp_OK shM X cX12_peaceOf RX12 4 rmX12_peaceOf) {τ : sp_St} {r : Int32} (hR : sp_Ri shM X (some .int) τ r 0 0) {n : Nat}  {σ : sp_St}   (hf : X12_peaceOf n σ = some (τ, r)) : sp_GG shM X σ 4 [some (.ref (sx_ad X 0)), none, none, none] [] 0 0 0 := by
  unfold X12_peaceOf at hf
  refine sp_aload_n (i := 0) (q := 1) hX dX12_peaceOf_0 rfl rfl rfl ?_
  refine sp_aload_n (i := 0) (q := 2) hX dX12_peaceOf_1 rfl rfl rfl ?_
  refine sp_gets (t := 26) (q := 5) hX flX12_105 fkX12_42 atM_0 srM_0_42 dX12_peaceOf_2 rfl ?_
  refine sp_iconst (v := 0) (q := 6) hX dX12_peaceOf_5 li_0 rfl ?_
  obtain ⟨σ2, h1, hf⟩ := sp_bv_so hf
  refine sp_callVv (As := [.ref (sx_ad X 26), .int ((0 : Int32))]) (rest := []) (q := 9) hX (cnX12_pack (sp_st hX) arM_26 h1) cwX12_414 atM_0 rfl rfl rfl rfl rfl (Nat.le_of_ble_eq_true rfl) (Nat.le_of_ble_eq_true rfl) (Nat.le_of_ble_eq_true rfl) (Nat.le_of_ble_eq_true rfl) (Nat.le_of_ble_eq_true rfl) dX12_peaceOf_6 rfl ?_
  refine sp_aload_n (i := 0) (q := 10) hX dX12_peaceOf_9 rfl rfl rfl ?_
  refine sp_geti (q := 13) hX flX12_327 fkX12_34 atM_0 dX12_peaceOf_10 rfl ?_
  obtain ⟨x3, e4, hf⟩ := sp_pl_some hf
  refine sp_nmi e4 ?_
  refine sp_istore_n (i := 1) (lv' := [some (.ref (sx_ad X 0)), some (.int x3), none, none]) (q := 14) hX dX12_peaceOf_13 rfl (Nat.le_of_ble_eq_true rfl) rfl rfl rfl ?_
  refine sp_sipush (v := 1000) (q := 17) hX dX12_peaceOf_14 ls_1000 rfl ?_
  obtain ⟨x5, e6, hf⟩ := sp_pl_some hf
  refine sp_nmi e6 ?_
  refine sp_istore_n (i := 2) (lv' := [some (.ref (sx_ad X 0)), some (.int x3), some (.int x5), none]) (q := 18) hX dX12_peaceOf_17 rfl (Nat.le_of_ble_eq_true rfl) rfl rfl rfl ?_
  refine sp_iconst (v := 1) (q := 19) hX dX12_peaceOf_18 li_1 rfl ?_
  obtain ⟨x7, e8, hf⟩ := sp_pl_some hf
  refine sp_nmi e8 ?_
  refine sp_istore_n (i := 3) (lv' := [some (.ref (sx_ad X 0)), some (.int x3), some (.int x5), some (.int x7)]) (q := 20) hX dX12_peaceOf_19 rfl (Nat.le_of_ble_eq_true rfl) rfl rfl rfl ?_
  exact hX12_peaceOf_20 hX hR n σ2 x3 x5 x7 hf
set_option maxRecDepth 100000 in
set_option maxHeartbeats 4000000 in
theorem cnX12_peaceOf {l : Launch} (hst : l.stackTraces = false) {w : sp_Wd} {n : Nat}  {σ : sp_St}  {τ : sp_St} {r : Int32}  (hf : X12_peaceOf n σ = some (τ, r)) : sp_Ci shM l w yX12_peaceOf cX12_peaceOf 4 (some .int) rmX12_peaceOf 0 0 σ [.ref (w.2.1 0)] τ r :=
  sp_ci (own := RX12) (by decide) rfl hst (Nat.le_of_ble_eq_true rfl) rfl (fun X hX hw hl hR => by subst hw; subst hl; exact hX12_peaceOf hX hR   hf)
def rmX12_peace : Room := { frames := 7, cells := 0, slots := 0, locals := 155 }
def X12_peace (n : Nat)  (σ : sp_St)  : Option (sp_St × Int32) :=
  sp_pl (sp_si σ 0 3 ((0 : Int32))) fun σ1 =>
  sp_bd (X12_peaceOf n σ1) fun σ4 v5 =>
  sp_pl (if v5 = ((1000 : Int32)) then ((-1 : Int32)) else v5) fun v6 =>
  some (σ4, v6)
set_option maxRecDepth 100000 in
set_option maxHeartbeats 4000000 in
theorem hX12_peace {X : sp_X} (hX : sp_OK shM X cX12_peace RX12 2 rmX12_peace) {τ : sp_St} {r : Int32} (hR : sp_Ri shM X (some .int) τ r 0 0) {n : Nat}  {σ : sp_St}   (hf : X12_peace n σ = some (τ, r)) : sp_GG shM X σ 2 [some (.ref (sx_ad X 0)), none] [] 0 0 0 := by
  unfold X12_peace at hf
  refine sp_aload_n (i := 0) (q := 1) hX dX12_peace_0 rfl rfl rfl ?_
  refine sp_iconst (v := 0) (q := 2) hX dX12_peace_1 li_0 rfl ?_
  obtain ⟨σ1, e2, hf⟩ := sp_pl_some hf
  refine sp_puti (q := 5) hX fpX12_158 fkX12_3 atM_0 dX12_peace_2 rfl ?_
  refine sp_nms e2 ?_
  refine sp_aload_n (i := 0) (q := 6) hX dX12_peace_5 rfl rfl rfl ?_
  obtain ⟨σ4, v5, h3, hf⟩ := sp_bd_so hf
  refine sp_callVi (As := []) (rest := []) (q := 9) hX (cnX12_peaceOf (sp_st hX)  h3) cwX12_437 atM_0 rfl rfl rfl rfl rfl (Nat.le_of_ble_eq_true rfl) (Nat.le_of_ble_eq_true rfl) (Nat.le_of_ble_eq_true rfl) (Nat.le_of_ble_eq_true rfl) (Nat.le_of_ble_eq_true rfl) dX12_peace_6 rfl ?_
  refine sp_istore_n (i := 1) (lv' := [some (.ref (sx_ad X 0)), some (.int v5)]) (q := 10) hX dX12_peace_9 rfl (Nat.le_of_ble_eq_true rfl) rfl rfl rfl ?_
  refine sp_iload_n (i := 1) (q := 11) hX dX12_peace_10 rfl rfl rfl ?_
  refine sp_sipush (v := 1000) (q := 14) hX dX12_peace_11 ls_1000 rfl ?_
  obtain ⟨v6, e7, hf⟩ := sp_pl_some hf
  have hj8 : sp_GG shM X σ4 2 [some (.ref (sx_ad X 0)), some (.int v5)] [.int v6] 22 0 0 := by
    exact sp_iret hX hR dX12_peace_22 hf (Nat.le_of_ble_eq_true rfl) (Nat.le_of_ble_eq_true rfl)
  refine sp_icmp_ne (tgt := 21) (q := 17) hX dX12_peace_14 (by decide) rfl (fun hc => ?_) (fun hc => ?_)
  · refine sp_iload_n (i := 1) (q := 22) hX dX12_peace_21 rfl rfl rfl ?_
    exact sp_nmi (by rw [e7, if_neg hc]) hj8
  · refine sp_iconst (v := -1) (q := 18) hX dX12_peace_17 li_m1 rfl ?_
    refine sp_goto (tgt := 22) hX dX12_peace_18 (by decide) ?_
    exact sp_nmi (by rw [e7, if_pos hc]) hj8
set_option maxRecDepth 100000 in
set_option maxHeartbeats 4000000 in
theorem cnX12_peace {l : Launch} (hst : l.stackTraces = false) {w : sp_Wd} {n : Nat}  {σ : sp_St}  {τ : sp_St} {r : Int32}  (hf : X12_peace n σ = some (τ, r)) : sp_Ci shM l w yX12_peace cX12_peace 2 (some .int) rmX12_peace 0 0 σ [.ref (w.2.1 0)] τ r :=
  sp_ci (own := RX12) (by decide) rfl hst (Nat.le_of_ble_eq_true rfl) rfl (fun X hX hw hl hR => by subst hw; subst hl; exact hX12_peace hX hR   hf)
def rmX12_fights : Room := { frames := 7, cells := 0, slots := 0, locals := 154 }
def X12_fights (n : Nat)  (σ : sp_St) (a1 : Int32) : Option (sp_St × Int32) :=
  sp_pl (sp_si σ 0 3 ((0 : Int32))) fun σ1 =>
  sp_bd (X12_isIn n σ1 a1.toInt64 ((0 : Int64)) ((60 : Int64))) fun σ4 v5 =>
  if v5 = 0 then
    sp_bd (X12_fail n σ4 ((1 : Int32))) fun σ17 v18 =>
    some (σ17, v18)
  else
    sp_bv (X12_pack n σ4 25 88 ((0 : Int32))) fun σ7 =>
    sp_pl (σ7.1 0 34) fun x8 =>
    sp_bv (X12_goOn n σ7 a1) fun σ11 =>
    sp_pl ((σ11.1 0 34) - x8) fun x12 =>
    sp_bv (X12_unpack n σ11 25 88 ((0 : Int32))) fun σ15 =>
    some (σ15, x12)
set_option maxRecDepth 100000 in
set_option maxHeartbeats 4000000 in
theorem hX12_fights {X : sp_X} (hX : sp_OK shM X cX12_fights RX12 4 rmX12_fights) {τ : sp_St} {r : Int32} (hR : sp_Ri shM X (some .int) τ r 0 0) {n : Nat}  {σ : sp_St} {a1 : Int32}  (hf : X12_fights n σ a1 = some (τ, r)) : sp_GG shM X σ 4 [some (.ref (sx_ad X 0)), some (.int a1), none, none] [] 0 0 0 := by
  unfold X12_fights at hf
  refine sp_aload_n (i := 0) (q := 1) hX dX12_fights_0 rfl rfl rfl ?_
  refine sp_iconst (v := 0) (q := 2) hX dX12_fights_1 li_0 rfl ?_
  obtain ⟨σ1, e2, hf⟩ := sp_pl_some hf
  refine sp_puti (q := 5) hX fpX12_158 fkX12_3 atM_0 dX12_fights_2 rfl ?_
  refine sp_nms e2 ?_
  refine sp_iload_n (i := 1) (q := 6) hX dX12_fights_5 rfl rfl rfl ?_
  refine sp_i2l (q := 7) hX dX12_fights_6 rfl ?_
  refine sp_lconst (v := 0) (q := 8) hX dX12_fights_7 (by decide) rfl ?_
  refine sp_ldc2 (v := 60) (q := 11) hX wd_2097 dX12_fights_8 rfl ?_
  obtain ⟨σ4, v5, h3, hf⟩ := sp_bd_so hf
  refine sp_callSi (As := [.long a1.toInt64, .long ((0 : Int64)), .long ((60 : Int64))]) (rest := []) (q := 14) hX (cnX12_isIn (sp_st hX)  h3) cwX12_161 rfl rfl rfl rfl (Nat.le_of_ble_eq_true rfl) (Nat.le_of_ble_eq_true rfl) (Nat.le_of_ble_eq_true rfl) (Nat.le_of_ble_eq_true rfl) (Nat.le_of_ble_eq_true rfl) dX12_fights_11 rfl ?_
  refine sp_if_ne (tgt := 23) (q := 17) hX dX12_fights_14 (by decide) rfl (fun hc => ?_) (fun hc => ?_)
  · rw [if_neg hc] at hf
    refine sp_aload_n (i := 0) (q := 24) hX dX12_fights_23 rfl rfl rfl ?_
    refine sp_aload_n (i := 0) (q := 25) hX dX12_fights_24 rfl rfl rfl ?_
    refine sp_gets (t := 25) (q := 28) hX flX12_102 fkX12_41 atM_0 srM_0_41 dX12_fights_25 rfl ?_
    refine sp_iconst (v := 0) (q := 29) hX dX12_fights_28 li_0 rfl ?_
    obtain ⟨σ7, h6, hf⟩ := sp_bv_so hf
    refine sp_callVv (As := [.ref (sx_ad X 25), .int ((0 : Int32))]) (rest := []) (q := 32) hX (cnX12_pack (sp_st hX) arM_25 h6) cwX12_414 atM_0 rfl rfl rfl rfl rfl (Nat.le_of_ble_eq_true rfl) (Nat.le_of_ble_eq_true rfl) (Nat.le_of_ble_eq_true rfl) (Nat.le_of_ble_eq_true rfl) (Nat.le_of_ble_eq_true rfl) dX12_fights_29 rfl ?_
    refine sp_aload_n (i := 0) (q := 33) hX dX12_fights_32 rfl rfl rfl ?_
    refine sp_geti (q := 36) hX flX12_327 fkX12_34 atM_0 dX12_fights_33 rfl ?_
    obtain ⟨x8, e9, hf⟩ := sp_pl_some hf
    refine sp_nmi e9 ?_
    refine sp_istore_n (i := 2) (lv' := [some (.ref (sx_ad X 0)), some (.int a1), some (.int x8), none]) (q := 37) hX dX12_fights_36 rfl (Nat.le_of_ble_eq_true rfl) rfl rfl rfl ?_
    refine sp_aload_n (i := 0) (q := 38) hX dX12_fights_37 rfl rfl rfl ?_
    refine sp_iload_n (i := 1) (q := 39) hX dX12_fights_38 rfl rfl rfl ?_
    obtain ⟨σ11, h10, hf⟩ := sp_bv_so hf
    refine sp_callVv (As := [.int a1]) (rest := []) (q := 42) hX (cnX12_goOn (sp_st hX)  h10) cwX12_426 atM_0 rfl rfl rfl rfl rfl (Nat.le_of_ble_eq_true rfl) (Nat.le_of_ble_eq_true rfl) (Nat.le_of_ble_eq_true rfl) (Nat.le_of_ble_eq_true rfl) (Nat.le_of_ble_eq_true rfl) dX12_fights_39 rfl ?_
    refine sp_aload_n (i := 0) (q := 43) hX dX12_fights_42 rfl rfl rfl ?_
    refine sp_geti (q := 46) hX flX12_327 fkX12_34 atM_0 dX12_fights_43 rfl ?_
    refine sp_iload_n (i := 2) (q := 47) hX dX12_fights_46 rfl rfl rfl ?_
    refine sp_isub (q := 48) hX dX12_fights_47 rfl ?_
    obtain ⟨x12, e13, hf⟩ := sp_pl_some hf
    refine sp_nmi e13 ?_
    refine sp_istore_n (i := 3) (lv' := [some (.ref (sx_ad X 0)), some (.int a1), some (.int x8), some (.int x12)]) (q := 49) hX dX12_fights_48 rfl (Nat.le_of_ble_eq_true rfl) rfl rfl rfl ?_
    refine sp_aload_n (i := 0) (q := 50) hX dX12_fights_49 rfl rfl rfl ?_
    refine sp_aload_n (i := 0) (q := 51) hX dX12_fights_50 rfl rfl rfl ?_
    refine sp_gets (t := 25) (q := 54) hX flX12_102 fkX12_41 atM_0 srM_0_41 dX12_fights_51 rfl ?_
    refine sp_iconst (v := 0) (q := 55) hX dX12_fights_54 li_0 rfl ?_
    obtain ⟨σ15, h14, hf⟩ := sp_bv_so hf
    refine sp_callVv (As := [.ref (sx_ad X 25), .int ((0 : Int32))]) (rest := []) (q := 58) hX (cnX12_unpack (sp_st hX) arM_25 h14) cwX12_432 atM_0 rfl rfl rfl rfl rfl (Nat.le_of_ble_eq_true rfl) (Nat.le_of_ble_eq_true rfl) (Nat.le_of_ble_eq_true rfl) (Nat.le_of_ble_eq_true rfl) (Nat.le_of_ble_eq_true rfl) dX12_fights_55 rfl ?_
    refine sp_iload_n (i := 3) (q := 59) hX dX12_fights_58 rfl rfl rfl ?_
    exact sp_iret hX hR dX12_fights_59 hf (Nat.le_of_ble_eq_true rfl) (Nat.le_of_ble_eq_true rfl)
  · rw [if_pos hc] at hf
    refine sp_aload_n (i := 0) (q := 18) hX dX12_fights_17 rfl rfl rfl ?_
    refine sp_iconst (v := 1) (q := 19) hX dX12_fights_18 li_1 rfl ?_
    obtain ⟨σ17, v18, h16, hf⟩ := sp_bd_so hf
    refine sp_callVi (As := [.int ((1 : Int32))]) (rest := []) (q := 22) hX (cnX12_fail (sp_st hX)  h16) cwX12_312 atM_0 rfl rfl rfl rfl rfl (Nat.le_of_ble_eq_true rfl) (Nat.le_of_ble_eq_true rfl) (Nat.le_of_ble_eq_true rfl) (Nat.le_of_ble_eq_true rfl) (Nat.le_of_ble_eq_true rfl) dX12_fights_19 rfl ?_
    exact sp_iret hX hR dX12_fights_22 hf (Nat.le_of_ble_eq_true rfl) (Nat.le_of_ble_eq_true rfl)
set_option maxRecDepth 100000 in
set_option maxHeartbeats 4000000 in
theorem cnX12_fights {l : Launch} (hst : l.stackTraces = false) {w : sp_Wd} {n : Nat}  {σ : sp_St} {a1 : Int32} {τ : sp_St} {r : Int32}  (hf : X12_fights n σ a1 = some (τ, r)) : sp_Ci shM l w yX12_fights cX12_fights 4 (some .int) rmX12_fights 0 0 σ [.ref (w.2.1 0), .int a1] τ r :=
  sp_ci (own := RX12) (by decide) rfl hst (Nat.le_of_ble_eq_true rfl) rfl (fun X hX hw hl hR => by subst hw; subst hl; exact hX12_fights hX hR   hf)
def rmX12_rests : Room := { frames := 6, cells := 0, slots := 0, locals := 132 }
def X12_rests_65 (n : Nat) (σ : sp_St) (z2 : Int32) : Option (sp_St × Int32) :=
  sp_bv (X12_unpack n σ 25 88 ((0 : Int32))) fun σ2 =>
  some (σ2, z2)
def X12_rests_55 (n : Nat) (k32 : sp_St → Int32 → Int32 → Int32 → Option (sp_St × Int32)) (σ : sp_St) (z1 : Int32) (z2 : Int32) (z3 : Int32) : Option (sp_St × Int32) :=
  sp_bv (X12_aDay n σ) fun σ2 =>
  sp_pl (z3 + 1) fun x3 =>
  k32 σ2 z1 z2 x3
def X12_rests_32 (n : Nat) : Nat → sp_St → Int32 → Int32 → Int32 → Option (sp_St × Int32)
  | 0, _, _, _, _ => none
  | f + 1, σ, z1, z2, z3 =>
    if ((60 : Int32)) < z3 then
      X12_rests_65 n σ z2
    else
      if z2 = ((-1 : Int32)) then
        sp_ck (sp_in z1 10) <|
        if (sp_g σ 15 z1) = ((2 : Int32)) then
          X12_rests_55 n (X12_rests_32 n f) σ z1 z3 z3
        else
          X12_rests_55 n (X12_rests_32 n f) σ z1 z2 z3
      else
        X12_rests_65 n σ z2
def X12_rests (n : Nat)  (σ : sp_St) (a1 : Int32) : Option (sp_St × Int32) :=
  sp_pl (sp_si σ 0 3 ((0 : Int32))) fun σ1 =>
  sp_bd (X12_isBlade n σ1 a1) fun σ4 v5 =>
  if v5 = 0 then
    sp_bd (X12_fail n σ4 ((1 : Int32))) fun σ13 v14 =>
    some (σ13, v14)
  else
    sp_bv (X12_pack n σ4 25 88 ((0 : Int32))) fun σ7 =>
    sp_pl ((-1 : Int32)) fun x8 =>
    sp_pl ((0 : Int32)) fun x10 =>
    X12_rests_32 n n σ7 a1 x8 x10
set_option maxRecDepth 100000 in
set_option maxHeartbeats 4000000 in
theorem hX12_rests_65 {X : sp_X} (hX : sp_OK shM X cX12_rests RX12 4 rmX12_rests) {τ : sp_St} {r : Int32} (hR : sp_Ri shM X (some .int) τ r 0 0) {n : Nat}    {σ : sp_St} {z2 : Int32} (hf : X12_rests_65 n σ z2 = some (τ, r)) : sp_GG shM X σ 4 [some (.ref (sx_ad X 0)), none, some (.int z2), none] [] 65 0 0 := by
  unfold X12_rests_65 at hf
  refine sp_aload_n (i := 0) (q := 66) hX dX12_rests_65 rfl rfl rfl ?_
  refine sp_aload_n (i := 0) (q := 67) hX dX12_rests_66 rfl rfl rfl ?_
  refine sp_gets (t := 25) (q := 70) hX flX12_102 fkX12_41 atM_0 srM_0_41 dX12_rests_67 rfl ?_
  refine sp_iconst (v := 0) (q := 71) hX dX12_rests_70 li_0 rfl ?_
  obtain ⟨σ2, h1, hf⟩ := sp_bv_so hf
  refine sp_callVv (As := [.ref (sx_ad X 25), .int ((0 : Int32))]) (rest := []) (q := 74) hX (cnX12_unpack (sp_st hX) arM_25 h1) cwX12_432 atM_0 rfl rfl rfl rfl rfl (Nat.le_of_ble_eq_true rfl) (Nat.le_of_ble_eq_true rfl) (Nat.le_of_ble_eq_true rfl) (Nat.le_of_ble_eq_true rfl) (Nat.le_of_ble_eq_true rfl) dX12_rests_71 rfl ?_
  refine sp_iload_n (i := 2) (q := 75) hX dX12_rests_74 rfl rfl rfl ?_
  exact sp_iret hX hR dX12_rests_75 hf (Nat.le_of_ble_eq_true rfl) (Nat.le_of_ble_eq_true rfl)
set_option maxRecDepth 100000 in
set_option maxHeartbeats 4000000 in
theorem hX12_rests_55 {X : sp_X} (hX : sp_OK shM X cX12_rests RX12 4 rmX12_rests) {τ : sp_St} {r : Int32} (hR : sp_Ri shM X (some .int) τ r 0 0) {n : Nat}   {k32 : sp_St → Int32 → Int32 → Int32 → Option (sp_St × Int32)} (hk32 : ∀ (σ : sp_St) (z1 : Int32) (z2 : Int32) (z3 : Int32), k32 σ z1 z2 z3 = some (τ, r) → sp_GG shM X σ 4 [some (.ref (sx_ad X 0)), some (.int z1), some (.int z2), some (.int z3)] [] 32 0 0) {σ : sp_St} {z1 : Int32} {z2 : Int32} {z3 : Int32} (hf : X12_rests_55 n k32 σ z1 z2 z3 = some (τ, r)) : sp_GG shM X σ 4 [some (.ref (sx_ad X 0)), some (.int z1), some (.int z2), some (.int z3)] [] 55 0 0 := by
  unfold X12_rests_55 at hf
  refine sp_aload_n (i := 0) (q := 56) hX dX12_rests_55 rfl rfl rfl ?_
  obtain ⟨σ2, h1, hf⟩ := sp_bv_so hf
  refine sp_callVv (As := []) (rest := []) (q := 59) hX (cnX12_aDay (sp_st hX)  h1) cwX12_393 atM_0 rfl rfl rfl rfl rfl (Nat.le_of_ble_eq_true rfl) (Nat.le_of_ble_eq_true rfl) (Nat.le_of_ble_eq_true rfl) (Nat.le_of_ble_eq_true rfl) (Nat.le_of_ble_eq_true rfl) dX12_rests_56 rfl ?_
  obtain ⟨x3, e4, hf⟩ := sp_pl_some hf
  refine sp_iinc (i := 3) (v := x3) (lv' := [some (.ref (sx_ad X 0)), some (.int z1), some (.int z2), some (.int x3)]) (q := 62) hX dX12_rests_59 rfl (by rw [e4, li_1]) (Nat.le_of_ble_eq_true rfl) rfl rfl rfl ?_
  refine sp_goto (tgt := 32) hX dX12_rests_62 (by decide) ?_
  exact hk32 σ2 z1 z2 x3 hf
set_option maxRecDepth 100000 in
set_option maxHeartbeats 4000000 in
theorem hX12_rests_32 {X : sp_X} (hX : sp_OK shM X cX12_rests RX12 4 rmX12_rests) {τ : sp_St} {r : Int32} (hR : sp_Ri shM X (some .int) τ r 0 0) {n : Nat}    : ∀ (f : Nat) (σ : sp_St) (z1 : Int32) (z2 : Int32) (z3 : Int32), X12_rests_32 n f σ z1 z2 z3 = some (τ, r) → sp_GG shM X σ 4 [some (.ref (sx_ad X 0)), some (.int z1), some (.int z2), some (.int z3)] [] 32 0 0 := by
  intro f
  induction f with
  | zero =>
    intro σ z1 z2 z3 hf
    rw [X12_rests_32] at hf
    cases hf
  | succ f ih =>
    intro σ z1 z2 z3 hf
    rw [X12_rests_32] at hf
    refine sp_iload_n (i := 3) (q := 33) hX dX12_rests_32 rfl rfl rfl ?_
    refine sp_bipush (v := 60) (q := 35) hX dX12_rests_33 lb_60 rfl ?_
    refine sp_icmp_gt (tgt := 65) (q := 38) hX dX12_rests_35 (by decide) rfl (fun hc => ?_) (fun hc => ?_)
    · rw [if_pos hc] at hf
      refine sp_drop (lv' := [some (.ref (sx_ad X 0)), none, some (.int z2), none]) (And.intro rfl (And.intro rfl trivial)) ?_
      exact hX12_rests_65 hX hR hf
    · rw [if_neg hc] at hf
      refine sp_iload_n (i := 2) (q := 39) hX dX12_rests_38 rfl rfl rfl ?_
      refine sp_iconst (v := -1) (q := 40) hX dX12_rests_39 li_m1 rfl ?_
      refine sp_icmp_ne (tgt := 65) (q := 43) hX dX12_rests_40 (by decide) rfl (fun hc => ?_) (fun hc => ?_)
      · rw [if_neg hc] at hf
        refine sp_drop (lv' := [some (.ref (sx_ad X 0)), none, some (.int z2), none]) (And.intro rfl (And.intro rfl trivial)) ?_
        exact hX12_rests_65 hX hR hf
      · rw [if_pos hc] at hf
        refine sp_aload_n (i := 0) (q := 44) hX dX12_rests_43 rfl rfl rfl ?_
        refine sp_gets (t := 15) (q := 47) hX flX12_72 fkX12_27 atM_0 srM_0_27 dX12_rests_44 rfl ?_
        refine sp_iload_n (i := 1) (q := 48) hX dX12_rests_47 rfl rfl rfl ?_
        obtain ⟨h1, hf⟩ := sp_ck_some hf
        refine sp_iald (q := 49) hX arM_15 h1 dX12_rests_48 rfl ?_
        refine sp_iconst (v := 2) (q := 50) hX dX12_rests_49 li_2 rfl ?_
        refine sp_icmp_ne (tgt := 55) (q := 53) hX dX12_rests_50 (by decide) rfl (fun hc => ?_) (fun hc => ?_)
        · rw [if_neg hc] at hf
          exact hX12_rests_55 hX hR ih hf
        · rw [if_pos hc] at hf
          refine sp_iload_n (i := 3) (q := 54) hX dX12_rests_53 rfl rfl rfl ?_
          refine sp_istore_n (i := 2) (lv' := [some (.ref (sx_ad X 0)), some (.int z1), some (.int z3), some (.int z3)]) (q := 55) hX dX12_rests_54 rfl (Nat.le_of_ble_eq_true rfl) rfl rfl rfl ?_
          exact hX12_rests_55 hX hR ih hf
set_option maxRecDepth 100000 in
set_option maxHeartbeats 4000000 in
theorem hX12_rests {X : sp_X} (hX : sp_OK shM X cX12_rests RX12 4 rmX12_rests) {τ : sp_St} {r : Int32} (hR : sp_Ri shM X (some .int) τ r 0 0) {n : Nat}  {σ : sp_St} {a1 : Int32}  (hf : X12_rests n σ a1 = some (τ, r)) : sp_GG shM X σ 4 [some (.ref (sx_ad X 0)), some (.int a1), none, none] [] 0 0 0 := by
  unfold X12_rests at hf
  refine sp_aload_n (i := 0) (q := 1) hX dX12_rests_0 rfl rfl rfl ?_
  refine sp_iconst (v := 0) (q := 2) hX dX12_rests_1 li_0 rfl ?_
  obtain ⟨σ1, e2, hf⟩ := sp_pl_some hf
  refine sp_puti (q := 5) hX fpX12_158 fkX12_3 atM_0 dX12_rests_2 rfl ?_
  refine sp_nms e2 ?_
  refine sp_aload_n (i := 0) (q := 6) hX dX12_rests_5 rfl rfl rfl ?_
  refine sp_iload_n (i := 1) (q := 7) hX dX12_rests_6 rfl rfl rfl ?_
  obtain ⟨σ4, v5, h3, hf⟩ := sp_bd_so hf
  refine sp_callVi (As := [.int a1]) (rest := []) (q := 10) hX (cnX12_isBlade (sp_st hX)  h3) cwX12_399 atM_0 rfl rfl rfl rfl rfl (Nat.le_of_ble_eq_true rfl) (Nat.le_of_ble_eq_true rfl) (Nat.le_of_ble_eq_true rfl) (Nat.le_of_ble_eq_true rfl) (Nat.le_of_ble_eq_true rfl) dX12_rests_7 rfl ?_
  refine sp_if_ne (tgt := 19) (q := 13) hX dX12_rests_10 (by decide) rfl (fun hc => ?_) (fun hc => ?_)
  · rw [if_neg hc] at hf
    refine sp_aload_n (i := 0) (q := 20) hX dX12_rests_19 rfl rfl rfl ?_
    refine sp_aload_n (i := 0) (q := 21) hX dX12_rests_20 rfl rfl rfl ?_
    refine sp_gets (t := 25) (q := 24) hX flX12_102 fkX12_41 atM_0 srM_0_41 dX12_rests_21 rfl ?_
    refine sp_iconst (v := 0) (q := 25) hX dX12_rests_24 li_0 rfl ?_
    obtain ⟨σ7, h6, hf⟩ := sp_bv_so hf
    refine sp_callVv (As := [.ref (sx_ad X 25), .int ((0 : Int32))]) (rest := []) (q := 28) hX (cnX12_pack (sp_st hX) arM_25 h6) cwX12_414 atM_0 rfl rfl rfl rfl rfl (Nat.le_of_ble_eq_true rfl) (Nat.le_of_ble_eq_true rfl) (Nat.le_of_ble_eq_true rfl) (Nat.le_of_ble_eq_true rfl) (Nat.le_of_ble_eq_true rfl) dX12_rests_25 rfl ?_
    refine sp_iconst (v := -1) (q := 29) hX dX12_rests_28 li_m1 rfl ?_
    obtain ⟨x8, e9, hf⟩ := sp_pl_some hf
    refine sp_nmi e9 ?_
    refine sp_istore_n (i := 2) (lv' := [some (.ref (sx_ad X 0)), some (.int a1), some (.int x8), none]) (q := 30) hX dX12_rests_29 rfl (Nat.le_of_ble_eq_true rfl) rfl rfl rfl ?_
    refine sp_iconst (v := 0) (q := 31) hX dX12_rests_30 li_0 rfl ?_
    obtain ⟨x10, e11, hf⟩ := sp_pl_some hf
    refine sp_nmi e11 ?_
    refine sp_istore_n (i := 3) (lv' := [some (.ref (sx_ad X 0)), some (.int a1), some (.int x8), some (.int x10)]) (q := 32) hX dX12_rests_31 rfl (Nat.le_of_ble_eq_true rfl) rfl rfl rfl ?_
    exact hX12_rests_32 hX hR n σ7 a1 x8 x10 hf
  · rw [if_pos hc] at hf
    refine sp_aload_n (i := 0) (q := 14) hX dX12_rests_13 rfl rfl rfl ?_
    refine sp_iconst (v := 1) (q := 15) hX dX12_rests_14 li_1 rfl ?_
    obtain ⟨σ13, v14, h12, hf⟩ := sp_bd_so hf
    refine sp_callVi (As := [.int ((1 : Int32))]) (rest := []) (q := 18) hX (cnX12_fail (sp_st hX)  h12) cwX12_312 atM_0 rfl rfl rfl rfl rfl (Nat.le_of_ble_eq_true rfl) (Nat.le_of_ble_eq_true rfl) (Nat.le_of_ble_eq_true rfl) (Nat.le_of_ble_eq_true rfl) (Nat.le_of_ble_eq_true rfl) dX12_rests_15 rfl ?_
    exact sp_iret hX hR dX12_rests_18 hf (Nat.le_of_ble_eq_true rfl) (Nat.le_of_ble_eq_true rfl)
set_option maxRecDepth 100000 in
set_option maxHeartbeats 4000000 in
theorem cnX12_rests {l : Launch} (hst : l.stackTraces = false) {w : sp_Wd} {n : Nat}  {σ : sp_St} {a1 : Int32} {τ : sp_St} {r : Int32}  (hf : X12_rests n σ a1 = some (τ, r)) : sp_Ci shM l w yX12_rests cX12_rests 4 (some .int) rmX12_rests 0 0 σ [.ref (w.2.1 0), .int a1] τ r :=
  sp_ci (own := RX12) (by decide) rfl hst (Nat.le_of_ble_eq_true rfl) rfl (fun X hX hw hl hR => by subst hw; subst hl; exact hX12_rests hX hR   hf)
def rmX12_worst : Room := { frames := 7, cells := 0, slots := 0, locals := 154 }
def X12_worst_103 (n : Nat) (σ : sp_St) (z2 : Int32) : Option (sp_St × Int32) :=
  sp_bv (X12_unpack n σ 25 88 ((0 : Int32))) fun σ2 =>
  some (σ2, z2)
def X12_worst_97 (n : Nat) (k62 : sp_St → Int32 → Int32 → Option (sp_St × Int32)) (σ : sp_St) (z2 : Int32) (z3 : Int32) : Option (sp_St × Int32) :=
  sp_pl (z3 + (-1)) fun x1 =>
  k62 σ z2 x1
def X12_worst_95 (n : Nat) (k62 : sp_St → Int32 → Int32 → Option (sp_St × Int32)) (σ : sp_St) (z3 : Int32) : Option (sp_St × Int32) :=
  X12_worst_97 n k62 σ z3 z3
def X12_worst_62 (n : Nat) : Nat → sp_St → Int32 → Int32 → Option (sp_St × Int32)
  | 0, _, _, _ => none
  | f + 1, σ, z2, z3 =>
    if z3 < 0 then
      X12_worst_103 n σ z2
    else
      sp_ck (sp_in z3 6) <|
      if (sp_g σ 24 z3) ≤ 0 then
        X12_worst_97 n (X12_worst_62 n f) σ z2 z3
      else
        if z2 = ((-1 : Int32)) then
          X12_worst_95 n (X12_worst_62 n f) σ z3
        else
          sp_ck (sp_in z3 6) <|
          sp_ck (sp_in z2 6) <|
          if (sp_g σ 24 z3) < (sp_g σ 24 z2) then
            X12_worst_97 n (X12_worst_62 n f) σ z2 z3
          else
            X12_worst_95 n (X12_worst_62 n f) σ z3
def X12_worst_53 (n : Nat) (σ : sp_St) (z1 : Int32) : Option (sp_St × Int32) :=
  sp_bv (X12_goOn n σ z1) fun σ2 =>
  sp_pl ((-1 : Int32)) fun x3 =>
  sp_pl ((5 : Int32)) fun x5 =>
  X12_worst_62 n n σ2 x3 x5
def X12_worst_34 (n : Nat) : Nat → sp_St → Int32 → Int32 → Option (sp_St × Int32)
  | 0, _, _, _ => none
  | f + 1, σ, z1, z2 =>
    if ((6 : Int32)) ≤ z2 then
      X12_worst_53 n σ z1
    else
      sp_ck (sp_in z2 6) <|
      sp_pl (sp_sa σ 24 z2.toNatClampNeg ((0 : Int32))) fun σ2 =>
      sp_pl (z2 + 1) fun x4 =>
      X12_worst_34 n f σ2 z1 x4
def X12_worst (n : Nat)  (σ : sp_St) (a1 : Int32) : Option (sp_St × Int32) :=
  sp_pl (sp_si σ 0 3 ((0 : Int32))) fun σ1 =>
  sp_bd (X12_isIn n σ1 a1.toInt64 ((0 : Int64)) ((60 : Int64))) fun σ4 v5 =>
  if v5 = 0 then
    sp_bd (X12_fail n σ4 ((1 : Int32))) fun σ11 v12 =>
    some (σ11, v12)
  else
    sp_bv (X12_pack n σ4 25 88 ((0 : Int32))) fun σ7 =>
    sp_pl ((0 : Int32)) fun x8 =>
    X12_worst_34 n n σ7 a1 x8
set_option maxRecDepth 100000 in
set_option maxHeartbeats 4000000 in
theorem hX12_worst_103 {X : sp_X} (hX : sp_OK shM X cX12_worst RX12 4 rmX12_worst) {τ : sp_St} {r : Int32} (hR : sp_Ri shM X (some .int) τ r 0 0) {n : Nat}    {σ : sp_St} {z2 : Int32} (hf : X12_worst_103 n σ z2 = some (τ, r)) : sp_GG shM X σ 4 [some (.ref (sx_ad X 0)), none, some (.int z2), none] [] 103 0 0 := by
  unfold X12_worst_103 at hf
  refine sp_aload_n (i := 0) (q := 104) hX dX12_worst_103 rfl rfl rfl ?_
  refine sp_aload_n (i := 0) (q := 105) hX dX12_worst_104 rfl rfl rfl ?_
  refine sp_gets (t := 25) (q := 108) hX flX12_102 fkX12_41 atM_0 srM_0_41 dX12_worst_105 rfl ?_
  refine sp_iconst (v := 0) (q := 109) hX dX12_worst_108 li_0 rfl ?_
  obtain ⟨σ2, h1, hf⟩ := sp_bv_so hf
  refine sp_callVv (As := [.ref (sx_ad X 25), .int ((0 : Int32))]) (rest := []) (q := 112) hX (cnX12_unpack (sp_st hX) arM_25 h1) cwX12_432 atM_0 rfl rfl rfl rfl rfl (Nat.le_of_ble_eq_true rfl) (Nat.le_of_ble_eq_true rfl) (Nat.le_of_ble_eq_true rfl) (Nat.le_of_ble_eq_true rfl) (Nat.le_of_ble_eq_true rfl) dX12_worst_109 rfl ?_
  refine sp_iload_n (i := 2) (q := 113) hX dX12_worst_112 rfl rfl rfl ?_
  exact sp_iret hX hR dX12_worst_113 hf (Nat.le_of_ble_eq_true rfl) (Nat.le_of_ble_eq_true rfl)
set_option maxRecDepth 100000 in
set_option maxHeartbeats 4000000 in
theorem hX12_worst_97 {X : sp_X} (hX : sp_OK shM X cX12_worst RX12 4 rmX12_worst) {τ : sp_St} {r : Int32} (hR : sp_Ri shM X (some .int) τ r 0 0) {n : Nat}   {k62 : sp_St → Int32 → Int32 → Option (sp_St × Int32)} (hk62 : ∀ (σ : sp_St) (z2 : Int32) (z3 : Int32), k62 σ z2 z3 = some (τ, r) → sp_GG shM X σ 4 [some (.ref (sx_ad X 0)), none, some (.int z2), some (.int z3)] [] 62 0 0) {σ : sp_St} {z2 : Int32} {z3 : Int32} (hf : X12_worst_97 n k62 σ z2 z3 = some (τ, r)) : sp_GG shM X σ 4 [some (.ref (sx_ad X 0)), none, some (.int z2), some (.int z3)] [] 97 0 0 := by
  unfold X12_worst_97 at hf
  obtain ⟨x1, e2, hf⟩ := sp_pl_some hf
  refine sp_iinc (i := 3) (v := x1) (lv' := [some (.ref (sx_ad X 0)), none, some (.int z2), some (.int x1)]) (q := 100) hX dX12_worst_97 rfl (by rw [e2, li_m1]) (Nat.le_of_ble_eq_true rfl) rfl rfl rfl ?_
  refine sp_goto (tgt := 62) hX dX12_worst_100 (by decide) ?_
  exact hk62 σ z2 x1 hf
set_option maxRecDepth 100000 in
set_option maxHeartbeats 4000000 in
theorem hX12_worst_95 {X : sp_X} (hX : sp_OK shM X cX12_worst RX12 4 rmX12_worst) {τ : sp_St} {r : Int32} (hR : sp_Ri shM X (some .int) τ r 0 0) {n : Nat}   {k62 : sp_St → Int32 → Int32 → Option (sp_St × Int32)} (hk62 : ∀ (σ : sp_St) (z2 : Int32) (z3 : Int32), k62 σ z2 z3 = some (τ, r) → sp_GG shM X σ 4 [some (.ref (sx_ad X 0)), none, some (.int z2), some (.int z3)] [] 62 0 0) {σ : sp_St} {z3 : Int32} (hf : X12_worst_95 n k62 σ z3 = some (τ, r)) : sp_GG shM X σ 4 [some (.ref (sx_ad X 0)), none, none, some (.int z3)] [] 95 0 0 := by
  unfold X12_worst_95 at hf
  refine sp_iload_n (i := 3) (q := 96) hX dX12_worst_95 rfl rfl rfl ?_
  refine sp_istore_n (i := 2) (lv' := [some (.ref (sx_ad X 0)), none, some (.int z3), some (.int z3)]) (q := 97) hX dX12_worst_96 rfl (Nat.le_of_ble_eq_true rfl) rfl rfl rfl ?_
  exact hX12_worst_97 hX hR hk62 hf
set_option maxRecDepth 100000 in
set_option maxHeartbeats 4000000 in
theorem hX12_worst_62 {X : sp_X} (hX : sp_OK shM X cX12_worst RX12 4 rmX12_worst) {τ : sp_St} {r : Int32} (hR : sp_Ri shM X (some .int) τ r 0 0) {n : Nat}    : ∀ (f : Nat) (σ : sp_St) (z2 : Int32) (z3 : Int32), X12_worst_62 n f σ z2 z3 = some (τ, r) → sp_GG shM X σ 4 [some (.ref (sx_ad X 0)), none, some (.int z2), some (.int z3)] [] 62 0 0 := by
  intro f
  induction f with
  | zero =>
    intro σ z2 z3 hf
    rw [X12_worst_62] at hf
    cases hf
  | succ f ih =>
    intro σ z2 z3 hf
    rw [X12_worst_62] at hf
    refine sp_iload_n (i := 3) (q := 63) hX dX12_worst_62 rfl rfl rfl ?_
    refine sp_if_lt (tgt := 103) (q := 66) hX dX12_worst_63 (by decide) rfl (fun hc => ?_) (fun hc => ?_)
    · rw [if_pos hc] at hf
      refine sp_drop (lv' := [some (.ref (sx_ad X 0)), none, some (.int z2), none]) (And.intro rfl (And.intro rfl trivial)) ?_
      exact hX12_worst_103 hX hR hf
    · rw [if_neg hc] at hf
      refine sp_aload_n (i := 0) (q := 67) hX dX12_worst_66 rfl rfl rfl ?_
      refine sp_gets (t := 24) (q := 70) hX flX12_99 fkX12_40 atM_0 srM_0_40 dX12_worst_67 rfl ?_
      refine sp_iload_n (i := 3) (q := 71) hX dX12_worst_70 rfl rfl rfl ?_
      obtain ⟨h1, hf⟩ := sp_ck_some hf
      refine sp_iald (q := 72) hX arM_24 h1 dX12_worst_71 rfl ?_
      refine sp_if_le (tgt := 97) (q := 75) hX dX12_worst_72 (by decide) rfl (fun hc => ?_) (fun hc => ?_)
      · rw [if_pos hc] at hf
        exact hX12_worst_97 hX hR ih hf
      · rw [if_neg hc] at hf
        refine sp_iload_n (i := 2) (q := 76) hX dX12_worst_75 rfl rfl rfl ?_
        refine sp_iconst (v := -1) (q := 77) hX dX12_worst_76 li_m1 rfl ?_
        refine sp_icmp_eq (tgt := 95) (q := 80) hX dX12_worst_77 (by decide) rfl (fun hc => ?_) (fun hc => ?_)
        · rw [if_pos hc] at hf
          refine sp_drop (lv' := [some (.ref (sx_ad X 0)), none, none, some (.int z3)]) (And.intro rfl (And.intro rfl trivial)) ?_
          exact hX12_worst_95 hX hR ih hf
        · rw [if_neg hc] at hf
          refine sp_aload_n (i := 0) (q := 81) hX dX12_worst_80 rfl rfl rfl ?_
          refine sp_gets (t := 24) (q := 84) hX flX12_99 fkX12_40 atM_0 srM_0_40 dX12_worst_81 rfl ?_
          refine sp_iload_n (i := 3) (q := 85) hX dX12_worst_84 rfl rfl rfl ?_
          obtain ⟨h2, hf⟩ := sp_ck_some hf
          refine sp_iald (q := 86) hX arM_24 h2 dX12_worst_85 rfl ?_
          refine sp_aload_n (i := 0) (q := 87) hX dX12_worst_86 rfl rfl rfl ?_
          refine sp_gets (t := 24) (q := 90) hX flX12_99 fkX12_40 atM_0 srM_0_40 dX12_worst_87 rfl ?_
          refine sp_iload_n (i := 2) (q := 91) hX dX12_worst_90 rfl rfl rfl ?_
          obtain ⟨h3, hf⟩ := sp_ck_some hf
          refine sp_iald (q := 92) hX arM_24 h3 dX12_worst_91 rfl ?_
          refine sp_icmp_lt (tgt := 97) (q := 95) hX dX12_worst_92 (by decide) rfl (fun hc => ?_) (fun hc => ?_)
          · rw [if_pos hc] at hf
            exact hX12_worst_97 hX hR ih hf
          · rw [if_neg hc] at hf
            refine sp_drop (lv' := [some (.ref (sx_ad X 0)), none, none, some (.int z3)]) (And.intro rfl (And.intro rfl trivial)) ?_
            exact hX12_worst_95 hX hR ih hf
set_option maxRecDepth 100000 in
set_option maxHeartbeats 4000000 in
theorem hX12_worst_53 {X : sp_X} (hX : sp_OK shM X cX12_worst RX12 4 rmX12_worst) {τ : sp_St} {r : Int32} (hR : sp_Ri shM X (some .int) τ r 0 0) {n : Nat}    {σ : sp_St} {z1 : Int32} (hf : X12_worst_53 n σ z1 = some (τ, r)) : sp_GG shM X σ 4 [some (.ref (sx_ad X 0)), some (.int z1), none, none] [] 53 0 0 := by
  unfold X12_worst_53 at hf
  refine sp_aload_n (i := 0) (q := 54) hX dX12_worst_53 rfl rfl rfl ?_
  refine sp_iload_n (i := 1) (q := 55) hX dX12_worst_54 rfl rfl rfl ?_
  obtain ⟨σ2, h1, hf⟩ := sp_bv_so hf
  refine sp_callVv (As := [.int z1]) (rest := []) (q := 58) hX (cnX12_goOn (sp_st hX)  h1) cwX12_426 atM_0 rfl rfl rfl rfl rfl (Nat.le_of_ble_eq_true rfl) (Nat.le_of_ble_eq_true rfl) (Nat.le_of_ble_eq_true rfl) (Nat.le_of_ble_eq_true rfl) (Nat.le_of_ble_eq_true rfl) dX12_worst_55 rfl ?_
  refine sp_iconst (v := -1) (q := 59) hX dX12_worst_58 li_m1 rfl ?_
  obtain ⟨x3, e4, hf⟩ := sp_pl_some hf
  refine sp_nmi e4 ?_
  refine sp_istore_n (i := 2) (lv' := [some (.ref (sx_ad X 0)), some (.int z1), some (.int x3), none]) (q := 60) hX dX12_worst_59 rfl (Nat.le_of_ble_eq_true rfl) rfl rfl rfl ?_
  refine sp_iconst (v := 5) (q := 61) hX dX12_worst_60 li_5 rfl ?_
  obtain ⟨x5, e6, hf⟩ := sp_pl_some hf
  refine sp_nmi e6 ?_
  refine sp_istore_n (i := 3) (lv' := [some (.ref (sx_ad X 0)), some (.int z1), some (.int x3), some (.int x5)]) (q := 62) hX dX12_worst_61 rfl (Nat.le_of_ble_eq_true rfl) rfl rfl rfl ?_
  refine sp_drop (lv' := [some (.ref (sx_ad X 0)), none, some (.int x3), some (.int x5)]) (And.intro rfl (And.intro rfl (And.intro rfl trivial))) ?_
  exact hX12_worst_62 hX hR n σ2 x3 x5 hf
set_option maxRecDepth 100000 in
set_option maxHeartbeats 4000000 in
theorem hX12_worst_34 {X : sp_X} (hX : sp_OK shM X cX12_worst RX12 4 rmX12_worst) {τ : sp_St} {r : Int32} (hR : sp_Ri shM X (some .int) τ r 0 0) {n : Nat}    : ∀ (f : Nat) (σ : sp_St) (z1 : Int32) (z2 : Int32), X12_worst_34 n f σ z1 z2 = some (τ, r) → sp_GG shM X σ 4 [some (.ref (sx_ad X 0)), some (.int z1), some (.int z2), none] [] 34 0 0 := by
  intro f
  induction f with
  | zero =>
    intro σ z1 z2 hf
    rw [X12_worst_34] at hf
    cases hf
  | succ f ih =>
    intro σ z1 z2 hf
    rw [X12_worst_34] at hf
    refine sp_iload_n (i := 2) (q := 35) hX dX12_worst_34 rfl rfl rfl ?_
    refine sp_bipush (v := 6) (q := 37) hX dX12_worst_35 lb_6 rfl ?_
    refine sp_icmp_ge (tgt := 53) (q := 40) hX dX12_worst_37 (by decide) rfl (fun hc => ?_) (fun hc => ?_)
    · rw [if_pos hc] at hf
      refine sp_drop (lv' := [some (.ref (sx_ad X 0)), some (.int z1), none, none]) (And.intro rfl (And.intro rfl trivial)) ?_
      exact hX12_worst_53 hX hR hf
    · rw [if_neg hc] at hf
      refine sp_aload_n (i := 0) (q := 41) hX dX12_worst_40 rfl rfl rfl ?_
      refine sp_gets (t := 24) (q := 44) hX flX12_99 fkX12_40 atM_0 srM_0_40 dX12_worst_41 rfl ?_
      refine sp_iload_n (i := 2) (q := 45) hX dX12_worst_44 rfl rfl rfl ?_
      refine sp_iconst (v := 0) (q := 46) hX dX12_worst_45 li_0 rfl ?_
      obtain ⟨h1, hf⟩ := sp_ck_some hf
      obtain ⟨σ2, e3, hf⟩ := sp_pl_some hf
      refine sp_iast (q := 47) hX arM_24 h1 dX12_worst_46 rfl ?_
      refine sp_nms e3 ?_
      obtain ⟨x4, e5, hf⟩ := sp_pl_some hf
      refine sp_iinc (i := 2) (v := x4) (lv' := [some (.ref (sx_ad X 0)), some (.int z1), some (.int x4), none]) (q := 50) hX dX12_worst_47 rfl (by rw [e5, li_1]) (Nat.le_of_ble_eq_true rfl) rfl rfl rfl ?_
      refine sp_goto (tgt := 34) hX dX12_worst_50 (by decide) ?_
      exact ih σ2 z1 x4 hf
set_option maxRecDepth 100000 in
set_option maxHeartbeats 4000000 in
theorem hX12_worst {X : sp_X} (hX : sp_OK shM X cX12_worst RX12 4 rmX12_worst) {τ : sp_St} {r : Int32} (hR : sp_Ri shM X (some .int) τ r 0 0) {n : Nat}  {σ : sp_St} {a1 : Int32}  (hf : X12_worst n σ a1 = some (τ, r)) : sp_GG shM X σ 4 [some (.ref (sx_ad X 0)), some (.int a1), none, none] [] 0 0 0 := by
  unfold X12_worst at hf
  refine sp_aload_n (i := 0) (q := 1) hX dX12_worst_0 rfl rfl rfl ?_
  refine sp_iconst (v := 0) (q := 2) hX dX12_worst_1 li_0 rfl ?_
  obtain ⟨σ1, e2, hf⟩ := sp_pl_some hf
  refine sp_puti (q := 5) hX fpX12_158 fkX12_3 atM_0 dX12_worst_2 rfl ?_
  refine sp_nms e2 ?_
  refine sp_iload_n (i := 1) (q := 6) hX dX12_worst_5 rfl rfl rfl ?_
  refine sp_i2l (q := 7) hX dX12_worst_6 rfl ?_
  refine sp_lconst (v := 0) (q := 8) hX dX12_worst_7 (by decide) rfl ?_
  refine sp_ldc2 (v := 60) (q := 11) hX wd_2097 dX12_worst_8 rfl ?_
  obtain ⟨σ4, v5, h3, hf⟩ := sp_bd_so hf
  refine sp_callSi (As := [.long a1.toInt64, .long ((0 : Int64)), .long ((60 : Int64))]) (rest := []) (q := 14) hX (cnX12_isIn (sp_st hX)  h3) cwX12_161 rfl rfl rfl rfl (Nat.le_of_ble_eq_true rfl) (Nat.le_of_ble_eq_true rfl) (Nat.le_of_ble_eq_true rfl) (Nat.le_of_ble_eq_true rfl) (Nat.le_of_ble_eq_true rfl) dX12_worst_11 rfl ?_
  refine sp_if_ne (tgt := 23) (q := 17) hX dX12_worst_14 (by decide) rfl (fun hc => ?_) (fun hc => ?_)
  · rw [if_neg hc] at hf
    refine sp_aload_n (i := 0) (q := 24) hX dX12_worst_23 rfl rfl rfl ?_
    refine sp_aload_n (i := 0) (q := 25) hX dX12_worst_24 rfl rfl rfl ?_
    refine sp_gets (t := 25) (q := 28) hX flX12_102 fkX12_41 atM_0 srM_0_41 dX12_worst_25 rfl ?_
    refine sp_iconst (v := 0) (q := 29) hX dX12_worst_28 li_0 rfl ?_
    obtain ⟨σ7, h6, hf⟩ := sp_bv_so hf
    refine sp_callVv (As := [.ref (sx_ad X 25), .int ((0 : Int32))]) (rest := []) (q := 32) hX (cnX12_pack (sp_st hX) arM_25 h6) cwX12_414 atM_0 rfl rfl rfl rfl rfl (Nat.le_of_ble_eq_true rfl) (Nat.le_of_ble_eq_true rfl) (Nat.le_of_ble_eq_true rfl) (Nat.le_of_ble_eq_true rfl) (Nat.le_of_ble_eq_true rfl) dX12_worst_29 rfl ?_
    refine sp_iconst (v := 0) (q := 33) hX dX12_worst_32 li_0 rfl ?_
    obtain ⟨x8, e9, hf⟩ := sp_pl_some hf
    refine sp_nmi e9 ?_
    refine sp_istore_n (i := 2) (lv' := [some (.ref (sx_ad X 0)), some (.int a1), some (.int x8), none]) (q := 34) hX dX12_worst_33 rfl (Nat.le_of_ble_eq_true rfl) rfl rfl rfl ?_
    exact hX12_worst_34 hX hR n σ7 a1 x8 hf
  · rw [if_pos hc] at hf
    refine sp_aload_n (i := 0) (q := 18) hX dX12_worst_17 rfl rfl rfl ?_
    refine sp_iconst (v := 1) (q := 19) hX dX12_worst_18 li_1 rfl ?_
    obtain ⟨σ11, v12, h10, hf⟩ := sp_bd_so hf
    refine sp_callVi (As := [.int ((1 : Int32))]) (rest := []) (q := 22) hX (cnX12_fail (sp_st hX)  h10) cwX12_312 atM_0 rfl rfl rfl rfl rfl (Nat.le_of_ble_eq_true rfl) (Nat.le_of_ble_eq_true rfl) (Nat.le_of_ble_eq_true rfl) (Nat.le_of_ble_eq_true rfl) (Nat.le_of_ble_eq_true rfl) dX12_worst_19 rfl ?_
    exact sp_iret hX hR dX12_worst_22 hf (Nat.le_of_ble_eq_true rfl) (Nat.le_of_ble_eq_true rfl)
set_option maxRecDepth 100000 in
set_option maxHeartbeats 4000000 in
theorem cnX12_worst {l : Launch} (hst : l.stackTraces = false) {w : sp_Wd} {n : Nat}  {σ : sp_St} {a1 : Int32} {τ : sp_St} {r : Int32}  (hf : X12_worst n σ a1 = some (τ, r)) : sp_Ci shM l w yX12_worst cX12_worst 4 (some .int) rmX12_worst 0 0 σ [.ref (w.2.1 0), .int a1] τ r :=
  sp_ci (own := RX12) (by decide) rfl hst (Nat.le_of_ble_eq_true rfl) rfl (fun X hX hw hl hR => by subst hw; subst hl; exact hX12_worst hX hR   hf)
def rmX12_angers : Room := { frames := 1, cells := 0, slots := 0, locals := 21 }
def X12_angers_41 (n : Nat) (σ : sp_St) (z2 : Int32) : Option (sp_St × Int32) :=
  some (σ, z2)
def X12_angers_33 (n : Nat) (k4 : sp_St → Int32 → Int32 → Int32 → Option (sp_St × Int32)) (σ : sp_St) (z1 : Int32) (z3 : Int32) (zs0 : Int32) (zs1 : Int32) : Option (sp_St × Int32) :=
  sp_pl (zs1 + zs0) fun x1 =>
  sp_pl (z3 + 1) fun x3 =>
  k4 σ z1 x1 x3
def X12_angers_4 (n : Nat) : Nat → sp_St → Int32 → Int32 → Int32 → Option (sp_St × Int32)
  | 0, _, _, _, _ => none
  | f + 1, σ, z1, z2, z3 =>
    if (sp_g σ 3 ((2 : Int32))) ≤ z3 then
      X12_angers_41 n σ z2
    else
      sp_bd (X12_isOf n σ z1 z3) fun σ2 v3 =>
      if v3 = 0 then
        X12_angers_33 n (X12_angers_4 n f) σ2 z1 z3 ((0 : Int32)) z2
      else
        sp_ck (sp_in z3 10) <|
        X12_angers_33 n (X12_angers_4 n f) σ2 z1 z3 (sp_g σ2 14 z3) z2
def X12_angers (n : Nat)  (σ : sp_St) (a1 : Int32) : Option (sp_St × Int32) :=
  sp_pl ((0 : Int32)) fun x1 =>
  sp_pl ((0 : Int32)) fun x3 =>
  X12_angers_4 n n σ a1 x1 x3
set_option maxRecDepth 100000 in
set_option maxHeartbeats 4000000 in
theorem hX12_angers_41 {X : sp_X} (hX : sp_OK shM X cX12_angers RX12 4 rmX12_angers) {τ : sp_St} {r : Int32} (hR : sp_Ri shM X (some .int) τ r 0 0) {n : Nat}    {σ : sp_St} {z2 : Int32} (hf : X12_angers_41 n σ z2 = some (τ, r)) : sp_GG shM X σ 4 [none, none, some (.int z2), none] [] 41 0 0 := by
  unfold X12_angers_41 at hf
  refine sp_iload_n (i := 2) (q := 42) hX dX12_angers_41 rfl rfl rfl ?_
  exact sp_iret hX hR dX12_angers_42 hf (Nat.le_of_ble_eq_true rfl) (Nat.le_of_ble_eq_true rfl)
set_option maxRecDepth 100000 in
set_option maxHeartbeats 4000000 in
theorem hX12_angers_33 {X : sp_X} (hX : sp_OK shM X cX12_angers RX12 4 rmX12_angers) {τ : sp_St} {r : Int32} (hR : sp_Ri shM X (some .int) τ r 0 0) {n : Nat}   {k4 : sp_St → Int32 → Int32 → Int32 → Option (sp_St × Int32)} (hk4 : ∀ (σ : sp_St) (z1 : Int32) (z2 : Int32) (z3 : Int32), k4 σ z1 z2 z3 = some (τ, r) → sp_GG shM X σ 4 [some (.ref (sx_ad X 0)), some (.int z1), some (.int z2), some (.int z3)] [] 4 0 0) {σ : sp_St} {z1 : Int32} {z3 : Int32} {zs0 : Int32} {zs1 : Int32} (hf : X12_angers_33 n k4 σ z1 z3 zs0 zs1 = some (τ, r)) : sp_GG shM X σ 4 [some (.ref (sx_ad X 0)), some (.int z1), none, some (.int z3)] [.int zs0, .int zs1] 33 0 0 := by
  unfold X12_angers_33 at hf
  refine sp_iadd (q := 34) hX dX12_angers_33 rfl ?_
  obtain ⟨x1, e2, hf⟩ := sp_pl_some hf
  refine sp_nmi e2 ?_
  refine sp_istore_n (i := 2) (lv' := [some (.ref (sx_ad X 0)), some (.int z1), some (.int x1), some (.int z3)]) (q := 35) hX dX12_angers_34 rfl (Nat.le_of_ble_eq_true rfl) rfl rfl rfl ?_
  obtain ⟨x3, e4, hf⟩ := sp_pl_some hf
  refine sp_iinc (i := 3) (v := x3) (lv' := [some (.ref (sx_ad X 0)), some (.int z1), some (.int x1), some (.int x3)]) (q := 38) hX dX12_angers_35 rfl (by rw [e4, li_1]) (Nat.le_of_ble_eq_true rfl) rfl rfl rfl ?_
  refine sp_goto (tgt := 4) hX dX12_angers_38 (by decide) ?_
  exact hk4 σ z1 x1 x3 hf
set_option maxRecDepth 100000 in
set_option maxHeartbeats 4000000 in
theorem hX12_angers_4 {X : sp_X} (hX : sp_OK shM X cX12_angers RX12 4 rmX12_angers) {τ : sp_St} {r : Int32} (hR : sp_Ri shM X (some .int) τ r 0 0) {n : Nat}    : ∀ (f : Nat) (σ : sp_St) (z1 : Int32) (z2 : Int32) (z3 : Int32), X12_angers_4 n f σ z1 z2 z3 = some (τ, r) → sp_GG shM X σ 4 [some (.ref (sx_ad X 0)), some (.int z1), some (.int z2), some (.int z3)] [] 4 0 0 := by
  intro f
  induction f with
  | zero =>
    intro σ z1 z2 z3 hf
    rw [X12_angers_4] at hf
    cases hf
  | succ f ih =>
    intro σ z1 z2 z3 hf
    rw [X12_angers_4] at hf
    refine sp_iload_n (i := 3) (q := 5) hX dX12_angers_4 rfl rfl rfl ?_
    refine sp_aload_n (i := 0) (q := 6) hX dX12_angers_5 rfl rfl rfl ?_
    refine sp_gets (t := 3) (q := 9) hX flX12_33 fkX12_4 atM_0 srM_0_4 dX12_angers_6 rfl ?_
    refine sp_iconst (v := 2) (q := 10) hX dX12_angers_9 li_2 rfl ?_
    refine sp_iald (q := 11) hX arM_3 (by decide) dX12_angers_10 rfl ?_
    refine sp_icmp_ge (tgt := 41) (q := 14) hX dX12_angers_11 (by decide) rfl (fun hc => ?_) (fun hc => ?_)
    · rw [if_pos hc] at hf
      refine sp_drop (lv' := [none, none, some (.int z2), none]) (And.intro rfl trivial) ?_
      exact hX12_angers_41 hX hR hf
    · rw [if_neg hc] at hf
      refine sp_iload_n (i := 2) (q := 15) hX dX12_angers_14 rfl rfl rfl ?_
      refine sp_iload_n (i := 1) (q := 16) hX dX12_angers_15 rfl rfl rfl ?_
      refine sp_iload_n (i := 3) (q := 17) hX dX12_angers_16 rfl rfl rfl ?_
      obtain ⟨σ2, v3, h1, hf⟩ := sp_bd_so hf
      refine sp_callSi (As := [.int z1, .int z3]) (rest := [.int z2]) (q := 20) hX (cnX12_isOf (sp_st hX)  h1) cwX12_284 rfl rfl rfl rfl (Nat.le_of_ble_eq_true rfl) (Nat.le_of_ble_eq_true rfl) (Nat.le_of_ble_eq_true rfl) (Nat.le_of_ble_eq_true rfl) (Nat.le_of_ble_eq_true rfl) dX12_angers_17 rfl ?_
      refine sp_if_eq (tgt := 32) (q := 23) hX dX12_angers_20 (by decide) rfl (fun hc => ?_) (fun hc => ?_)
      · rw [if_pos hc] at hf
        refine sp_iconst (v := 0) (q := 33) hX dX12_angers_32 li_0 rfl ?_
        refine sp_drop (lv' := [some (.ref (sx_ad X 0)), some (.int z1), none, some (.int z3)]) (And.intro rfl (And.intro rfl (And.intro rfl trivial))) ?_
        exact hX12_angers_33 hX hR ih hf
      · rw [if_neg hc] at hf
        refine sp_aload_n (i := 0) (q := 24) hX dX12_angers_23 rfl rfl rfl ?_
        refine sp_gets (t := 14) (q := 27) hX flX12_70 fkX12_26 atM_0 srM_0_26 dX12_angers_24 rfl ?_
        refine sp_iload_n (i := 3) (q := 28) hX dX12_angers_27 rfl rfl rfl ?_
        obtain ⟨h4, hf⟩ := sp_ck_some hf
        refine sp_iald (q := 29) hX arM_14 h4 dX12_angers_28 rfl ?_
        refine sp_goto (tgt := 33) hX dX12_angers_29 (by decide) ?_
        refine sp_drop (lv' := [some (.ref (sx_ad X 0)), some (.int z1), none, some (.int z3)]) (And.intro rfl (And.intro rfl (And.intro rfl trivial))) ?_
        exact hX12_angers_33 hX hR ih hf
set_option maxRecDepth 100000 in
set_option maxHeartbeats 4000000 in
theorem hX12_angers {X : sp_X} (hX : sp_OK shM X cX12_angers RX12 4 rmX12_angers) {τ : sp_St} {r : Int32} (hR : sp_Ri shM X (some .int) τ r 0 0) {n : Nat}  {σ : sp_St} {a1 : Int32}  (hf : X12_angers n σ a1 = some (τ, r)) : sp_GG shM X σ 4 [some (.ref (sx_ad X 0)), some (.int a1), none, none] [] 0 0 0 := by
  unfold X12_angers at hf
  refine sp_iconst (v := 0) (q := 1) hX dX12_angers_0 li_0 rfl ?_
  obtain ⟨x1, e2, hf⟩ := sp_pl_some hf
  refine sp_nmi e2 ?_
  refine sp_istore_n (i := 2) (lv' := [some (.ref (sx_ad X 0)), some (.int a1), some (.int x1), none]) (q := 2) hX dX12_angers_1 rfl (Nat.le_of_ble_eq_true rfl) rfl rfl rfl ?_
  refine sp_iconst (v := 0) (q := 3) hX dX12_angers_2 li_0 rfl ?_
  obtain ⟨x3, e4, hf⟩ := sp_pl_some hf
  refine sp_nmi e4 ?_
  refine sp_istore_n (i := 3) (lv' := [some (.ref (sx_ad X 0)), some (.int a1), some (.int x1), some (.int x3)]) (q := 4) hX dX12_angers_3 rfl (Nat.le_of_ble_eq_true rfl) rfl rfl rfl ?_
  exact hX12_angers_4 hX hR n σ a1 x1 x3 hf
set_option maxRecDepth 100000 in
set_option maxHeartbeats 4000000 in
theorem cnX12_angers {l : Launch} (hst : l.stackTraces = false) {w : sp_Wd} {n : Nat}  {σ : sp_St} {a1 : Int32} {τ : sp_St} {r : Int32}  (hf : X12_angers n σ a1 = some (τ, r)) : sp_Ci shM l w yX12_angers cX12_angers 4 (some .int) rmX12_angers 0 0 σ [.ref (w.2.1 0), .int a1] τ r :=
  sp_ci (own := RX12) (by decide) rfl hst (Nat.le_of_ble_eq_true rfl) rfl (fun X hX hw hl hR => by subst hw; subst hl; exact hX12_angers hX hR   hf)
