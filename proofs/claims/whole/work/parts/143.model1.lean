def rmX12_another : Room := { frames := 2, cells := 0, slots := 0, locals := 45 }
def X12_another_18 (n : Nat) (σ : sp_St) : Option (sp_St × Int32) :=
  if (σ.1 0 22) = 0 then
    sp_bv (X12_stepOn n σ) fun σ2 =>
    some (σ2, (1 : Int32))
  else
    some (σ, (0 : Int32))
def X12_another (n : Nat)  (σ : sp_St) (a1 : Int32) (a2 : Int32) : Option (sp_St × Int32) :=
  sp_ck (sp_in (((6 : Int32)) + a1) 12) <|
  if (sp_g σ 3 (((6 : Int32)) + a1)) = a2 then
    sp_bv (X12_amiss n σ ((2 : Int32))) fun σ3 =>
    X12_another_18 n σ3
  else
    X12_another_18 n σ
set_option maxRecDepth 100000 in
set_option maxHeartbeats 4000000 in
theorem hX12_another_18 {X : sp_X} (hX : sp_OK shM X cX12_another RX12 3 rmX12_another) {τ : sp_St} {r : Int32} (hR : sp_Ri shM X (some .boolean) τ r 0 0) {n : Nat}    {σ : sp_St} (hf : X12_another_18 n σ = some (τ, r)) : sp_GG shM X σ 3 [some (.ref (sx_ad X 0)), none, none] [] 18 0 0 := by
  unfold X12_another_18 at hf
  refine sp_aload_n (i := 0) (q := 19) hX dX12_another_18 rfl rfl rfl ?_
  refine sp_geti (q := 22) hX flX12_209 fkX12_22 atM_0 dX12_another_19 rfl ?_
  refine sp_if_eq (tgt := 27) (q := 25) hX dX12_another_22 (by decide) rfl (fun hc => ?_) (fun hc => ?_)
  · rw [if_pos hc] at hf
    refine sp_aload_n (i := 0) (q := 28) hX dX12_another_27 rfl rfl rfl ?_
    obtain ⟨σ2, h1, hf⟩ := sp_bv_so hf
    refine sp_callVv (As := []) (rest := []) (q := 31) hX (cnX12_stepOn (sp_st hX)  h1) cwX12_233 atM_0 rfl rfl rfl rfl rfl (Nat.le_of_ble_eq_true rfl) (Nat.le_of_ble_eq_true rfl) (Nat.le_of_ble_eq_true rfl) (Nat.le_of_ble_eq_true rfl) (Nat.le_of_ble_eq_true rfl) dX12_another_28 rfl ?_
    refine sp_iconst (v := 1) (q := 32) hX dX12_another_31 li_1 rfl ?_
    exact sp_zret hX hR (by decide) dX12_another_32 hf (Nat.le_of_ble_eq_true rfl) (Nat.le_of_ble_eq_true rfl)
  · rw [if_neg hc] at hf
    refine sp_iconst (v := 0) (q := 26) hX dX12_another_25 li_0 rfl ?_
    exact sp_zret hX hR (by decide) dX12_another_26 hf (Nat.le_of_ble_eq_true rfl) (Nat.le_of_ble_eq_true rfl)
set_option maxRecDepth 100000 in
set_option maxHeartbeats 4000000 in
theorem hX12_another {X : sp_X} (hX : sp_OK shM X cX12_another RX12 3 rmX12_another) {τ : sp_St} {r : Int32} (hR : sp_Ri shM X (some .boolean) τ r 0 0) {n : Nat}  {σ : sp_St} {a1 : Int32} {a2 : Int32}  (hf : X12_another n σ a1 a2 = some (τ, r)) : sp_GG shM X σ 3 [some (.ref (sx_ad X 0)), some (.int a1), some (.int a2)] [] 0 0 0 := by
  unfold X12_another at hf
  refine sp_aload_n (i := 0) (q := 1) hX dX12_another_0 rfl rfl rfl ?_
  refine sp_gets (t := 3) (q := 4) hX flX12_33 fkX12_4 atM_0 srM_0_4 dX12_another_1 rfl ?_
  refine sp_bipush (v := 6) (q := 6) hX dX12_another_4 lb_6 rfl ?_
  refine sp_iload_n (i := 1) (q := 7) hX dX12_another_6 rfl rfl rfl ?_
  refine sp_iadd (q := 8) hX dX12_another_7 rfl ?_
  obtain ⟨h1, hf⟩ := sp_ck_some hf
  refine sp_iald (q := 9) hX arM_3 h1 dX12_another_8 rfl ?_
  refine sp_iload_n (i := 2) (q := 10) hX dX12_another_9 rfl rfl rfl ?_
  refine sp_icmp_ne (tgt := 18) (q := 13) hX dX12_another_10 (by decide) rfl (fun hc => ?_) (fun hc => ?_)
  · rw [if_neg hc] at hf
    refine sp_drop (lv' := [some (.ref (sx_ad X 0)), none, none]) (And.intro rfl trivial) ?_
    exact hX12_another_18 hX hR hf
  · rw [if_pos hc] at hf
    refine sp_aload_n (i := 0) (q := 14) hX dX12_another_13 rfl rfl rfl ?_
    refine sp_iconst (v := 2) (q := 15) hX dX12_another_14 li_2 rfl ?_
    obtain ⟨σ3, h2, hf⟩ := sp_bv_so hf
    refine sp_callVv (As := [.int ((2 : Int32))]) (rest := []) (q := 18) hX (cnX12_amiss (sp_st hX)  h2) cwX12_229 atM_0 rfl rfl rfl rfl rfl (Nat.le_of_ble_eq_true rfl) (Nat.le_of_ble_eq_true rfl) (Nat.le_of_ble_eq_true rfl) (Nat.le_of_ble_eq_true rfl) (Nat.le_of_ble_eq_true rfl) dX12_another_15 rfl ?_
    refine sp_drop (lv' := [some (.ref (sx_ad X 0)), none, none]) (And.intro rfl trivial) ?_
    exact hX12_another_18 hX hR hf
set_option maxRecDepth 100000 in
set_option maxHeartbeats 4000000 in
theorem cnX12_another {l : Launch} (hst : l.stackTraces = false) {w : sp_Wd} {n : Nat}  {σ : sp_St} {a1 : Int32} {a2 : Int32} {τ : sp_St} {r : Int32}  (hf : X12_another n σ a1 a2 = some (τ, r)) : sp_Ci shM l w yX12_another cX12_another 3 (some .boolean) rmX12_another 0 0 σ [.ref (w.2.1 0), .int a1, .int a2] τ r :=
  sp_ci (own := RX12) (by decide) rfl hst (Nat.le_of_ble_eq_true rfl) rfl (fun X hX hw hl hR => by subst hw; subst hl; exact hX12_another hX hR   hf)
def rmX12_sayFeud : Room := { frames := 3, cells := 0, slots := 0, locals := 68 }
def X12_sayFeud_58 (n : Nat) (σ : sp_St) (z1 : Int32) (z2 : Int32) : Option (sp_St) :=
  if (σ.1 0 22) = 0 then
    sp_bv (X12_stepOn n σ) fun σ2 =>
    sp_ck (sp_in (((6 : Int32)) + z1) 12) <|
    sp_ck (sp_in (((6 : Int32)) + z1) 12) <|
    sp_pl (sp_sa σ2 4 (((6 : Int32)) + z1).toNatClampNeg ((sp_g σ2 4 (((6 : Int32)) + z1)) ||| (((1 : Int32)) <<< (z2 &&& 31)))) fun σ5 =>
    sp_ck (sp_in (((6 : Int32)) + z2) 12) <|
    sp_ck (sp_in (((6 : Int32)) + z2) 12) <|
    sp_pl (sp_sa σ5 4 (((6 : Int32)) + z2).toNatClampNeg ((sp_g σ5 4 (((6 : Int32)) + z2)) ||| (((1 : Int32)) <<< (z1 &&& 31)))) fun σ9 =>
    sp_pl (sp_sa σ9 3 ((6 : Int32)).toNatClampNeg ((sp_g σ9 3 ((6 : Int32))) + ((1 : Int32)))) fun σ11 =>
    some σ11
  else
    some σ
def X12_sayFeud_53 (n : Nat) (σ : sp_St) (z1 : Int32) (z2 : Int32) : Option (sp_St) :=
  sp_bv (X12_amiss n σ ((4 : Int32))) fun σ2 =>
  X12_sayFeud_58 n σ2 z1 z2
def X12_sayFeud (n : Nat)  (σ : sp_St)  : Option (sp_St) :=
  sp_bd (X12_another n σ ((0 : Int32)) ((9 : Int32))) fun σ2 v3 =>
  if v3 = 0 then
    some σ2
  else
    sp_bd (X12_readNumber n σ2 ((0 : Int32)) ((5 : Int32))) fun σ5 v6 =>
    sp_bd (X12_numberNow n σ5 ((0 : Int32)) ((5 : Int32))) fun σ8 v9 =>
    if (σ8.1 0 22) = 0 then
      if v6 = v9 then
        X12_sayFeud_53 n σ8 v6 v9
      else
        sp_ck (sp_in (((6 : Int32)) + v6) 12) <|
        sp_bd (X12_isOf n σ8 (sp_g σ8 4 (((6 : Int32)) + v6)) v9) fun σ12 v13 =>
        if v13 = 0 then
          X12_sayFeud_58 n σ12 v6 v9
        else
          X12_sayFeud_53 n σ12 v6 v9
    else
      X12_sayFeud_58 n σ8 v6 v9
set_option maxRecDepth 100000 in
set_option maxHeartbeats 4000000 in
theorem hX12_sayFeud_58 {X : sp_X} (hX : sp_OK shM X cX12_sayFeud RX12 3 rmX12_sayFeud) {τ : sp_St} (hR : sp_Rv shM X τ 0 0) {n : Nat}    {σ : sp_St} {z1 : Int32} {z2 : Int32} (hf : X12_sayFeud_58 n σ z1 z2 = some τ) : sp_GG shM X σ 3 [some (.ref (sx_ad X 0)), some (.int z1), some (.int z2)] [] 58 0 0 := by
  unfold X12_sayFeud_58 at hf
  refine sp_aload_n (i := 0) (q := 59) hX dX12_sayFeud_58 rfl rfl rfl ?_
  refine sp_geti (q := 62) hX flX12_209 fkX12_22 atM_0 dX12_sayFeud_59 rfl ?_
  refine sp_if_eq (tgt := 66) (q := 65) hX dX12_sayFeud_62 (by decide) rfl (fun hc => ?_) (fun hc => ?_)
  · rw [if_pos hc] at hf
    refine sp_aload_n (i := 0) (q := 67) hX dX12_sayFeud_66 rfl rfl rfl ?_
    obtain ⟨σ2, h1, hf⟩ := sp_bv_so hf
    refine sp_callVv (As := []) (rest := []) (q := 70) hX (cnX12_stepOn (sp_st hX)  h1) cwX12_233 atM_0 rfl rfl rfl rfl rfl (Nat.le_of_ble_eq_true rfl) (Nat.le_of_ble_eq_true rfl) (Nat.le_of_ble_eq_true rfl) (Nat.le_of_ble_eq_true rfl) (Nat.le_of_ble_eq_true rfl) dX12_sayFeud_67 rfl ?_
    refine sp_aload_n (i := 0) (q := 71) hX dX12_sayFeud_70 rfl rfl rfl ?_
    refine sp_gets (t := 4) (q := 74) hX flX12_37 fkX12_5 atM_0 srM_0_5 dX12_sayFeud_71 rfl ?_
    refine sp_bipush (v := 6) (q := 76) hX dX12_sayFeud_74 lb_6 rfl ?_
    refine sp_iload_n (i := 1) (q := 77) hX dX12_sayFeud_76 rfl rfl rfl ?_
    refine sp_iadd (q := 78) hX dX12_sayFeud_77 rfl ?_
    refine sp_dup2 (q := 79) hX dX12_sayFeud_78 rfl rfl rfl ?_
    obtain ⟨h3, hf⟩ := sp_ck_some hf
    refine sp_iald (q := 80) hX arM_4 h3 dX12_sayFeud_79 rfl ?_
    refine sp_iconst (v := 1) (q := 81) hX dX12_sayFeud_80 li_1 rfl ?_
    refine sp_iload_n (i := 2) (q := 82) hX dX12_sayFeud_81 rfl rfl rfl ?_
    refine sp_ishl (q := 83) hX dX12_sayFeud_82 rfl ?_
    refine sp_ior (q := 84) hX dX12_sayFeud_83 rfl ?_
    obtain ⟨h4, hf⟩ := sp_ck_some hf
    obtain ⟨σ5, e6, hf⟩ := sp_pl_some hf
    refine sp_iast (q := 85) hX arM_4 h4 dX12_sayFeud_84 rfl ?_
    refine sp_nms e6 ?_
    refine sp_aload_n (i := 0) (q := 86) hX dX12_sayFeud_85 rfl rfl rfl ?_
    refine sp_gets (t := 4) (q := 89) hX flX12_37 fkX12_5 atM_0 srM_0_5 dX12_sayFeud_86 rfl ?_
    refine sp_bipush (v := 6) (q := 91) hX dX12_sayFeud_89 lb_6 rfl ?_
    refine sp_iload_n (i := 2) (q := 92) hX dX12_sayFeud_91 rfl rfl rfl ?_
    refine sp_iadd (q := 93) hX dX12_sayFeud_92 rfl ?_
    refine sp_dup2 (q := 94) hX dX12_sayFeud_93 rfl rfl rfl ?_
    obtain ⟨h7, hf⟩ := sp_ck_some hf
    refine sp_iald (q := 95) hX arM_4 h7 dX12_sayFeud_94 rfl ?_
    refine sp_iconst (v := 1) (q := 96) hX dX12_sayFeud_95 li_1 rfl ?_
    refine sp_iload_n (i := 1) (q := 97) hX dX12_sayFeud_96 rfl rfl rfl ?_
    refine sp_ishl (q := 98) hX dX12_sayFeud_97 rfl ?_
    refine sp_ior (q := 99) hX dX12_sayFeud_98 rfl ?_
    obtain ⟨h8, hf⟩ := sp_ck_some hf
    obtain ⟨σ9, e10, hf⟩ := sp_pl_some hf
    refine sp_iast (q := 100) hX arM_4 h8 dX12_sayFeud_99 rfl ?_
    refine sp_nms e10 ?_
    refine sp_aload_n (i := 0) (q := 101) hX dX12_sayFeud_100 rfl rfl rfl ?_
    refine sp_gets (t := 3) (q := 104) hX flX12_33 fkX12_4 atM_0 srM_0_4 dX12_sayFeud_101 rfl ?_
    refine sp_bipush (v := 6) (q := 106) hX dX12_sayFeud_104 lb_6 rfl ?_
    refine sp_dup2 (q := 107) hX dX12_sayFeud_106 rfl rfl rfl ?_
    refine sp_iald (q := 108) hX arM_3 (by decide) dX12_sayFeud_107 rfl ?_
    refine sp_iconst (v := 1) (q := 109) hX dX12_sayFeud_108 li_1 rfl ?_
    refine sp_iadd (q := 110) hX dX12_sayFeud_109 rfl ?_
    obtain ⟨σ11, e12, hf⟩ := sp_pl_some hf
    refine sp_iast (q := 111) hX arM_3 (by decide) dX12_sayFeud_110 rfl ?_
    refine sp_nms e12 ?_
    exact sp_vret hX hR dX12_sayFeud_111 hf (Nat.le_of_ble_eq_true rfl) (Nat.le_of_ble_eq_true rfl)
  · rw [if_neg hc] at hf
    exact sp_vret hX hR dX12_sayFeud_65 hf (Nat.le_of_ble_eq_true rfl) (Nat.le_of_ble_eq_true rfl)
set_option maxRecDepth 100000 in
set_option maxHeartbeats 4000000 in
theorem hX12_sayFeud_53 {X : sp_X} (hX : sp_OK shM X cX12_sayFeud RX12 3 rmX12_sayFeud) {τ : sp_St} (hR : sp_Rv shM X τ 0 0) {n : Nat}    {σ : sp_St} {z1 : Int32} {z2 : Int32} (hf : X12_sayFeud_53 n σ z1 z2 = some τ) : sp_GG shM X σ 3 [some (.ref (sx_ad X 0)), some (.int z1), some (.int z2)] [] 53 0 0 := by
  unfold X12_sayFeud_53 at hf
  refine sp_aload_n (i := 0) (q := 54) hX dX12_sayFeud_53 rfl rfl rfl ?_
  refine sp_iconst (v := 4) (q := 55) hX dX12_sayFeud_54 li_4 rfl ?_
  obtain ⟨σ2, h1, hf⟩ := sp_bv_so hf
  refine sp_callVv (As := [.int ((4 : Int32))]) (rest := []) (q := 58) hX (cnX12_amiss (sp_st hX)  h1) cwX12_229 atM_0 rfl rfl rfl rfl rfl (Nat.le_of_ble_eq_true rfl) (Nat.le_of_ble_eq_true rfl) (Nat.le_of_ble_eq_true rfl) (Nat.le_of_ble_eq_true rfl) (Nat.le_of_ble_eq_true rfl) dX12_sayFeud_55 rfl ?_
  exact hX12_sayFeud_58 hX hR hf
set_option maxRecDepth 100000 in
set_option maxHeartbeats 4000000 in
theorem hX12_sayFeud {X : sp_X} (hX : sp_OK shM X cX12_sayFeud RX12 3 rmX12_sayFeud) {τ : sp_St} (hR : sp_Rv shM X τ 0 0) {n : Nat}  {σ : sp_St}   (hf : X12_sayFeud n σ = some τ) : sp_GG shM X σ 3 [some (.ref (sx_ad X 0)), none, none] [] 0 0 0 := by
  unfold X12_sayFeud at hf
  refine sp_aload_n (i := 0) (q := 1) hX dX12_sayFeud_0 rfl rfl rfl ?_
  refine sp_iconst (v := 0) (q := 2) hX dX12_sayFeud_1 li_0 rfl ?_
  refine sp_bipush (v := 9) (q := 4) hX dX12_sayFeud_2 lb_9 rfl ?_
  obtain ⟨σ2, v3, h1, hf⟩ := sp_bd_so hf
  refine sp_callVi (As := [.int ((0 : Int32)), .int ((9 : Int32))]) (rest := []) (q := 7) hX (cnX12_another (sp_st hX)  h1) cwX12_280 atM_0 rfl rfl rfl rfl rfl (Nat.le_of_ble_eq_true rfl) (Nat.le_of_ble_eq_true rfl) (Nat.le_of_ble_eq_true rfl) (Nat.le_of_ble_eq_true rfl) (Nat.le_of_ble_eq_true rfl) dX12_sayFeud_4 rfl ?_
  refine sp_if_ne (tgt := 11) (q := 10) hX dX12_sayFeud_7 (by decide) rfl (fun hc => ?_) (fun hc => ?_)
  · rw [if_neg hc] at hf
    refine sp_aload_n (i := 0) (q := 12) hX dX12_sayFeud_11 rfl rfl rfl ?_
    refine sp_iconst (v := 0) (q := 13) hX dX12_sayFeud_12 li_0 rfl ?_
    refine sp_iconst (v := 5) (q := 14) hX dX12_sayFeud_13 li_5 rfl ?_
    obtain ⟨σ5, v6, h4, hf⟩ := sp_bd_so hf
    refine sp_callVi (As := [.int ((0 : Int32)), .int ((5 : Int32))]) (rest := []) (q := 17) hX (cnX12_readNumber (sp_st hX)  h4) cwX12_243 atM_0 rfl rfl rfl rfl rfl (Nat.le_of_ble_eq_true rfl) (Nat.le_of_ble_eq_true rfl) (Nat.le_of_ble_eq_true rfl) (Nat.le_of_ble_eq_true rfl) (Nat.le_of_ble_eq_true rfl) dX12_sayFeud_14 rfl ?_
    refine sp_istore_n (i := 1) (lv' := [some (.ref (sx_ad X 0)), some (.int v6), none]) (q := 18) hX dX12_sayFeud_17 rfl (Nat.le_of_ble_eq_true rfl) rfl rfl rfl ?_
    refine sp_aload_n (i := 0) (q := 19) hX dX12_sayFeud_18 rfl rfl rfl ?_
    refine sp_iconst (v := 0) (q := 20) hX dX12_sayFeud_19 li_0 rfl ?_
    refine sp_iconst (v := 5) (q := 21) hX dX12_sayFeud_20 li_5 rfl ?_
    obtain ⟨σ8, v9, h7, hf⟩ := sp_bd_so hf
    refine sp_callVi (As := [.int ((0 : Int32)), .int ((5 : Int32))]) (rest := []) (q := 24) hX (cnX12_numberNow (sp_st hX)  h7) cwX12_236 atM_0 rfl rfl rfl rfl rfl (Nat.le_of_ble_eq_true rfl) (Nat.le_of_ble_eq_true rfl) (Nat.le_of_ble_eq_true rfl) (Nat.le_of_ble_eq_true rfl) (Nat.le_of_ble_eq_true rfl) dX12_sayFeud_21 rfl ?_
    refine sp_istore_n (i := 2) (lv' := [some (.ref (sx_ad X 0)), some (.int v6), some (.int v9)]) (q := 25) hX dX12_sayFeud_24 rfl (Nat.le_of_ble_eq_true rfl) rfl rfl rfl ?_
    refine sp_aload_n (i := 0) (q := 26) hX dX12_sayFeud_25 rfl rfl rfl ?_
    refine sp_geti (q := 29) hX flX12_209 fkX12_22 atM_0 dX12_sayFeud_26 rfl ?_
    refine sp_if_ne (tgt := 58) (q := 32) hX dX12_sayFeud_29 (by decide) rfl (fun hc => ?_) (fun hc => ?_)
    · rw [if_neg hc] at hf
      exact hX12_sayFeud_58 hX hR hf
    · rw [if_pos hc] at hf
      refine sp_iload_n (i := 1) (q := 33) hX dX12_sayFeud_32 rfl rfl rfl ?_
      refine sp_iload_n (i := 2) (q := 34) hX dX12_sayFeud_33 rfl rfl rfl ?_
      refine sp_icmp_eq (tgt := 53) (q := 37) hX dX12_sayFeud_34 (by decide) rfl (fun hc => ?_) (fun hc => ?_)
      · rw [if_pos hc] at hf
        exact hX12_sayFeud_53 hX hR hf
      · rw [if_neg hc] at hf
        refine sp_aload_n (i := 0) (q := 38) hX dX12_sayFeud_37 rfl rfl rfl ?_
        refine sp_gets (t := 4) (q := 41) hX flX12_37 fkX12_5 atM_0 srM_0_5 dX12_sayFeud_38 rfl ?_
        refine sp_bipush (v := 6) (q := 43) hX dX12_sayFeud_41 lb_6 rfl ?_
        refine sp_iload_n (i := 1) (q := 44) hX dX12_sayFeud_43 rfl rfl rfl ?_
        refine sp_iadd (q := 45) hX dX12_sayFeud_44 rfl ?_
        obtain ⟨h10, hf⟩ := sp_ck_some hf
        refine sp_iald (q := 46) hX arM_4 h10 dX12_sayFeud_45 rfl ?_
        refine sp_iload_n (i := 2) (q := 47) hX dX12_sayFeud_46 rfl rfl rfl ?_
        obtain ⟨σ12, v13, h11, hf⟩ := sp_bd_so hf
        refine sp_callSi (As := [.int (sp_g σ8 4 (((6 : Int32)) + v6)), .int v9]) (rest := []) (q := 50) hX (cnX12_isOf (sp_st hX)  h11) cwX12_284 rfl rfl rfl rfl (Nat.le_of_ble_eq_true rfl) (Nat.le_of_ble_eq_true rfl) (Nat.le_of_ble_eq_true rfl) (Nat.le_of_ble_eq_true rfl) (Nat.le_of_ble_eq_true rfl) dX12_sayFeud_47 rfl ?_
        refine sp_if_eq (tgt := 58) (q := 53) hX dX12_sayFeud_50 (by decide) rfl (fun hc => ?_) (fun hc => ?_)
        · rw [if_pos hc] at hf
          exact hX12_sayFeud_58 hX hR hf
        · rw [if_neg hc] at hf
          exact hX12_sayFeud_53 hX hR hf
  · rw [if_pos hc] at hf
    exact sp_vret hX hR dX12_sayFeud_10 hf (Nat.le_of_ble_eq_true rfl) (Nat.le_of_ble_eq_true rfl)
set_option maxRecDepth 100000 in
set_option maxHeartbeats 4000000 in
theorem cnX12_sayFeud {l : Launch} (hst : l.stackTraces = false) {w : sp_Wd} {n : Nat}  {σ : sp_St}  {τ : sp_St}  (hf : X12_sayFeud n σ = some τ) : sp_Cv shM l w yX12_sayFeud cX12_sayFeud 3 rmX12_sayFeud 0 0 σ [.ref (w.2.1 0)] τ :=
  sp_cv (own := RX12) (by decide) rfl hst (Nat.le_of_ble_eq_true rfl) rfl (fun X hX hw hl hR => by subst hw; subst hl; exact hX12_sayFeud hX hR   hf)
def rmX12_sayThroat : Room := { frames := 3, cells := 0, slots := 0, locals := 68 }
def X12_sayThroat (n : Nat)  (σ : sp_St)  : Option (sp_St) :=
  sp_bd (X12_another n σ ((1 : Int32)) ((5 : Int32))) fun σ2 v3 =>
  if v3 = 0 then
    some σ2
  else
    sp_pl (((5 : Int32)) + (sp_g σ2 3 ((7 : Int32)))) fun x4 =>
    sp_bd (X12_readNumber n σ2 ((1 : Int32)) ((99 : Int32))) fun σ7 v8 =>
    sp_ck (sp_in x4 10) <|
    sp_pl (sp_sa σ7 5 x4.toNatClampNeg v8) fun σ10 =>
    sp_bd (X12_readNumber n σ10 ((0 : Int32)) ((30 : Int32))) fun σ13 v14 =>
    sp_ck (sp_in x4 10) <|
    sp_pl (sp_sa σ13 6 x4.toNatClampNeg v14) fun σ16 =>
    sp_pl (sp_sa σ16 3 ((7 : Int32)).toNatClampNeg ((sp_g σ16 3 ((7 : Int32))) + ((1 : Int32)))) fun σ18 =>
    some σ18
set_option maxRecDepth 100000 in
set_option maxHeartbeats 4000000 in
theorem hX12_sayThroat {X : sp_X} (hX : sp_OK shM X cX12_sayThroat RX12 2 rmX12_sayThroat) {τ : sp_St} (hR : sp_Rv shM X τ 0 0) {n : Nat}  {σ : sp_St}   (hf : X12_sayThroat n σ = some τ) : sp_GG shM X σ 2 [some (.ref (sx_ad X 0)), none] [] 0 0 0 := by
  unfold X12_sayThroat at hf
  refine sp_aload_n (i := 0) (q := 1) hX dX12_sayThroat_0 rfl rfl rfl ?_
  refine sp_iconst (v := 1) (q := 2) hX dX12_sayThroat_1 li_1 rfl ?_
  refine sp_iconst (v := 5) (q := 3) hX dX12_sayThroat_2 li_5 rfl ?_
  obtain ⟨σ2, v3, h1, hf⟩ := sp_bd_so hf
  refine sp_callVi (As := [.int ((1 : Int32)), .int ((5 : Int32))]) (rest := []) (q := 6) hX (cnX12_another (sp_st hX)  h1) cwX12_280 atM_0 rfl rfl rfl rfl rfl (Nat.le_of_ble_eq_true rfl) (Nat.le_of_ble_eq_true rfl) (Nat.le_of_ble_eq_true rfl) (Nat.le_of_ble_eq_true rfl) (Nat.le_of_ble_eq_true rfl) dX12_sayThroat_3 rfl ?_
  refine sp_if_ne (tgt := 10) (q := 9) hX dX12_sayThroat_6 (by decide) rfl (fun hc => ?_) (fun hc => ?_)
  · rw [if_neg hc] at hf
    refine sp_iconst (v := 5) (q := 11) hX dX12_sayThroat_10 li_5 rfl ?_
    refine sp_aload_n (i := 0) (q := 12) hX dX12_sayThroat_11 rfl rfl rfl ?_
    refine sp_gets (t := 3) (q := 15) hX flX12_33 fkX12_4 atM_0 srM_0_4 dX12_sayThroat_12 rfl ?_
    refine sp_bipush (v := 7) (q := 17) hX dX12_sayThroat_15 lb_7 rfl ?_
    refine sp_iald (q := 18) hX arM_3 (by decide) dX12_sayThroat_17 rfl ?_
    refine sp_iadd (q := 19) hX dX12_sayThroat_18 rfl ?_
    obtain ⟨x4, e5, hf⟩ := sp_pl_some hf
    refine sp_nmi e5 ?_
    refine sp_istore_n (i := 1) (lv' := [some (.ref (sx_ad X 0)), some (.int x4)]) (q := 20) hX dX12_sayThroat_19 rfl (Nat.le_of_ble_eq_true rfl) rfl rfl rfl ?_
    refine sp_aload_n (i := 0) (q := 21) hX dX12_sayThroat_20 rfl rfl rfl ?_
    refine sp_gets (t := 5) (q := 24) hX flX12_40 fkX12_6 atM_0 srM_0_6 dX12_sayThroat_21 rfl ?_
    refine sp_iload_n (i := 1) (q := 25) hX dX12_sayThroat_24 rfl rfl rfl ?_
    refine sp_aload_n (i := 0) (q := 26) hX dX12_sayThroat_25 rfl rfl rfl ?_
    refine sp_iconst (v := 1) (q := 27) hX dX12_sayThroat_26 li_1 rfl ?_
    refine sp_bipush (v := 99) (q := 29) hX dX12_sayThroat_27 lb_99 rfl ?_
    obtain ⟨σ7, v8, h6, hf⟩ := sp_bd_so hf
    refine sp_callVi (As := [.int ((1 : Int32)), .int ((99 : Int32))]) (rest := [.int x4, .ref (sx_ad X 5)]) (q := 32) hX (cnX12_readNumber (sp_st hX)  h6) cwX12_243 atM_0 rfl rfl rfl rfl rfl (Nat.le_of_ble_eq_true rfl) (Nat.le_of_ble_eq_true rfl) (Nat.le_of_ble_eq_true rfl) (Nat.le_of_ble_eq_true rfl) (Nat.le_of_ble_eq_true rfl) dX12_sayThroat_29 rfl ?_
    obtain ⟨h9, hf⟩ := sp_ck_some hf
    obtain ⟨σ10, e11, hf⟩ := sp_pl_some hf
    refine sp_iast (q := 33) hX arM_5 h9 dX12_sayThroat_32 rfl ?_
    refine sp_nms e11 ?_
    refine sp_aload_n (i := 0) (q := 34) hX dX12_sayThroat_33 rfl rfl rfl ?_
    refine sp_gets (t := 6) (q := 37) hX flX12_43 fkX12_7 atM_0 srM_0_7 dX12_sayThroat_34 rfl ?_
    refine sp_iload_n (i := 1) (q := 38) hX dX12_sayThroat_37 rfl rfl rfl ?_
    refine sp_aload_n (i := 0) (q := 39) hX dX12_sayThroat_38 rfl rfl rfl ?_
    refine sp_iconst (v := 0) (q := 40) hX dX12_sayThroat_39 li_0 rfl ?_
    refine sp_bipush (v := 30) (q := 42) hX dX12_sayThroat_40 lb_30 rfl ?_
    obtain ⟨σ13, v14, h12, hf⟩ := sp_bd_so hf
    refine sp_callVi (As := [.int ((0 : Int32)), .int ((30 : Int32))]) (rest := [.int x4, .ref (sx_ad X 6)]) (q := 45) hX (cnX12_readNumber (sp_st hX)  h12) cwX12_243 atM_0 rfl rfl rfl rfl rfl (Nat.le_of_ble_eq_true rfl) (Nat.le_of_ble_eq_true rfl) (Nat.le_of_ble_eq_true rfl) (Nat.le_of_ble_eq_true rfl) (Nat.le_of_ble_eq_true rfl) dX12_sayThroat_42 rfl ?_
    obtain ⟨h15, hf⟩ := sp_ck_some hf
    obtain ⟨σ16, e17, hf⟩ := sp_pl_some hf
    refine sp_iast (q := 46) hX arM_6 h15 dX12_sayThroat_45 rfl ?_
    refine sp_nms e17 ?_
    refine sp_aload_n (i := 0) (q := 47) hX dX12_sayThroat_46 rfl rfl rfl ?_
    refine sp_gets (t := 3) (q := 50) hX flX12_33 fkX12_4 atM_0 srM_0_4 dX12_sayThroat_47 rfl ?_
    refine sp_bipush (v := 7) (q := 52) hX dX12_sayThroat_50 lb_7 rfl ?_
    refine sp_dup2 (q := 53) hX dX12_sayThroat_52 rfl rfl rfl ?_
    refine sp_iald (q := 54) hX arM_3 (by decide) dX12_sayThroat_53 rfl ?_
    refine sp_iconst (v := 1) (q := 55) hX dX12_sayThroat_54 li_1 rfl ?_
    refine sp_iadd (q := 56) hX dX12_sayThroat_55 rfl ?_
    obtain ⟨σ18, e19, hf⟩ := sp_pl_some hf
    refine sp_iast (q := 57) hX arM_3 (by decide) dX12_sayThroat_56 rfl ?_
    refine sp_nms e19 ?_
    exact sp_vret hX hR dX12_sayThroat_57 hf (Nat.le_of_ble_eq_true rfl) (Nat.le_of_ble_eq_true rfl)
  · rw [if_pos hc] at hf
    exact sp_vret hX hR dX12_sayThroat_9 hf (Nat.le_of_ble_eq_true rfl) (Nat.le_of_ble_eq_true rfl)
set_option maxRecDepth 100000 in
set_option maxHeartbeats 4000000 in
theorem cnX12_sayThroat {l : Launch} (hst : l.stackTraces = false) {w : sp_Wd} {n : Nat}  {σ : sp_St}  {τ : sp_St}  (hf : X12_sayThroat n σ = some τ) : sp_Cv shM l w yX12_sayThroat cX12_sayThroat 2 rmX12_sayThroat 0 0 σ [.ref (w.2.1 0)] τ :=
  sp_cv (own := RX12) (by decide) rfl hst (Nat.le_of_ble_eq_true rfl) rfl (fun X hX hw hl hR => by subst hw; subst hl; exact hX12_sayThroat hX hR   hf)
def rmX12_sayBlade : Room := { frames := 3, cells := 0, slots := 0, locals := 68 }
def X12_sayBlade (n : Nat)  (σ : sp_St)  : Option (sp_St) :=
  sp_bd (X12_another n σ ((2 : Int32)) ((10 : Int32))) fun σ2 v3 =>
  if v3 = 0 then
    some σ2
  else
    sp_pl (((10 : Int32)) + (sp_g σ2 3 ((8 : Int32)))) fun x4 =>
    sp_bd (X12_readNumber n σ2 ((0 : Int32)) ((5 : Int32))) fun σ7 v8 =>
    sp_ck (sp_in x4 20) <|
    sp_pl (sp_sa σ7 7 x4.toNatClampNeg v8) fun σ10 =>
    sp_bd (X12_readNumber n σ10 ((1 : Int32)) ((40 : Int32))) fun σ13 v14 =>
    sp_ck (sp_in x4 20) <|
    sp_pl (sp_sa σ13 8 x4.toNatClampNeg v14) fun σ16 =>
    sp_bd (X12_readNumber n σ16 ((0 : Int32)) ((99 : Int32))) fun σ19 v20 =>
    sp_ck (sp_in x4 20) <|
    sp_pl (sp_sa σ19 9 x4.toNatClampNeg v20) fun σ22 =>
    sp_pl (sp_sa σ22 3 ((8 : Int32)).toNatClampNeg ((sp_g σ22 3 ((8 : Int32))) + ((1 : Int32)))) fun σ24 =>
    some σ24
set_option maxRecDepth 100000 in
set_option maxHeartbeats 4000000 in
theorem hX12_sayBlade {X : sp_X} (hX : sp_OK shM X cX12_sayBlade RX12 2 rmX12_sayBlade) {τ : sp_St} (hR : sp_Rv shM X τ 0 0) {n : Nat}  {σ : sp_St}   (hf : X12_sayBlade n σ = some τ) : sp_GG shM X σ 2 [some (.ref (sx_ad X 0)), none] [] 0 0 0 := by
  unfold X12_sayBlade at hf
  refine sp_aload_n (i := 0) (q := 1) hX dX12_sayBlade_0 rfl rfl rfl ?_
  refine sp_iconst (v := 2) (q := 2) hX dX12_sayBlade_1 li_2 rfl ?_
  refine sp_bipush (v := 10) (q := 4) hX dX12_sayBlade_2 lb_10 rfl ?_
  obtain ⟨σ2, v3, h1, hf⟩ := sp_bd_so hf
  refine sp_callVi (As := [.int ((2 : Int32)), .int ((10 : Int32))]) (rest := []) (q := 7) hX (cnX12_another (sp_st hX)  h1) cwX12_280 atM_0 rfl rfl rfl rfl rfl (Nat.le_of_ble_eq_true rfl) (Nat.le_of_ble_eq_true rfl) (Nat.le_of_ble_eq_true rfl) (Nat.le_of_ble_eq_true rfl) (Nat.le_of_ble_eq_true rfl) dX12_sayBlade_4 rfl ?_
  refine sp_if_ne (tgt := 11) (q := 10) hX dX12_sayBlade_7 (by decide) rfl (fun hc => ?_) (fun hc => ?_)
  · rw [if_neg hc] at hf
    refine sp_bipush (v := 10) (q := 13) hX dX12_sayBlade_11 lb_10 rfl ?_
    refine sp_aload_n (i := 0) (q := 14) hX dX12_sayBlade_13 rfl rfl rfl ?_
    refine sp_gets (t := 3) (q := 17) hX flX12_33 fkX12_4 atM_0 srM_0_4 dX12_sayBlade_14 rfl ?_
    refine sp_bipush (v := 8) (q := 19) hX dX12_sayBlade_17 lb_8 rfl ?_
    refine sp_iald (q := 20) hX arM_3 (by decide) dX12_sayBlade_19 rfl ?_
    refine sp_iadd (q := 21) hX dX12_sayBlade_20 rfl ?_
    obtain ⟨x4, e5, hf⟩ := sp_pl_some hf
    refine sp_nmi e5 ?_
    refine sp_istore_n (i := 1) (lv' := [some (.ref (sx_ad X 0)), some (.int x4)]) (q := 22) hX dX12_sayBlade_21 rfl (Nat.le_of_ble_eq_true rfl) rfl rfl rfl ?_
    refine sp_aload_n (i := 0) (q := 23) hX dX12_sayBlade_22 rfl rfl rfl ?_
    refine sp_gets (t := 7) (q := 26) hX flX12_46 fkX12_8 atM_0 srM_0_8 dX12_sayBlade_23 rfl ?_
    refine sp_iload_n (i := 1) (q := 27) hX dX12_sayBlade_26 rfl rfl rfl ?_
    refine sp_aload_n (i := 0) (q := 28) hX dX12_sayBlade_27 rfl rfl rfl ?_
    refine sp_iconst (v := 0) (q := 29) hX dX12_sayBlade_28 li_0 rfl ?_
    refine sp_iconst (v := 5) (q := 30) hX dX12_sayBlade_29 li_5 rfl ?_
    obtain ⟨σ7, v8, h6, hf⟩ := sp_bd_so hf
    refine sp_callVi (As := [.int ((0 : Int32)), .int ((5 : Int32))]) (rest := [.int x4, .ref (sx_ad X 7)]) (q := 33) hX (cnX12_readNumber (sp_st hX)  h6) cwX12_243 atM_0 rfl rfl rfl rfl rfl (Nat.le_of_ble_eq_true rfl) (Nat.le_of_ble_eq_true rfl) (Nat.le_of_ble_eq_true rfl) (Nat.le_of_ble_eq_true rfl) (Nat.le_of_ble_eq_true rfl) dX12_sayBlade_30 rfl ?_
    obtain ⟨h9, hf⟩ := sp_ck_some hf
    obtain ⟨σ10, e11, hf⟩ := sp_pl_some hf
    refine sp_iast (q := 34) hX arM_7 h9 dX12_sayBlade_33 rfl ?_
    refine sp_nms e11 ?_
    refine sp_aload_n (i := 0) (q := 35) hX dX12_sayBlade_34 rfl rfl rfl ?_
    refine sp_gets (t := 8) (q := 38) hX flX12_49 fkX12_9 atM_0 srM_0_9 dX12_sayBlade_35 rfl ?_
    refine sp_iload_n (i := 1) (q := 39) hX dX12_sayBlade_38 rfl rfl rfl ?_
    refine sp_aload_n (i := 0) (q := 40) hX dX12_sayBlade_39 rfl rfl rfl ?_
    refine sp_iconst (v := 1) (q := 41) hX dX12_sayBlade_40 li_1 rfl ?_
    refine sp_bipush (v := 40) (q := 43) hX dX12_sayBlade_41 lb_40 rfl ?_
    obtain ⟨σ13, v14, h12, hf⟩ := sp_bd_so hf
    refine sp_callVi (As := [.int ((1 : Int32)), .int ((40 : Int32))]) (rest := [.int x4, .ref (sx_ad X 8)]) (q := 46) hX (cnX12_readNumber (sp_st hX)  h12) cwX12_243 atM_0 rfl rfl rfl rfl rfl (Nat.le_of_ble_eq_true rfl) (Nat.le_of_ble_eq_true rfl) (Nat.le_of_ble_eq_true rfl) (Nat.le_of_ble_eq_true rfl) (Nat.le_of_ble_eq_true rfl) dX12_sayBlade_43 rfl ?_
    obtain ⟨h15, hf⟩ := sp_ck_some hf
    obtain ⟨σ16, e17, hf⟩ := sp_pl_some hf
    refine sp_iast (q := 47) hX arM_8 h15 dX12_sayBlade_46 rfl ?_
    refine sp_nms e17 ?_
    refine sp_aload_n (i := 0) (q := 48) hX dX12_sayBlade_47 rfl rfl rfl ?_
    refine sp_gets (t := 9) (q := 51) hX flX12_51 fkX12_10 atM_0 srM_0_10 dX12_sayBlade_48 rfl ?_
    refine sp_iload_n (i := 1) (q := 52) hX dX12_sayBlade_51 rfl rfl rfl ?_
    refine sp_aload_n (i := 0) (q := 53) hX dX12_sayBlade_52 rfl rfl rfl ?_
    refine sp_iconst (v := 0) (q := 54) hX dX12_sayBlade_53 li_0 rfl ?_
    refine sp_bipush (v := 99) (q := 56) hX dX12_sayBlade_54 lb_99 rfl ?_
    obtain ⟨σ19, v20, h18, hf⟩ := sp_bd_so hf
    refine sp_callVi (As := [.int ((0 : Int32)), .int ((99 : Int32))]) (rest := [.int x4, .ref (sx_ad X 9)]) (q := 59) hX (cnX12_readNumber (sp_st hX)  h18) cwX12_243 atM_0 rfl rfl rfl rfl rfl (Nat.le_of_ble_eq_true rfl) (Nat.le_of_ble_eq_true rfl) (Nat.le_of_ble_eq_true rfl) (Nat.le_of_ble_eq_true rfl) (Nat.le_of_ble_eq_true rfl) dX12_sayBlade_56 rfl ?_
    obtain ⟨h21, hf⟩ := sp_ck_some hf
    obtain ⟨σ22, e23, hf⟩ := sp_pl_some hf
    refine sp_iast (q := 60) hX arM_9 h21 dX12_sayBlade_59 rfl ?_
    refine sp_nms e23 ?_
    refine sp_aload_n (i := 0) (q := 61) hX dX12_sayBlade_60 rfl rfl rfl ?_
    refine sp_gets (t := 3) (q := 64) hX flX12_33 fkX12_4 atM_0 srM_0_4 dX12_sayBlade_61 rfl ?_
    refine sp_bipush (v := 8) (q := 66) hX dX12_sayBlade_64 lb_8 rfl ?_
    refine sp_dup2 (q := 67) hX dX12_sayBlade_66 rfl rfl rfl ?_
    refine sp_iald (q := 68) hX arM_3 (by decide) dX12_sayBlade_67 rfl ?_
    refine sp_iconst (v := 1) (q := 69) hX dX12_sayBlade_68 li_1 rfl ?_
    refine sp_iadd (q := 70) hX dX12_sayBlade_69 rfl ?_
    obtain ⟨σ24, e25, hf⟩ := sp_pl_some hf
    refine sp_iast (q := 71) hX arM_3 (by decide) dX12_sayBlade_70 rfl ?_
    refine sp_nms e25 ?_
    exact sp_vret hX hR dX12_sayBlade_71 hf (Nat.le_of_ble_eq_true rfl) (Nat.le_of_ble_eq_true rfl)
  · rw [if_pos hc] at hf
    exact sp_vret hX hR dX12_sayBlade_10 hf (Nat.le_of_ble_eq_true rfl) (Nat.le_of_ble_eq_true rfl)
set_option maxRecDepth 100000 in
set_option maxHeartbeats 4000000 in
theorem cnX12_sayBlade {l : Launch} (hst : l.stackTraces = false) {w : sp_Wd} {n : Nat}  {σ : sp_St}  {τ : sp_St}  (hf : X12_sayBlade n σ = some τ) : sp_Cv shM l w yX12_sayBlade cX12_sayBlade 2 rmX12_sayBlade 0 0 σ [.ref (w.2.1 0)] τ :=
  sp_cv (own := RX12) (by decide) rfl hst (Nat.le_of_ble_eq_true rfl) rfl (fun X hX hw hl hR => by subst hw; subst hl; exact hX12_sayBlade hX hR   hf)
def rmX12_takeHalf : Room := { frames := 0, cells := 0, slots := 0, locals := 0 }
def X12_takeHalf_2 (n : Nat) (p0 m0 : Nat) : Nat → sp_St → Int32 → Option (sp_St)
  | 0, _, _ => none
  | f + 1, σ, z1 =>
    sp_ck (!decide (((2 : Int32)) = 0)) <|
    if ((Int32.ofNat m0) / ((2 : Int32))) ≤ z1 then
      some σ
    else
      sp_ck (!decide (((2 : Int32)) = 0)) <|
      sp_ck (sp_in (((Int32.ofNat m0) / ((2 : Int32))) + z1) m0) <|
      sp_ck (sp_in z1 m0) <|
      sp_pl (sp_sa σ p0 z1.toNatClampNeg (sp_g σ p0 (((Int32.ofNat m0) / ((2 : Int32))) + z1))) fun σ5 =>
      sp_pl (z1 + 1) fun x7 =>
      X12_takeHalf_2 n p0 m0 f σ5 x7
def X12_takeHalf (n : Nat)  (σ : sp_St) (p0 m0 : Nat) : Option (sp_St) :=
  sp_pl ((0 : Int32)) fun x1 =>
  X12_takeHalf_2 n p0 m0 n σ x1
set_option maxRecDepth 100000 in
set_option maxHeartbeats 4000000 in
theorem hX12_takeHalf_2 {X : sp_X} (hX : sp_OK shM X cX12_takeHalf RX12 2 rmX12_takeHalf) {τ : sp_St} (hR : sp_Rv shM X τ 0 0) {n : Nat}  {p0 m0 : Nat} (hp0 : sp_ar shM p0 1 m0)  : ∀ (f : Nat) (σ : sp_St) (z1 : Int32), X12_takeHalf_2 n p0 m0 f σ z1 = some τ → sp_GG shM X σ 2 [some (.ref (sx_ad X p0)), some (.int z1)] [] 2 0 0 := by
  intro f
  induction f with
  | zero =>
    intro σ z1 hf
    rw [X12_takeHalf_2] at hf
    cases hf
  | succ f ih =>
    intro σ z1 hf
    rw [X12_takeHalf_2] at hf
    refine sp_iload_n (i := 1) (q := 3) hX dX12_takeHalf_2 rfl rfl rfl ?_
    refine sp_aload_n (i := 0) (q := 4) hX dX12_takeHalf_3 rfl rfl rfl ?_
    refine sp_aleni (v := Int32.ofNat m0) (q := 5) hX hp0 rfl dX12_takeHalf_4 rfl ?_
    refine sp_iconst (v := 2) (q := 6) hX dX12_takeHalf_5 li_2 rfl ?_
    obtain ⟨h1, hf⟩ := sp_ck_some hf
    refine sp_idiv (q := 7) hX dX12_takeHalf_6 (sp_nz h1) rfl ?_
    refine sp_icmp_ge (tgt := 27) (q := 10) hX dX12_takeHalf_7 (by decide) rfl (fun hc => ?_) (fun hc => ?_)
    · rw [if_pos hc] at hf
      exact sp_vret hX hR dX12_takeHalf_27 hf (Nat.le_of_ble_eq_true rfl) (Nat.le_of_ble_eq_true rfl)
    · rw [if_neg hc] at hf
      refine sp_aload_n (i := 0) (q := 11) hX dX12_takeHalf_10 rfl rfl rfl ?_
      refine sp_iload_n (i := 1) (q := 12) hX dX12_takeHalf_11 rfl rfl rfl ?_
      refine sp_aload_n (i := 0) (q := 13) hX dX12_takeHalf_12 rfl rfl rfl ?_
      refine sp_aload_n (i := 0) (q := 14) hX dX12_takeHalf_13 rfl rfl rfl ?_
      refine sp_aleni (v := Int32.ofNat m0) (q := 15) hX hp0 rfl dX12_takeHalf_14 rfl ?_
      refine sp_iconst (v := 2) (q := 16) hX dX12_takeHalf_15 li_2 rfl ?_
      obtain ⟨h2, hf⟩ := sp_ck_some hf
      refine sp_idiv (q := 17) hX dX12_takeHalf_16 (sp_nz h2) rfl ?_
      refine sp_iload_n (i := 1) (q := 18) hX dX12_takeHalf_17 rfl rfl rfl ?_
      refine sp_iadd (q := 19) hX dX12_takeHalf_18 rfl ?_
      obtain ⟨h3, hf⟩ := sp_ck_some hf
      refine sp_iald (q := 20) hX hp0 h3 dX12_takeHalf_19 rfl ?_
      obtain ⟨h4, hf⟩ := sp_ck_some hf
      obtain ⟨σ5, e6, hf⟩ := sp_pl_some hf
      refine sp_iast (q := 21) hX hp0 h4 dX12_takeHalf_20 rfl ?_
      refine sp_nms e6 ?_
      obtain ⟨x7, e8, hf⟩ := sp_pl_some hf
      refine sp_iinc (i := 1) (v := x7) (lv' := [some (.ref (sx_ad X p0)), some (.int x7)]) (q := 24) hX dX12_takeHalf_21 rfl (by rw [e8, li_1]) (Nat.le_of_ble_eq_true rfl) rfl rfl rfl ?_
      refine sp_goto (tgt := 2) hX dX12_takeHalf_24 (by decide) ?_
      exact ih σ5 x7 hf
set_option maxRecDepth 100000 in
set_option maxHeartbeats 4000000 in
theorem hX12_takeHalf {X : sp_X} (hX : sp_OK shM X cX12_takeHalf RX12 2 rmX12_takeHalf) {τ : sp_St} (hR : sp_Rv shM X τ 0 0) {n : Nat}  {σ : sp_St} {p0 m0 : Nat} (hp0 : sp_ar shM p0 1 m0) (hf : X12_takeHalf n σ p0 m0 = some τ) : sp_GG shM X σ 2 [some (.ref (sx_ad X p0)), none] [] 0 0 0 := by
  unfold X12_takeHalf at hf
  refine sp_iconst (v := 0) (q := 1) hX dX12_takeHalf_0 li_0 rfl ?_
  obtain ⟨x1, e2, hf⟩ := sp_pl_some hf
  refine sp_nmi e2 ?_
  refine sp_istore_n (i := 1) (lv' := [some (.ref (sx_ad X p0)), some (.int x1)]) (q := 2) hX dX12_takeHalf_1 rfl (Nat.le_of_ble_eq_true rfl) rfl rfl rfl ?_
  exact hX12_takeHalf_2 hX hR hp0 n σ x1 hf
set_option maxRecDepth 100000 in
set_option maxHeartbeats 4000000 in
theorem cnX12_takeHalf {l : Launch} (hst : l.stackTraces = false) {w : sp_Wd} {n : Nat}  {σ : sp_St} {p0 m0 : Nat} {τ : sp_St} (hp0 : sp_ar shM p0 1 m0) (hf : X12_takeHalf n σ p0 m0 = some τ) : sp_Cv shM l w yX12_takeHalf cX12_takeHalf 2 rmX12_takeHalf 0 0 σ [.ref (w.2.1 p0)] τ :=
  sp_cv (own := RX12) (by decide) rfl hst (Nat.le_of_ble_eq_true rfl) rfl (fun X hX hw hl hR => by subst hw; subst hl; exact hX12_takeHalf hX hR  hp0 hf)
def rmX12_takeOver : Room := { frames := 1, cells := 0, slots := 0, locals := 21 }
def X12_takeOver_204 (n : Nat) (σ : sp_St) : Option (sp_St) :=
  sp_pl (sp_si σ 0 35 ((0 : Int32))) fun σ1 =>
  sp_pl (sp_si σ1 0 36 ((0 : Int32))) fun σ3 =>
  sp_pl (sp_si σ3 0 55 ((0 : Int32))) fun σ5 =>
  some σ5
def X12_takeOver_180 (n : Nat) : Nat → sp_St → Int32 → Option (sp_St)
  | 0, _, _ => none
  | f + 1, σ, z1 =>
    if ((6 : Int32)) ≤ z1 then
      X12_takeOver_204 n σ
    else
      sp_ck (sp_in z1 12) <|
      sp_ck (sp_in z1 6) <|
      sp_pl (sp_sa σ 19 z1.toNatClampNeg (sp_g σ 4 z1)) fun σ3 =>
      sp_pl (z1 + 1) fun x5 =>
      X12_takeOver_180 n f σ3 x5
def X12_takeOver_178 (n : Nat) (σ : sp_St) : Option (sp_St) :=
  sp_pl ((0 : Int32)) fun x1 =>
  X12_takeOver_180 n n σ x1
def X12_takeOver_172 (n : Nat) (k122 : sp_St → Int32 → Option (sp_St)) (σ : sp_St) (z1 : Int32) : Option (sp_St) :=
  sp_pl (z1 + 1) fun x1 =>
  k122 σ x1
def X12_takeOver_148 (n : Nat) (k122 : sp_St → Int32 → Option (sp_St)) : Nat → sp_St → Int32 → Int32 → Option (sp_St)
  | 0, _, _, _ => none
  | f + 1, σ, z1, z2 =>
    if ((10 : Int32)) ≤ z2 then
      X12_takeOver_172 n k122 σ z1
    else
      sp_ck (sp_in ((((10 : Int32)) * z1) + z2) 50) <|
      sp_pl (sp_sa σ 18 ((((10 : Int32)) * z1) + z2).toNatClampNeg ((-1 : Int32))) fun σ2 =>
      sp_pl (z2 + 1) fun x4 =>
      X12_takeOver_148 n k122 f σ2 z1 x4
def X12_takeOver_122 (n : Nat) : Nat → sp_St → Int32 → Option (sp_St)
  | 0, _, _ => none
  | f + 1, σ, z1 =>
    if ((5 : Int32)) ≤ z1 then
      X12_takeOver_178 n σ
    else
      sp_ck (sp_in z1 10) <|
      sp_ck (sp_in z1 5) <|
      sp_pl (sp_sa σ 16 z1.toNatClampNeg (sp_g σ 5 z1)) fun σ3 =>
      sp_ck (sp_in z1 5) <|
      sp_pl (sp_sa σ3 17 z1.toNatClampNeg ((0 : Int32))) fun σ6 =>
      sp_pl ((0 : Int32)) fun x8 =>
      X12_takeOver_148 n (X12_takeOver_122 n f) n σ6 z1 x8
def X12_takeOver_120 (n : Nat) (σ : sp_St) : Option (sp_St) :=
  sp_pl ((0 : Int32)) fun x1 =>
  X12_takeOver_122 n n σ x1
def X12_takeOver_106 (n : Nat) (k75 : sp_St → Int32 → Option (sp_St)) (σ : sp_St) (z1 : Int32) (zs0 : Int32) (zs1 : Int32) : Option (sp_St) :=
  sp_ck (sp_in zs1 10) <|
  sp_pl (sp_sa σ 14 zs1.toNatClampNeg zs0) fun σ2 =>
  sp_ck (sp_in z1 10) <|
  sp_pl (sp_sa σ2 15 z1.toNatClampNeg ((0 : Int32))) fun σ5 =>
  sp_pl (z1 + 1) fun x7 =>
  k75 σ5 x7
def X12_takeOver_75 (n : Nat) : Nat → sp_St → Int32 → Option (sp_St)
  | 0, _, _ => none
  | f + 1, σ, z1 =>
    if ((10 : Int32)) ≤ z1 then
      X12_takeOver_120 n σ
    else
      if (sp_g σ 3 ((2 : Int32))) ≤ z1 then
        X12_takeOver_106 n (X12_takeOver_75 n f) σ z1 ((0 : Int32)) z1
      else
        sp_ck (sp_in z1 20) <|
        X12_takeOver_106 n (X12_takeOver_75 n f) σ z1 (sp_g σ 9 z1) z1
def X12_takeOver (n : Nat)  (σ : sp_St)  : Option (sp_St) :=
  sp_bv (X12_takeHalf n σ 3 12) fun σ2 =>
  sp_bv (X12_takeHalf n σ2 4 12) fun σ4 =>
  sp_bv (X12_takeHalf n σ4 5 10) fun σ6 =>
  sp_bv (X12_takeHalf n σ6 6 10) fun σ8 =>
  sp_bv (X12_takeHalf n σ8 7 20) fun σ10 =>
  sp_bv (X12_takeHalf n σ10 8 20) fun σ12 =>
  sp_bv (X12_takeHalf n σ12 9 20) fun σ14 =>
  sp_bv (X12_takeHalf n σ14 10 1400) fun σ16 =>
  sp_bv (X12_takeHalf n σ16 11 1400) fun σ18 =>
  sp_pl (sp_si σ18 0 33 ((0 : Int32))) fun σ19 =>
  sp_pl (sp_si σ19 0 34 ((0 : Int32))) fun σ21 =>
  sp_pl ((0 : Int32)) fun x23 =>
  X12_takeOver_75 n n σ21 x23
set_option maxRecDepth 100000 in
set_option maxHeartbeats 4000000 in
theorem hX12_takeOver_204 {X : sp_X} (hX : sp_OK shM X cX12_takeOver RX12 3 rmX12_takeOver) {τ : sp_St} (hR : sp_Rv shM X τ 0 0) {n : Nat}    {σ : sp_St} (hf : X12_takeOver_204 n σ = some τ) : sp_GG shM X σ 3 [some (.ref (sx_ad X 0)), none, none] [] 204 0 0 := by
  unfold X12_takeOver_204 at hf
  refine sp_aload_n (i := 0) (q := 205) hX dX12_takeOver_204 rfl rfl rfl ?_
  refine sp_iconst (v := 0) (q := 206) hX dX12_takeOver_205 li_0 rfl ?_
  obtain ⟨σ1, e2, hf⟩ := sp_pl_some hf
  refine sp_puti (q := 209) hX fpX12_330 fkX12_35 atM_0 dX12_takeOver_206 rfl ?_
  refine sp_nms e2 ?_
  refine sp_aload_n (i := 0) (q := 210) hX dX12_takeOver_209 rfl rfl rfl ?_
  refine sp_iconst (v := 0) (q := 211) hX dX12_takeOver_210 li_0 rfl ?_
  obtain ⟨σ3, e4, hf⟩ := sp_pl_some hf
  refine sp_puti (q := 214) hX fpX12_333 fkX12_36 atM_0 dX12_takeOver_211 rfl ?_
  refine sp_nms e4 ?_
  refine sp_aload_n (i := 0) (q := 215) hX dX12_takeOver_214 rfl rfl rfl ?_
  refine sp_iconst (v := 0) (q := 216) hX dX12_takeOver_215 li_0 rfl ?_
  obtain ⟨σ5, e6, hf⟩ := sp_pl_some hf
  refine sp_putz (q := 219) hX fpX12_336 fkX12_55 atM_0 (by decide) dX12_takeOver_216 rfl ?_
  refine sp_nms e6 ?_
  exact sp_vret hX hR dX12_takeOver_219 hf (Nat.le_of_ble_eq_true rfl) (Nat.le_of_ble_eq_true rfl)
set_option maxRecDepth 100000 in
set_option maxHeartbeats 4000000 in
theorem hX12_takeOver_180 {X : sp_X} (hX : sp_OK shM X cX12_takeOver RX12 3 rmX12_takeOver) {τ : sp_St} (hR : sp_Rv shM X τ 0 0) {n : Nat}    : ∀ (f : Nat) (σ : sp_St) (z1 : Int32), X12_takeOver_180 n f σ z1 = some τ → sp_GG shM X σ 3 [some (.ref (sx_ad X 0)), some (.int z1), none] [] 180 0 0 := by
  intro f
  induction f with
  | zero =>
    intro σ z1 hf
    rw [X12_takeOver_180] at hf
    cases hf
  | succ f ih =>
    intro σ z1 hf
    rw [X12_takeOver_180] at hf
    refine sp_iload_n (i := 1) (q := 181) hX dX12_takeOver_180 rfl rfl rfl ?_
    refine sp_bipush (v := 6) (q := 183) hX dX12_takeOver_181 lb_6 rfl ?_
    refine sp_icmp_ge (tgt := 204) (q := 186) hX dX12_takeOver_183 (by decide) rfl (fun hc => ?_) (fun hc => ?_)
    · rw [if_pos hc] at hf
      refine sp_drop (lv' := [some (.ref (sx_ad X 0)), none, none]) (And.intro rfl trivial) ?_
      exact hX12_takeOver_204 hX hR hf
    · rw [if_neg hc] at hf
      refine sp_aload_n (i := 0) (q := 187) hX dX12_takeOver_186 rfl rfl rfl ?_
      refine sp_gets (t := 19) (q := 190) hX flX12_84 fkX12_31 atM_0 srM_0_31 dX12_takeOver_187 rfl ?_
      refine sp_iload_n (i := 1) (q := 191) hX dX12_takeOver_190 rfl rfl rfl ?_
      refine sp_aload_n (i := 0) (q := 192) hX dX12_takeOver_191 rfl rfl rfl ?_
      refine sp_gets (t := 4) (q := 195) hX flX12_37 fkX12_5 atM_0 srM_0_5 dX12_takeOver_192 rfl ?_
      refine sp_iload_n (i := 1) (q := 196) hX dX12_takeOver_195 rfl rfl rfl ?_
      obtain ⟨h1, hf⟩ := sp_ck_some hf
      refine sp_iald (q := 197) hX arM_4 h1 dX12_takeOver_196 rfl ?_
      obtain ⟨h2, hf⟩ := sp_ck_some hf
      obtain ⟨σ3, e4, hf⟩ := sp_pl_some hf
      refine sp_iast (q := 198) hX arM_19 h2 dX12_takeOver_197 rfl ?_
      refine sp_nms e4 ?_
      obtain ⟨x5, e6, hf⟩ := sp_pl_some hf
      refine sp_iinc (i := 1) (v := x5) (lv' := [some (.ref (sx_ad X 0)), some (.int x5), none]) (q := 201) hX dX12_takeOver_198 rfl (by rw [e6, li_1]) (Nat.le_of_ble_eq_true rfl) rfl rfl rfl ?_
      refine sp_goto (tgt := 180) hX dX12_takeOver_201 (by decide) ?_
      exact ih σ3 x5 hf
set_option maxRecDepth 100000 in
set_option maxHeartbeats 4000000 in
theorem hX12_takeOver_178 {X : sp_X} (hX : sp_OK shM X cX12_takeOver RX12 3 rmX12_takeOver) {τ : sp_St} (hR : sp_Rv shM X τ 0 0) {n : Nat}    {σ : sp_St} (hf : X12_takeOver_178 n σ = some τ) : sp_GG shM X σ 3 [some (.ref (sx_ad X 0)), none, none] [] 178 0 0 := by
  unfold X12_takeOver_178 at hf
  refine sp_iconst (v := 0) (q := 179) hX dX12_takeOver_178 li_0 rfl ?_
  obtain ⟨x1, e2, hf⟩ := sp_pl_some hf
  refine sp_nmi e2 ?_
  refine sp_istore_n (i := 1) (lv' := [some (.ref (sx_ad X 0)), some (.int x1), none]) (q := 180) hX dX12_takeOver_179 rfl (Nat.le_of_ble_eq_true rfl) rfl rfl rfl ?_
  exact hX12_takeOver_180 hX hR n σ x1 hf
set_option maxRecDepth 100000 in
set_option maxHeartbeats 4000000 in
theorem hX12_takeOver_172 {X : sp_X} (hX : sp_OK shM X cX12_takeOver RX12 3 rmX12_takeOver) {τ : sp_St} (hR : sp_Rv shM X τ 0 0) {n : Nat}   {k122 : sp_St → Int32 → Option (sp_St)} (hk122 : ∀ (σ : sp_St) (z1 : Int32), k122 σ z1 = some τ → sp_GG shM X σ 3 [some (.ref (sx_ad X 0)), some (.int z1), none] [] 122 0 0) {σ : sp_St} {z1 : Int32} (hf : X12_takeOver_172 n k122 σ z1 = some τ) : sp_GG shM X σ 3 [some (.ref (sx_ad X 0)), some (.int z1), none] [] 172 0 0 := by
  unfold X12_takeOver_172 at hf
  obtain ⟨x1, e2, hf⟩ := sp_pl_some hf
  refine sp_iinc (i := 1) (v := x1) (lv' := [some (.ref (sx_ad X 0)), some (.int x1), none]) (q := 175) hX dX12_takeOver_172 rfl (by rw [e2, li_1]) (Nat.le_of_ble_eq_true rfl) rfl rfl rfl ?_
  refine sp_goto (tgt := 122) hX dX12_takeOver_175 (by decide) ?_
  exact hk122 σ x1 hf
set_option maxRecDepth 100000 in
set_option maxHeartbeats 4000000 in
theorem hX12_takeOver_148 {X : sp_X} (hX : sp_OK shM X cX12_takeOver RX12 3 rmX12_takeOver) {τ : sp_St} (hR : sp_Rv shM X τ 0 0) {n : Nat}   {k122 : sp_St → Int32 → Option (sp_St)} (hk122 : ∀ (σ : sp_St) (z1 : Int32), k122 σ z1 = some τ → sp_GG shM X σ 3 [some (.ref (sx_ad X 0)), some (.int z1), none] [] 122 0 0) : ∀ (f : Nat) (σ : sp_St) (z1 : Int32) (z2 : Int32), X12_takeOver_148 n k122 f σ z1 z2 = some τ → sp_GG shM X σ 3 [some (.ref (sx_ad X 0)), some (.int z1), some (.int z2)] [] 148 0 0 := by
  intro f
  induction f with
  | zero =>
    intro σ z1 z2 hf
    rw [X12_takeOver_148] at hf
    cases hf
  | succ f ih =>
    intro σ z1 z2 hf
    rw [X12_takeOver_148] at hf
    refine sp_iload_n (i := 2) (q := 149) hX dX12_takeOver_148 rfl rfl rfl ?_
    refine sp_bipush (v := 10) (q := 151) hX dX12_takeOver_149 lb_10 rfl ?_
    refine sp_icmp_ge (tgt := 172) (q := 154) hX dX12_takeOver_151 (by decide) rfl (fun hc => ?_) (fun hc => ?_)
    · rw [if_pos hc] at hf
      refine sp_drop (lv' := [some (.ref (sx_ad X 0)), some (.int z1), none]) (And.intro rfl (And.intro rfl trivial)) ?_
      exact hX12_takeOver_172 hX hR hk122 hf
    · rw [if_neg hc] at hf
      refine sp_aload_n (i := 0) (q := 155) hX dX12_takeOver_154 rfl rfl rfl ?_
      refine sp_gets (t := 18) (q := 158) hX flX12_81 fkX12_30 atM_0 srM_0_30 dX12_takeOver_155 rfl ?_
      refine sp_bipush (v := 10) (q := 160) hX dX12_takeOver_158 lb_10 rfl ?_
      refine sp_iload_n (i := 1) (q := 161) hX dX12_takeOver_160 rfl rfl rfl ?_
      refine sp_imul (q := 162) hX dX12_takeOver_161 rfl ?_
      refine sp_iload_n (i := 2) (q := 163) hX dX12_takeOver_162 rfl rfl rfl ?_
      refine sp_iadd (q := 164) hX dX12_takeOver_163 rfl ?_
      refine sp_iconst (v := -1) (q := 165) hX dX12_takeOver_164 li_m1 rfl ?_
      obtain ⟨h1, hf⟩ := sp_ck_some hf
      obtain ⟨σ2, e3, hf⟩ := sp_pl_some hf
      refine sp_iast (q := 166) hX arM_18 h1 dX12_takeOver_165 rfl ?_
      refine sp_nms e3 ?_
      obtain ⟨x4, e5, hf⟩ := sp_pl_some hf
      refine sp_iinc (i := 2) (v := x4) (lv' := [some (.ref (sx_ad X 0)), some (.int z1), some (.int x4)]) (q := 169) hX dX12_takeOver_166 rfl (by rw [e5, li_1]) (Nat.le_of_ble_eq_true rfl) rfl rfl rfl ?_
      refine sp_goto (tgt := 148) hX dX12_takeOver_169 (by decide) ?_
      exact ih σ2 z1 x4 hf
set_option maxRecDepth 100000 in
set_option maxHeartbeats 4000000 in
theorem hX12_takeOver_122 {X : sp_X} (hX : sp_OK shM X cX12_takeOver RX12 3 rmX12_takeOver) {τ : sp_St} (hR : sp_Rv shM X τ 0 0) {n : Nat}    : ∀ (f : Nat) (σ : sp_St) (z1 : Int32), X12_takeOver_122 n f σ z1 = some τ → sp_GG shM X σ 3 [some (.ref (sx_ad X 0)), some (.int z1), none] [] 122 0 0 := by
  intro f
  induction f with
  | zero =>
    intro σ z1 hf
    rw [X12_takeOver_122] at hf
    cases hf
  | succ f ih =>
    intro σ z1 hf
    rw [X12_takeOver_122] at hf
    refine sp_iload_n (i := 1) (q := 123) hX dX12_takeOver_122 rfl rfl rfl ?_
    refine sp_iconst (v := 5) (q := 124) hX dX12_takeOver_123 li_5 rfl ?_
    refine sp_icmp_ge (tgt := 178) (q := 127) hX dX12_takeOver_124 (by decide) rfl (fun hc => ?_) (fun hc => ?_)
    · rw [if_pos hc] at hf
      refine sp_drop (lv' := [some (.ref (sx_ad X 0)), none, none]) (And.intro rfl trivial) ?_
      exact hX12_takeOver_178 hX hR hf
    · rw [if_neg hc] at hf
      refine sp_aload_n (i := 0) (q := 128) hX dX12_takeOver_127 rfl rfl rfl ?_
      refine sp_gets (t := 16) (q := 131) hX flX12_75 fkX12_28 atM_0 srM_0_28 dX12_takeOver_128 rfl ?_
      refine sp_iload_n (i := 1) (q := 132) hX dX12_takeOver_131 rfl rfl rfl ?_
      refine sp_aload_n (i := 0) (q := 133) hX dX12_takeOver_132 rfl rfl rfl ?_
      refine sp_gets (t := 5) (q := 136) hX flX12_40 fkX12_6 atM_0 srM_0_6 dX12_takeOver_133 rfl ?_
      refine sp_iload_n (i := 1) (q := 137) hX dX12_takeOver_136 rfl rfl rfl ?_
      obtain ⟨h1, hf⟩ := sp_ck_some hf
      refine sp_iald (q := 138) hX arM_5 h1 dX12_takeOver_137 rfl ?_
      obtain ⟨h2, hf⟩ := sp_ck_some hf
      obtain ⟨σ3, e4, hf⟩ := sp_pl_some hf
      refine sp_iast (q := 139) hX arM_16 h2 dX12_takeOver_138 rfl ?_
      refine sp_nms e4 ?_
      refine sp_aload_n (i := 0) (q := 140) hX dX12_takeOver_139 rfl rfl rfl ?_
      refine sp_gets (t := 17) (q := 143) hX flX12_78 fkX12_29 atM_0 srM_0_29 dX12_takeOver_140 rfl ?_
      refine sp_iload_n (i := 1) (q := 144) hX dX12_takeOver_143 rfl rfl rfl ?_
      refine sp_iconst (v := 0) (q := 145) hX dX12_takeOver_144 li_0 rfl ?_
      obtain ⟨h5, hf⟩ := sp_ck_some hf
      obtain ⟨σ6, e7, hf⟩ := sp_pl_some hf
      refine sp_iast (q := 146) hX arM_17 h5 dX12_takeOver_145 rfl ?_
      refine sp_nms e7 ?_
      refine sp_iconst (v := 0) (q := 147) hX dX12_takeOver_146 li_0 rfl ?_
      obtain ⟨x8, e9, hf⟩ := sp_pl_some hf
      refine sp_nmi e9 ?_
      refine sp_istore_n (i := 2) (lv' := [some (.ref (sx_ad X 0)), some (.int z1), some (.int x8)]) (q := 148) hX dX12_takeOver_147 rfl (Nat.le_of_ble_eq_true rfl) rfl rfl rfl ?_
      exact hX12_takeOver_148 hX hR ih n σ6 z1 x8 hf
set_option maxRecDepth 100000 in
set_option maxHeartbeats 4000000 in
theorem hX12_takeOver_120 {X : sp_X} (hX : sp_OK shM X cX12_takeOver RX12 3 rmX12_takeOver) {τ : sp_St} (hR : sp_Rv shM X τ 0 0) {n : Nat}    {σ : sp_St} (hf : X12_takeOver_120 n σ = some τ) : sp_GG shM X σ 3 [some (.ref (sx_ad X 0)), none, none] [] 120 0 0 := by
  unfold X12_takeOver_120 at hf
  refine sp_iconst (v := 0) (q := 121) hX dX12_takeOver_120 li_0 rfl ?_
  obtain ⟨x1, e2, hf⟩ := sp_pl_some hf
  refine sp_nmi e2 ?_
  refine sp_istore_n (i := 1) (lv' := [some (.ref (sx_ad X 0)), some (.int x1), none]) (q := 122) hX dX12_takeOver_121 rfl (Nat.le_of_ble_eq_true rfl) rfl rfl rfl ?_
  exact hX12_takeOver_122 hX hR n σ x1 hf
set_option maxRecDepth 100000 in
set_option maxHeartbeats 4000000 in
theorem hX12_takeOver_106 {X : sp_X} (hX : sp_OK shM X cX12_takeOver RX12 3 rmX12_takeOver) {τ : sp_St} (hR : sp_Rv shM X τ 0 0) {n : Nat}   {k75 : sp_St → Int32 → Option (sp_St)} (hk75 : ∀ (σ : sp_St) (z1 : Int32), k75 σ z1 = some τ → sp_GG shM X σ 3 [some (.ref (sx_ad X 0)), some (.int z1), none] [] 75 0 0) {σ : sp_St} {z1 : Int32} {zs0 : Int32} {zs1 : Int32} (hf : X12_takeOver_106 n k75 σ z1 zs0 zs1 = some τ) : sp_GG shM X σ 3 [some (.ref (sx_ad X 0)), some (.int z1), none] [.int zs0, .int zs1, .ref (sx_ad X 14)] 106 0 0 := by
  unfold X12_takeOver_106 at hf
  obtain ⟨h1, hf⟩ := sp_ck_some hf
  obtain ⟨σ2, e3, hf⟩ := sp_pl_some hf
  refine sp_iast (q := 107) hX arM_14 h1 dX12_takeOver_106 rfl ?_
  refine sp_nms e3 ?_
  refine sp_aload_n (i := 0) (q := 108) hX dX12_takeOver_107 rfl rfl rfl ?_
  refine sp_gets (t := 15) (q := 111) hX flX12_72 fkX12_27 atM_0 srM_0_27 dX12_takeOver_108 rfl ?_
  refine sp_iload_n (i := 1) (q := 112) hX dX12_takeOver_111 rfl rfl rfl ?_
  refine sp_iconst (v := 0) (q := 113) hX dX12_takeOver_112 li_0 rfl ?_
  obtain ⟨h4, hf⟩ := sp_ck_some hf
  obtain ⟨σ5, e6, hf⟩ := sp_pl_some hf
  refine sp_iast (q := 114) hX arM_15 h4 dX12_takeOver_113 rfl ?_
  refine sp_nms e6 ?_
  obtain ⟨x7, e8, hf⟩ := sp_pl_some hf
  refine sp_iinc (i := 1) (v := x7) (lv' := [some (.ref (sx_ad X 0)), some (.int x7), none]) (q := 117) hX dX12_takeOver_114 rfl (by rw [e8, li_1]) (Nat.le_of_ble_eq_true rfl) rfl rfl rfl ?_
  refine sp_goto (tgt := 75) hX dX12_takeOver_117 (by decide) ?_
  exact hk75 σ5 x7 hf
set_option maxRecDepth 100000 in
set_option maxHeartbeats 4000000 in
theorem hX12_takeOver_75 {X : sp_X} (hX : sp_OK shM X cX12_takeOver RX12 3 rmX12_takeOver) {τ : sp_St} (hR : sp_Rv shM X τ 0 0) {n : Nat}    : ∀ (f : Nat) (σ : sp_St) (z1 : Int32), X12_takeOver_75 n f σ z1 = some τ → sp_GG shM X σ 3 [some (.ref (sx_ad X 0)), some (.int z1), none] [] 75 0 0 := by
  intro f
  induction f with
  | zero =>
    intro σ z1 hf
    rw [X12_takeOver_75] at hf
    cases hf
  | succ f ih =>
    intro σ z1 hf
    rw [X12_takeOver_75] at hf
    refine sp_iload_n (i := 1) (q := 76) hX dX12_takeOver_75 rfl rfl rfl ?_
    refine sp_bipush (v := 10) (q := 78) hX dX12_takeOver_76 lb_10 rfl ?_
    refine sp_icmp_ge (tgt := 120) (q := 81) hX dX12_takeOver_78 (by decide) rfl (fun hc => ?_) (fun hc => ?_)
    · rw [if_pos hc] at hf
      refine sp_drop (lv' := [some (.ref (sx_ad X 0)), none, none]) (And.intro rfl trivial) ?_
      exact hX12_takeOver_120 hX hR hf
    · rw [if_neg hc] at hf
      refine sp_aload_n (i := 0) (q := 82) hX dX12_takeOver_81 rfl rfl rfl ?_
      refine sp_gets (t := 14) (q := 85) hX flX12_70 fkX12_26 atM_0 srM_0_26 dX12_takeOver_82 rfl ?_
      refine sp_iload_n (i := 1) (q := 86) hX dX12_takeOver_85 rfl rfl rfl ?_
      refine sp_iload_n (i := 1) (q := 87) hX dX12_takeOver_86 rfl rfl rfl ?_
      refine sp_aload_n (i := 0) (q := 88) hX dX12_takeOver_87 rfl rfl rfl ?_
      refine sp_gets (t := 3) (q := 91) hX flX12_33 fkX12_4 atM_0 srM_0_4 dX12_takeOver_88 rfl ?_
      refine sp_iconst (v := 2) (q := 92) hX dX12_takeOver_91 li_2 rfl ?_
      refine sp_iald (q := 93) hX arM_3 (by decide) dX12_takeOver_92 rfl ?_
      refine sp_icmp_ge (tgt := 105) (q := 96) hX dX12_takeOver_93 (by decide) rfl (fun hc => ?_) (fun hc => ?_)
      · rw [if_pos hc] at hf
        refine sp_iconst (v := 0) (q := 106) hX dX12_takeOver_105 li_0 rfl ?_
        exact hX12_takeOver_106 hX hR ih hf
      · rw [if_neg hc] at hf
        refine sp_aload_n (i := 0) (q := 97) hX dX12_takeOver_96 rfl rfl rfl ?_
        refine sp_gets (t := 9) (q := 100) hX flX12_51 fkX12_10 atM_0 srM_0_10 dX12_takeOver_97 rfl ?_
        refine sp_iload_n (i := 1) (q := 101) hX dX12_takeOver_100 rfl rfl rfl ?_
        obtain ⟨h1, hf⟩ := sp_ck_some hf
        refine sp_iald (q := 102) hX arM_9 h1 dX12_takeOver_101 rfl ?_
        refine sp_goto (tgt := 106) hX dX12_takeOver_102 (by decide) ?_
        exact hX12_takeOver_106 hX hR ih hf
set_option maxRecDepth 100000 in
set_option maxHeartbeats 4000000 in
theorem hX12_takeOver {X : sp_X} (hX : sp_OK shM X cX12_takeOver RX12 3 rmX12_takeOver) {τ : sp_St} (hR : sp_Rv shM X τ 0 0) {n : Nat}  {σ : sp_St}   (hf : X12_takeOver n σ = some τ) : sp_GG shM X σ 3 [some (.ref (sx_ad X 0)), none, none] [] 0 0 0 := by
  unfold X12_takeOver at hf
  refine sp_aload_n (i := 0) (q := 1) hX dX12_takeOver_0 rfl rfl rfl ?_
  refine sp_gets (t := 3) (q := 4) hX flX12_33 fkX12_4 atM_0 srM_0_4 dX12_takeOver_1 rfl ?_
  obtain ⟨σ2, h1, hf⟩ := sp_bv_so hf
  refine sp_callSv (As := [.ref (sx_ad X 3)]) (rest := []) (q := 7) hX (cnX12_takeHalf (sp_st hX) arM_3 h1) cwX12_321 rfl rfl rfl rfl (Nat.le_of_ble_eq_true rfl) (Nat.le_of_ble_eq_true rfl) (Nat.le_of_ble_eq_true rfl) (Nat.le_of_ble_eq_true rfl) (Nat.le_of_ble_eq_true rfl) dX12_takeOver_4 rfl ?_
  refine sp_aload_n (i := 0) (q := 8) hX dX12_takeOver_7 rfl rfl rfl ?_
  refine sp_gets (t := 4) (q := 11) hX flX12_37 fkX12_5 atM_0 srM_0_5 dX12_takeOver_8 rfl ?_
  obtain ⟨σ4, h3, hf⟩ := sp_bv_so hf
  refine sp_callSv (As := [.ref (sx_ad X 4)]) (rest := []) (q := 14) hX (cnX12_takeHalf (sp_st hX) arM_4 h3) cwX12_321 rfl rfl rfl rfl (Nat.le_of_ble_eq_true rfl) (Nat.le_of_ble_eq_true rfl) (Nat.le_of_ble_eq_true rfl) (Nat.le_of_ble_eq_true rfl) (Nat.le_of_ble_eq_true rfl) dX12_takeOver_11 rfl ?_
  refine sp_aload_n (i := 0) (q := 15) hX dX12_takeOver_14 rfl rfl rfl ?_
  refine sp_gets (t := 5) (q := 18) hX flX12_40 fkX12_6 atM_0 srM_0_6 dX12_takeOver_15 rfl ?_
  obtain ⟨σ6, h5, hf⟩ := sp_bv_so hf
  refine sp_callSv (As := [.ref (sx_ad X 5)]) (rest := []) (q := 21) hX (cnX12_takeHalf (sp_st hX) arM_5 h5) cwX12_321 rfl rfl rfl rfl (Nat.le_of_ble_eq_true rfl) (Nat.le_of_ble_eq_true rfl) (Nat.le_of_ble_eq_true rfl) (Nat.le_of_ble_eq_true rfl) (Nat.le_of_ble_eq_true rfl) dX12_takeOver_18 rfl ?_
  refine sp_aload_n (i := 0) (q := 22) hX dX12_takeOver_21 rfl rfl rfl ?_
  refine sp_gets (t := 6) (q := 25) hX flX12_43 fkX12_7 atM_0 srM_0_7 dX12_takeOver_22 rfl ?_
  obtain ⟨σ8, h7, hf⟩ := sp_bv_so hf
  refine sp_callSv (As := [.ref (sx_ad X 6)]) (rest := []) (q := 28) hX (cnX12_takeHalf (sp_st hX) arM_6 h7) cwX12_321 rfl rfl rfl rfl (Nat.le_of_ble_eq_true rfl) (Nat.le_of_ble_eq_true rfl) (Nat.le_of_ble_eq_true rfl) (Nat.le_of_ble_eq_true rfl) (Nat.le_of_ble_eq_true rfl) dX12_takeOver_25 rfl ?_
  refine sp_aload_n (i := 0) (q := 29) hX dX12_takeOver_28 rfl rfl rfl ?_
  refine sp_gets (t := 7) (q := 32) hX flX12_46 fkX12_8 atM_0 srM_0_8 dX12_takeOver_29 rfl ?_
  obtain ⟨σ10, h9, hf⟩ := sp_bv_so hf
  refine sp_callSv (As := [.ref (sx_ad X 7)]) (rest := []) (q := 35) hX (cnX12_takeHalf (sp_st hX) arM_7 h9) cwX12_321 rfl rfl rfl rfl (Nat.le_of_ble_eq_true rfl) (Nat.le_of_ble_eq_true rfl) (Nat.le_of_ble_eq_true rfl) (Nat.le_of_ble_eq_true rfl) (Nat.le_of_ble_eq_true rfl) dX12_takeOver_32 rfl ?_
  refine sp_aload_n (i := 0) (q := 36) hX dX12_takeOver_35 rfl rfl rfl ?_
  refine sp_gets (t := 8) (q := 39) hX flX12_49 fkX12_9 atM_0 srM_0_9 dX12_takeOver_36 rfl ?_
  obtain ⟨σ12, h11, hf⟩ := sp_bv_so hf
  refine sp_callSv (As := [.ref (sx_ad X 8)]) (rest := []) (q := 42) hX (cnX12_takeHalf (sp_st hX) arM_8 h11) cwX12_321 rfl rfl rfl rfl (Nat.le_of_ble_eq_true rfl) (Nat.le_of_ble_eq_true rfl) (Nat.le_of_ble_eq_true rfl) (Nat.le_of_ble_eq_true rfl) (Nat.le_of_ble_eq_true rfl) dX12_takeOver_39 rfl ?_
  refine sp_aload_n (i := 0) (q := 43) hX dX12_takeOver_42 rfl rfl rfl ?_
  refine sp_gets (t := 9) (q := 46) hX flX12_51 fkX12_10 atM_0 srM_0_10 dX12_takeOver_43 rfl ?_
  obtain ⟨σ14, h13, hf⟩ := sp_bv_so hf
  refine sp_callSv (As := [.ref (sx_ad X 9)]) (rest := []) (q := 49) hX (cnX12_takeHalf (sp_st hX) arM_9 h13) cwX12_321 rfl rfl rfl rfl (Nat.le_of_ble_eq_true rfl) (Nat.le_of_ble_eq_true rfl) (Nat.le_of_ble_eq_true rfl) (Nat.le_of_ble_eq_true rfl) (Nat.le_of_ble_eq_true rfl) dX12_takeOver_46 rfl ?_
  refine sp_aload_n (i := 0) (q := 50) hX dX12_takeOver_49 rfl rfl rfl ?_
  refine sp_gets (t := 10) (q := 53) hX flX12_54 fkX12_11 atM_0 srM_0_11 dX12_takeOver_50 rfl ?_
  obtain ⟨σ16, h15, hf⟩ := sp_bv_so hf
  refine sp_callSv (As := [.ref (sx_ad X 10)]) (rest := []) (q := 56) hX (cnX12_takeHalf (sp_st hX) arM_10 h15) cwX12_321 rfl rfl rfl rfl (Nat.le_of_ble_eq_true rfl) (Nat.le_of_ble_eq_true rfl) (Nat.le_of_ble_eq_true rfl) (Nat.le_of_ble_eq_true rfl) (Nat.le_of_ble_eq_true rfl) dX12_takeOver_53 rfl ?_
  refine sp_aload_n (i := 0) (q := 57) hX dX12_takeOver_56 rfl rfl rfl ?_
  refine sp_gets (t := 11) (q := 60) hX flX12_57 fkX12_12 atM_0 srM_0_12 dX12_takeOver_57 rfl ?_
  obtain ⟨σ18, h17, hf⟩ := sp_bv_so hf
  refine sp_callSv (As := [.ref (sx_ad X 11)]) (rest := []) (q := 63) hX (cnX12_takeHalf (sp_st hX) arM_11 h17) cwX12_321 rfl rfl rfl rfl (Nat.le_of_ble_eq_true rfl) (Nat.le_of_ble_eq_true rfl) (Nat.le_of_ble_eq_true rfl) (Nat.le_of_ble_eq_true rfl) (Nat.le_of_ble_eq_true rfl) dX12_takeOver_60 rfl ?_
  refine sp_aload_n (i := 0) (q := 64) hX dX12_takeOver_63 rfl rfl rfl ?_
  refine sp_iconst (v := 0) (q := 65) hX dX12_takeOver_64 li_0 rfl ?_
  obtain ⟨σ19, e20, hf⟩ := sp_pl_some hf
  refine sp_puti (q := 68) hX fpX12_325 fkX12_33 atM_0 dX12_takeOver_65 rfl ?_
  refine sp_nms e20 ?_
  refine sp_aload_n (i := 0) (q := 69) hX dX12_takeOver_68 rfl rfl rfl ?_
  refine sp_iconst (v := 0) (q := 70) hX dX12_takeOver_69 li_0 rfl ?_
  obtain ⟨σ21, e22, hf⟩ := sp_pl_some hf
  refine sp_puti (q := 73) hX fpX12_327 fkX12_34 atM_0 dX12_takeOver_70 rfl ?_
  refine sp_nms e22 ?_
  refine sp_iconst (v := 0) (q := 74) hX dX12_takeOver_73 li_0 rfl ?_
  obtain ⟨x23, e24, hf⟩ := sp_pl_some hf
  refine sp_nmi e24 ?_
  refine sp_istore_n (i := 1) (lv' := [some (.ref (sx_ad X 0)), some (.int x23), none]) (q := 75) hX dX12_takeOver_74 rfl (Nat.le_of_ble_eq_true rfl) rfl rfl rfl ?_
  exact hX12_takeOver_75 hX hR n σ21 x23 hf
set_option maxRecDepth 100000 in
set_option maxHeartbeats 4000000 in
theorem cnX12_takeOver {l : Launch} (hst : l.stackTraces = false) {w : sp_Wd} {n : Nat}  {σ : sp_St}  {τ : sp_St}  (hf : X12_takeOver n σ = some τ) : sp_Cv shM l w yX12_takeOver cX12_takeOver 3 rmX12_takeOver 0 0 σ [.ref (w.2.1 0)] τ :=
  sp_cv (own := RX12) (by decide) rfl hst (Nat.le_of_ble_eq_true rfl) rfl (fun X hX hw hl hR => by subst hw; subst hl; exact hX12_takeOver hX hR   hf)
def rmX12_fault : Room := { frames := 0, cells := 0, slots := 0, locals := 0 }
def X12_fault (n : Nat)  (σ : sp_St)  : Option (sp_St × Int32) :=
  sp_pl (sp_si σ 0 3 ((0 : Int32))) fun σ1 =>
  some (σ1, σ1.1 0 24)
set_option maxRecDepth 100000 in
set_option maxHeartbeats 4000000 in
theorem hX12_fault {X : sp_X} (hX : sp_OK shM X cX12_fault RX12 1 rmX12_fault) {τ : sp_St} {r : Int32} (hR : sp_Ri shM X (some .int) τ r 0 0) {n : Nat}  {σ : sp_St}   (hf : X12_fault n σ = some (τ, r)) : sp_GG shM X σ 1 [some (.ref (sx_ad X 0))] [] 0 0 0 := by
  unfold X12_fault at hf
  refine sp_aload_n (i := 0) (q := 1) hX dX12_fault_0 rfl rfl rfl ?_
  refine sp_iconst (v := 0) (q := 2) hX dX12_fault_1 li_0 rfl ?_
  obtain ⟨σ1, e2, hf⟩ := sp_pl_some hf
  refine sp_puti (q := 5) hX fpX12_158 fkX12_3 atM_0 dX12_fault_2 rfl ?_
  refine sp_nms e2 ?_
  refine sp_aload_n (i := 0) (q := 6) hX dX12_fault_5 rfl rfl rfl ?_
  refine sp_geti (q := 9) hX flX12_66 fkX12_24 atM_0 dX12_fault_6 rfl ?_
  exact sp_iret hX hR dX12_fault_9 hf (Nat.le_of_ble_eq_true rfl) (Nat.le_of_ble_eq_true rfl)
set_option maxRecDepth 100000 in
set_option maxHeartbeats 4000000 in
theorem cnX12_fault {l : Launch} (hst : l.stackTraces = false) {w : sp_Wd} {n : Nat}  {σ : sp_St}  {τ : sp_St} {r : Int32}  (hf : X12_fault n σ = some (τ, r)) : sp_Ci shM l w yX12_fault cX12_fault 1 (some .int) rmX12_fault 0 0 σ [.ref (w.2.1 0)] τ r :=
  sp_ci (own := RX12) (by decide) rfl hst (Nat.le_of_ble_eq_true rfl) rfl (fun X hX hw hl hR => by subst hw; subst hl; exact hX12_fault hX hR   hf)
def rmX12_pack : Room := { frames := 0, cells := 0, slots := 0, locals := 0 }
def X12_pack_157 (n : Nat) (p1 m1 : Nat) : Nat → sp_St → Int32 → Int32 → Option (sp_St)
  | 0, _, _, _ => none
  | f + 1, σ, z3, z4 =>
    if ((6 : Int32)) ≤ z4 then
      some σ
    else
      sp_ck (sp_in z4 6) <|
      sp_ck (sp_in (z3 + z4) m1) <|
      sp_pl (sp_sa σ p1 (z3 + z4).toNatClampNeg (sp_g σ 19 z4)) fun σ3 =>
      sp_pl (z4 + 1) fun x5 =>
      X12_pack_157 n p1 m1 f σ3 z3 x5
def X12_pack_146 (n : Nat) (p1 m1 : Nat) (σ : sp_St) (z3 : Int32) : Option (sp_St) :=
  sp_pl (z3 + ((50 : Int32))) fun x1 =>
  sp_pl ((0 : Int32)) fun x3 =>
  X12_pack_157 n p1 m1 n σ x1 x3
def X12_pack_117 (n : Nat) (p1 m1 : Nat) : Nat → sp_St → Int32 → Int32 → Option (sp_St)
  | 0, _, _, _ => none
  | f + 1, σ, z3, z4 =>
    if ((50 : Int32)) ≤ z4 then
      X12_pack_146 n p1 m1 σ z3
    else
      sp_ck (sp_in z4 50) <|
      sp_ck (sp_in (z3 + z4) m1) <|
      sp_pl (sp_sa σ p1 (z3 + z4).toNatClampNeg (sp_g σ 18 z4)) fun σ3 =>
      sp_pl (z4 + 1) fun x5 =>
      X12_pack_117 n p1 m1 f σ3 z3 x5
def X12_pack_111 (n : Nat) (p1 m1 : Nat) (σ : sp_St) (z3 : Int32) : Option (sp_St) :=
  sp_pl (z3 + 10) fun x1 =>
  sp_pl ((0 : Int32)) fun x3 =>
  X12_pack_117 n p1 m1 n σ x1 x3
def X12_pack_71 (n : Nat) (p1 m1 : Nat) : Nat → sp_St → Int32 → Int32 → Option (sp_St)
  | 0, _, _, _ => none
  | f + 1, σ, z3, z4 =>
    if ((5 : Int32)) ≤ z4 then
      X12_pack_111 n p1 m1 σ z3
    else
      sp_ck (sp_in z4 5) <|
      sp_ck (sp_in (z3 + z4) m1) <|
      sp_pl (sp_sa σ p1 (z3 + z4).toNatClampNeg (sp_g σ 16 z4)) fun σ3 =>
      sp_ck (sp_in z4 5) <|
      sp_ck (sp_in ((z3 + ((5 : Int32))) + z4) m1) <|
      sp_pl (sp_sa σ3 p1 ((z3 + ((5 : Int32))) + z4).toNatClampNeg (sp_g σ3 17 z4)) fun σ7 =>
      sp_pl (z4 + 1) fun x9 =>
      X12_pack_71 n p1 m1 f σ7 z3 x9
def X12_pack_65 (n : Nat) (p1 m1 : Nat) (σ : sp_St) (z3 : Int32) : Option (sp_St) :=
  sp_pl (z3 + 20) fun x1 =>
  sp_pl ((0 : Int32)) fun x3 =>
  X12_pack_71 n p1 m1 n σ x1 x3
def X12_pack_23 (n : Nat) (p1 m1 : Nat) : Nat → sp_St → Int32 → Int32 → Option (sp_St)
  | 0, _, _, _ => none
  | f + 1, σ, z3, z4 =>
    if ((10 : Int32)) ≤ z4 then
      X12_pack_65 n p1 m1 σ z3
    else
      sp_ck (sp_in z4 10) <|
      sp_ck (sp_in (z3 + z4) m1) <|
      sp_pl (sp_sa σ p1 (z3 + z4).toNatClampNeg (sp_g σ 14 z4)) fun σ3 =>
      sp_ck (sp_in z4 10) <|
      sp_ck (sp_in ((z3 + ((10 : Int32))) + z4) m1) <|
      sp_pl (sp_sa σ3 p1 ((z3 + ((10 : Int32))) + z4).toNatClampNeg (sp_g σ3 15 z4)) fun σ7 =>
      sp_pl (z4 + 1) fun x9 =>
      X12_pack_23 n p1 m1 f σ7 z3 x9
def X12_pack (n : Nat)  (σ : sp_St) (p1 m1 : Nat) (a2 : Int32) : Option (sp_St) :=
  sp_ck (sp_in a2 m1) <|
  sp_pl (sp_sa σ p1 a2.toNatClampNeg (σ.1 0 33)) fun σ2 =>
  sp_ck (sp_in (a2 + ((1 : Int32))) m1) <|
  sp_pl (sp_sa σ2 p1 (a2 + ((1 : Int32))).toNatClampNeg (σ2.1 0 34)) fun σ5 =>
  sp_pl (a2 + ((2 : Int32))) fun x7 =>
  sp_pl ((0 : Int32)) fun x9 =>
  X12_pack_23 n p1 m1 n σ5 x7 x9
set_option maxRecDepth 100000 in
set_option maxHeartbeats 4000000 in
theorem hX12_pack_157 {X : sp_X} (hX : sp_OK shM X cX12_pack RX12 5 rmX12_pack) {τ : sp_St} (hR : sp_Rv shM X τ 0 0) {n : Nat}  {p1 m1 : Nat} (hp1 : sp_ar shM p1 1 m1)  : ∀ (f : Nat) (σ : sp_St) (z3 : Int32) (z4 : Int32), X12_pack_157 n p1 m1 f σ z3 z4 = some τ → sp_GG shM X σ 5 [some (.ref (sx_ad X 0)), some (.ref (sx_ad X p1)), none, some (.int z3), some (.int z4)] [] 157 0 0 := by
  intro f
  induction f with
  | zero =>
    intro σ z3 z4 hf
    rw [X12_pack_157] at hf
    cases hf
  | succ f ih =>
    intro σ z3 z4 hf
    rw [X12_pack_157] at hf
    refine sp_iload (i := 4) (q := 159) hX dX12_pack_157 rfl rfl ?_
    refine sp_bipush (v := 6) (q := 161) hX dX12_pack_159 lb_6 rfl ?_
    refine sp_icmp_ge (tgt := 183) (q := 164) hX dX12_pack_161 (by decide) rfl (fun hc => ?_) (fun hc => ?_)
    · rw [if_pos hc] at hf
      exact sp_vret hX hR dX12_pack_183 hf (Nat.le_of_ble_eq_true rfl) (Nat.le_of_ble_eq_true rfl)
    · rw [if_neg hc] at hf
      refine sp_aload_n (i := 1) (q := 165) hX dX12_pack_164 rfl rfl rfl ?_
      refine sp_iload_n (i := 3) (q := 166) hX dX12_pack_165 rfl rfl rfl ?_
      refine sp_iload (i := 4) (q := 168) hX dX12_pack_166 rfl rfl ?_
      refine sp_iadd (q := 169) hX dX12_pack_168 rfl ?_
      refine sp_aload_n (i := 0) (q := 170) hX dX12_pack_169 rfl rfl rfl ?_
      refine sp_gets (t := 19) (q := 173) hX flX12_84 fkX12_31 atM_0 srM_0_31 dX12_pack_170 rfl ?_
      refine sp_iload (i := 4) (q := 175) hX dX12_pack_173 rfl rfl ?_
      obtain ⟨h1, hf⟩ := sp_ck_some hf
      refine sp_iald (q := 176) hX arM_19 h1 dX12_pack_175 rfl ?_
      obtain ⟨h2, hf⟩ := sp_ck_some hf
      obtain ⟨σ3, e4, hf⟩ := sp_pl_some hf
      refine sp_iast (q := 177) hX hp1 h2 dX12_pack_176 rfl ?_
      refine sp_nms e4 ?_
      obtain ⟨x5, e6, hf⟩ := sp_pl_some hf
      refine sp_iinc (i := 4) (v := x5) (lv' := [some (.ref (sx_ad X 0)), some (.ref (sx_ad X p1)), none, some (.int z3), some (.int x5)]) (q := 180) hX dX12_pack_177 rfl (by rw [e6, li_1]) (Nat.le_of_ble_eq_true rfl) rfl rfl rfl ?_
      refine sp_goto (tgt := 157) hX dX12_pack_180 (by decide) ?_
      exact ih σ3 z3 x5 hf
set_option maxRecDepth 100000 in
set_option maxHeartbeats 4000000 in
theorem hX12_pack_146 {X : sp_X} (hX : sp_OK shM X cX12_pack RX12 5 rmX12_pack) {τ : sp_St} (hR : sp_Rv shM X τ 0 0) {n : Nat}  {p1 m1 : Nat} (hp1 : sp_ar shM p1 1 m1)  {σ : sp_St} {z3 : Int32} (hf : X12_pack_146 n p1 m1 σ z3 = some τ) : sp_GG shM X σ 5 [some (.ref (sx_ad X 0)), some (.ref (sx_ad X p1)), none, some (.int z3), none] [] 146 0 0 := by
  unfold X12_pack_146 at hf
  refine sp_iload_n (i := 3) (q := 147) hX dX12_pack_146 rfl rfl rfl ?_
  refine sp_aload_n (i := 0) (q := 148) hX dX12_pack_147 rfl rfl rfl ?_
  refine sp_gets (t := 18) (q := 151) hX flX12_81 fkX12_30 atM_0 srM_0_30 dX12_pack_148 rfl ?_
  refine sp_aleni (v := (50 : Int32)) (q := 152) hX arM_18 (by decide) dX12_pack_151 rfl ?_
  refine sp_iadd (q := 153) hX dX12_pack_152 rfl ?_
  obtain ⟨x1, e2, hf⟩ := sp_pl_some hf
  refine sp_nmi e2 ?_
  refine sp_istore_n (i := 3) (lv' := [some (.ref (sx_ad X 0)), some (.ref (sx_ad X p1)), none, some (.int x1), none]) (q := 154) hX dX12_pack_153 rfl (Nat.le_of_ble_eq_true rfl) rfl rfl rfl ?_
  refine sp_iconst (v := 0) (q := 155) hX dX12_pack_154 li_0 rfl ?_
  obtain ⟨x3, e4, hf⟩ := sp_pl_some hf
  refine sp_nmi e4 ?_
  refine sp_istore (i := 4) (lv' := [some (.ref (sx_ad X 0)), some (.ref (sx_ad X p1)), none, some (.int x1), some (.int x3)]) (q := 157) hX dX12_pack_155 (Nat.le_of_ble_eq_true rfl) rfl rfl rfl ?_
  exact hX12_pack_157 hX hR hp1 n σ x1 x3 hf
set_option maxRecDepth 100000 in
set_option maxHeartbeats 4000000 in
theorem hX12_pack_117 {X : sp_X} (hX : sp_OK shM X cX12_pack RX12 5 rmX12_pack) {τ : sp_St} (hR : sp_Rv shM X τ 0 0) {n : Nat}  {p1 m1 : Nat} (hp1 : sp_ar shM p1 1 m1)  : ∀ (f : Nat) (σ : sp_St) (z3 : Int32) (z4 : Int32), X12_pack_117 n p1 m1 f σ z3 z4 = some τ → sp_GG shM X σ 5 [some (.ref (sx_ad X 0)), some (.ref (sx_ad X p1)), none, some (.int z3), some (.int z4)] [] 117 0 0 := by
  intro f
  induction f with
  | zero =>
    intro σ z3 z4 hf
    rw [X12_pack_117] at hf
    cases hf
  | succ f ih =>
    intro σ z3 z4 hf
    rw [X12_pack_117] at hf
    refine sp_iload (i := 4) (q := 119) hX dX12_pack_117 rfl rfl ?_
    refine sp_aload_n (i := 0) (q := 120) hX dX12_pack_119 rfl rfl rfl ?_
    refine sp_gets (t := 18) (q := 123) hX flX12_81 fkX12_30 atM_0 srM_0_30 dX12_pack_120 rfl ?_
    refine sp_aleni (v := (50 : Int32)) (q := 124) hX arM_18 (by decide) dX12_pack_123 rfl ?_
    refine sp_icmp_ge (tgt := 146) (q := 127) hX dX12_pack_124 (by decide) rfl (fun hc => ?_) (fun hc => ?_)
    · rw [if_pos hc] at hf
      refine sp_drop (lv' := [some (.ref (sx_ad X 0)), some (.ref (sx_ad X p1)), none, some (.int z3), none]) (And.intro rfl (And.intro rfl (And.intro rfl trivial))) ?_
      exact hX12_pack_146 hX hR hp1 hf
    · rw [if_neg hc] at hf
      refine sp_aload_n (i := 1) (q := 128) hX dX12_pack_127 rfl rfl rfl ?_
      refine sp_iload_n (i := 3) (q := 129) hX dX12_pack_128 rfl rfl rfl ?_
      refine sp_iload (i := 4) (q := 131) hX dX12_pack_129 rfl rfl ?_
      refine sp_iadd (q := 132) hX dX12_pack_131 rfl ?_
      refine sp_aload_n (i := 0) (q := 133) hX dX12_pack_132 rfl rfl rfl ?_
      refine sp_gets (t := 18) (q := 136) hX flX12_81 fkX12_30 atM_0 srM_0_30 dX12_pack_133 rfl ?_
      refine sp_iload (i := 4) (q := 138) hX dX12_pack_136 rfl rfl ?_
      obtain ⟨h1, hf⟩ := sp_ck_some hf
      refine sp_iald (q := 139) hX arM_18 h1 dX12_pack_138 rfl ?_
      obtain ⟨h2, hf⟩ := sp_ck_some hf
      obtain ⟨σ3, e4, hf⟩ := sp_pl_some hf
      refine sp_iast (q := 140) hX hp1 h2 dX12_pack_139 rfl ?_
      refine sp_nms e4 ?_
      obtain ⟨x5, e6, hf⟩ := sp_pl_some hf
      refine sp_iinc (i := 4) (v := x5) (lv' := [some (.ref (sx_ad X 0)), some (.ref (sx_ad X p1)), none, some (.int z3), some (.int x5)]) (q := 143) hX dX12_pack_140 rfl (by rw [e6, li_1]) (Nat.le_of_ble_eq_true rfl) rfl rfl rfl ?_
      refine sp_goto (tgt := 117) hX dX12_pack_143 (by decide) ?_
      exact ih σ3 z3 x5 hf
set_option maxRecDepth 100000 in
set_option maxHeartbeats 4000000 in
theorem hX12_pack_111 {X : sp_X} (hX : sp_OK shM X cX12_pack RX12 5 rmX12_pack) {τ : sp_St} (hR : sp_Rv shM X τ 0 0) {n : Nat}  {p1 m1 : Nat} (hp1 : sp_ar shM p1 1 m1)  {σ : sp_St} {z3 : Int32} (hf : X12_pack_111 n p1 m1 σ z3 = some τ) : sp_GG shM X σ 5 [some (.ref (sx_ad X 0)), some (.ref (sx_ad X p1)), none, some (.int z3), none] [] 111 0 0 := by
  unfold X12_pack_111 at hf
  obtain ⟨x1, e2, hf⟩ := sp_pl_some hf
  refine sp_iinc (i := 3) (v := x1) (lv' := [some (.ref (sx_ad X 0)), some (.ref (sx_ad X p1)), none, some (.int x1), none]) (q := 114) hX dX12_pack_111 rfl (by rw [e2, li_10]) (Nat.le_of_ble_eq_true rfl) rfl rfl rfl ?_
  refine sp_iconst (v := 0) (q := 115) hX dX12_pack_114 li_0 rfl ?_
  obtain ⟨x3, e4, hf⟩ := sp_pl_some hf
  refine sp_nmi e4 ?_
  refine sp_istore (i := 4) (lv' := [some (.ref (sx_ad X 0)), some (.ref (sx_ad X p1)), none, some (.int x1), some (.int x3)]) (q := 117) hX dX12_pack_115 (Nat.le_of_ble_eq_true rfl) rfl rfl rfl ?_
  exact hX12_pack_117 hX hR hp1 n σ x1 x3 hf
set_option maxRecDepth 100000 in
set_option maxHeartbeats 4000000 in
theorem hX12_pack_71 {X : sp_X} (hX : sp_OK shM X cX12_pack RX12 5 rmX12_pack) {τ : sp_St} (hR : sp_Rv shM X τ 0 0) {n : Nat}  {p1 m1 : Nat} (hp1 : sp_ar shM p1 1 m1)  : ∀ (f : Nat) (σ : sp_St) (z3 : Int32) (z4 : Int32), X12_pack_71 n p1 m1 f σ z3 z4 = some τ → sp_GG shM X σ 5 [some (.ref (sx_ad X 0)), some (.ref (sx_ad X p1)), none, some (.int z3), some (.int z4)] [] 71 0 0 := by
  intro f
  induction f with
  | zero =>
    intro σ z3 z4 hf
    rw [X12_pack_71] at hf
    cases hf
  | succ f ih =>
    intro σ z3 z4 hf
    rw [X12_pack_71] at hf
    refine sp_iload (i := 4) (q := 73) hX dX12_pack_71 rfl rfl ?_
    refine sp_iconst (v := 5) (q := 74) hX dX12_pack_73 li_5 rfl ?_
    refine sp_icmp_ge (tgt := 111) (q := 77) hX dX12_pack_74 (by decide) rfl (fun hc => ?_) (fun hc => ?_)
    · rw [if_pos hc] at hf
      refine sp_drop (lv' := [some (.ref (sx_ad X 0)), some (.ref (sx_ad X p1)), none, some (.int z3), none]) (And.intro rfl (And.intro rfl (And.intro rfl trivial))) ?_
      exact hX12_pack_111 hX hR hp1 hf
    · rw [if_neg hc] at hf
      refine sp_aload_n (i := 1) (q := 78) hX dX12_pack_77 rfl rfl rfl ?_
      refine sp_iload_n (i := 3) (q := 79) hX dX12_pack_78 rfl rfl rfl ?_
      refine sp_iload (i := 4) (q := 81) hX dX12_pack_79 rfl rfl ?_
      refine sp_iadd (q := 82) hX dX12_pack_81 rfl ?_
      refine sp_aload_n (i := 0) (q := 83) hX dX12_pack_82 rfl rfl rfl ?_
      refine sp_gets (t := 16) (q := 86) hX flX12_75 fkX12_28 atM_0 srM_0_28 dX12_pack_83 rfl ?_
      refine sp_iload (i := 4) (q := 88) hX dX12_pack_86 rfl rfl ?_
      obtain ⟨h1, hf⟩ := sp_ck_some hf
      refine sp_iald (q := 89) hX arM_16 h1 dX12_pack_88 rfl ?_
      obtain ⟨h2, hf⟩ := sp_ck_some hf
      obtain ⟨σ3, e4, hf⟩ := sp_pl_some hf
      refine sp_iast (q := 90) hX hp1 h2 dX12_pack_89 rfl ?_
      refine sp_nms e4 ?_
      refine sp_aload_n (i := 1) (q := 91) hX dX12_pack_90 rfl rfl rfl ?_
      refine sp_iload_n (i := 3) (q := 92) hX dX12_pack_91 rfl rfl rfl ?_
      refine sp_iconst (v := 5) (q := 93) hX dX12_pack_92 li_5 rfl ?_
      refine sp_iadd (q := 94) hX dX12_pack_93 rfl ?_
      refine sp_iload (i := 4) (q := 96) hX dX12_pack_94 rfl rfl ?_
      refine sp_iadd (q := 97) hX dX12_pack_96 rfl ?_
      refine sp_aload_n (i := 0) (q := 98) hX dX12_pack_97 rfl rfl rfl ?_
      refine sp_gets (t := 17) (q := 101) hX flX12_78 fkX12_29 atM_0 srM_0_29 dX12_pack_98 rfl ?_
      refine sp_iload (i := 4) (q := 103) hX dX12_pack_101 rfl rfl ?_
      obtain ⟨h5, hf⟩ := sp_ck_some hf
      refine sp_iald (q := 104) hX arM_17 h5 dX12_pack_103 rfl ?_
      obtain ⟨h6, hf⟩ := sp_ck_some hf
      obtain ⟨σ7, e8, hf⟩ := sp_pl_some hf
      refine sp_iast (q := 105) hX hp1 h6 dX12_pack_104 rfl ?_
      refine sp_nms e8 ?_
      obtain ⟨x9, e10, hf⟩ := sp_pl_some hf
      refine sp_iinc (i := 4) (v := x9) (lv' := [some (.ref (sx_ad X 0)), some (.ref (sx_ad X p1)), none, some (.int z3), some (.int x9)]) (q := 108) hX dX12_pack_105 rfl (by rw [e10, li_1]) (Nat.le_of_ble_eq_true rfl) rfl rfl rfl ?_
      refine sp_goto (tgt := 71) hX dX12_pack_108 (by decide) ?_
      exact ih σ7 z3 x9 hf
set_option maxRecDepth 100000 in
set_option maxHeartbeats 4000000 in
theorem hX12_pack_65 {X : sp_X} (hX : sp_OK shM X cX12_pack RX12 5 rmX12_pack) {τ : sp_St} (hR : sp_Rv shM X τ 0 0) {n : Nat}  {p1 m1 : Nat} (hp1 : sp_ar shM p1 1 m1)  {σ : sp_St} {z3 : Int32} (hf : X12_pack_65 n p1 m1 σ z3 = some τ) : sp_GG shM X σ 5 [some (.ref (sx_ad X 0)), some (.ref (sx_ad X p1)), none, some (.int z3), none] [] 65 0 0 := by
  unfold X12_pack_65 at hf
  obtain ⟨x1, e2, hf⟩ := sp_pl_some hf
  refine sp_iinc (i := 3) (v := x1) (lv' := [some (.ref (sx_ad X 0)), some (.ref (sx_ad X p1)), none, some (.int x1), none]) (q := 68) hX dX12_pack_65 rfl (by rw [e2, li_20]) (Nat.le_of_ble_eq_true rfl) rfl rfl rfl ?_
  refine sp_iconst (v := 0) (q := 69) hX dX12_pack_68 li_0 rfl ?_
  obtain ⟨x3, e4, hf⟩ := sp_pl_some hf
  refine sp_nmi e4 ?_
  refine sp_istore (i := 4) (lv' := [some (.ref (sx_ad X 0)), some (.ref (sx_ad X p1)), none, some (.int x1), some (.int x3)]) (q := 71) hX dX12_pack_69 (Nat.le_of_ble_eq_true rfl) rfl rfl rfl ?_
  exact hX12_pack_71 hX hR hp1 n σ x1 x3 hf
set_option maxRecDepth 100000 in
set_option maxHeartbeats 4000000 in
theorem hX12_pack_23 {X : sp_X} (hX : sp_OK shM X cX12_pack RX12 5 rmX12_pack) {τ : sp_St} (hR : sp_Rv shM X τ 0 0) {n : Nat}  {p1 m1 : Nat} (hp1 : sp_ar shM p1 1 m1)  : ∀ (f : Nat) (σ : sp_St) (z3 : Int32) (z4 : Int32), X12_pack_23 n p1 m1 f σ z3 z4 = some τ → sp_GG shM X σ 5 [some (.ref (sx_ad X 0)), some (.ref (sx_ad X p1)), none, some (.int z3), some (.int z4)] [] 23 0 0 := by
  intro f
  induction f with
  | zero =>
    intro σ z3 z4 hf
    rw [X12_pack_23] at hf
    cases hf
  | succ f ih =>
    intro σ z3 z4 hf
    rw [X12_pack_23] at hf
    refine sp_iload (i := 4) (q := 25) hX dX12_pack_23 rfl rfl ?_
    refine sp_bipush (v := 10) (q := 27) hX dX12_pack_25 lb_10 rfl ?_
    refine sp_icmp_ge (tgt := 65) (q := 30) hX dX12_pack_27 (by decide) rfl (fun hc => ?_) (fun hc => ?_)
    · rw [if_pos hc] at hf
      refine sp_drop (lv' := [some (.ref (sx_ad X 0)), some (.ref (sx_ad X p1)), none, some (.int z3), none]) (And.intro rfl (And.intro rfl (And.intro rfl trivial))) ?_
      exact hX12_pack_65 hX hR hp1 hf
    · rw [if_neg hc] at hf
      refine sp_aload_n (i := 1) (q := 31) hX dX12_pack_30 rfl rfl rfl ?_
      refine sp_iload_n (i := 3) (q := 32) hX dX12_pack_31 rfl rfl rfl ?_
      refine sp_iload (i := 4) (q := 34) hX dX12_pack_32 rfl rfl ?_
      refine sp_iadd (q := 35) hX dX12_pack_34 rfl ?_
      refine sp_aload_n (i := 0) (q := 36) hX dX12_pack_35 rfl rfl rfl ?_
      refine sp_gets (t := 14) (q := 39) hX flX12_70 fkX12_26 atM_0 srM_0_26 dX12_pack_36 rfl ?_
      refine sp_iload (i := 4) (q := 41) hX dX12_pack_39 rfl rfl ?_
      obtain ⟨h1, hf⟩ := sp_ck_some hf
      refine sp_iald (q := 42) hX arM_14 h1 dX12_pack_41 rfl ?_
      obtain ⟨h2, hf⟩ := sp_ck_some hf
      obtain ⟨σ3, e4, hf⟩ := sp_pl_some hf
      refine sp_iast (q := 43) hX hp1 h2 dX12_pack_42 rfl ?_
      refine sp_nms e4 ?_
      refine sp_aload_n (i := 1) (q := 44) hX dX12_pack_43 rfl rfl rfl ?_
      refine sp_iload_n (i := 3) (q := 45) hX dX12_pack_44 rfl rfl rfl ?_
      refine sp_bipush (v := 10) (q := 47) hX dX12_pack_45 lb_10 rfl ?_
      refine sp_iadd (q := 48) hX dX12_pack_47 rfl ?_
      refine sp_iload (i := 4) (q := 50) hX dX12_pack_48 rfl rfl ?_
      refine sp_iadd (q := 51) hX dX12_pack_50 rfl ?_
      refine sp_aload_n (i := 0) (q := 52) hX dX12_pack_51 rfl rfl rfl ?_
      refine sp_gets (t := 15) (q := 55) hX flX12_72 fkX12_27 atM_0 srM_0_27 dX12_pack_52 rfl ?_
      refine sp_iload (i := 4) (q := 57) hX dX12_pack_55 rfl rfl ?_
      obtain ⟨h5, hf⟩ := sp_ck_some hf
      refine sp_iald (q := 58) hX arM_15 h5 dX12_pack_57 rfl ?_
      obtain ⟨h6, hf⟩ := sp_ck_some hf
      obtain ⟨σ7, e8, hf⟩ := sp_pl_some hf
      refine sp_iast (q := 59) hX hp1 h6 dX12_pack_58 rfl ?_
      refine sp_nms e8 ?_
      obtain ⟨x9, e10, hf⟩ := sp_pl_some hf
      refine sp_iinc (i := 4) (v := x9) (lv' := [some (.ref (sx_ad X 0)), some (.ref (sx_ad X p1)), none, some (.int z3), some (.int x9)]) (q := 62) hX dX12_pack_59 rfl (by rw [e10, li_1]) (Nat.le_of_ble_eq_true rfl) rfl rfl rfl ?_
      refine sp_goto (tgt := 23) hX dX12_pack_62 (by decide) ?_
      exact ih σ7 z3 x9 hf
set_option maxRecDepth 100000 in
set_option maxHeartbeats 4000000 in
theorem hX12_pack {X : sp_X} (hX : sp_OK shM X cX12_pack RX12 5 rmX12_pack) {τ : sp_St} (hR : sp_Rv shM X τ 0 0) {n : Nat}  {σ : sp_St} {p1 m1 : Nat} {a2 : Int32} (hp1 : sp_ar shM p1 1 m1) (hf : X12_pack n σ p1 m1 a2 = some τ) : sp_GG shM X σ 5 [some (.ref (sx_ad X 0)), some (.ref (sx_ad X p1)), some (.int a2), none, none] [] 0 0 0 := by
  unfold X12_pack at hf
  refine sp_aload_n (i := 1) (q := 1) hX dX12_pack_0 rfl rfl rfl ?_
  refine sp_iload_n (i := 2) (q := 2) hX dX12_pack_1 rfl rfl rfl ?_
  refine sp_aload_n (i := 0) (q := 3) hX dX12_pack_2 rfl rfl rfl ?_
  refine sp_geti (q := 6) hX flX12_325 fkX12_33 atM_0 dX12_pack_3 rfl ?_
  obtain ⟨h1, hf⟩ := sp_ck_some hf
  obtain ⟨σ2, e3, hf⟩ := sp_pl_some hf
  refine sp_iast (q := 7) hX hp1 h1 dX12_pack_6 rfl ?_
  refine sp_nms e3 ?_
  refine sp_aload_n (i := 1) (q := 8) hX dX12_pack_7 rfl rfl rfl ?_
  refine sp_iload_n (i := 2) (q := 9) hX dX12_pack_8 rfl rfl rfl ?_
  refine sp_iconst (v := 1) (q := 10) hX dX12_pack_9 li_1 rfl ?_
  refine sp_iadd (q := 11) hX dX12_pack_10 rfl ?_
  refine sp_aload_n (i := 0) (q := 12) hX dX12_pack_11 rfl rfl rfl ?_
  refine sp_geti (q := 15) hX flX12_327 fkX12_34 atM_0 dX12_pack_12 rfl ?_
  obtain ⟨h4, hf⟩ := sp_ck_some hf
  obtain ⟨σ5, e6, hf⟩ := sp_pl_some hf
  refine sp_iast (q := 16) hX hp1 h4 dX12_pack_15 rfl ?_
  refine sp_nms e6 ?_
  refine sp_iload_n (i := 2) (q := 17) hX dX12_pack_16 rfl rfl rfl ?_
  refine sp_iconst (v := 2) (q := 18) hX dX12_pack_17 li_2 rfl ?_
  refine sp_iadd (q := 19) hX dX12_pack_18 rfl ?_
  obtain ⟨x7, e8, hf⟩ := sp_pl_some hf
  refine sp_nmi e8 ?_
  refine sp_istore_n (i := 3) (lv' := [some (.ref (sx_ad X 0)), some (.ref (sx_ad X p1)), some (.int a2), some (.int x7), none]) (q := 20) hX dX12_pack_19 rfl (Nat.le_of_ble_eq_true rfl) rfl rfl rfl ?_
  refine sp_iconst (v := 0) (q := 21) hX dX12_pack_20 li_0 rfl ?_
  obtain ⟨x9, e10, hf⟩ := sp_pl_some hf
  refine sp_nmi e10 ?_
  refine sp_istore (i := 4) (lv' := [some (.ref (sx_ad X 0)), some (.ref (sx_ad X p1)), some (.int a2), some (.int x7), some (.int x9)]) (q := 23) hX dX12_pack_21 (Nat.le_of_ble_eq_true rfl) rfl rfl rfl ?_
  refine sp_drop (lv' := [some (.ref (sx_ad X 0)), some (.ref (sx_ad X p1)), none, some (.int x7), some (.int x9)]) (And.intro rfl (And.intro rfl (And.intro rfl (And.intro rfl trivial)))) ?_
  exact hX12_pack_23 hX hR hp1 n σ5 x7 x9 hf
set_option maxRecDepth 100000 in
set_option maxHeartbeats 4000000 in
theorem cnX12_pack {l : Launch} (hst : l.stackTraces = false) {w : sp_Wd} {n : Nat}  {σ : sp_St} {p1 m1 : Nat} {a2 : Int32} {τ : sp_St} (hp1 : sp_ar shM p1 1 m1) (hf : X12_pack n σ p1 m1 a2 = some τ) : sp_Cv shM l w yX12_pack cX12_pack 5 rmX12_pack 0 0 σ [.ref (w.2.1 0), .ref (w.2.1 p1), .int a2] τ :=
  sp_cv (own := RX12) (by decide) rfl hst (Nat.le_of_ble_eq_true rfl) rfl (fun X hX hw hl hR => by subst hw; subst hl; exact hX12_pack hX hR  hp1 hf)
def rmX12_unpack : Room := { frames := 0, cells := 0, slots := 0, locals := 0 }
def X12_unpack_157 (n : Nat) (p1 m1 : Nat) : Nat → sp_St → Int32 → Int32 → Option (sp_St)
  | 0, _, _, _ => none
  | f + 1, σ, z3, z4 =>
    if ((6 : Int32)) ≤ z4 then
      some σ
    else
      sp_ck (sp_in (z3 + z4) m1) <|
      sp_ck (sp_in z4 6) <|
      sp_pl (sp_sa σ 19 z4.toNatClampNeg (sp_g σ p1 (z3 + z4))) fun σ3 =>
      sp_pl (z4 + 1) fun x5 =>
      X12_unpack_157 n p1 m1 f σ3 z3 x5
def X12_unpack_146 (n : Nat) (p1 m1 : Nat) (σ : sp_St) (z3 : Int32) : Option (sp_St) :=
  sp_pl (z3 + ((50 : Int32))) fun x1 =>
  sp_pl ((0 : Int32)) fun x3 =>
  X12_unpack_157 n p1 m1 n σ x1 x3
def X12_unpack_117 (n : Nat) (p1 m1 : Nat) : Nat → sp_St → Int32 → Int32 → Option (sp_St)
  | 0, _, _, _ => none
  | f + 1, σ, z3, z4 =>
    if ((50 : Int32)) ≤ z4 then
      X12_unpack_146 n p1 m1 σ z3
    else
      sp_ck (sp_in (z3 + z4) m1) <|
      sp_ck (sp_in z4 50) <|
      sp_pl (sp_sa σ 18 z4.toNatClampNeg (sp_g σ p1 (z3 + z4))) fun σ3 =>
      sp_pl (z4 + 1) fun x5 =>
      X12_unpack_117 n p1 m1 f σ3 z3 x5
def X12_unpack_111 (n : Nat) (p1 m1 : Nat) (σ : sp_St) (z3 : Int32) : Option (sp_St) :=
  sp_pl (z3 + 10) fun x1 =>
  sp_pl ((0 : Int32)) fun x3 =>
  X12_unpack_117 n p1 m1 n σ x1 x3
def X12_unpack_71 (n : Nat) (p1 m1 : Nat) : Nat → sp_St → Int32 → Int32 → Option (sp_St)
  | 0, _, _, _ => none
  | f + 1, σ, z3, z4 =>
    if ((5 : Int32)) ≤ z4 then
      X12_unpack_111 n p1 m1 σ z3
    else
      sp_ck (sp_in (z3 + z4) m1) <|
      sp_ck (sp_in z4 5) <|
      sp_pl (sp_sa σ 16 z4.toNatClampNeg (sp_g σ p1 (z3 + z4))) fun σ3 =>
      sp_ck (sp_in ((z3 + ((5 : Int32))) + z4) m1) <|
      sp_ck (sp_in z4 5) <|
      sp_pl (sp_sa σ3 17 z4.toNatClampNeg (sp_g σ3 p1 ((z3 + ((5 : Int32))) + z4))) fun σ7 =>
      sp_pl (z4 + 1) fun x9 =>
      X12_unpack_71 n p1 m1 f σ7 z3 x9
def X12_unpack_65 (n : Nat) (p1 m1 : Nat) (σ : sp_St) (z3 : Int32) : Option (sp_St) :=
  sp_pl (z3 + 20) fun x1 =>
  sp_pl ((0 : Int32)) fun x3 =>
  X12_unpack_71 n p1 m1 n σ x1 x3
def X12_unpack_23 (n : Nat) (p1 m1 : Nat) : Nat → sp_St → Int32 → Int32 → Option (sp_St)
  | 0, _, _, _ => none
  | f + 1, σ, z3, z4 =>
    if ((10 : Int32)) ≤ z4 then
      X12_unpack_65 n p1 m1 σ z3
    else
      sp_ck (sp_in (z3 + z4) m1) <|
      sp_ck (sp_in z4 10) <|
      sp_pl (sp_sa σ 14 z4.toNatClampNeg (sp_g σ p1 (z3 + z4))) fun σ3 =>
      sp_ck (sp_in ((z3 + ((10 : Int32))) + z4) m1) <|
      sp_ck (sp_in z4 10) <|
      sp_pl (sp_sa σ3 15 z4.toNatClampNeg (sp_g σ3 p1 ((z3 + ((10 : Int32))) + z4))) fun σ7 =>
      sp_pl (z4 + 1) fun x9 =>
      X12_unpack_23 n p1 m1 f σ7 z3 x9
def X12_unpack (n : Nat)  (σ : sp_St) (p1 m1 : Nat) (a2 : Int32) : Option (sp_St) :=
  sp_ck (sp_in a2 m1) <|
  sp_pl (sp_si σ 0 33 (sp_g σ p1 a2)) fun σ2 =>
  sp_ck (sp_in (a2 + ((1 : Int32))) m1) <|
  sp_pl (sp_si σ2 0 34 (sp_g σ2 p1 (a2 + ((1 : Int32))))) fun σ5 =>
  sp_pl (a2 + ((2 : Int32))) fun x7 =>
  sp_pl ((0 : Int32)) fun x9 =>
  X12_unpack_23 n p1 m1 n σ5 x7 x9
set_option maxRecDepth 100000 in
set_option maxHeartbeats 4000000 in
theorem hX12_unpack_157 {X : sp_X} (hX : sp_OK shM X cX12_unpack RX12 5 rmX12_unpack) {τ : sp_St} (hR : sp_Rv shM X τ 0 0) {n : Nat}  {p1 m1 : Nat} (hp1 : sp_ar shM p1 1 m1)  : ∀ (f : Nat) (σ : sp_St) (z3 : Int32) (z4 : Int32), X12_unpack_157 n p1 m1 f σ z3 z4 = some τ → sp_GG shM X σ 5 [some (.ref (sx_ad X 0)), some (.ref (sx_ad X p1)), none, some (.int z3), some (.int z4)] [] 157 0 0 := by
  intro f
  induction f with
  | zero =>
    intro σ z3 z4 hf
    rw [X12_unpack_157] at hf
    cases hf
  | succ f ih =>
    intro σ z3 z4 hf
    rw [X12_unpack_157] at hf
    refine sp_iload (i := 4) (q := 159) hX dX12_unpack_157 rfl rfl ?_
    refine sp_bipush (v := 6) (q := 161) hX dX12_unpack_159 lb_6 rfl ?_
    refine sp_icmp_ge (tgt := 183) (q := 164) hX dX12_unpack_161 (by decide) rfl (fun hc => ?_) (fun hc => ?_)
    · rw [if_pos hc] at hf
      exact sp_vret hX hR dX12_unpack_183 hf (Nat.le_of_ble_eq_true rfl) (Nat.le_of_ble_eq_true rfl)
    · rw [if_neg hc] at hf
      refine sp_aload_n (i := 0) (q := 165) hX dX12_unpack_164 rfl rfl rfl ?_
      refine sp_gets (t := 19) (q := 168) hX flX12_84 fkX12_31 atM_0 srM_0_31 dX12_unpack_165 rfl ?_
      refine sp_iload (i := 4) (q := 170) hX dX12_unpack_168 rfl rfl ?_
      refine sp_aload_n (i := 1) (q := 171) hX dX12_unpack_170 rfl rfl rfl ?_
      refine sp_iload_n (i := 3) (q := 172) hX dX12_unpack_171 rfl rfl rfl ?_
      refine sp_iload (i := 4) (q := 174) hX dX12_unpack_172 rfl rfl ?_
      refine sp_iadd (q := 175) hX dX12_unpack_174 rfl ?_
      obtain ⟨h1, hf⟩ := sp_ck_some hf
      refine sp_iald (q := 176) hX hp1 h1 dX12_unpack_175 rfl ?_
      obtain ⟨h2, hf⟩ := sp_ck_some hf
      obtain ⟨σ3, e4, hf⟩ := sp_pl_some hf
      refine sp_iast (q := 177) hX arM_19 h2 dX12_unpack_176 rfl ?_
      refine sp_nms e4 ?_
      obtain ⟨x5, e6, hf⟩ := sp_pl_some hf
      refine sp_iinc (i := 4) (v := x5) (lv' := [some (.ref (sx_ad X 0)), some (.ref (sx_ad X p1)), none, some (.int z3), some (.int x5)]) (q := 180) hX dX12_unpack_177 rfl (by rw [e6, li_1]) (Nat.le_of_ble_eq_true rfl) rfl rfl rfl ?_
      refine sp_goto (tgt := 157) hX dX12_unpack_180 (by decide) ?_
      exact ih σ3 z3 x5 hf
set_option maxRecDepth 100000 in
set_option maxHeartbeats 4000000 in
theorem hX12_unpack_146 {X : sp_X} (hX : sp_OK shM X cX12_unpack RX12 5 rmX12_unpack) {τ : sp_St} (hR : sp_Rv shM X τ 0 0) {n : Nat}  {p1 m1 : Nat} (hp1 : sp_ar shM p1 1 m1)  {σ : sp_St} {z3 : Int32} (hf : X12_unpack_146 n p1 m1 σ z3 = some τ) : sp_GG shM X σ 5 [some (.ref (sx_ad X 0)), some (.ref (sx_ad X p1)), none, some (.int z3), none] [] 146 0 0 := by
  unfold X12_unpack_146 at hf
  refine sp_iload_n (i := 3) (q := 147) hX dX12_unpack_146 rfl rfl rfl ?_
  refine sp_aload_n (i := 0) (q := 148) hX dX12_unpack_147 rfl rfl rfl ?_
  refine sp_gets (t := 18) (q := 151) hX flX12_81 fkX12_30 atM_0 srM_0_30 dX12_unpack_148 rfl ?_
  refine sp_aleni (v := (50 : Int32)) (q := 152) hX arM_18 (by decide) dX12_unpack_151 rfl ?_
  refine sp_iadd (q := 153) hX dX12_unpack_152 rfl ?_
  obtain ⟨x1, e2, hf⟩ := sp_pl_some hf
  refine sp_nmi e2 ?_
  refine sp_istore_n (i := 3) (lv' := [some (.ref (sx_ad X 0)), some (.ref (sx_ad X p1)), none, some (.int x1), none]) (q := 154) hX dX12_unpack_153 rfl (Nat.le_of_ble_eq_true rfl) rfl rfl rfl ?_
  refine sp_iconst (v := 0) (q := 155) hX dX12_unpack_154 li_0 rfl ?_
  obtain ⟨x3, e4, hf⟩ := sp_pl_some hf
  refine sp_nmi e4 ?_
  refine sp_istore (i := 4) (lv' := [some (.ref (sx_ad X 0)), some (.ref (sx_ad X p1)), none, some (.int x1), some (.int x3)]) (q := 157) hX dX12_unpack_155 (Nat.le_of_ble_eq_true rfl) rfl rfl rfl ?_
  exact hX12_unpack_157 hX hR hp1 n σ x1 x3 hf
set_option maxRecDepth 100000 in
set_option maxHeartbeats 4000000 in
theorem hX12_unpack_117 {X : sp_X} (hX : sp_OK shM X cX12_unpack RX12 5 rmX12_unpack) {τ : sp_St} (hR : sp_Rv shM X τ 0 0) {n : Nat}  {p1 m1 : Nat} (hp1 : sp_ar shM p1 1 m1)  : ∀ (f : Nat) (σ : sp_St) (z3 : Int32) (z4 : Int32), X12_unpack_117 n p1 m1 f σ z3 z4 = some τ → sp_GG shM X σ 5 [some (.ref (sx_ad X 0)), some (.ref (sx_ad X p1)), none, some (.int z3), some (.int z4)] [] 117 0 0 := by
  intro f
  induction f with
  | zero =>
    intro σ z3 z4 hf
    rw [X12_unpack_117] at hf
    cases hf
  | succ f ih =>
    intro σ z3 z4 hf
    rw [X12_unpack_117] at hf
    refine sp_iload (i := 4) (q := 119) hX dX12_unpack_117 rfl rfl ?_
    refine sp_aload_n (i := 0) (q := 120) hX dX12_unpack_119 rfl rfl rfl ?_
    refine sp_gets (t := 18) (q := 123) hX flX12_81 fkX12_30 atM_0 srM_0_30 dX12_unpack_120 rfl ?_
    refine sp_aleni (v := (50 : Int32)) (q := 124) hX arM_18 (by decide) dX12_unpack_123 rfl ?_
    refine sp_icmp_ge (tgt := 146) (q := 127) hX dX12_unpack_124 (by decide) rfl (fun hc => ?_) (fun hc => ?_)
    · rw [if_pos hc] at hf
      refine sp_drop (lv' := [some (.ref (sx_ad X 0)), some (.ref (sx_ad X p1)), none, some (.int z3), none]) (And.intro rfl (And.intro rfl (And.intro rfl trivial))) ?_
      exact hX12_unpack_146 hX hR hp1 hf
    · rw [if_neg hc] at hf
      refine sp_aload_n (i := 0) (q := 128) hX dX12_unpack_127 rfl rfl rfl ?_
      refine sp_gets (t := 18) (q := 131) hX flX12_81 fkX12_30 atM_0 srM_0_30 dX12_unpack_128 rfl ?_
      refine sp_iload (i := 4) (q := 133) hX dX12_unpack_131 rfl rfl ?_
      refine sp_aload_n (i := 1) (q := 134) hX dX12_unpack_133 rfl rfl rfl ?_
      refine sp_iload_n (i := 3) (q := 135) hX dX12_unpack_134 rfl rfl rfl ?_
      refine sp_iload (i := 4) (q := 137) hX dX12_unpack_135 rfl rfl ?_
      refine sp_iadd (q := 138) hX dX12_unpack_137 rfl ?_
      obtain ⟨h1, hf⟩ := sp_ck_some hf
      refine sp_iald (q := 139) hX hp1 h1 dX12_unpack_138 rfl ?_
      obtain ⟨h2, hf⟩ := sp_ck_some hf
      obtain ⟨σ3, e4, hf⟩ := sp_pl_some hf
      refine sp_iast (q := 140) hX arM_18 h2 dX12_unpack_139 rfl ?_
      refine sp_nms e4 ?_
      obtain ⟨x5, e6, hf⟩ := sp_pl_some hf
      refine sp_iinc (i := 4) (v := x5) (lv' := [some (.ref (sx_ad X 0)), some (.ref (sx_ad X p1)), none, some (.int z3), some (.int x5)]) (q := 143) hX dX12_unpack_140 rfl (by rw [e6, li_1]) (Nat.le_of_ble_eq_true rfl) rfl rfl rfl ?_
      refine sp_goto (tgt := 117) hX dX12_unpack_143 (by decide) ?_
      exact ih σ3 z3 x5 hf
set_option maxRecDepth 100000 in
set_option maxHeartbeats 4000000 in
theorem hX12_unpack_111 {X : sp_X} (hX : sp_OK shM X cX12_unpack RX12 5 rmX12_unpack) {τ : sp_St} (hR : sp_Rv shM X τ 0 0) {n : Nat}  {p1 m1 : Nat} (hp1 : sp_ar shM p1 1 m1)  {σ : sp_St} {z3 : Int32} (hf : X12_unpack_111 n p1 m1 σ z3 = some τ) : sp_GG shM X σ 5 [some (.ref (sx_ad X 0)), some (.ref (sx_ad X p1)), none, some (.int z3), none] [] 111 0 0 := by
  unfold X12_unpack_111 at hf
  obtain ⟨x1, e2, hf⟩ := sp_pl_some hf
  refine sp_iinc (i := 3) (v := x1) (lv' := [some (.ref (sx_ad X 0)), some (.ref (sx_ad X p1)), none, some (.int x1), none]) (q := 114) hX dX12_unpack_111 rfl (by rw [e2, li_10]) (Nat.le_of_ble_eq_true rfl) rfl rfl rfl ?_
  refine sp_iconst (v := 0) (q := 115) hX dX12_unpack_114 li_0 rfl ?_
  obtain ⟨x3, e4, hf⟩ := sp_pl_some hf
  refine sp_nmi e4 ?_
  refine sp_istore (i := 4) (lv' := [some (.ref (sx_ad X 0)), some (.ref (sx_ad X p1)), none, some (.int x1), some (.int x3)]) (q := 117) hX dX12_unpack_115 (Nat.le_of_ble_eq_true rfl) rfl rfl rfl ?_
  exact hX12_unpack_117 hX hR hp1 n σ x1 x3 hf
set_option maxRecDepth 100000 in
set_option maxHeartbeats 4000000 in
theorem hX12_unpack_71 {X : sp_X} (hX : sp_OK shM X cX12_unpack RX12 5 rmX12_unpack) {τ : sp_St} (hR : sp_Rv shM X τ 0 0) {n : Nat}  {p1 m1 : Nat} (hp1 : sp_ar shM p1 1 m1)  : ∀ (f : Nat) (σ : sp_St) (z3 : Int32) (z4 : Int32), X12_unpack_71 n p1 m1 f σ z3 z4 = some τ → sp_GG shM X σ 5 [some (.ref (sx_ad X 0)), some (.ref (sx_ad X p1)), none, some (.int z3), some (.int z4)] [] 71 0 0 := by
  intro f
  induction f with
  | zero =>
    intro σ z3 z4 hf
    rw [X12_unpack_71] at hf
    cases hf
  | succ f ih =>
    intro σ z3 z4 hf
    rw [X12_unpack_71] at hf
    refine sp_iload (i := 4) (q := 73) hX dX12_unpack_71 rfl rfl ?_
    refine sp_iconst (v := 5) (q := 74) hX dX12_unpack_73 li_5 rfl ?_
    refine sp_icmp_ge (tgt := 111) (q := 77) hX dX12_unpack_74 (by decide) rfl (fun hc => ?_) (fun hc => ?_)
    · rw [if_pos hc] at hf
      refine sp_drop (lv' := [some (.ref (sx_ad X 0)), some (.ref (sx_ad X p1)), none, some (.int z3), none]) (And.intro rfl (And.intro rfl (And.intro rfl trivial))) ?_
      exact hX12_unpack_111 hX hR hp1 hf
    · rw [if_neg hc] at hf
      refine sp_aload_n (i := 0) (q := 78) hX dX12_unpack_77 rfl rfl rfl ?_
      refine sp_gets (t := 16) (q := 81) hX flX12_75 fkX12_28 atM_0 srM_0_28 dX12_unpack_78 rfl ?_
      refine sp_iload (i := 4) (q := 83) hX dX12_unpack_81 rfl rfl ?_
      refine sp_aload_n (i := 1) (q := 84) hX dX12_unpack_83 rfl rfl rfl ?_
      refine sp_iload_n (i := 3) (q := 85) hX dX12_unpack_84 rfl rfl rfl ?_
      refine sp_iload (i := 4) (q := 87) hX dX12_unpack_85 rfl rfl ?_
      refine sp_iadd (q := 88) hX dX12_unpack_87 rfl ?_
      obtain ⟨h1, hf⟩ := sp_ck_some hf
      refine sp_iald (q := 89) hX hp1 h1 dX12_unpack_88 rfl ?_
      obtain ⟨h2, hf⟩ := sp_ck_some hf
      obtain ⟨σ3, e4, hf⟩ := sp_pl_some hf
      refine sp_iast (q := 90) hX arM_16 h2 dX12_unpack_89 rfl ?_
      refine sp_nms e4 ?_
      refine sp_aload_n (i := 0) (q := 91) hX dX12_unpack_90 rfl rfl rfl ?_
      refine sp_gets (t := 17) (q := 94) hX flX12_78 fkX12_29 atM_0 srM_0_29 dX12_unpack_91 rfl ?_
      refine sp_iload (i := 4) (q := 96) hX dX12_unpack_94 rfl rfl ?_
      refine sp_aload_n (i := 1) (q := 97) hX dX12_unpack_96 rfl rfl rfl ?_
      refine sp_iload_n (i := 3) (q := 98) hX dX12_unpack_97 rfl rfl rfl ?_
      refine sp_iconst (v := 5) (q := 99) hX dX12_unpack_98 li_5 rfl ?_
      refine sp_iadd (q := 100) hX dX12_unpack_99 rfl ?_
      refine sp_iload (i := 4) (q := 102) hX dX12_unpack_100 rfl rfl ?_
      refine sp_iadd (q := 103) hX dX12_unpack_102 rfl ?_
      obtain ⟨h5, hf⟩ := sp_ck_some hf
      refine sp_iald (q := 104) hX hp1 h5 dX12_unpack_103 rfl ?_
      obtain ⟨h6, hf⟩ := sp_ck_some hf
      obtain ⟨σ7, e8, hf⟩ := sp_pl_some hf
      refine sp_iast (q := 105) hX arM_17 h6 dX12_unpack_104 rfl ?_
      refine sp_nms e8 ?_
      obtain ⟨x9, e10, hf⟩ := sp_pl_some hf
      refine sp_iinc (i := 4) (v := x9) (lv' := [some (.ref (sx_ad X 0)), some (.ref (sx_ad X p1)), none, some (.int z3), some (.int x9)]) (q := 108) hX dX12_unpack_105 rfl (by rw [e10, li_1]) (Nat.le_of_ble_eq_true rfl) rfl rfl rfl ?_
      refine sp_goto (tgt := 71) hX dX12_unpack_108 (by decide) ?_
      exact ih σ7 z3 x9 hf
set_option maxRecDepth 100000 in
set_option maxHeartbeats 4000000 in
theorem hX12_unpack_65 {X : sp_X} (hX : sp_OK shM X cX12_unpack RX12 5 rmX12_unpack) {τ : sp_St} (hR : sp_Rv shM X τ 0 0) {n : Nat}  {p1 m1 : Nat} (hp1 : sp_ar shM p1 1 m1)  {σ : sp_St} {z3 : Int32} (hf : X12_unpack_65 n p1 m1 σ z3 = some τ) : sp_GG shM X σ 5 [some (.ref (sx_ad X 0)), some (.ref (sx_ad X p1)), none, some (.int z3), none] [] 65 0 0 := by
  unfold X12_unpack_65 at hf
  obtain ⟨x1, e2, hf⟩ := sp_pl_some hf
  refine sp_iinc (i := 3) (v := x1) (lv' := [some (.ref (sx_ad X 0)), some (.ref (sx_ad X p1)), none, some (.int x1), none]) (q := 68) hX dX12_unpack_65 rfl (by rw [e2, li_20]) (Nat.le_of_ble_eq_true rfl) rfl rfl rfl ?_
  refine sp_iconst (v := 0) (q := 69) hX dX12_unpack_68 li_0 rfl ?_
  obtain ⟨x3, e4, hf⟩ := sp_pl_some hf
  refine sp_nmi e4 ?_
  refine sp_istore (i := 4) (lv' := [some (.ref (sx_ad X 0)), some (.ref (sx_ad X p1)), none, some (.int x1), some (.int x3)]) (q := 71) hX dX12_unpack_69 (Nat.le_of_ble_eq_true rfl) rfl rfl rfl ?_
  exact hX12_unpack_71 hX hR hp1 n σ x1 x3 hf
set_option maxRecDepth 100000 in
set_option maxHeartbeats 4000000 in
theorem hX12_unpack_23 {X : sp_X} (hX : sp_OK shM X cX12_unpack RX12 5 rmX12_unpack) {τ : sp_St} (hR : sp_Rv shM X τ 0 0) {n : Nat}  {p1 m1 : Nat} (hp1 : sp_ar shM p1 1 m1)  : ∀ (f : Nat) (σ : sp_St) (z3 : Int32) (z4 : Int32), X12_unpack_23 n p1 m1 f σ z3 z4 = some τ → sp_GG shM X σ 5 [some (.ref (sx_ad X 0)), some (.ref (sx_ad X p1)), none, some (.int z3), some (.int z4)] [] 23 0 0 := by
  intro f
  induction f with
  | zero =>
    intro σ z3 z4 hf
    rw [X12_unpack_23] at hf
    cases hf
  | succ f ih =>
    intro σ z3 z4 hf
    rw [X12_unpack_23] at hf
    refine sp_iload (i := 4) (q := 25) hX dX12_unpack_23 rfl rfl ?_
    refine sp_bipush (v := 10) (q := 27) hX dX12_unpack_25 lb_10 rfl ?_
    refine sp_icmp_ge (tgt := 65) (q := 30) hX dX12_unpack_27 (by decide) rfl (fun hc => ?_) (fun hc => ?_)
    · rw [if_pos hc] at hf
      refine sp_drop (lv' := [some (.ref (sx_ad X 0)), some (.ref (sx_ad X p1)), none, some (.int z3), none]) (And.intro rfl (And.intro rfl (And.intro rfl trivial))) ?_
      exact hX12_unpack_65 hX hR hp1 hf
    · rw [if_neg hc] at hf
      refine sp_aload_n (i := 0) (q := 31) hX dX12_unpack_30 rfl rfl rfl ?_
      refine sp_gets (t := 14) (q := 34) hX flX12_70 fkX12_26 atM_0 srM_0_26 dX12_unpack_31 rfl ?_
      refine sp_iload (i := 4) (q := 36) hX dX12_unpack_34 rfl rfl ?_
      refine sp_aload_n (i := 1) (q := 37) hX dX12_unpack_36 rfl rfl rfl ?_
      refine sp_iload_n (i := 3) (q := 38) hX dX12_unpack_37 rfl rfl rfl ?_
      refine sp_iload (i := 4) (q := 40) hX dX12_unpack_38 rfl rfl ?_
      refine sp_iadd (q := 41) hX dX12_unpack_40 rfl ?_
      obtain ⟨h1, hf⟩ := sp_ck_some hf
      refine sp_iald (q := 42) hX hp1 h1 dX12_unpack_41 rfl ?_
      obtain ⟨h2, hf⟩ := sp_ck_some hf
      obtain ⟨σ3, e4, hf⟩ := sp_pl_some hf
      refine sp_iast (q := 43) hX arM_14 h2 dX12_unpack_42 rfl ?_
      refine sp_nms e4 ?_
      refine sp_aload_n (i := 0) (q := 44) hX dX12_unpack_43 rfl rfl rfl ?_
      refine sp_gets (t := 15) (q := 47) hX flX12_72 fkX12_27 atM_0 srM_0_27 dX12_unpack_44 rfl ?_
      refine sp_iload (i := 4) (q := 49) hX dX12_unpack_47 rfl rfl ?_
      refine sp_aload_n (i := 1) (q := 50) hX dX12_unpack_49 rfl rfl rfl ?_
      refine sp_iload_n (i := 3) (q := 51) hX dX12_unpack_50 rfl rfl rfl ?_
      refine sp_bipush (v := 10) (q := 53) hX dX12_unpack_51 lb_10 rfl ?_
      refine sp_iadd (q := 54) hX dX12_unpack_53 rfl ?_
      refine sp_iload (i := 4) (q := 56) hX dX12_unpack_54 rfl rfl ?_
      refine sp_iadd (q := 57) hX dX12_unpack_56 rfl ?_
      obtain ⟨h5, hf⟩ := sp_ck_some hf
      refine sp_iald (q := 58) hX hp1 h5 dX12_unpack_57 rfl ?_
      obtain ⟨h6, hf⟩ := sp_ck_some hf
      obtain ⟨σ7, e8, hf⟩ := sp_pl_some hf
      refine sp_iast (q := 59) hX arM_15 h6 dX12_unpack_58 rfl ?_
      refine sp_nms e8 ?_
      obtain ⟨x9, e10, hf⟩ := sp_pl_some hf
      refine sp_iinc (i := 4) (v := x9) (lv' := [some (.ref (sx_ad X 0)), some (.ref (sx_ad X p1)), none, some (.int z3), some (.int x9)]) (q := 62) hX dX12_unpack_59 rfl (by rw [e10, li_1]) (Nat.le_of_ble_eq_true rfl) rfl rfl rfl ?_
      refine sp_goto (tgt := 23) hX dX12_unpack_62 (by decide) ?_
      exact ih σ7 z3 x9 hf
set_option maxRecDepth 100000 in
set_option maxHeartbeats 4000000 in
theorem hX12_unpack {X : sp_X} (hX : sp_OK shM X cX12_unpack RX12 5 rmX12_unpack) {τ : sp_St} (hR : sp_Rv shM X τ 0 0) {n : Nat}  {σ : sp_St} {p1 m1 : Nat} {a2 : Int32} (hp1 : sp_ar shM p1 1 m1) (hf : X12_unpack n σ p1 m1 a2 = some τ) : sp_GG shM X σ 5 [some (.ref (sx_ad X 0)), some (.ref (sx_ad X p1)), some (.int a2), none, none] [] 0 0 0 := by
  unfold X12_unpack at hf
  refine sp_aload_n (i := 0) (q := 1) hX dX12_unpack_0 rfl rfl rfl ?_
  refine sp_aload_n (i := 1) (q := 2) hX dX12_unpack_1 rfl rfl rfl ?_
  refine sp_iload_n (i := 2) (q := 3) hX dX12_unpack_2 rfl rfl rfl ?_
  obtain ⟨h1, hf⟩ := sp_ck_some hf
  refine sp_iald (q := 4) hX hp1 h1 dX12_unpack_3 rfl ?_
  obtain ⟨σ2, e3, hf⟩ := sp_pl_some hf
  refine sp_puti (q := 7) hX fpX12_325 fkX12_33 atM_0 dX12_unpack_4 rfl ?_
  refine sp_nms e3 ?_
  refine sp_aload_n (i := 0) (q := 8) hX dX12_unpack_7 rfl rfl rfl ?_
  refine sp_aload_n (i := 1) (q := 9) hX dX12_unpack_8 rfl rfl rfl ?_
  refine sp_iload_n (i := 2) (q := 10) hX dX12_unpack_9 rfl rfl rfl ?_
  refine sp_iconst (v := 1) (q := 11) hX dX12_unpack_10 li_1 rfl ?_
  refine sp_iadd (q := 12) hX dX12_unpack_11 rfl ?_
  obtain ⟨h4, hf⟩ := sp_ck_some hf
  refine sp_iald (q := 13) hX hp1 h4 dX12_unpack_12 rfl ?_
  obtain ⟨σ5, e6, hf⟩ := sp_pl_some hf
  refine sp_puti (q := 16) hX fpX12_327 fkX12_34 atM_0 dX12_unpack_13 rfl ?_
  refine sp_nms e6 ?_
  refine sp_iload_n (i := 2) (q := 17) hX dX12_unpack_16 rfl rfl rfl ?_
  refine sp_iconst (v := 2) (q := 18) hX dX12_unpack_17 li_2 rfl ?_
  refine sp_iadd (q := 19) hX dX12_unpack_18 rfl ?_
  obtain ⟨x7, e8, hf⟩ := sp_pl_some hf
  refine sp_nmi e8 ?_
  refine sp_istore_n (i := 3) (lv' := [some (.ref (sx_ad X 0)), some (.ref (sx_ad X p1)), some (.int a2), some (.int x7), none]) (q := 20) hX dX12_unpack_19 rfl (Nat.le_of_ble_eq_true rfl) rfl rfl rfl ?_
  refine sp_iconst (v := 0) (q := 21) hX dX12_unpack_20 li_0 rfl ?_
  obtain ⟨x9, e10, hf⟩ := sp_pl_some hf
  refine sp_nmi e10 ?_
  refine sp_istore (i := 4) (lv' := [some (.ref (sx_ad X 0)), some (.ref (sx_ad X p1)), some (.int a2), some (.int x7), some (.int x9)]) (q := 23) hX dX12_unpack_21 (Nat.le_of_ble_eq_true rfl) rfl rfl rfl ?_
  refine sp_drop (lv' := [some (.ref (sx_ad X 0)), some (.ref (sx_ad X p1)), none, some (.int x7), some (.int x9)]) (And.intro rfl (And.intro rfl (And.intro rfl (And.intro rfl trivial)))) ?_
  exact hX12_unpack_23 hX hR hp1 n σ5 x7 x9 hf
set_option maxRecDepth 100000 in
set_option maxHeartbeats 4000000 in
theorem cnX12_unpack {l : Launch} (hst : l.stackTraces = false) {w : sp_Wd} {n : Nat}  {σ : sp_St} {p1 m1 : Nat} {a2 : Int32} {τ : sp_St} (hp1 : sp_ar shM p1 1 m1) (hf : X12_unpack n σ p1 m1 a2 = some τ) : sp_Cv shM l w yX12_unpack cX12_unpack 5 rmX12_unpack 0 0 σ [.ref (w.2.1 0), .ref (w.2.1 p1), .int a2] τ :=
  sp_cv (own := RX12) (by decide) rfl hst (Nat.le_of_ble_eq_true rfl) rfl (fun X hX hw hl hR => by subst hw; subst hl; exact hX12_unpack hX hR  hp1 hf)
def rmX12_whereSet : Room := { frames := 0, cells := 0, slots := 0, locals := 0 }
def X12_whereSet_40 (n : Nat) (σ : sp_St) (z2 : Int32) : Option (sp_St × Int32) :=
  some (σ, z2)
def X12_whereSet_4 (n : Nat) : Nat → sp_St → Int32 → Int32 → Int32 → Option (sp_St × Int32)
  | 0, _, _, _, _ => none
  | f + 1, σ, z1, z2, z3 =>
    if (sp_g σ 3 ((2 : Int32))) ≤ z3 then
      X12_whereSet_40 n σ z2
    else
      sp_ck (sp_in z3 10) <|
      sp_pl (if (sp_g σ 15 z3) = z1 then (((1 : Int32)) <<< (z3 &&& 31)) else ((0 : Int32))) fun v2 =>
      sp_pl (z2 ||| v2) fun x4 =>
      sp_pl (z3 + 1) fun x6 =>
      X12_whereSet_4 n f σ z1 x4 x6
def X12_whereSet (n : Nat)  (σ : sp_St) (a1 : Int32) : Option (sp_St × Int32) :=
  sp_pl ((0 : Int32)) fun x1 =>
  sp_pl ((0 : Int32)) fun x3 =>
  X12_whereSet_4 n n σ a1 x1 x3
set_option maxRecDepth 100000 in
set_option maxHeartbeats 4000000 in
theorem hX12_whereSet_40 {X : sp_X} (hX : sp_OK shM X cX12_whereSet RX12 4 rmX12_whereSet) {τ : sp_St} {r : Int32} (hR : sp_Ri shM X (some .int) τ r 0 0) {n : Nat}    {σ : sp_St} {z2 : Int32} (hf : X12_whereSet_40 n σ z2 = some (τ, r)) : sp_GG shM X σ 4 [none, none, some (.int z2), none] [] 40 0 0 := by
  unfold X12_whereSet_40 at hf
  refine sp_iload_n (i := 2) (q := 41) hX dX12_whereSet_40 rfl rfl rfl ?_
  exact sp_iret hX hR dX12_whereSet_41 hf (Nat.le_of_ble_eq_true rfl) (Nat.le_of_ble_eq_true rfl)
set_option maxRecDepth 100000 in
set_option maxHeartbeats 4000000 in
theorem hX12_whereSet_4 {X : sp_X} (hX : sp_OK shM X cX12_whereSet RX12 4 rmX12_whereSet) {τ : sp_St} {r : Int32} (hR : sp_Ri shM X (some .int) τ r 0 0) {n : Nat}    : ∀ (f : Nat) (σ : sp_St) (z1 : Int32) (z2 : Int32) (z3 : Int32), X12_whereSet_4 n f σ z1 z2 z3 = some (τ, r) → sp_GG shM X σ 4 [some (.ref (sx_ad X 0)), some (.int z1), some (.int z2), some (.int z3)] [] 4 0 0 := by
  intro f
  induction f with
  | zero =>
    intro σ z1 z2 z3 hf
    rw [X12_whereSet_4] at hf
    cases hf
  | succ f ih =>
    intro σ z1 z2 z3 hf
    rw [X12_whereSet_4] at hf
    refine sp_iload_n (i := 3) (q := 5) hX dX12_whereSet_4 rfl rfl rfl ?_
    refine sp_aload_n (i := 0) (q := 6) hX dX12_whereSet_5 rfl rfl rfl ?_
    refine sp_gets (t := 3) (q := 9) hX flX12_33 fkX12_4 atM_0 srM_0_4 dX12_whereSet_6 rfl ?_
    refine sp_iconst (v := 2) (q := 10) hX dX12_whereSet_9 li_2 rfl ?_
    refine sp_iald (q := 11) hX arM_3 (by decide) dX12_whereSet_10 rfl ?_
    refine sp_icmp_ge (tgt := 40) (q := 14) hX dX12_whereSet_11 (by decide) rfl (fun hc => ?_) (fun hc => ?_)
    · rw [if_pos hc] at hf
      refine sp_drop (lv' := [none, none, some (.int z2), none]) (And.intro rfl trivial) ?_
      exact hX12_whereSet_40 hX hR hf
    · rw [if_neg hc] at hf
      refine sp_iload_n (i := 2) (q := 15) hX dX12_whereSet_14 rfl rfl rfl ?_
      refine sp_aload_n (i := 0) (q := 16) hX dX12_whereSet_15 rfl rfl rfl ?_
      refine sp_gets (t := 15) (q := 19) hX flX12_72 fkX12_27 atM_0 srM_0_27 dX12_whereSet_16 rfl ?_
      refine sp_iload_n (i := 3) (q := 20) hX dX12_whereSet_19 rfl rfl rfl ?_
      obtain ⟨h1, hf⟩ := sp_ck_some hf
      refine sp_iald (q := 21) hX arM_15 h1 dX12_whereSet_20 rfl ?_
      refine sp_iload_n (i := 1) (q := 22) hX dX12_whereSet_21 rfl rfl rfl ?_
      obtain ⟨v2, e3, hf⟩ := sp_pl_some hf
      have hj8 : sp_GG shM X σ 4 [some (.ref (sx_ad X 0)), some (.int z1), some (.int z2), some (.int z3)] [.int v2, .int z2] 32 0 0 := by
        refine sp_ior (q := 33) hX dX12_whereSet_32 rfl ?_
        obtain ⟨x4, e5, hf⟩ := sp_pl_some hf
        refine sp_nmi e5 ?_
        refine sp_istore_n (i := 2) (lv' := [some (.ref (sx_ad X 0)), some (.int z1), some (.int x4), some (.int z3)]) (q := 34) hX dX12_whereSet_33 rfl (Nat.le_of_ble_eq_true rfl) rfl rfl rfl ?_
        obtain ⟨x6, e7, hf⟩ := sp_pl_some hf
        refine sp_iinc (i := 3) (v := x6) (lv' := [some (.ref (sx_ad X 0)), some (.int z1), some (.int x4), some (.int x6)]) (q := 37) hX dX12_whereSet_34 rfl (by rw [e7, li_1]) (Nat.le_of_ble_eq_true rfl) rfl rfl rfl ?_
        refine sp_goto (tgt := 4) hX dX12_whereSet_37 (by decide) ?_
        exact ih σ z1 x4 x6 hf
      refine sp_icmp_ne (tgt := 31) (q := 25) hX dX12_whereSet_22 (by decide) rfl (fun hc => ?_) (fun hc => ?_)
      · refine sp_iconst (v := 0) (q := 32) hX dX12_whereSet_31 li_0 rfl ?_
        exact sp_nmi (by rw [e3, if_neg hc]) hj8
      · refine sp_iconst (v := 1) (q := 26) hX dX12_whereSet_25 li_1 rfl ?_
        refine sp_iload_n (i := 3) (q := 27) hX dX12_whereSet_26 rfl rfl rfl ?_
        refine sp_ishl (q := 28) hX dX12_whereSet_27 rfl ?_
        refine sp_goto (tgt := 32) hX dX12_whereSet_28 (by decide) ?_
        exact sp_nmi (by rw [e3, if_pos hc]) hj8
set_option maxRecDepth 100000 in
set_option maxHeartbeats 4000000 in
theorem hX12_whereSet {X : sp_X} (hX : sp_OK shM X cX12_whereSet RX12 4 rmX12_whereSet) {τ : sp_St} {r : Int32} (hR : sp_Ri shM X (some .int) τ r 0 0) {n : Nat}  {σ : sp_St} {a1 : Int32}  (hf : X12_whereSet n σ a1 = some (τ, r)) : sp_GG shM X σ 4 [some (.ref (sx_ad X 0)), some (.int a1), none, none] [] 0 0 0 := by
  unfold X12_whereSet at hf
  refine sp_iconst (v := 0) (q := 1) hX dX12_whereSet_0 li_0 rfl ?_
  obtain ⟨x1, e2, hf⟩ := sp_pl_some hf
  refine sp_nmi e2 ?_
  refine sp_istore_n (i := 2) (lv' := [some (.ref (sx_ad X 0)), some (.int a1), some (.int x1), none]) (q := 2) hX dX12_whereSet_1 rfl (Nat.le_of_ble_eq_true rfl) rfl rfl rfl ?_
  refine sp_iconst (v := 0) (q := 3) hX dX12_whereSet_2 li_0 rfl ?_
  obtain ⟨x3, e4, hf⟩ := sp_pl_some hf
  refine sp_nmi e4 ?_
  refine sp_istore_n (i := 3) (lv' := [some (.ref (sx_ad X 0)), some (.int a1), some (.int x1), some (.int x3)]) (q := 4) hX dX12_whereSet_3 rfl (Nat.le_of_ble_eq_true rfl) rfl rfl rfl ?_
  exact hX12_whereSet_4 hX hR n σ a1 x1 x3 hf
set_option maxRecDepth 100000 in
set_option maxHeartbeats 4000000 in
theorem cnX12_whereSet {l : Launch} (hst : l.stackTraces = false) {w : sp_Wd} {n : Nat}  {σ : sp_St} {a1 : Int32} {τ : sp_St} {r : Int32}  (hf : X12_whereSet n σ a1 = some (τ, r)) : sp_Ci shM l w yX12_whereSet cX12_whereSet 4 (some .int) rmX12_whereSet 0 0 σ [.ref (w.2.1 0), .int a1] τ r :=
  sp_ci (own := RX12) (by decide) rfl hst (Nat.le_of_ble_eq_true rfl) rfl (fun X hX hw hl hR => by subst hw; subst hl; exact hX12_whereSet hX hR   hf)
def rmX12_throatOf : Room := { frames := 0, cells := 0, slots := 0, locals := 0 }
def X12_throatOf_53 (n : Nat) (σ : sp_St) : Option (sp_St × Int32) :=
  some (σ, (-1 : Int32))
def X12_throatOf_47 (n : Nat) (k2 : sp_St → Int32 → Int32 → Option (sp_St × Int32)) (σ : sp_St) (z1 : Int32) (z2 : Int32) : Option (sp_St × Int32) :=
  sp_pl (z2 + 1) fun x1 =>
  k2 σ z1 x1
def X12_throatOf_39 (n : Nat) (σ : sp_St) (z2 : Int32) : Option (sp_St × Int32) :=
  some (σ, z2)
def X12_throatOf_14 (n : Nat) (k2 : sp_St → Int32 → Int32 → Option (sp_St × Int32)) : Nat → sp_St → Int32 → Int32 → Int32 → Option (sp_St × Int32)
  | 0, _, _, _, _ => none
  | f + 1, σ, z1, z2, z3 =>
    sp_ck (sp_in z2 5) <|
    if (sp_g σ 17 z2) ≤ z3 then
      X12_throatOf_47 n k2 σ z1 z2
    else
      sp_ck (sp_in ((((10 : Int32)) * z2) + z3) 50) <|
      if (sp_g σ 18 ((((10 : Int32)) * z2) + z3)) = z1 then
        X12_throatOf_39 n σ z2
      else
        sp_pl (z3 + 1) fun x3 =>
        X12_throatOf_14 n k2 f σ z1 z2 x3
def X12_throatOf_2 (n : Nat) : Nat → sp_St → Int32 → Int32 → Option (sp_St × Int32)
  | 0, _, _, _ => none
  | f + 1, σ, z1, z2 =>
    if (sp_g σ 3 ((1 : Int32))) ≤ z2 then
      X12_throatOf_53 n σ
    else
      sp_pl ((0 : Int32)) fun x1 =>
      X12_throatOf_14 n (X12_throatOf_2 n f) n σ z1 z2 x1
def X12_throatOf (n : Nat)  (σ : sp_St) (a1 : Int32) : Option (sp_St × Int32) :=
  sp_pl ((0 : Int32)) fun x1 =>
  X12_throatOf_2 n n σ a1 x1
set_option maxRecDepth 100000 in
set_option maxHeartbeats 4000000 in
theorem hX12_throatOf_53 {X : sp_X} (hX : sp_OK shM X cX12_throatOf RX12 4 rmX12_throatOf) {τ : sp_St} {r : Int32} (hR : sp_Ri shM X (some .int) τ r 0 0) {n : Nat}    {σ : sp_St} (hf : X12_throatOf_53 n σ = some (τ, r)) : sp_GG shM X σ 4 [none, none, none, none] [] 53 0 0 := by
  unfold X12_throatOf_53 at hf
  refine sp_iconst (v := -1) (q := 54) hX dX12_throatOf_53 li_m1 rfl ?_
  exact sp_iret hX hR dX12_throatOf_54 hf (Nat.le_of_ble_eq_true rfl) (Nat.le_of_ble_eq_true rfl)
set_option maxRecDepth 100000 in
set_option maxHeartbeats 4000000 in
theorem hX12_throatOf_47 {X : sp_X} (hX : sp_OK shM X cX12_throatOf RX12 4 rmX12_throatOf) {τ : sp_St} {r : Int32} (hR : sp_Ri shM X (some .int) τ r 0 0) {n : Nat}   {k2 : sp_St → Int32 → Int32 → Option (sp_St × Int32)} (hk2 : ∀ (σ : sp_St) (z1 : Int32) (z2 : Int32), k2 σ z1 z2 = some (τ, r) → sp_GG shM X σ 4 [some (.ref (sx_ad X 0)), some (.int z1), some (.int z2), none] [] 2 0 0) {σ : sp_St} {z1 : Int32} {z2 : Int32} (hf : X12_throatOf_47 n k2 σ z1 z2 = some (τ, r)) : sp_GG shM X σ 4 [some (.ref (sx_ad X 0)), some (.int z1), some (.int z2), none] [] 47 0 0 := by
  unfold X12_throatOf_47 at hf
  obtain ⟨x1, e2, hf⟩ := sp_pl_some hf
  refine sp_iinc (i := 2) (v := x1) (lv' := [some (.ref (sx_ad X 0)), some (.int z1), some (.int x1), none]) (q := 50) hX dX12_throatOf_47 rfl (by rw [e2, li_1]) (Nat.le_of_ble_eq_true rfl) rfl rfl rfl ?_
  refine sp_goto (tgt := 2) hX dX12_throatOf_50 (by decide) ?_
  exact hk2 σ z1 x1 hf
set_option maxRecDepth 100000 in
set_option maxHeartbeats 4000000 in
theorem hX12_throatOf_39 {X : sp_X} (hX : sp_OK shM X cX12_throatOf RX12 4 rmX12_throatOf) {τ : sp_St} {r : Int32} (hR : sp_Ri shM X (some .int) τ r 0 0) {n : Nat}    {σ : sp_St} {z2 : Int32} (hf : X12_throatOf_39 n σ z2 = some (τ, r)) : sp_GG shM X σ 4 [none, none, some (.int z2), none] [] 39 0 0 := by
  unfold X12_throatOf_39 at hf
  refine sp_iload_n (i := 2) (q := 40) hX dX12_throatOf_39 rfl rfl rfl ?_
  exact sp_iret hX hR dX12_throatOf_40 hf (Nat.le_of_ble_eq_true rfl) (Nat.le_of_ble_eq_true rfl)
set_option maxRecDepth 100000 in
set_option maxHeartbeats 4000000 in
theorem hX12_throatOf_14 {X : sp_X} (hX : sp_OK shM X cX12_throatOf RX12 4 rmX12_throatOf) {τ : sp_St} {r : Int32} (hR : sp_Ri shM X (some .int) τ r 0 0) {n : Nat}   {k2 : sp_St → Int32 → Int32 → Option (sp_St × Int32)} (hk2 : ∀ (σ : sp_St) (z1 : Int32) (z2 : Int32), k2 σ z1 z2 = some (τ, r) → sp_GG shM X σ 4 [some (.ref (sx_ad X 0)), some (.int z1), some (.int z2), none] [] 2 0 0) : ∀ (f : Nat) (σ : sp_St) (z1 : Int32) (z2 : Int32) (z3 : Int32), X12_throatOf_14 n k2 f σ z1 z2 z3 = some (τ, r) → sp_GG shM X σ 4 [some (.ref (sx_ad X 0)), some (.int z1), some (.int z2), some (.int z3)] [] 14 0 0 := by
  intro f
  induction f with
  | zero =>
    intro σ z1 z2 z3 hf
    rw [X12_throatOf_14] at hf
    cases hf
  | succ f ih =>
    intro σ z1 z2 z3 hf
    rw [X12_throatOf_14] at hf
    refine sp_iload_n (i := 3) (q := 15) hX dX12_throatOf_14 rfl rfl rfl ?_
    refine sp_aload_n (i := 0) (q := 16) hX dX12_throatOf_15 rfl rfl rfl ?_
    refine sp_gets (t := 17) (q := 19) hX flX12_78 fkX12_29 atM_0 srM_0_29 dX12_throatOf_16 rfl ?_
    refine sp_iload_n (i := 2) (q := 20) hX dX12_throatOf_19 rfl rfl rfl ?_
    obtain ⟨h1, hf⟩ := sp_ck_some hf
    refine sp_iald (q := 21) hX arM_17 h1 dX12_throatOf_20 rfl ?_
    refine sp_icmp_ge (tgt := 47) (q := 24) hX dX12_throatOf_21 (by decide) rfl (fun hc => ?_) (fun hc => ?_)
    · rw [if_pos hc] at hf
      refine sp_drop (lv' := [some (.ref (sx_ad X 0)), some (.int z1), some (.int z2), none]) (And.intro rfl (And.intro rfl (And.intro rfl trivial))) ?_
      exact hX12_throatOf_47 hX hR hk2 hf
    · rw [if_neg hc] at hf
      refine sp_aload_n (i := 0) (q := 25) hX dX12_throatOf_24 rfl rfl rfl ?_
      refine sp_gets (t := 18) (q := 28) hX flX12_81 fkX12_30 atM_0 srM_0_30 dX12_throatOf_25 rfl ?_
      refine sp_bipush (v := 10) (q := 30) hX dX12_throatOf_28 lb_10 rfl ?_
      refine sp_iload_n (i := 2) (q := 31) hX dX12_throatOf_30 rfl rfl rfl ?_
      refine sp_imul (q := 32) hX dX12_throatOf_31 rfl ?_
      refine sp_iload_n (i := 3) (q := 33) hX dX12_throatOf_32 rfl rfl rfl ?_
      refine sp_iadd (q := 34) hX dX12_throatOf_33 rfl ?_
      obtain ⟨h2, hf⟩ := sp_ck_some hf
      refine sp_iald (q := 35) hX arM_18 h2 dX12_throatOf_34 rfl ?_
      refine sp_iload_n (i := 1) (q := 36) hX dX12_throatOf_35 rfl rfl rfl ?_
      refine sp_icmp_ne (tgt := 41) (q := 39) hX dX12_throatOf_36 (by decide) rfl (fun hc => ?_) (fun hc => ?_)
      · rw [if_neg hc] at hf
        obtain ⟨x3, e4, hf⟩ := sp_pl_some hf
        refine sp_iinc (i := 3) (v := x3) (lv' := [some (.ref (sx_ad X 0)), some (.int z1), some (.int z2), some (.int x3)]) (q := 44) hX dX12_throatOf_41 rfl (by rw [e4, li_1]) (Nat.le_of_ble_eq_true rfl) rfl rfl rfl ?_
        refine sp_goto (tgt := 14) hX dX12_throatOf_44 (by decide) ?_
        exact ih σ z1 z2 x3 hf
      · rw [if_pos hc] at hf
        refine sp_drop (lv' := [none, none, some (.int z2), none]) (And.intro rfl trivial) ?_
        exact hX12_throatOf_39 hX hR hf
set_option maxRecDepth 100000 in
set_option maxHeartbeats 4000000 in
theorem hX12_throatOf_2 {X : sp_X} (hX : sp_OK shM X cX12_throatOf RX12 4 rmX12_throatOf) {τ : sp_St} {r : Int32} (hR : sp_Ri shM X (some .int) τ r 0 0) {n : Nat}    : ∀ (f : Nat) (σ : sp_St) (z1 : Int32) (z2 : Int32), X12_throatOf_2 n f σ z1 z2 = some (τ, r) → sp_GG shM X σ 4 [some (.ref (sx_ad X 0)), some (.int z1), some (.int z2), none] [] 2 0 0 := by
  intro f
  induction f with
  | zero =>
    intro σ z1 z2 hf
    rw [X12_throatOf_2] at hf
    cases hf
  | succ f ih =>
    intro σ z1 z2 hf
    rw [X12_throatOf_2] at hf
    refine sp_iload_n (i := 2) (q := 3) hX dX12_throatOf_2 rfl rfl rfl ?_
    refine sp_aload_n (i := 0) (q := 4) hX dX12_throatOf_3 rfl rfl rfl ?_
    refine sp_gets (t := 3) (q := 7) hX flX12_33 fkX12_4 atM_0 srM_0_4 dX12_throatOf_4 rfl ?_
    refine sp_iconst (v := 1) (q := 8) hX dX12_throatOf_7 li_1 rfl ?_
    refine sp_iald (q := 9) hX arM_3 (by decide) dX12_throatOf_8 rfl ?_
    refine sp_icmp_ge (tgt := 53) (q := 12) hX dX12_throatOf_9 (by decide) rfl (fun hc => ?_) (fun hc => ?_)
    · rw [if_pos hc] at hf
      refine sp_drop (lv' := [none, none, none, none]) trivial ?_
      exact hX12_throatOf_53 hX hR hf
    · rw [if_neg hc] at hf
      refine sp_iconst (v := 0) (q := 13) hX dX12_throatOf_12 li_0 rfl ?_
      obtain ⟨x1, e2, hf⟩ := sp_pl_some hf
      refine sp_nmi e2 ?_
      refine sp_istore_n (i := 3) (lv' := [some (.ref (sx_ad X 0)), some (.int z1), some (.int z2), some (.int x1)]) (q := 14) hX dX12_throatOf_13 rfl (Nat.le_of_ble_eq_true rfl) rfl rfl rfl ?_
      exact hX12_throatOf_14 hX hR ih n σ z1 z2 x1 hf
set_option maxRecDepth 100000 in
set_option maxHeartbeats 4000000 in
theorem hX12_throatOf {X : sp_X} (hX : sp_OK shM X cX12_throatOf RX12 4 rmX12_throatOf) {τ : sp_St} {r : Int32} (hR : sp_Ri shM X (some .int) τ r 0 0) {n : Nat}  {σ : sp_St} {a1 : Int32}  (hf : X12_throatOf n σ a1 = some (τ, r)) : sp_GG shM X σ 4 [some (.ref (sx_ad X 0)), some (.int a1), none, none] [] 0 0 0 := by
  unfold X12_throatOf at hf
  refine sp_iconst (v := 0) (q := 1) hX dX12_throatOf_0 li_0 rfl ?_
  obtain ⟨x1, e2, hf⟩ := sp_pl_some hf
  refine sp_nmi e2 ?_
  refine sp_istore_n (i := 2) (lv' := [some (.ref (sx_ad X 0)), some (.int a1), some (.int x1), none]) (q := 2) hX dX12_throatOf_1 rfl (Nat.le_of_ble_eq_true rfl) rfl rfl rfl ?_
  exact hX12_throatOf_2 hX hR n σ a1 x1 hf
set_option maxRecDepth 100000 in
set_option maxHeartbeats 4000000 in
theorem cnX12_throatOf {l : Launch} (hst : l.stackTraces = false) {w : sp_Wd} {n : Nat}  {σ : sp_St} {a1 : Int32} {τ : sp_St} {r : Int32}  (hf : X12_throatOf n σ a1 = some (τ, r)) : sp_Ci shM l w yX12_throatOf cX12_throatOf 4 (some .int) rmX12_throatOf 0 0 σ [.ref (w.2.1 0), .int a1] τ r :=
  sp_ci (own := RX12) (by decide) rfl hst (Nat.le_of_ble_eq_true rfl) rfl (fun X hX hw hl hR => by subst hw; subst hl; exact hX12_throatOf hX hR   hf)
