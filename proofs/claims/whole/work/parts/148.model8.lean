def rmX12_summer : Room := { frames := 6, cells := 0, slots := 0, locals := 132 }
def X12_summer_128 (n : Nat) (σ : sp_St) (zs0 : Int32) : Option (sp_St × Int32) :=
  sp_bv (X12_unpack n σ 25 88 ((0 : Int32))) fun σ2 =>
  some (σ2, zs0)
def X12_summer_84 (n : Nat) (σ : sp_St) (z3 : Int32) (z4 : Int32) : Option (sp_St × Int32) :=
  if z3 = 0 then
    X12_summer_128 n σ ((σ.1 0 34) - z4)
  else
    if z3 = ((1 : Int32)) then
      sp_bd (X12_whereSet n σ ((2 : Int32))) fun σ5 v6 =>
      sp_bd (X12_bitsOf n σ5 v6) fun σ8 v9 =>
      X12_summer_128 n σ8 v9
    else
      sp_bd (X12_angers n σ ((((1 : Int32)) <<< ((sp_g σ 3 ((2 : Int32))) &&& 31)) - ((1 : Int32)))) fun σ2 v3 =>
      X12_summer_128 n σ2 v3
def X12_summer_64 (n : Nat) : Nat → sp_St → Int32 → Int32 → Int32 → Int32 → Option (sp_St × Int32)
  | 0, _, _, _, _, _ => none
  | f + 1, σ, z2, z3, z4, z5 =>
    if z2 ≤ z5 then
      X12_summer_84 n σ z3 z4
    else
      sp_bv (X12_something n σ) fun σ2 =>
      sp_bv (X12_aDay n σ2) fun σ4 =>
      sp_pl (z5 + 1) fun x5 =>
      X12_summer_64 n f σ4 z2 z3 z4 x5
def X12_summer (n : Nat)  (σ : sp_St) (a1 : Int32) (a2 : Int32) (a3 : Int32) : Option (sp_St × Int32) :=
  sp_pl (sp_si σ 0 3 ((0 : Int32))) fun σ1 =>
  sp_bd (X12_isIn n σ1 a3.toInt64 ((0 : Int64)) ((2 : Int64))) fun σ4 v5 =>
  if v5 = 0 then
    sp_bd (X12_fail n σ4 ((1 : Int32))) fun σ21 v22 =>
    some (σ21, v22)
  else
    sp_bd (X12_isIn n σ4 a2.toInt64 ((0 : Int64)) ((60 : Int64))) fun σ7 v8 =>
    if v8 = 0 then
      sp_bd (X12_fail n σ7 ((2 : Int32))) fun σ18 v19 =>
      some (σ18, v19)
    else
      sp_bv (X12_pack n σ7 25 88 ((0 : Int32))) fun σ10 =>
      sp_pl (sp_si σ10 0 54 a1) fun σ11 =>
      sp_pl (σ11.1 0 34) fun x13 =>
      sp_pl ((0 : Int32)) fun x15 =>
      X12_summer_64 n n σ11 a2 a3 x13 x15
set_option maxRecDepth 100000 in
set_option maxHeartbeats 4000000 in
theorem hX12_summer_128 {X : sp_X} (hX : sp_OK shM X cX12_summer RX12 6 rmX12_summer) {τ : sp_St} {r : Int32} (hR : sp_Ri shM X (some .int) τ r 0 0) {n : Nat}    {σ : sp_St} {zs0 : Int32} (hf : X12_summer_128 n σ zs0 = some (τ, r)) : sp_GG shM X σ 6 [some (.ref (sx_ad X 0)), none, none, none, none, none] [.int zs0] 128 0 0 := by
  unfold X12_summer_128 at hf
  refine sp_istore (i := 5) (lv' := [some (.ref (sx_ad X 0)), none, none, none, none, some (.int zs0)]) (q := 130) hX dX12_summer_128 (Nat.le_of_ble_eq_true rfl) rfl rfl rfl ?_
  refine sp_aload_n (i := 0) (q := 131) hX dX12_summer_130 rfl rfl rfl ?_
  refine sp_aload_n (i := 0) (q := 132) hX dX12_summer_131 rfl rfl rfl ?_
  refine sp_gets (t := 25) (q := 135) hX flX12_102 fkX12_41 atM_0 srM_0_41 dX12_summer_132 rfl ?_
  refine sp_iconst (v := 0) (q := 136) hX dX12_summer_135 li_0 rfl ?_
  obtain ⟨σ2, h1, hf⟩ := sp_bv_so hf
  refine sp_callVv (As := [.ref (sx_ad X 25), .int ((0 : Int32))]) (rest := []) (q := 139) hX (cnX12_unpack (sp_st hX) arM_25 h1) cwX12_432 atM_0 rfl rfl rfl rfl rfl (Nat.le_of_ble_eq_true rfl) (Nat.le_of_ble_eq_true rfl) (Nat.le_of_ble_eq_true rfl) (Nat.le_of_ble_eq_true rfl) (Nat.le_of_ble_eq_true rfl) dX12_summer_136 rfl ?_
  refine sp_iload (i := 5) (q := 141) hX dX12_summer_139 rfl rfl ?_
  exact sp_iret hX hR dX12_summer_141 hf (Nat.le_of_ble_eq_true rfl) (Nat.le_of_ble_eq_true rfl)
set_option maxRecDepth 100000 in
set_option maxHeartbeats 4000000 in
theorem hX12_summer_84 {X : sp_X} (hX : sp_OK shM X cX12_summer RX12 6 rmX12_summer) {τ : sp_St} {r : Int32} (hR : sp_Ri shM X (some .int) τ r 0 0) {n : Nat}    {σ : sp_St} {z3 : Int32} {z4 : Int32} (hf : X12_summer_84 n σ z3 z4 = some (τ, r)) : sp_GG shM X σ 6 [some (.ref (sx_ad X 0)), none, none, some (.int z3), some (.int z4), none] [] 84 0 0 := by
  unfold X12_summer_84 at hf
  refine sp_iload_n (i := 3) (q := 85) hX dX12_summer_84 rfl rfl rfl ?_
  refine sp_if_ne (tgt := 98) (q := 88) hX dX12_summer_85 (by decide) rfl (fun hc => ?_) (fun hc => ?_)
  · rw [if_neg hc] at hf
    refine sp_iload_n (i := 3) (q := 99) hX dX12_summer_98 rfl rfl rfl ?_
    refine sp_iconst (v := 1) (q := 100) hX dX12_summer_99 li_1 rfl ?_
    refine sp_icmp_ne (tgt := 114) (q := 103) hX dX12_summer_100 (by decide) rfl (fun hc => ?_) (fun hc => ?_)
    · rw [if_neg hc] at hf
      refine sp_aload_n (i := 0) (q := 115) hX dX12_summer_114 rfl rfl rfl ?_
      refine sp_iconst (v := 1) (q := 116) hX dX12_summer_115 li_1 rfl ?_
      refine sp_aload_n (i := 0) (q := 117) hX dX12_summer_116 rfl rfl rfl ?_
      refine sp_gets (t := 3) (q := 120) hX flX12_33 fkX12_4 atM_0 srM_0_4 dX12_summer_117 rfl ?_
      refine sp_iconst (v := 2) (q := 121) hX dX12_summer_120 li_2 rfl ?_
      refine sp_iald (q := 122) hX arM_3 (by decide) dX12_summer_121 rfl ?_
      refine sp_ishl (q := 123) hX dX12_summer_122 rfl ?_
      refine sp_iconst (v := 1) (q := 124) hX dX12_summer_123 li_1 rfl ?_
      refine sp_isub (q := 125) hX dX12_summer_124 rfl ?_
      obtain ⟨σ2, v3, h1, hf⟩ := sp_bd_so hf
      refine sp_callVi (As := [.int ((((1 : Int32)) <<< ((sp_g σ 3 ((2 : Int32))) &&& 31)) - ((1 : Int32)))]) (rest := []) (q := 128) hX (cnX12_angers (sp_st hX)  h1) cwX12_440 atM_0 rfl rfl rfl rfl rfl (Nat.le_of_ble_eq_true rfl) (Nat.le_of_ble_eq_true rfl) (Nat.le_of_ble_eq_true rfl) (Nat.le_of_ble_eq_true rfl) (Nat.le_of_ble_eq_true rfl) dX12_summer_125 rfl ?_
      refine sp_drop (lv' := [some (.ref (sx_ad X 0)), none, none, none, none, none]) (And.intro rfl trivial) ?_
      exact hX12_summer_128 hX hR hf
    · rw [if_pos hc] at hf
      refine sp_aload_n (i := 0) (q := 104) hX dX12_summer_103 rfl rfl rfl ?_
      refine sp_iconst (v := 2) (q := 105) hX dX12_summer_104 li_2 rfl ?_
      obtain ⟨σ5, v6, h4, hf⟩ := sp_bd_so hf
      refine sp_callVi (As := [.int ((2 : Int32))]) (rest := []) (q := 108) hX (cnX12_whereSet (sp_st hX)  h4) cwX12_348 atM_0 rfl rfl rfl rfl rfl (Nat.le_of_ble_eq_true rfl) (Nat.le_of_ble_eq_true rfl) (Nat.le_of_ble_eq_true rfl) (Nat.le_of_ble_eq_true rfl) (Nat.le_of_ble_eq_true rfl) dX12_summer_105 rfl ?_
      obtain ⟨σ8, v9, h7, hf⟩ := sp_bd_so hf
      refine sp_callSi (As := [.int v6]) (rest := []) (q := 111) hX (cnX12_bitsOf (sp_st hX)  h7) cwX12_364 rfl rfl rfl rfl (Nat.le_of_ble_eq_true rfl) (Nat.le_of_ble_eq_true rfl) (Nat.le_of_ble_eq_true rfl) (Nat.le_of_ble_eq_true rfl) (Nat.le_of_ble_eq_true rfl) dX12_summer_108 rfl ?_
      refine sp_goto (tgt := 128) hX dX12_summer_111 (by decide) ?_
      refine sp_drop (lv' := [some (.ref (sx_ad X 0)), none, none, none, none, none]) (And.intro rfl trivial) ?_
      exact hX12_summer_128 hX hR hf
  · rw [if_pos hc] at hf
    refine sp_aload_n (i := 0) (q := 89) hX dX12_summer_88 rfl rfl rfl ?_
    refine sp_geti (q := 92) hX flX12_327 fkX12_34 atM_0 dX12_summer_89 rfl ?_
    refine sp_iload (i := 4) (q := 94) hX dX12_summer_92 rfl rfl ?_
    refine sp_isub (q := 95) hX dX12_summer_94 rfl ?_
    refine sp_goto (tgt := 128) hX dX12_summer_95 (by decide) ?_
    refine sp_drop (lv' := [some (.ref (sx_ad X 0)), none, none, none, none, none]) (And.intro rfl trivial) ?_
    exact hX12_summer_128 hX hR hf
set_option maxRecDepth 100000 in
set_option maxHeartbeats 4000000 in
theorem hX12_summer_64 {X : sp_X} (hX : sp_OK shM X cX12_summer RX12 6 rmX12_summer) {τ : sp_St} {r : Int32} (hR : sp_Ri shM X (some .int) τ r 0 0) {n : Nat}    : ∀ (f : Nat) (σ : sp_St) (z2 : Int32) (z3 : Int32) (z4 : Int32) (z5 : Int32), X12_summer_64 n f σ z2 z3 z4 z5 = some (τ, r) → sp_GG shM X σ 6 [some (.ref (sx_ad X 0)), none, some (.int z2), some (.int z3), some (.int z4), some (.int z5)] [] 64 0 0 := by
  intro f
  induction f with
  | zero =>
    intro σ z2 z3 z4 z5 hf
    rw [X12_summer_64] at hf
    cases hf
  | succ f ih =>
    intro σ z2 z3 z4 z5 hf
    rw [X12_summer_64] at hf
    refine sp_iload (i := 5) (q := 66) hX dX12_summer_64 rfl rfl ?_
    refine sp_iload_n (i := 2) (q := 67) hX dX12_summer_66 rfl rfl rfl ?_
    refine sp_icmp_ge (tgt := 84) (q := 70) hX dX12_summer_67 (by decide) rfl (fun hc => ?_) (fun hc => ?_)
    · rw [if_pos hc] at hf
      refine sp_drop (lv' := [some (.ref (sx_ad X 0)), none, none, some (.int z3), some (.int z4), none]) (And.intro rfl (And.intro rfl (And.intro rfl trivial))) ?_
      exact hX12_summer_84 hX hR hf
    · rw [if_neg hc] at hf
      refine sp_aload_n (i := 0) (q := 71) hX dX12_summer_70 rfl rfl rfl ?_
      obtain ⟨σ2, h1, hf⟩ := sp_bv_so hf
      refine sp_callVv (As := []) (rest := []) (q := 74) hX (cnX12_something (sp_st hX)  h1) cwX12_489 atM_0 rfl rfl rfl rfl rfl (Nat.le_of_ble_eq_true rfl) (Nat.le_of_ble_eq_true rfl) (Nat.le_of_ble_eq_true rfl) (Nat.le_of_ble_eq_true rfl) (Nat.le_of_ble_eq_true rfl) dX12_summer_71 rfl ?_
      refine sp_aload_n (i := 0) (q := 75) hX dX12_summer_74 rfl rfl rfl ?_
      obtain ⟨σ4, h3, hf⟩ := sp_bv_so hf
      refine sp_callVv (As := []) (rest := []) (q := 78) hX (cnX12_aDay (sp_st hX)  h3) cwX12_393 atM_0 rfl rfl rfl rfl rfl (Nat.le_of_ble_eq_true rfl) (Nat.le_of_ble_eq_true rfl) (Nat.le_of_ble_eq_true rfl) (Nat.le_of_ble_eq_true rfl) (Nat.le_of_ble_eq_true rfl) dX12_summer_75 rfl ?_
      obtain ⟨x5, e6, hf⟩ := sp_pl_some hf
      refine sp_iinc (i := 5) (v := x5) (lv' := [some (.ref (sx_ad X 0)), none, some (.int z2), some (.int z3), some (.int z4), some (.int x5)]) (q := 81) hX dX12_summer_78 rfl (by rw [e6, li_1]) (Nat.le_of_ble_eq_true rfl) rfl rfl rfl ?_
      refine sp_goto (tgt := 64) hX dX12_summer_81 (by decide) ?_
      exact ih σ4 z2 z3 z4 x5 hf
set_option maxRecDepth 100000 in
set_option maxHeartbeats 4000000 in
theorem hX12_summer {X : sp_X} (hX : sp_OK shM X cX12_summer RX12 6 rmX12_summer) {τ : sp_St} {r : Int32} (hR : sp_Ri shM X (some .int) τ r 0 0) {n : Nat}  {σ : sp_St} {a1 : Int32} {a2 : Int32} {a3 : Int32}  (hf : X12_summer n σ a1 a2 a3 = some (τ, r)) : sp_GG shM X σ 6 [some (.ref (sx_ad X 0)), some (.int a1), some (.int a2), some (.int a3), none, none] [] 0 0 0 := by
  unfold X12_summer at hf
  refine sp_aload_n (i := 0) (q := 1) hX dX12_summer_0 rfl rfl rfl ?_
  refine sp_iconst (v := 0) (q := 2) hX dX12_summer_1 li_0 rfl ?_
  obtain ⟨σ1, e2, hf⟩ := sp_pl_some hf
  refine sp_puti (q := 5) hX fpX12_158 fkX12_3 atM_0 dX12_summer_2 rfl ?_
  refine sp_nms e2 ?_
  refine sp_iload_n (i := 3) (q := 6) hX dX12_summer_5 rfl rfl rfl ?_
  refine sp_i2l (q := 7) hX dX12_summer_6 rfl ?_
  refine sp_lconst (v := 0) (q := 8) hX dX12_summer_7 (by decide) rfl ?_
  refine sp_ldc2 (v := 2) (q := 11) hX wd_2201 dX12_summer_8 rfl ?_
  obtain ⟨σ4, v5, h3, hf⟩ := sp_bd_so hf
  refine sp_callSi (As := [.long a3.toInt64, .long ((0 : Int64)), .long ((2 : Int64))]) (rest := []) (q := 14) hX (cnX12_isIn (sp_st hX)  h3) cwX12_161 rfl rfl rfl rfl (Nat.le_of_ble_eq_true rfl) (Nat.le_of_ble_eq_true rfl) (Nat.le_of_ble_eq_true rfl) (Nat.le_of_ble_eq_true rfl) (Nat.le_of_ble_eq_true rfl) dX12_summer_11 rfl ?_
  refine sp_if_ne (tgt := 23) (q := 17) hX dX12_summer_14 (by decide) rfl (fun hc => ?_) (fun hc => ?_)
  · rw [if_neg hc] at hf
    refine sp_iload_n (i := 2) (q := 24) hX dX12_summer_23 rfl rfl rfl ?_
    refine sp_i2l (q := 25) hX dX12_summer_24 rfl ?_
    refine sp_lconst (v := 0) (q := 26) hX dX12_summer_25 (by decide) rfl ?_
    refine sp_ldc2 (v := 60) (q := 29) hX wd_2097 dX12_summer_26 rfl ?_
    obtain ⟨σ7, v8, h6, hf⟩ := sp_bd_so hf
    refine sp_callSi (As := [.long a2.toInt64, .long ((0 : Int64)), .long ((60 : Int64))]) (rest := []) (q := 32) hX (cnX12_isIn (sp_st hX)  h6) cwX12_161 rfl rfl rfl rfl (Nat.le_of_ble_eq_true rfl) (Nat.le_of_ble_eq_true rfl) (Nat.le_of_ble_eq_true rfl) (Nat.le_of_ble_eq_true rfl) (Nat.le_of_ble_eq_true rfl) dX12_summer_29 rfl ?_
    refine sp_if_ne (tgt := 41) (q := 35) hX dX12_summer_32 (by decide) rfl (fun hc => ?_) (fun hc => ?_)
    · rw [if_neg hc] at hf
      refine sp_aload_n (i := 0) (q := 42) hX dX12_summer_41 rfl rfl rfl ?_
      refine sp_aload_n (i := 0) (q := 43) hX dX12_summer_42 rfl rfl rfl ?_
      refine sp_gets (t := 25) (q := 46) hX flX12_102 fkX12_41 atM_0 srM_0_41 dX12_summer_43 rfl ?_
      refine sp_iconst (v := 0) (q := 47) hX dX12_summer_46 li_0 rfl ?_
      obtain ⟨σ10, h9, hf⟩ := sp_bv_so hf
      refine sp_callVv (As := [.ref (sx_ad X 25), .int ((0 : Int32))]) (rest := []) (q := 50) hX (cnX12_pack (sp_st hX) arM_25 h9) cwX12_414 atM_0 rfl rfl rfl rfl rfl (Nat.le_of_ble_eq_true rfl) (Nat.le_of_ble_eq_true rfl) (Nat.le_of_ble_eq_true rfl) (Nat.le_of_ble_eq_true rfl) (Nat.le_of_ble_eq_true rfl) dX12_summer_47 rfl ?_
      refine sp_aload_n (i := 0) (q := 51) hX dX12_summer_50 rfl rfl rfl ?_
      refine sp_iload_n (i := 1) (q := 52) hX dX12_summer_51 rfl rfl rfl ?_
      obtain ⟨σ11, e12, hf⟩ := sp_pl_some hf
      refine sp_puti (q := 55) hX fpX12_482 fkX12_54 atM_0 dX12_summer_52 rfl ?_
      refine sp_nms e12 ?_
      refine sp_aload_n (i := 0) (q := 56) hX dX12_summer_55 rfl rfl rfl ?_
      refine sp_geti (q := 59) hX flX12_327 fkX12_34 atM_0 dX12_summer_56 rfl ?_
      obtain ⟨x13, e14, hf⟩ := sp_pl_some hf
      refine sp_nmi e14 ?_
      refine sp_istore (i := 4) (lv' := [some (.ref (sx_ad X 0)), some (.int a1), some (.int a2), some (.int a3), some (.int x13), none]) (q := 61) hX dX12_summer_59 (Nat.le_of_ble_eq_true rfl) rfl rfl rfl ?_
      refine sp_iconst (v := 0) (q := 62) hX dX12_summer_61 li_0 rfl ?_
      obtain ⟨x15, e16, hf⟩ := sp_pl_some hf
      refine sp_nmi e16 ?_
      refine sp_istore (i := 5) (lv' := [some (.ref (sx_ad X 0)), some (.int a1), some (.int a2), some (.int a3), some (.int x13), some (.int x15)]) (q := 64) hX dX12_summer_62 (Nat.le_of_ble_eq_true rfl) rfl rfl rfl ?_
      refine sp_drop (lv' := [some (.ref (sx_ad X 0)), none, some (.int a2), some (.int a3), some (.int x13), some (.int x15)]) (And.intro rfl (And.intro rfl (And.intro rfl (And.intro rfl (And.intro rfl trivial))))) ?_
      exact hX12_summer_64 hX hR n σ11 a2 a3 x13 x15 hf
    · rw [if_pos hc] at hf
      refine sp_aload_n (i := 0) (q := 36) hX dX12_summer_35 rfl rfl rfl ?_
      refine sp_iconst (v := 2) (q := 37) hX dX12_summer_36 li_2 rfl ?_
      obtain ⟨σ18, v19, h17, hf⟩ := sp_bd_so hf
      refine sp_callVi (As := [.int ((2 : Int32))]) (rest := []) (q := 40) hX (cnX12_fail (sp_st hX)  h17) cwX12_312 atM_0 rfl rfl rfl rfl rfl (Nat.le_of_ble_eq_true rfl) (Nat.le_of_ble_eq_true rfl) (Nat.le_of_ble_eq_true rfl) (Nat.le_of_ble_eq_true rfl) (Nat.le_of_ble_eq_true rfl) dX12_summer_37 rfl ?_
      exact sp_iret hX hR dX12_summer_40 hf (Nat.le_of_ble_eq_true rfl) (Nat.le_of_ble_eq_true rfl)
  · rw [if_pos hc] at hf
    refine sp_aload_n (i := 0) (q := 18) hX dX12_summer_17 rfl rfl rfl ?_
    refine sp_iconst (v := 1) (q := 19) hX dX12_summer_18 li_1 rfl ?_
    obtain ⟨σ21, v22, h20, hf⟩ := sp_bd_so hf
    refine sp_callVi (As := [.int ((1 : Int32))]) (rest := []) (q := 22) hX (cnX12_fail (sp_st hX)  h20) cwX12_312 atM_0 rfl rfl rfl rfl rfl (Nat.le_of_ble_eq_true rfl) (Nat.le_of_ble_eq_true rfl) (Nat.le_of_ble_eq_true rfl) (Nat.le_of_ble_eq_true rfl) (Nat.le_of_ble_eq_true rfl) dX12_summer_19 rfl ?_
    exact sp_iret hX hR dX12_summer_22 hf (Nat.le_of_ble_eq_true rfl) (Nat.le_of_ble_eq_true rfl)
set_option maxRecDepth 100000 in
set_option maxHeartbeats 4000000 in
theorem cnX12_summer {l : Launch} (hst : l.stackTraces = false) {w : sp_Wd} {n : Nat}  {σ : sp_St} {a1 : Int32} {a2 : Int32} {a3 : Int32} {τ : sp_St} {r : Int32}  (hf : X12_summer n σ a1 a2 a3 = some (τ, r)) : sp_Ci shM l w yX12_summer cX12_summer 6 (some .int) rmX12_summer 0 0 σ [.ref (w.2.1 0), .int a1, .int a2, .int a3] τ r :=
  sp_ci (own := RX12) (by decide) rfl hst (Nat.le_of_ble_eq_true rfl) rfl (fun X hX hw hl hR => by subst hw; subst hl; exact hX12_summer hX hR   hf)
def rmX12_copyTo : Room := { frames := 0, cells := 0, slots := 0, locals := 0 }
def X12_copyTo_2 (n : Nat) (p0 m0 : Nat) (p1 m1 : Nat) : Nat → sp_St → Int32 → Option (sp_St)
  | 0, _, _ => none
  | f + 1, σ, z2 =>
    if (Int32.ofNat m0) ≤ z2 then
      some σ
    else
      sp_ck (sp_in z2 m1) <|
      sp_ck (sp_in z2 m0) <|
      sp_pl (sp_sa σ p0 z2.toNatClampNeg (sp_g σ p1 z2)) fun σ3 =>
      sp_pl (z2 + 1) fun x5 =>
      X12_copyTo_2 n p0 m0 p1 m1 f σ3 x5
def X12_copyTo (n : Nat)  (σ : sp_St) (p0 m0 : Nat) (p1 m1 : Nat) : Option (sp_St) :=
  sp_pl ((0 : Int32)) fun x1 =>
  X12_copyTo_2 n p0 m0 p1 m1 n σ x1
set_option maxRecDepth 100000 in
set_option maxHeartbeats 4000000 in
theorem hX12_copyTo_2 {X : sp_X} (hX : sp_OK shM X cX12_copyTo RX12 3 rmX12_copyTo) {τ : sp_St} (hR : sp_Rv shM X τ 0 0) {n : Nat}  {p0 m0 : Nat} (hp0 : sp_ar shM p0 1 m0) {p1 m1 : Nat} (hp1 : sp_ar shM p1 1 m1)  : ∀ (f : Nat) (σ : sp_St) (z2 : Int32), X12_copyTo_2 n p0 m0 p1 m1 f σ z2 = some τ → sp_GG shM X σ 3 [some (.ref (sx_ad X p0)), some (.ref (sx_ad X p1)), some (.int z2)] [] 2 0 0 := by
  intro f
  induction f with
  | zero =>
    intro σ z2 hf
    rw [X12_copyTo_2] at hf
    cases hf
  | succ f ih =>
    intro σ z2 hf
    rw [X12_copyTo_2] at hf
    refine sp_iload_n (i := 2) (q := 3) hX dX12_copyTo_2 rfl rfl rfl ?_
    refine sp_aload_n (i := 0) (q := 4) hX dX12_copyTo_3 rfl rfl rfl ?_
    refine sp_aleni (v := Int32.ofNat m0) (q := 5) hX hp0 rfl dX12_copyTo_4 rfl ?_
    refine sp_icmp_ge (tgt := 20) (q := 8) hX dX12_copyTo_5 (by decide) rfl (fun hc => ?_) (fun hc => ?_)
    · rw [if_pos hc] at hf
      exact sp_vret hX hR dX12_copyTo_20 hf (Nat.le_of_ble_eq_true rfl) (Nat.le_of_ble_eq_true rfl)
    · rw [if_neg hc] at hf
      refine sp_aload_n (i := 0) (q := 9) hX dX12_copyTo_8 rfl rfl rfl ?_
      refine sp_iload_n (i := 2) (q := 10) hX dX12_copyTo_9 rfl rfl rfl ?_
      refine sp_aload_n (i := 1) (q := 11) hX dX12_copyTo_10 rfl rfl rfl ?_
      refine sp_iload_n (i := 2) (q := 12) hX dX12_copyTo_11 rfl rfl rfl ?_
      obtain ⟨h1, hf⟩ := sp_ck_some hf
      refine sp_iald (q := 13) hX hp1 h1 dX12_copyTo_12 rfl ?_
      obtain ⟨h2, hf⟩ := sp_ck_some hf
      obtain ⟨σ3, e4, hf⟩ := sp_pl_some hf
      refine sp_iast (q := 14) hX hp0 h2 dX12_copyTo_13 rfl ?_
      refine sp_nms e4 ?_
      obtain ⟨x5, e6, hf⟩ := sp_pl_some hf
      refine sp_iinc (i := 2) (v := x5) (lv' := [some (.ref (sx_ad X p0)), some (.ref (sx_ad X p1)), some (.int x5)]) (q := 17) hX dX12_copyTo_14 rfl (by rw [e6, li_1]) (Nat.le_of_ble_eq_true rfl) rfl rfl rfl ?_
      refine sp_goto (tgt := 2) hX dX12_copyTo_17 (by decide) ?_
      exact ih σ3 x5 hf
set_option maxRecDepth 100000 in
set_option maxHeartbeats 4000000 in
theorem hX12_copyTo {X : sp_X} (hX : sp_OK shM X cX12_copyTo RX12 3 rmX12_copyTo) {τ : sp_St} (hR : sp_Rv shM X τ 0 0) {n : Nat}  {σ : sp_St} {p0 m0 : Nat} {p1 m1 : Nat} (hp0 : sp_ar shM p0 1 m0) (hp1 : sp_ar shM p1 1 m1) (hf : X12_copyTo n σ p0 m0 p1 m1 = some τ) : sp_GG shM X σ 3 [some (.ref (sx_ad X p0)), some (.ref (sx_ad X p1)), none] [] 0 0 0 := by
  unfold X12_copyTo at hf
  refine sp_iconst (v := 0) (q := 1) hX dX12_copyTo_0 li_0 rfl ?_
  obtain ⟨x1, e2, hf⟩ := sp_pl_some hf
  refine sp_nmi e2 ?_
  refine sp_istore_n (i := 2) (lv' := [some (.ref (sx_ad X p0)), some (.ref (sx_ad X p1)), some (.int x1)]) (q := 2) hX dX12_copyTo_1 rfl (Nat.le_of_ble_eq_true rfl) rfl rfl rfl ?_
  exact hX12_copyTo_2 hX hR hp0 hp1 n σ x1 hf
set_option maxRecDepth 100000 in
set_option maxHeartbeats 4000000 in
theorem cnX12_copyTo {l : Launch} (hst : l.stackTraces = false) {w : sp_Wd} {n : Nat}  {σ : sp_St} {p0 m0 : Nat} {p1 m1 : Nat} {τ : sp_St} (hp0 : sp_ar shM p0 1 m0) (hp1 : sp_ar shM p1 1 m1) (hf : X12_copyTo n σ p0 m0 p1 m1 = some τ) : sp_Cv shM l w yX12_copyTo cX12_copyTo 3 rmX12_copyTo 0 0 σ [.ref (w.2.1 p0), .ref (w.2.1 p1)] τ :=
  sp_cv (own := RX12) (by decide) rfl hst (Nat.le_of_ble_eq_true rfl) rfl (fun X hX hw hl hR => by subst hw; subst hl; exact hX12_copyTo hX hR  hp0 hp1 hf)
def rmX12_image : Room := { frames := 1, cells := 0, slots := 0, locals := 24 }
def X12_image (n : Nat)  (σ : sp_St)  : Option (sp_St) :=
  sp_pl (sp_si σ 0 3 ((0 : Int32))) fun σ1 =>
  sp_pl (sp_si σ1 0 55 ((1 : Int32))) fun σ3 =>
  sp_pl (sp_si σ3 0 56 (σ3.1 0 35)) fun σ5 =>
  sp_pl (sp_si σ5 0 57 (σ5.1 0 36)) fun σ7 =>
  sp_bv (X12_pack n σ7 37 88 ((0 : Int32))) fun σ10 =>
  sp_bv (X12_copyTo n σ10 38 3520 20 3520) fun σ12 =>
  sp_bv (X12_copyTo n σ12 39 8 29 8) fun σ14 =>
  sp_bv (X12_copyTo n σ14 40 8 30 8) fun σ16 =>
  sp_bv (X12_copyTo n σ16 41 8 31 8) fun σ18 =>
  sp_bv (X12_copyTo n σ18 42 3 12 3) fun σ20 =>
  some σ20
set_option maxRecDepth 100000 in
set_option maxHeartbeats 4000000 in
theorem hX12_image {X : sp_X} (hX : sp_OK shM X cX12_image RX12 1 rmX12_image) {τ : sp_St} (hR : sp_Rv shM X τ 0 0) {n : Nat}  {σ : sp_St}   (hf : X12_image n σ = some τ) : sp_GG shM X σ 1 [some (.ref (sx_ad X 0))] [] 0 0 0 := by
  unfold X12_image at hf
  refine sp_aload_n (i := 0) (q := 1) hX dX12_image_0 rfl rfl rfl ?_
  refine sp_iconst (v := 0) (q := 2) hX dX12_image_1 li_0 rfl ?_
  obtain ⟨σ1, e2, hf⟩ := sp_pl_some hf
  refine sp_puti (q := 5) hX fpX12_158 fkX12_3 atM_0 dX12_image_2 rfl ?_
  refine sp_nms e2 ?_
  refine sp_aload_n (i := 0) (q := 6) hX dX12_image_5 rfl rfl rfl ?_
  refine sp_iconst (v := 1) (q := 7) hX dX12_image_6 li_1 rfl ?_
  obtain ⟨σ3, e4, hf⟩ := sp_pl_some hf
  refine sp_putz (q := 10) hX fpX12_336 fkX12_55 atM_0 (by decide) dX12_image_7 rfl ?_
  refine sp_nms e4 ?_
  refine sp_aload_n (i := 0) (q := 11) hX dX12_image_10 rfl rfl rfl ?_
  refine sp_aload_n (i := 0) (q := 12) hX dX12_image_11 rfl rfl rfl ?_
  refine sp_geti (q := 15) hX flX12_330 fkX12_35 atM_0 dX12_image_12 rfl ?_
  obtain ⟨σ5, e6, hf⟩ := sp_pl_some hf
  refine sp_puti (q := 18) hX fpX12_492 fkX12_56 atM_0 dX12_image_15 rfl ?_
  refine sp_nms e6 ?_
  refine sp_aload_n (i := 0) (q := 19) hX dX12_image_18 rfl rfl rfl ?_
  refine sp_aload_n (i := 0) (q := 20) hX dX12_image_19 rfl rfl rfl ?_
  refine sp_geti (q := 23) hX flX12_333 fkX12_36 atM_0 dX12_image_20 rfl ?_
  obtain ⟨σ7, e8, hf⟩ := sp_pl_some hf
  refine sp_puti (q := 26) hX fpX12_495 fkX12_57 atM_0 dX12_image_23 rfl ?_
  refine sp_nms e8 ?_
  refine sp_aload_n (i := 0) (q := 27) hX dX12_image_26 rfl rfl rfl ?_
  refine sp_aload_n (i := 0) (q := 28) hX dX12_image_27 rfl rfl rfl ?_
  refine sp_gets (t := 37) (q := 31) hX flX12_140 fkX12_58 atM_0 srM_0_58 dX12_image_28 rfl ?_
  refine sp_iconst (v := 0) (q := 32) hX dX12_image_31 li_0 rfl ?_
  obtain ⟨σ10, h9, hf⟩ := sp_bv_so hf
  refine sp_callVv (As := [.ref (sx_ad X 37), .int ((0 : Int32))]) (rest := []) (q := 35) hX (cnX12_pack (sp_st hX) arM_37 h9) cwX12_414 atM_0 rfl rfl rfl rfl rfl (Nat.le_of_ble_eq_true rfl) (Nat.le_of_ble_eq_true rfl) (Nat.le_of_ble_eq_true rfl) (Nat.le_of_ble_eq_true rfl) (Nat.le_of_ble_eq_true rfl) dX12_image_32 rfl ?_
  refine sp_aload_n (i := 0) (q := 36) hX dX12_image_35 rfl rfl rfl ?_
  refine sp_gets (t := 38) (q := 39) hX flX12_143 fkX12_59 atM_0 srM_0_59 dX12_image_36 rfl ?_
  refine sp_aload_n (i := 0) (q := 40) hX dX12_image_39 rfl rfl rfl ?_
  refine sp_gets (t := 20) (q := 43) hX flX12_87 fkX12_32 atM_0 srM_0_32 dX12_image_40 rfl ?_
  obtain ⟨σ12, h11, hf⟩ := sp_bv_so hf
  refine sp_callSv (As := [.ref (sx_ad X 38), .ref (sx_ad X 20)]) (rest := []) (q := 46) hX (cnX12_copyTo (sp_st hX) arM_38 arM_20 h11) cwX12_498 rfl rfl rfl rfl (Nat.le_of_ble_eq_true rfl) (Nat.le_of_ble_eq_true rfl) (Nat.le_of_ble_eq_true rfl) (Nat.le_of_ble_eq_true rfl) (Nat.le_of_ble_eq_true rfl) dX12_image_43 rfl ?_
  refine sp_aload_n (i := 0) (q := 47) hX dX12_image_46 rfl rfl rfl ?_
  refine sp_gets (t := 39) (q := 50) hX flX12_146 fkX12_60 atM_0 srM_0_60 dX12_image_47 rfl ?_
  refine sp_aload_n (i := 0) (q := 51) hX dX12_image_50 rfl rfl rfl ?_
  refine sp_gets (t := 29) (q := 54) hX flX12_116 fkX12_45 atM_0 srM_0_45 dX12_image_51 rfl ?_
  obtain ⟨σ14, h13, hf⟩ := sp_bv_so hf
  refine sp_callSv (As := [.ref (sx_ad X 39), .ref (sx_ad X 29)]) (rest := []) (q := 57) hX (cnX12_copyTo (sp_st hX) arM_39 arM_29 h13) cwX12_498 rfl rfl rfl rfl (Nat.le_of_ble_eq_true rfl) (Nat.le_of_ble_eq_true rfl) (Nat.le_of_ble_eq_true rfl) (Nat.le_of_ble_eq_true rfl) (Nat.le_of_ble_eq_true rfl) dX12_image_54 rfl ?_
  refine sp_aload_n (i := 0) (q := 58) hX dX12_image_57 rfl rfl rfl ?_
  refine sp_gets (t := 40) (q := 61) hX flX12_149 fkX12_61 atM_0 srM_0_61 dX12_image_58 rfl ?_
  refine sp_aload_n (i := 0) (q := 62) hX dX12_image_61 rfl rfl rfl ?_
  refine sp_gets (t := 30) (q := 65) hX flX12_119 fkX12_46 atM_0 srM_0_46 dX12_image_62 rfl ?_
  obtain ⟨σ16, h15, hf⟩ := sp_bv_so hf
  refine sp_callSv (As := [.ref (sx_ad X 40), .ref (sx_ad X 30)]) (rest := []) (q := 68) hX (cnX12_copyTo (sp_st hX) arM_40 arM_30 h15) cwX12_498 rfl rfl rfl rfl (Nat.le_of_ble_eq_true rfl) (Nat.le_of_ble_eq_true rfl) (Nat.le_of_ble_eq_true rfl) (Nat.le_of_ble_eq_true rfl) (Nat.le_of_ble_eq_true rfl) dX12_image_65 rfl ?_
  refine sp_aload_n (i := 0) (q := 69) hX dX12_image_68 rfl rfl rfl ?_
  refine sp_gets (t := 41) (q := 72) hX flX12_152 fkX12_62 atM_0 srM_0_62 dX12_image_69 rfl ?_
  refine sp_aload_n (i := 0) (q := 73) hX dX12_image_72 rfl rfl rfl ?_
  refine sp_gets (t := 31) (q := 76) hX flX12_122 fkX12_47 atM_0 srM_0_47 dX12_image_73 rfl ?_
  obtain ⟨σ18, h17, hf⟩ := sp_bv_so hf
  refine sp_callSv (As := [.ref (sx_ad X 41), .ref (sx_ad X 31)]) (rest := []) (q := 79) hX (cnX12_copyTo (sp_st hX) arM_41 arM_31 h17) cwX12_498 rfl rfl rfl rfl (Nat.le_of_ble_eq_true rfl) (Nat.le_of_ble_eq_true rfl) (Nat.le_of_ble_eq_true rfl) (Nat.le_of_ble_eq_true rfl) (Nat.le_of_ble_eq_true rfl) dX12_image_76 rfl ?_
  refine sp_aload_n (i := 0) (q := 80) hX dX12_image_79 rfl rfl rfl ?_
  refine sp_gets (t := 42) (q := 83) hX flX12_155 fkX12_63 atM_0 srM_0_63 dX12_image_80 rfl ?_
  refine sp_aload_n (i := 0) (q := 84) hX dX12_image_83 rfl rfl rfl ?_
  refine sp_gets (t := 12) (q := 87) hX flX12_60 fkX12_13 atM_0 srM_0_13 dX12_image_84 rfl ?_
  obtain ⟨σ20, h19, hf⟩ := sp_bv_so hf
  refine sp_callSv (As := [.ref (sx_ad X 42), .ref (sx_ad X 12)]) (rest := []) (q := 90) hX (cnX12_copyTo (sp_st hX) arM_42 arM_12 h19) cwX12_498 rfl rfl rfl rfl (Nat.le_of_ble_eq_true rfl) (Nat.le_of_ble_eq_true rfl) (Nat.le_of_ble_eq_true rfl) (Nat.le_of_ble_eq_true rfl) (Nat.le_of_ble_eq_true rfl) dX12_image_87 rfl ?_
  exact sp_vret hX hR dX12_image_90 hf (Nat.le_of_ble_eq_true rfl) (Nat.le_of_ble_eq_true rfl)
set_option maxRecDepth 100000 in
set_option maxHeartbeats 4000000 in
theorem cnX12_image {l : Launch} (hst : l.stackTraces = false) {w : sp_Wd} {n : Nat}  {σ : sp_St}  {τ : sp_St}  (hf : X12_image n σ = some τ) : sp_Cv shM l w yX12_image cX12_image 1 rmX12_image 0 0 σ [.ref (w.2.1 0)] τ :=
  sp_cv (own := RX12) (by decide) rfl hst (Nat.le_of_ble_eq_true rfl) rfl (fun X hX hw hl hR => by subst hw; subst hl; exact hX12_image hX hR   hf)
def rmX12_restore : Room := { frames := 1, cells := 0, slots := 0, locals := 24 }
def X12_restore (n : Nat)  (σ : sp_St)  : Option (sp_St × Int32) :=
  sp_pl (sp_si σ 0 3 ((0 : Int32))) fun σ1 =>
  if (σ1.1 0 55) = 0 then
    some (σ1, (0 : Int32))
  else
    sp_pl (sp_si σ1 0 35 (σ1.1 0 56)) fun σ3 =>
    sp_pl (sp_si σ3 0 36 (σ3.1 0 57)) fun σ5 =>
    sp_bv (X12_unpack n σ5 37 88 ((0 : Int32))) fun σ8 =>
    sp_bv (X12_copyTo n σ8 20 3520 38 3520) fun σ10 =>
    sp_bv (X12_copyTo n σ10 29 8 39 8) fun σ12 =>
    sp_bv (X12_copyTo n σ12 30 8 40 8) fun σ14 =>
    sp_bv (X12_copyTo n σ14 31 8 41 8) fun σ16 =>
    sp_bv (X12_copyTo n σ16 12 3 42 3) fun σ18 =>
    some (σ18, (1 : Int32))
set_option maxRecDepth 100000 in
set_option maxHeartbeats 4000000 in
theorem hX12_restore {X : sp_X} (hX : sp_OK shM X cX12_restore RX12 1 rmX12_restore) {τ : sp_St} {r : Int32} (hR : sp_Ri shM X (some .boolean) τ r 0 0) {n : Nat}  {σ : sp_St}   (hf : X12_restore n σ = some (τ, r)) : sp_GG shM X σ 1 [some (.ref (sx_ad X 0))] [] 0 0 0 := by
  unfold X12_restore at hf
  refine sp_aload_n (i := 0) (q := 1) hX dX12_restore_0 rfl rfl rfl ?_
  refine sp_iconst (v := 0) (q := 2) hX dX12_restore_1 li_0 rfl ?_
  obtain ⟨σ1, e2, hf⟩ := sp_pl_some hf
  refine sp_puti (q := 5) hX fpX12_158 fkX12_3 atM_0 dX12_restore_2 rfl ?_
  refine sp_nms e2 ?_
  refine sp_aload_n (i := 0) (q := 6) hX dX12_restore_5 rfl rfl rfl ?_
  refine sp_geti (q := 9) hX flX12_336 fkX12_55 atM_0 dX12_restore_6 rfl ?_
  refine sp_if_ne (tgt := 14) (q := 12) hX dX12_restore_9 (by decide) rfl (fun hc => ?_) (fun hc => ?_)
  · rw [if_neg hc] at hf
    refine sp_aload_n (i := 0) (q := 15) hX dX12_restore_14 rfl rfl rfl ?_
    refine sp_aload_n (i := 0) (q := 16) hX dX12_restore_15 rfl rfl rfl ?_
    refine sp_geti (q := 19) hX flX12_492 fkX12_56 atM_0 dX12_restore_16 rfl ?_
    obtain ⟨σ3, e4, hf⟩ := sp_pl_some hf
    refine sp_puti (q := 22) hX fpX12_330 fkX12_35 atM_0 dX12_restore_19 rfl ?_
    refine sp_nms e4 ?_
    refine sp_aload_n (i := 0) (q := 23) hX dX12_restore_22 rfl rfl rfl ?_
    refine sp_aload_n (i := 0) (q := 24) hX dX12_restore_23 rfl rfl rfl ?_
    refine sp_geti (q := 27) hX flX12_495 fkX12_57 atM_0 dX12_restore_24 rfl ?_
    obtain ⟨σ5, e6, hf⟩ := sp_pl_some hf
    refine sp_puti (q := 30) hX fpX12_333 fkX12_36 atM_0 dX12_restore_27 rfl ?_
    refine sp_nms e6 ?_
    refine sp_aload_n (i := 0) (q := 31) hX dX12_restore_30 rfl rfl rfl ?_
    refine sp_aload_n (i := 0) (q := 32) hX dX12_restore_31 rfl rfl rfl ?_
    refine sp_gets (t := 37) (q := 35) hX flX12_140 fkX12_58 atM_0 srM_0_58 dX12_restore_32 rfl ?_
    refine sp_iconst (v := 0) (q := 36) hX dX12_restore_35 li_0 rfl ?_
    obtain ⟨σ8, h7, hf⟩ := sp_bv_so hf
    refine sp_callVv (As := [.ref (sx_ad X 37), .int ((0 : Int32))]) (rest := []) (q := 39) hX (cnX12_unpack (sp_st hX) arM_37 h7) cwX12_432 atM_0 rfl rfl rfl rfl rfl (Nat.le_of_ble_eq_true rfl) (Nat.le_of_ble_eq_true rfl) (Nat.le_of_ble_eq_true rfl) (Nat.le_of_ble_eq_true rfl) (Nat.le_of_ble_eq_true rfl) dX12_restore_36 rfl ?_
    refine sp_aload_n (i := 0) (q := 40) hX dX12_restore_39 rfl rfl rfl ?_
    refine sp_gets (t := 20) (q := 43) hX flX12_87 fkX12_32 atM_0 srM_0_32 dX12_restore_40 rfl ?_
    refine sp_aload_n (i := 0) (q := 44) hX dX12_restore_43 rfl rfl rfl ?_
    refine sp_gets (t := 38) (q := 47) hX flX12_143 fkX12_59 atM_0 srM_0_59 dX12_restore_44 rfl ?_
    obtain ⟨σ10, h9, hf⟩ := sp_bv_so hf
    refine sp_callSv (As := [.ref (sx_ad X 20), .ref (sx_ad X 38)]) (rest := []) (q := 50) hX (cnX12_copyTo (sp_st hX) arM_20 arM_38 h9) cwX12_498 rfl rfl rfl rfl (Nat.le_of_ble_eq_true rfl) (Nat.le_of_ble_eq_true rfl) (Nat.le_of_ble_eq_true rfl) (Nat.le_of_ble_eq_true rfl) (Nat.le_of_ble_eq_true rfl) dX12_restore_47 rfl ?_
    refine sp_aload_n (i := 0) (q := 51) hX dX12_restore_50 rfl rfl rfl ?_
    refine sp_gets (t := 29) (q := 54) hX flX12_116 fkX12_45 atM_0 srM_0_45 dX12_restore_51 rfl ?_
    refine sp_aload_n (i := 0) (q := 55) hX dX12_restore_54 rfl rfl rfl ?_
    refine sp_gets (t := 39) (q := 58) hX flX12_146 fkX12_60 atM_0 srM_0_60 dX12_restore_55 rfl ?_
    obtain ⟨σ12, h11, hf⟩ := sp_bv_so hf
    refine sp_callSv (As := [.ref (sx_ad X 29), .ref (sx_ad X 39)]) (rest := []) (q := 61) hX (cnX12_copyTo (sp_st hX) arM_29 arM_39 h11) cwX12_498 rfl rfl rfl rfl (Nat.le_of_ble_eq_true rfl) (Nat.le_of_ble_eq_true rfl) (Nat.le_of_ble_eq_true rfl) (Nat.le_of_ble_eq_true rfl) (Nat.le_of_ble_eq_true rfl) dX12_restore_58 rfl ?_
    refine sp_aload_n (i := 0) (q := 62) hX dX12_restore_61 rfl rfl rfl ?_
    refine sp_gets (t := 30) (q := 65) hX flX12_119 fkX12_46 atM_0 srM_0_46 dX12_restore_62 rfl ?_
    refine sp_aload_n (i := 0) (q := 66) hX dX12_restore_65 rfl rfl rfl ?_
    refine sp_gets (t := 40) (q := 69) hX flX12_149 fkX12_61 atM_0 srM_0_61 dX12_restore_66 rfl ?_
    obtain ⟨σ14, h13, hf⟩ := sp_bv_so hf
    refine sp_callSv (As := [.ref (sx_ad X 30), .ref (sx_ad X 40)]) (rest := []) (q := 72) hX (cnX12_copyTo (sp_st hX) arM_30 arM_40 h13) cwX12_498 rfl rfl rfl rfl (Nat.le_of_ble_eq_true rfl) (Nat.le_of_ble_eq_true rfl) (Nat.le_of_ble_eq_true rfl) (Nat.le_of_ble_eq_true rfl) (Nat.le_of_ble_eq_true rfl) dX12_restore_69 rfl ?_
    refine sp_aload_n (i := 0) (q := 73) hX dX12_restore_72 rfl rfl rfl ?_
    refine sp_gets (t := 31) (q := 76) hX flX12_122 fkX12_47 atM_0 srM_0_47 dX12_restore_73 rfl ?_
    refine sp_aload_n (i := 0) (q := 77) hX dX12_restore_76 rfl rfl rfl ?_
    refine sp_gets (t := 41) (q := 80) hX flX12_152 fkX12_62 atM_0 srM_0_62 dX12_restore_77 rfl ?_
    obtain ⟨σ16, h15, hf⟩ := sp_bv_so hf
    refine sp_callSv (As := [.ref (sx_ad X 31), .ref (sx_ad X 41)]) (rest := []) (q := 83) hX (cnX12_copyTo (sp_st hX) arM_31 arM_41 h15) cwX12_498 rfl rfl rfl rfl (Nat.le_of_ble_eq_true rfl) (Nat.le_of_ble_eq_true rfl) (Nat.le_of_ble_eq_true rfl) (Nat.le_of_ble_eq_true rfl) (Nat.le_of_ble_eq_true rfl) dX12_restore_80 rfl ?_
    refine sp_aload_n (i := 0) (q := 84) hX dX12_restore_83 rfl rfl rfl ?_
    refine sp_gets (t := 12) (q := 87) hX flX12_60 fkX12_13 atM_0 srM_0_13 dX12_restore_84 rfl ?_
    refine sp_aload_n (i := 0) (q := 88) hX dX12_restore_87 rfl rfl rfl ?_
    refine sp_gets (t := 42) (q := 91) hX flX12_155 fkX12_63 atM_0 srM_0_63 dX12_restore_88 rfl ?_
    obtain ⟨σ18, h17, hf⟩ := sp_bv_so hf
    refine sp_callSv (As := [.ref (sx_ad X 12), .ref (sx_ad X 42)]) (rest := []) (q := 94) hX (cnX12_copyTo (sp_st hX) arM_12 arM_42 h17) cwX12_498 rfl rfl rfl rfl (Nat.le_of_ble_eq_true rfl) (Nat.le_of_ble_eq_true rfl) (Nat.le_of_ble_eq_true rfl) (Nat.le_of_ble_eq_true rfl) (Nat.le_of_ble_eq_true rfl) dX12_restore_91 rfl ?_
    refine sp_iconst (v := 1) (q := 95) hX dX12_restore_94 li_1 rfl ?_
    exact sp_zret hX hR (by decide) dX12_restore_95 hf (Nat.le_of_ble_eq_true rfl) (Nat.le_of_ble_eq_true rfl)
  · rw [if_pos hc] at hf
    refine sp_iconst (v := 0) (q := 13) hX dX12_restore_12 li_0 rfl ?_
    exact sp_zret hX hR (by decide) dX12_restore_13 hf (Nat.le_of_ble_eq_true rfl) (Nat.le_of_ble_eq_true rfl)
set_option maxRecDepth 100000 in
set_option maxHeartbeats 4000000 in
theorem cnX12_restore {l : Launch} (hst : l.stackTraces = false) {w : sp_Wd} {n : Nat}  {σ : sp_St}  {τ : sp_St} {r : Int32}  (hf : X12_restore n σ = some (τ, r)) : sp_Ci shM l w yX12_restore cX12_restore 1 (some .boolean) rmX12_restore 0 0 σ [.ref (w.2.1 0)] τ r :=
  sp_ci (own := RX12) (by decide) rfl hst (Nat.le_of_ble_eq_true rfl) rfl (fun X hX hw hl hR => by subst hw; subst hl; exact hX12_restore hX hR   hf)
