def rmX12_make : Room := { frames := 2, cells := 0, slots := 0, locals := 45 }
def X12_make_44 (n : Nat) (σ : sp_St) : Option (sp_St × Int32) :=
  sp_pl (sp_sa σ 12 ((1 : Int32)).toNatClampNeg ((sp_g σ 12 ((1 : Int32))) + ((1 : Int32)))) fun σ1 =>
  some (σ1, (0 : Int32))
def X12_make_19 (n : Nat) (σ : sp_St) : Option (sp_St × Int32) :=
  sp_bd (X12_failing n σ ((1 : Int32))) fun σ2 v3 =>
  sp_ck (sp_zb v3) <|
  some (σ2, v3)
def X12_make (n : Nat)  (σ : sp_St) (a1 : Int32) (a2 : Int32) (a3 : Int32) : Option (sp_St × Int32) :=
  sp_pl (sp_si σ 0 3 ((0 : Int32))) fun σ1 =>
  sp_bd (X12_isHouse n σ1 a1) fun σ4 v5 =>
  if v5 = 0 then
    X12_make_19 n σ4
  else
    sp_bd (X12_isHouse n σ4 a2) fun σ7 v8 =>
    if v8 = 0 then
      X12_make_19 n σ7
    else
      if a1 = a2 then
        X12_make_44 n σ7
      else
        sp_ck (sp_in a1 6) <|
        sp_bd (X12_isOf n σ7 (sp_g σ7 19 a1) a2) fun σ11 v12 =>
        if v12 = a3 then
          X12_make_44 n σ11
        else
          sp_bv (X12_keep n σ11) fun σ14 =>
          sp_ck (sp_in a1 6) <|
          sp_ck (sp_in a1 6) <|
          sp_pl (sp_sa σ14 19 a1.toNatClampNeg ((sp_g σ14 19 a1) ^^^ (((1 : Int32)) <<< (a2 &&& 31)))) fun σ17 =>
          sp_ck (sp_in a2 6) <|
          sp_ck (sp_in a2 6) <|
          sp_pl (sp_sa σ17 19 a2.toNatClampNeg ((sp_g σ17 19 a2) ^^^ (((1 : Int32)) <<< (a1 &&& 31)))) fun σ21 =>
          some (σ21, (1 : Int32))
set_option maxRecDepth 100000 in
set_option maxHeartbeats 4000000 in
theorem hX12_make_44 {X : sp_X} (hX : sp_OK shM X cX12_make RX12 4 rmX12_make) {τ : sp_St} {r : Int32} (hR : sp_Ri shM X (some .boolean) τ r 0 0) {n : Nat}    {σ : sp_St} (hf : X12_make_44 n σ = some (τ, r)) : sp_GG shM X σ 4 [some (.ref (sx_ad X 0)), none, none, none] [] 44 0 0 := by
  unfold X12_make_44 at hf
  refine sp_aload_n (i := 0) (q := 45) hX dX12_make_44 rfl rfl rfl ?_
  refine sp_gets (t := 12) (q := 48) hX flX12_60 fkX12_13 atM_0 srM_0_13 dX12_make_45 rfl ?_
  refine sp_iconst (v := 1) (q := 49) hX dX12_make_48 li_1 rfl ?_
  refine sp_dup2 (q := 50) hX dX12_make_49 rfl rfl rfl ?_
  refine sp_iald (q := 51) hX arM_12 (by decide) dX12_make_50 rfl ?_
  refine sp_iconst (v := 1) (q := 52) hX dX12_make_51 li_1 rfl ?_
  refine sp_iadd (q := 53) hX dX12_make_52 rfl ?_
  obtain ⟨σ1, e2, hf⟩ := sp_pl_some hf
  refine sp_iast (q := 54) hX arM_12 (by decide) dX12_make_53 rfl ?_
  refine sp_nms e2 ?_
  refine sp_iconst (v := 0) (q := 55) hX dX12_make_54 li_0 rfl ?_
  exact sp_zret hX hR (by decide) dX12_make_55 hf (Nat.le_of_ble_eq_true rfl) (Nat.le_of_ble_eq_true rfl)
set_option maxRecDepth 100000 in
set_option maxHeartbeats 4000000 in
theorem hX12_make_19 {X : sp_X} (hX : sp_OK shM X cX12_make RX12 4 rmX12_make) {τ : sp_St} {r : Int32} (hR : sp_Ri shM X (some .boolean) τ r 0 0) {n : Nat}    {σ : sp_St} (hf : X12_make_19 n σ = some (τ, r)) : sp_GG shM X σ 4 [some (.ref (sx_ad X 0)), none, none, none] [] 19 0 0 := by
  unfold X12_make_19 at hf
  refine sp_aload_n (i := 0) (q := 20) hX dX12_make_19 rfl rfl rfl ?_
  refine sp_iconst (v := 1) (q := 21) hX dX12_make_20 li_1 rfl ?_
  obtain ⟨σ2, v3, h1, hf⟩ := sp_bd_so hf
  refine sp_callVi (As := [.int ((1 : Int32))]) (rest := []) (q := 24) hX (cnX12_failing (sp_st hX)  h1) cwX12_411 atM_0 rfl rfl rfl rfl rfl (Nat.le_of_ble_eq_true rfl) (Nat.le_of_ble_eq_true rfl) (Nat.le_of_ble_eq_true rfl) (Nat.le_of_ble_eq_true rfl) (Nat.le_of_ble_eq_true rfl) dX12_make_21 rfl ?_
  obtain ⟨h4, hf⟩ := sp_ck_some hf
  exact sp_zret hX hR h4 dX12_make_24 hf (Nat.le_of_ble_eq_true rfl) (Nat.le_of_ble_eq_true rfl)
set_option maxRecDepth 100000 in
set_option maxHeartbeats 4000000 in
theorem hX12_make {X : sp_X} (hX : sp_OK shM X cX12_make RX12 4 rmX12_make) {τ : sp_St} {r : Int32} (hR : sp_Ri shM X (some .boolean) τ r 0 0) {n : Nat}  {σ : sp_St} {a1 : Int32} {a2 : Int32} {a3 : Int32}  (hf : X12_make n σ a1 a2 a3 = some (τ, r)) : sp_GG shM X σ 4 [some (.ref (sx_ad X 0)), some (.int a1), some (.int a2), some (.int a3)] [] 0 0 0 := by
  unfold X12_make at hf
  refine sp_aload_n (i := 0) (q := 1) hX dX12_make_0 rfl rfl rfl ?_
  refine sp_iconst (v := 0) (q := 2) hX dX12_make_1 li_0 rfl ?_
  obtain ⟨σ1, e2, hf⟩ := sp_pl_some hf
  refine sp_puti (q := 5) hX fpX12_158 fkX12_3 atM_0 dX12_make_2 rfl ?_
  refine sp_nms e2 ?_
  refine sp_iload_n (i := 1) (q := 6) hX dX12_make_5 rfl rfl rfl ?_
  obtain ⟨σ4, v5, h3, hf⟩ := sp_bd_so hf
  refine sp_callSi (As := [.int a1]) (rest := []) (q := 9) hX (cnX12_isHouse (sp_st hX)  h3) cwX12_408 rfl rfl rfl rfl (Nat.le_of_ble_eq_true rfl) (Nat.le_of_ble_eq_true rfl) (Nat.le_of_ble_eq_true rfl) (Nat.le_of_ble_eq_true rfl) (Nat.le_of_ble_eq_true rfl) dX12_make_6 rfl ?_
  refine sp_if_eq (tgt := 19) (q := 12) hX dX12_make_9 (by decide) rfl (fun hc => ?_) (fun hc => ?_)
  · rw [if_pos hc] at hf
    refine sp_drop (lv' := [some (.ref (sx_ad X 0)), none, none, none]) (And.intro rfl trivial) ?_
    exact hX12_make_19 hX hR hf
  · rw [if_neg hc] at hf
    refine sp_iload_n (i := 2) (q := 13) hX dX12_make_12 rfl rfl rfl ?_
    obtain ⟨σ7, v8, h6, hf⟩ := sp_bd_so hf
    refine sp_callSi (As := [.int a2]) (rest := []) (q := 16) hX (cnX12_isHouse (sp_st hX)  h6) cwX12_408 rfl rfl rfl rfl (Nat.le_of_ble_eq_true rfl) (Nat.le_of_ble_eq_true rfl) (Nat.le_of_ble_eq_true rfl) (Nat.le_of_ble_eq_true rfl) (Nat.le_of_ble_eq_true rfl) dX12_make_13 rfl ?_
    refine sp_if_ne (tgt := 25) (q := 19) hX dX12_make_16 (by decide) rfl (fun hc => ?_) (fun hc => ?_)
    · rw [if_neg hc] at hf
      refine sp_iload_n (i := 1) (q := 26) hX dX12_make_25 rfl rfl rfl ?_
      refine sp_iload_n (i := 2) (q := 27) hX dX12_make_26 rfl rfl rfl ?_
      refine sp_icmp_eq (tgt := 44) (q := 30) hX dX12_make_27 (by decide) rfl (fun hc => ?_) (fun hc => ?_)
      · rw [if_pos hc] at hf
        refine sp_drop (lv' := [some (.ref (sx_ad X 0)), none, none, none]) (And.intro rfl trivial) ?_
        exact hX12_make_44 hX hR hf
      · rw [if_neg hc] at hf
        refine sp_aload_n (i := 0) (q := 31) hX dX12_make_30 rfl rfl rfl ?_
        refine sp_gets (t := 19) (q := 34) hX flX12_84 fkX12_31 atM_0 srM_0_31 dX12_make_31 rfl ?_
        refine sp_iload_n (i := 1) (q := 35) hX dX12_make_34 rfl rfl rfl ?_
        obtain ⟨h9, hf⟩ := sp_ck_some hf
        refine sp_iald (q := 36) hX arM_19 h9 dX12_make_35 rfl ?_
        refine sp_iload_n (i := 2) (q := 37) hX dX12_make_36 rfl rfl rfl ?_
        obtain ⟨σ11, v12, h10, hf⟩ := sp_bd_so hf
        refine sp_callSi (As := [.int (sp_g σ7 19 a1), .int a2]) (rest := []) (q := 40) hX (cnX12_isOf (sp_st hX)  h10) cwX12_284 rfl rfl rfl rfl (Nat.le_of_ble_eq_true rfl) (Nat.le_of_ble_eq_true rfl) (Nat.le_of_ble_eq_true rfl) (Nat.le_of_ble_eq_true rfl) (Nat.le_of_ble_eq_true rfl) dX12_make_37 rfl ?_
        refine sp_iload_n (i := 3) (q := 41) hX dX12_make_40 rfl rfl rfl ?_
        refine sp_icmp_ne (tgt := 56) (q := 44) hX dX12_make_41 (by decide) rfl (fun hc => ?_) (fun hc => ?_)
        · rw [if_neg hc] at hf
          refine sp_aload_n (i := 0) (q := 57) hX dX12_make_56 rfl rfl rfl ?_
          obtain ⟨σ14, h13, hf⟩ := sp_bv_so hf
          refine sp_callVv (As := []) (rest := []) (q := 60) hX (cnX12_keep (sp_st hX)  h13) cwX12_423 atM_0 rfl rfl rfl rfl rfl (Nat.le_of_ble_eq_true rfl) (Nat.le_of_ble_eq_true rfl) (Nat.le_of_ble_eq_true rfl) (Nat.le_of_ble_eq_true rfl) (Nat.le_of_ble_eq_true rfl) dX12_make_57 rfl ?_
          refine sp_aload_n (i := 0) (q := 61) hX dX12_make_60 rfl rfl rfl ?_
          refine sp_gets (t := 19) (q := 64) hX flX12_84 fkX12_31 atM_0 srM_0_31 dX12_make_61 rfl ?_
          refine sp_iload_n (i := 1) (q := 65) hX dX12_make_64 rfl rfl rfl ?_
          refine sp_dup2 (q := 66) hX dX12_make_65 rfl rfl rfl ?_
          obtain ⟨h15, hf⟩ := sp_ck_some hf
          refine sp_iald (q := 67) hX arM_19 h15 dX12_make_66 rfl ?_
          refine sp_iconst (v := 1) (q := 68) hX dX12_make_67 li_1 rfl ?_
          refine sp_iload_n (i := 2) (q := 69) hX dX12_make_68 rfl rfl rfl ?_
          refine sp_ishl (q := 70) hX dX12_make_69 rfl ?_
          refine sp_ixor (q := 71) hX dX12_make_70 rfl ?_
          obtain ⟨h16, hf⟩ := sp_ck_some hf
          obtain ⟨σ17, e18, hf⟩ := sp_pl_some hf
          refine sp_iast (q := 72) hX arM_19 h16 dX12_make_71 rfl ?_
          refine sp_nms e18 ?_
          refine sp_aload_n (i := 0) (q := 73) hX dX12_make_72 rfl rfl rfl ?_
          refine sp_gets (t := 19) (q := 76) hX flX12_84 fkX12_31 atM_0 srM_0_31 dX12_make_73 rfl ?_
          refine sp_iload_n (i := 2) (q := 77) hX dX12_make_76 rfl rfl rfl ?_
          refine sp_dup2 (q := 78) hX dX12_make_77 rfl rfl rfl ?_
          obtain ⟨h19, hf⟩ := sp_ck_some hf
          refine sp_iald (q := 79) hX arM_19 h19 dX12_make_78 rfl ?_
          refine sp_iconst (v := 1) (q := 80) hX dX12_make_79 li_1 rfl ?_
          refine sp_iload_n (i := 1) (q := 81) hX dX12_make_80 rfl rfl rfl ?_
          refine sp_ishl (q := 82) hX dX12_make_81 rfl ?_
          refine sp_ixor (q := 83) hX dX12_make_82 rfl ?_
          obtain ⟨h20, hf⟩ := sp_ck_some hf
          obtain ⟨σ21, e22, hf⟩ := sp_pl_some hf
          refine sp_iast (q := 84) hX arM_19 h20 dX12_make_83 rfl ?_
          refine sp_nms e22 ?_
          refine sp_iconst (v := 1) (q := 85) hX dX12_make_84 li_1 rfl ?_
          exact sp_zret hX hR (by decide) dX12_make_85 hf (Nat.le_of_ble_eq_true rfl) (Nat.le_of_ble_eq_true rfl)
        · rw [if_pos hc] at hf
          refine sp_drop (lv' := [some (.ref (sx_ad X 0)), none, none, none]) (And.intro rfl trivial) ?_
          exact hX12_make_44 hX hR hf
    · rw [if_pos hc] at hf
      refine sp_drop (lv' := [some (.ref (sx_ad X 0)), none, none, none]) (And.intro rfl trivial) ?_
      exact hX12_make_19 hX hR hf
set_option maxRecDepth 100000 in
set_option maxHeartbeats 4000000 in
theorem cnX12_make {l : Launch} (hst : l.stackTraces = false) {w : sp_Wd} {n : Nat}  {σ : sp_St} {a1 : Int32} {a2 : Int32} {a3 : Int32} {τ : sp_St} {r : Int32}  (hf : X12_make n σ a1 a2 a3 = some (τ, r)) : sp_Ci shM l w yX12_make cX12_make 4 (some .boolean) rmX12_make 0 0 σ [.ref (w.2.1 0), .int a1, .int a2, .int a3] τ r :=
  sp_ci (own := RX12) (by decide) rfl hst (Nat.le_of_ble_eq_true rfl) rfl (fun X hX hw hl hR => by subst hw; subst hl; exact hX12_make hX hR   hf)
def rmX12_undo : Room := { frames := 1, cells := 0, slots := 0, locals := 24 }
def X12_undo (n : Nat)  (σ : sp_St)  : Option (sp_St × Int32) :=
  sp_pl (sp_si σ 0 3 ((0 : Int32))) fun σ1 =>
  if (σ1.1 0 35) = 0 then
    some (σ1, (-1 : Int32))
  else
    sp_pl (sp_si σ1 0 35 ((σ1.1 0 35) - ((1 : Int32)))) fun σ3 =>
    sp_bv (X12_unpack n σ3 20 3520 (((88 : Int32)) * (σ3.1 0 35))) fun σ6 =>
    some (σ6, σ6.1 0 35)
set_option maxRecDepth 100000 in
set_option maxHeartbeats 4000000 in
theorem hX12_undo {X : sp_X} (hX : sp_OK shM X cX12_undo RX12 1 rmX12_undo) {τ : sp_St} {r : Int32} (hR : sp_Ri shM X (some .int) τ r 0 0) {n : Nat}  {σ : sp_St}   (hf : X12_undo n σ = some (τ, r)) : sp_GG shM X σ 1 [some (.ref (sx_ad X 0))] [] 0 0 0 := by
  unfold X12_undo at hf
  refine sp_aload_n (i := 0) (q := 1) hX dX12_undo_0 rfl rfl rfl ?_
  refine sp_iconst (v := 0) (q := 2) hX dX12_undo_1 li_0 rfl ?_
  obtain ⟨σ1, e2, hf⟩ := sp_pl_some hf
  refine sp_puti (q := 5) hX fpX12_158 fkX12_3 atM_0 dX12_undo_2 rfl ?_
  refine sp_nms e2 ?_
  refine sp_aload_n (i := 0) (q := 6) hX dX12_undo_5 rfl rfl rfl ?_
  refine sp_geti (q := 9) hX flX12_330 fkX12_35 atM_0 dX12_undo_6 rfl ?_
  refine sp_if_ne (tgt := 14) (q := 12) hX dX12_undo_9 (by decide) rfl (fun hc => ?_) (fun hc => ?_)
  · rw [if_neg hc] at hf
    refine sp_aload_n (i := 0) (q := 15) hX dX12_undo_14 rfl rfl rfl ?_
    refine sp_dup (q := 16) hX dX12_undo_15 rfl rfl ?_
    refine sp_geti (q := 19) hX flX12_330 fkX12_35 atM_0 dX12_undo_16 rfl ?_
    refine sp_iconst (v := 1) (q := 20) hX dX12_undo_19 li_1 rfl ?_
    refine sp_isub (q := 21) hX dX12_undo_20 rfl ?_
    obtain ⟨σ3, e4, hf⟩ := sp_pl_some hf
    refine sp_puti (q := 24) hX fpX12_330 fkX12_35 atM_0 dX12_undo_21 rfl ?_
    refine sp_nms e4 ?_
    refine sp_aload_n (i := 0) (q := 25) hX dX12_undo_24 rfl rfl rfl ?_
    refine sp_aload_n (i := 0) (q := 26) hX dX12_undo_25 rfl rfl rfl ?_
    refine sp_gets (t := 20) (q := 29) hX flX12_87 fkX12_32 atM_0 srM_0_32 dX12_undo_26 rfl ?_
    refine sp_bipush (v := 88) (q := 31) hX dX12_undo_29 lb_88 rfl ?_
    refine sp_aload_n (i := 0) (q := 32) hX dX12_undo_31 rfl rfl rfl ?_
    refine sp_geti (q := 35) hX flX12_330 fkX12_35 atM_0 dX12_undo_32 rfl ?_
    refine sp_imul (q := 36) hX dX12_undo_35 rfl ?_
    obtain ⟨σ6, h5, hf⟩ := sp_bv_so hf
    refine sp_callVv (As := [.ref (sx_ad X 20), .int (((88 : Int32)) * (σ3.1 0 35))]) (rest := []) (q := 39) hX (cnX12_unpack (sp_st hX) arM_20 h5) cwX12_432 atM_0 rfl rfl rfl rfl rfl (Nat.le_of_ble_eq_true rfl) (Nat.le_of_ble_eq_true rfl) (Nat.le_of_ble_eq_true rfl) (Nat.le_of_ble_eq_true rfl) (Nat.le_of_ble_eq_true rfl) dX12_undo_36 rfl ?_
    refine sp_aload_n (i := 0) (q := 40) hX dX12_undo_39 rfl rfl rfl ?_
    refine sp_geti (q := 43) hX flX12_330 fkX12_35 atM_0 dX12_undo_40 rfl ?_
    exact sp_iret hX hR dX12_undo_43 hf (Nat.le_of_ble_eq_true rfl) (Nat.le_of_ble_eq_true rfl)
  · rw [if_pos hc] at hf
    refine sp_iconst (v := -1) (q := 13) hX dX12_undo_12 li_m1 rfl ?_
    exact sp_iret hX hR dX12_undo_13 hf (Nat.le_of_ble_eq_true rfl) (Nat.le_of_ble_eq_true rfl)
set_option maxRecDepth 100000 in
set_option maxHeartbeats 4000000 in
theorem cnX12_undo {l : Launch} (hst : l.stackTraces = false) {w : sp_Wd} {n : Nat}  {σ : sp_St}  {τ : sp_St} {r : Int32}  (hf : X12_undo n σ = some (τ, r)) : sp_Ci shM l w yX12_undo cX12_undo 1 (some .int) rmX12_undo 0 0 σ [.ref (w.2.1 0)] τ r :=
  sp_ci (own := RX12) (by decide) rfl hst (Nat.le_of_ble_eq_true rfl) rfl (fun X hX hw hl hR => by subst hw; subst hl; exact hX12_undo hX hR   hf)
def rmX12_then : Room := { frames := 7, cells := 0, slots := 0, locals := 154 }
def X12_then_79 (n : Nat) (σ : sp_St) (zs0 : Int32) : Option (sp_St × Int32) :=
  sp_bv (X12_unpack n σ 25 88 ((0 : Int32))) fun σ2 =>
  some (σ2, zs0)
def X12_then_22 (n : Nat) (σ : sp_St) : Option (sp_St × Int32) :=
  sp_bd (X12_fail n σ ((1 : Int32))) fun σ2 v3 =>
  some (σ2, v3)
def X12_then (n : Nat)  (σ : sp_St) (a1 : Int32) (a2 : Int32) (a3 : Int32) : Option (sp_St × Int32) :=
  sp_pl (sp_si σ 0 3 ((0 : Int32))) fun σ1 =>
  sp_bd (X12_isBlade n σ1 a1) fun σ4 v5 =>
  if v5 = 0 then
    X12_then_22 n σ4
  else
    if a3 < 0 then
      X12_then_22 n σ4
    else
      if a3 ≤ ((1 : Int32)) then
        sp_bd (X12_isIn n σ4 a2.toInt64 ((0 : Int64)) ((60 : Int64))) fun σ7 v8 =>
        if v8 = 0 then
          sp_bd (X12_fail n σ7 ((2 : Int32))) fun σ16 v17 =>
          some (σ16, v17)
        else
          sp_bv (X12_pack n σ7 25 88 ((0 : Int32))) fun σ10 =>
          sp_bv (X12_goOn n σ10 a2) fun σ12 =>
          if a3 = 0 then
            sp_ck (sp_in a1 10) <|
            X12_then_79 n σ12 (sp_g σ12 14 a1)
          else
            sp_ck (sp_in a1 10) <|
            X12_then_79 n σ12 (sp_g σ12 15 a1)
      else
        X12_then_22 n σ4
set_option maxRecDepth 100000 in
set_option maxHeartbeats 4000000 in
theorem hX12_then_79 {X : sp_X} (hX : sp_OK shM X cX12_then RX12 5 rmX12_then) {τ : sp_St} {r : Int32} (hR : sp_Ri shM X (some .int) τ r 0 0) {n : Nat}    {σ : sp_St} {zs0 : Int32} (hf : X12_then_79 n σ zs0 = some (τ, r)) : sp_GG shM X σ 5 [some (.ref (sx_ad X 0)), none, none, none, none] [.int zs0] 79 0 0 := by
  unfold X12_then_79 at hf
  refine sp_istore (i := 4) (lv' := [some (.ref (sx_ad X 0)), none, none, none, some (.int zs0)]) (q := 81) hX dX12_then_79 (Nat.le_of_ble_eq_true rfl) rfl rfl rfl ?_
  refine sp_aload_n (i := 0) (q := 82) hX dX12_then_81 rfl rfl rfl ?_
  refine sp_aload_n (i := 0) (q := 83) hX dX12_then_82 rfl rfl rfl ?_
  refine sp_gets (t := 25) (q := 86) hX flX12_102 fkX12_41 atM_0 srM_0_41 dX12_then_83 rfl ?_
  refine sp_iconst (v := 0) (q := 87) hX dX12_then_86 li_0 rfl ?_
  obtain ⟨σ2, h1, hf⟩ := sp_bv_so hf
  refine sp_callVv (As := [.ref (sx_ad X 25), .int ((0 : Int32))]) (rest := []) (q := 90) hX (cnX12_unpack (sp_st hX) arM_25 h1) cwX12_432 atM_0 rfl rfl rfl rfl rfl (Nat.le_of_ble_eq_true rfl) (Nat.le_of_ble_eq_true rfl) (Nat.le_of_ble_eq_true rfl) (Nat.le_of_ble_eq_true rfl) (Nat.le_of_ble_eq_true rfl) dX12_then_87 rfl ?_
  refine sp_iload (i := 4) (q := 92) hX dX12_then_90 rfl rfl ?_
  exact sp_iret hX hR dX12_then_92 hf (Nat.le_of_ble_eq_true rfl) (Nat.le_of_ble_eq_true rfl)
set_option maxRecDepth 100000 in
set_option maxHeartbeats 4000000 in
theorem hX12_then_22 {X : sp_X} (hX : sp_OK shM X cX12_then RX12 5 rmX12_then) {τ : sp_St} {r : Int32} (hR : sp_Ri shM X (some .int) τ r 0 0) {n : Nat}    {σ : sp_St} (hf : X12_then_22 n σ = some (τ, r)) : sp_GG shM X σ 5 [some (.ref (sx_ad X 0)), none, none, none, none] [] 22 0 0 := by
  unfold X12_then_22 at hf
  refine sp_aload_n (i := 0) (q := 23) hX dX12_then_22 rfl rfl rfl ?_
  refine sp_iconst (v := 1) (q := 24) hX dX12_then_23 li_1 rfl ?_
  obtain ⟨σ2, v3, h1, hf⟩ := sp_bd_so hf
  refine sp_callVi (As := [.int ((1 : Int32))]) (rest := []) (q := 27) hX (cnX12_fail (sp_st hX)  h1) cwX12_312 atM_0 rfl rfl rfl rfl rfl (Nat.le_of_ble_eq_true rfl) (Nat.le_of_ble_eq_true rfl) (Nat.le_of_ble_eq_true rfl) (Nat.le_of_ble_eq_true rfl) (Nat.le_of_ble_eq_true rfl) dX12_then_24 rfl ?_
  exact sp_iret hX hR dX12_then_27 hf (Nat.le_of_ble_eq_true rfl) (Nat.le_of_ble_eq_true rfl)
set_option maxRecDepth 100000 in
set_option maxHeartbeats 4000000 in
theorem hX12_then {X : sp_X} (hX : sp_OK shM X cX12_then RX12 5 rmX12_then) {τ : sp_St} {r : Int32} (hR : sp_Ri shM X (some .int) τ r 0 0) {n : Nat}  {σ : sp_St} {a1 : Int32} {a2 : Int32} {a3 : Int32}  (hf : X12_then n σ a1 a2 a3 = some (τ, r)) : sp_GG shM X σ 5 [some (.ref (sx_ad X 0)), some (.int a1), some (.int a2), some (.int a3), none] [] 0 0 0 := by
  unfold X12_then at hf
  refine sp_aload_n (i := 0) (q := 1) hX dX12_then_0 rfl rfl rfl ?_
  refine sp_iconst (v := 0) (q := 2) hX dX12_then_1 li_0 rfl ?_
  obtain ⟨σ1, e2, hf⟩ := sp_pl_some hf
  refine sp_puti (q := 5) hX fpX12_158 fkX12_3 atM_0 dX12_then_2 rfl ?_
  refine sp_nms e2 ?_
  refine sp_aload_n (i := 0) (q := 6) hX dX12_then_5 rfl rfl rfl ?_
  refine sp_iload_n (i := 1) (q := 7) hX dX12_then_6 rfl rfl rfl ?_
  obtain ⟨σ4, v5, h3, hf⟩ := sp_bd_so hf
  refine sp_callVi (As := [.int a1]) (rest := []) (q := 10) hX (cnX12_isBlade (sp_st hX)  h3) cwX12_399 atM_0 rfl rfl rfl rfl rfl (Nat.le_of_ble_eq_true rfl) (Nat.le_of_ble_eq_true rfl) (Nat.le_of_ble_eq_true rfl) (Nat.le_of_ble_eq_true rfl) (Nat.le_of_ble_eq_true rfl) dX12_then_7 rfl ?_
  refine sp_if_eq (tgt := 22) (q := 13) hX dX12_then_10 (by decide) rfl (fun hc => ?_) (fun hc => ?_)
  · rw [if_pos hc] at hf
    refine sp_drop (lv' := [some (.ref (sx_ad X 0)), none, none, none, none]) (And.intro rfl trivial) ?_
    exact hX12_then_22 hX hR hf
  · rw [if_neg hc] at hf
    refine sp_iload_n (i := 3) (q := 14) hX dX12_then_13 rfl rfl rfl ?_
    refine sp_if_lt (tgt := 22) (q := 17) hX dX12_then_14 (by decide) rfl (fun hc => ?_) (fun hc => ?_)
    · rw [if_pos hc] at hf
      refine sp_drop (lv' := [some (.ref (sx_ad X 0)), none, none, none, none]) (And.intro rfl trivial) ?_
      exact hX12_then_22 hX hR hf
    · rw [if_neg hc] at hf
      refine sp_iload_n (i := 3) (q := 18) hX dX12_then_17 rfl rfl rfl ?_
      refine sp_iconst (v := 1) (q := 19) hX dX12_then_18 li_1 rfl ?_
      refine sp_icmp_le (tgt := 28) (q := 22) hX dX12_then_19 (by decide) rfl (fun hc => ?_) (fun hc => ?_)
      · rw [if_pos hc] at hf
        refine sp_iload_n (i := 2) (q := 29) hX dX12_then_28 rfl rfl rfl ?_
        refine sp_i2l (q := 30) hX dX12_then_29 rfl ?_
        refine sp_lconst (v := 0) (q := 31) hX dX12_then_30 (by decide) rfl ?_
        refine sp_ldc2 (v := 60) (q := 34) hX wd_2097 dX12_then_31 rfl ?_
        obtain ⟨σ7, v8, h6, hf⟩ := sp_bd_so hf
        refine sp_callSi (As := [.long a2.toInt64, .long ((0 : Int64)), .long ((60 : Int64))]) (rest := []) (q := 37) hX (cnX12_isIn (sp_st hX)  h6) cwX12_161 rfl rfl rfl rfl (Nat.le_of_ble_eq_true rfl) (Nat.le_of_ble_eq_true rfl) (Nat.le_of_ble_eq_true rfl) (Nat.le_of_ble_eq_true rfl) (Nat.le_of_ble_eq_true rfl) dX12_then_34 rfl ?_
        refine sp_if_ne (tgt := 46) (q := 40) hX dX12_then_37 (by decide) rfl (fun hc => ?_) (fun hc => ?_)
        · rw [if_neg hc] at hf
          refine sp_aload_n (i := 0) (q := 47) hX dX12_then_46 rfl rfl rfl ?_
          refine sp_aload_n (i := 0) (q := 48) hX dX12_then_47 rfl rfl rfl ?_
          refine sp_gets (t := 25) (q := 51) hX flX12_102 fkX12_41 atM_0 srM_0_41 dX12_then_48 rfl ?_
          refine sp_iconst (v := 0) (q := 52) hX dX12_then_51 li_0 rfl ?_
          obtain ⟨σ10, h9, hf⟩ := sp_bv_so hf
          refine sp_callVv (As := [.ref (sx_ad X 25), .int ((0 : Int32))]) (rest := []) (q := 55) hX (cnX12_pack (sp_st hX) arM_25 h9) cwX12_414 atM_0 rfl rfl rfl rfl rfl (Nat.le_of_ble_eq_true rfl) (Nat.le_of_ble_eq_true rfl) (Nat.le_of_ble_eq_true rfl) (Nat.le_of_ble_eq_true rfl) (Nat.le_of_ble_eq_true rfl) dX12_then_52 rfl ?_
          refine sp_aload_n (i := 0) (q := 56) hX dX12_then_55 rfl rfl rfl ?_
          refine sp_iload_n (i := 2) (q := 57) hX dX12_then_56 rfl rfl rfl ?_
          obtain ⟨σ12, h11, hf⟩ := sp_bv_so hf
          refine sp_callVv (As := [.int a2]) (rest := []) (q := 60) hX (cnX12_goOn (sp_st hX)  h11) cwX12_426 atM_0 rfl rfl rfl rfl rfl (Nat.le_of_ble_eq_true rfl) (Nat.le_of_ble_eq_true rfl) (Nat.le_of_ble_eq_true rfl) (Nat.le_of_ble_eq_true rfl) (Nat.le_of_ble_eq_true rfl) dX12_then_57 rfl ?_
          refine sp_iload_n (i := 3) (q := 61) hX dX12_then_60 rfl rfl rfl ?_
          refine sp_if_ne (tgt := 73) (q := 64) hX dX12_then_61 (by decide) rfl (fun hc => ?_) (fun hc => ?_)
          · rw [if_neg hc] at hf
            refine sp_aload_n (i := 0) (q := 74) hX dX12_then_73 rfl rfl rfl ?_
            refine sp_gets (t := 15) (q := 77) hX flX12_72 fkX12_27 atM_0 srM_0_27 dX12_then_74 rfl ?_
            refine sp_iload_n (i := 1) (q := 78) hX dX12_then_77 rfl rfl rfl ?_
            obtain ⟨h13, hf⟩ := sp_ck_some hf
            refine sp_iald (q := 79) hX arM_15 h13 dX12_then_78 rfl ?_
            refine sp_drop (lv' := [some (.ref (sx_ad X 0)), none, none, none, none]) (And.intro rfl trivial) ?_
            exact hX12_then_79 hX hR hf
          · rw [if_pos hc] at hf
            refine sp_aload_n (i := 0) (q := 65) hX dX12_then_64 rfl rfl rfl ?_
            refine sp_gets (t := 14) (q := 68) hX flX12_70 fkX12_26 atM_0 srM_0_26 dX12_then_65 rfl ?_
            refine sp_iload_n (i := 1) (q := 69) hX dX12_then_68 rfl rfl rfl ?_
            obtain ⟨h14, hf⟩ := sp_ck_some hf
            refine sp_iald (q := 70) hX arM_14 h14 dX12_then_69 rfl ?_
            refine sp_goto (tgt := 79) hX dX12_then_70 (by decide) ?_
            refine sp_drop (lv' := [some (.ref (sx_ad X 0)), none, none, none, none]) (And.intro rfl trivial) ?_
            exact hX12_then_79 hX hR hf
        · rw [if_pos hc] at hf
          refine sp_aload_n (i := 0) (q := 41) hX dX12_then_40 rfl rfl rfl ?_
          refine sp_iconst (v := 2) (q := 42) hX dX12_then_41 li_2 rfl ?_
          obtain ⟨σ16, v17, h15, hf⟩ := sp_bd_so hf
          refine sp_callVi (As := [.int ((2 : Int32))]) (rest := []) (q := 45) hX (cnX12_fail (sp_st hX)  h15) cwX12_312 atM_0 rfl rfl rfl rfl rfl (Nat.le_of_ble_eq_true rfl) (Nat.le_of_ble_eq_true rfl) (Nat.le_of_ble_eq_true rfl) (Nat.le_of_ble_eq_true rfl) (Nat.le_of_ble_eq_true rfl) dX12_then_42 rfl ?_
          exact sp_iret hX hR dX12_then_45 hf (Nat.le_of_ble_eq_true rfl) (Nat.le_of_ble_eq_true rfl)
      · rw [if_neg hc] at hf
        refine sp_drop (lv' := [some (.ref (sx_ad X 0)), none, none, none, none]) (And.intro rfl trivial) ?_
        exact hX12_then_22 hX hR hf
set_option maxRecDepth 100000 in
set_option maxHeartbeats 4000000 in
theorem cnX12_then {l : Launch} (hst : l.stackTraces = false) {w : sp_Wd} {n : Nat}  {σ : sp_St} {a1 : Int32} {a2 : Int32} {a3 : Int32} {τ : sp_St} {r : Int32}  (hf : X12_then n σ a1 a2 a3 = some (τ, r)) : sp_Ci shM l w yX12_then cX12_then 5 (some .int) rmX12_then 0 0 σ [.ref (w.2.1 0), .int a1, .int a2, .int a3] τ r :=
  sp_ci (own := RX12) (by decide) rfl hst (Nat.le_of_ble_eq_true rfl) rfl (fun X hX hw hl hR => by subst hw; subst hl; exact hX12_then hX hR   hf)
def rmX12_peaceOf : Room := { frames := 6, cells := 0, slots := 0, locals := 132 }
def X12_peaceOf_53 (n : Nat) (σ : sp_St) (z2 : Int32) : Option (sp_St × Int32) :=
  sp_bv (X12_unpack n σ 26 88 ((0 : Int32))) fun σ2 =>
  some (σ2, z2)
def X12_peaceOf_47 (n : Nat) (k20 : sp_St → Int32 → Int32 → Int32 → Option (sp_St × Int32)) (σ : sp_St) (z1 : Int32) (z2 : Int32) (z3 : Int32) : Option (sp_St × Int32) :=
  sp_pl (z3 + 1) fun x1 =>
  k20 σ z1 z2 x1
def X12_peaceOf_20 (n : Nat) : Nat → sp_St → Int32 → Int32 → Int32 → Option (sp_St × Int32)
  | 0, _, _, _, _ => none
  | f + 1, σ, z1, z2, z3 =>
    if ((60 : Int32)) < z3 then
      X12_peaceOf_53 n σ z2
    else
      if z2 = ((1000 : Int32)) then
        sp_bv (X12_aDay n σ) fun σ2 =>
        if (σ2.1 0 34) ≤ z1 then
          X12_peaceOf_47 n (X12_peaceOf_20 n f) σ2 z1 z2 z3
        else
          X12_peaceOf_47 n (X12_peaceOf_20 n f) σ2 z1 z3 z3
      else
        X12_peaceOf_53 n σ z2
def X12_peaceOf (n : Nat)  (σ : sp_St)  : Option (sp_St × Int32) :=
  sp_bv (X12_pack n σ 26 88 ((0 : Int32))) fun σ2 =>
  sp_pl (σ2.1 0 34) fun x3 =>
  sp_pl ((1000 : Int32)) fun x5 =>
  sp_pl ((1 : Int32)) fun x7 =>
  X12_peaceOf_20 n n σ2 x3 x5 x7
set_option maxRecDepth 100000 in
set_option maxHeartbeats 4000000 in
theorem hX12_peaceOf_53 {X : sp_X} (hX : sp_OK shM X cX12_peaceOf RX12 4 rmX12_peaceOf) {τ : sp_St} {r : Int32} (hR : sp_Ri shM X (some .int) τ r 0 0) {n : Nat}    {σ : sp_St} {z2 : Int32} (hf : X12_peaceOf_53 n σ z2 = some (τ, r)) : sp_GG shM X σ 4 [some (.ref (sx_ad X 0)), none, some (.int z2), none] [] 53 0 0 := by
  unfold X12_peaceOf_53 at hf
  refine sp_aload_n (i := 0) (q := 54) hX dX12_peaceOf_53 rfl rfl rfl ?_
  refine sp_aload_n (i := 0) (q := 55) hX dX12_peaceOf_54 rfl rfl rfl ?_
  refine sp_gets (t := 26) (q := 58) hX flX12_105 fkX12_42 atM_0 srM_0_42 dX12_peaceOf_55 rfl ?_
  refine sp_iconst (v := 0) (q := 59) hX dX12_peaceOf_58 li_0 rfl ?_
  obtain ⟨σ2, h1, hf⟩ := sp_bv_so hf
  refine sp_callVv (As := [.ref (sx_ad X 26), .int ((0 : Int32))]) (rest := []) (q := 62) hX (cnX12_unpack (sp_st hX) arM_26 h1) cwX12_432 atM_0 rfl rfl rfl rfl rfl (Nat.le_of_ble_eq_true rfl) (Nat.le_of_ble_eq_true rfl) (Nat.le_of_ble_eq_true rfl) (Nat.le_of_ble_eq_true rfl) (Nat.le_of_ble_eq_true rfl) dX12_peaceOf_59 rfl ?_
  refine sp_iload_n (i := 2) (q := 63) hX dX12_peaceOf_62 rfl rfl rfl ?_
  exact sp_iret hX hR dX12_peaceOf_63 hf (Nat.le_of_ble_eq_true rfl) (Nat.le_of_ble_eq_true rfl)
set_option maxRecDepth 100000 in
set_option maxHeartbeats 4000000 in
theorem hX12_peaceOf_47 {X : sp_X} (hX : sp_OK shM X cX12_peaceOf RX12 4 rmX12_peaceOf) {τ : sp_St} {r : Int32} (hR : sp_Ri shM X (some .int) τ r 0 0) {n : Nat}   {k20 : sp_St → Int32 → Int32 → Int32 → Option (sp_St × Int32)} (hk20 : ∀ (σ : sp_St) (z1 : Int32) (z2 : Int32) (z3 : Int32), k20 σ z1 z2 z3 = some (τ, r) → sp_GG shM X σ 4 [some (.ref (sx_ad X 0)), some (.int z1), some (.int z2), some (.int z3)] [] 20 0 0) {σ : sp_St} {z1 : Int32} {z2 : Int32} {z3 : Int32} (hf : X12_peaceOf_47 n k20 σ z1 z2 z3 = some (τ, r)) : sp_GG shM X σ 4 [some (.ref (sx_ad X 0)), some (.int z1), some (.int z2), some (.int z3)] [] 47 0 0 := by
  unfold X12_peaceOf_47 at hf
  obtain ⟨x1, e2, hf⟩ := sp_pl_some hf
  refine sp_iinc (i := 3) (v := x1) (lv' := [some (.ref (sx_ad X 0)), some (.int z1), some (.int z2), some (.int x1)]) (q := 50) hX dX12_peaceOf_47 rfl (by rw [e2, li_1]) (Nat.le_of_ble_eq_true rfl) rfl rfl rfl ?_
  refine sp_goto (tgt := 20) hX dX12_peaceOf_50 (by decide) ?_
  exact hk20 σ z1 z2 x1 hf
set_option maxRecDepth 100000 in
set_option maxHeartbeats 4000000 in
theorem hX12_peaceOf_20 {X : sp_X} (hX : sp_OK shM X cX12_peaceOf RX12 4 rmX12_peaceOf) {τ : sp_St} {r : Int32} (hR : sp_Ri shM X (some .int) τ r 0 0) {n : Nat}    : ∀ (f : Nat) (σ : sp_St) (z1 : Int32) (z2 : Int32) (z3 : Int32), X12_peaceOf_20 n f σ z1 z2 z3 = some (τ, r) → sp_GG shM X σ 4 [some (.ref (sx_ad X 0)), some (.int z1), some (.int z2), some (.int z3)] [] 20 0 0 := by
  intro f
  induction f with
  | zero =>
    intro σ z1 z2 z3 hf
    rw [X12_peaceOf_20] at hf
    cases hf
  | succ f ih =>
    intro σ z1 z2 z3 hf
    rw [X12_peaceOf_20] at hf
    refine sp_iload_n (i := 3) (q := 21) hX dX12_peaceOf_20 rfl rfl rfl ?_
    refine sp_bipush (v := 60) (q := 23) hX dX12_peaceOf_21 lb_60 rfl ?_
    refine sp_icmp_gt (tgt := 53) (q := 26) hX dX12_peaceOf_23 (by decide) rfl (fun hc => ?_) (fun hc => ?_)
    · rw [if_pos hc] at hf
      refine sp_drop (lv' := [some (.ref (sx_ad X 0)), none, some (.int z2), none]) (And.intro rfl (And.intro rfl trivial)) ?_
      exact hX12_peaceOf_53 hX hR hf
    · rw [if_neg hc] at hf
      refine sp_iload_n (i := 2) (q := 27) hX dX12_peaceOf_26 rfl rfl rfl ?_
      refine sp_sipush (v := 1000) (q := 30) hX dX12_peaceOf_27 ls_1000 rfl ?_
      refine sp_icmp_ne (tgt := 53) (q := 33) hX dX12_peaceOf_30 (by decide) rfl (fun hc => ?_) (fun hc => ?_)
      · rw [if_neg hc] at hf
        refine sp_drop (lv' := [some (.ref (sx_ad X 0)), none, some (.int z2), none]) (And.intro rfl (And.intro rfl trivial)) ?_
        exact hX12_peaceOf_53 hX hR hf
      · rw [if_pos hc] at hf
        refine sp_aload_n (i := 0) (q := 34) hX dX12_peaceOf_33 rfl rfl rfl ?_
        obtain ⟨σ2, h1, hf⟩ := sp_bv_so hf
        refine sp_callVv (As := []) (rest := []) (q := 37) hX (cnX12_aDay (sp_st hX)  h1) cwX12_393 atM_0 rfl rfl rfl rfl rfl (Nat.le_of_ble_eq_true rfl) (Nat.le_of_ble_eq_true rfl) (Nat.le_of_ble_eq_true rfl) (Nat.le_of_ble_eq_true rfl) (Nat.le_of_ble_eq_true rfl) dX12_peaceOf_34 rfl ?_
        refine sp_aload_n (i := 0) (q := 38) hX dX12_peaceOf_37 rfl rfl rfl ?_
        refine sp_geti (q := 41) hX flX12_327 fkX12_34 atM_0 dX12_peaceOf_38 rfl ?_
        refine sp_iload_n (i := 1) (q := 42) hX dX12_peaceOf_41 rfl rfl rfl ?_
        refine sp_icmp_le (tgt := 47) (q := 45) hX dX12_peaceOf_42 (by decide) rfl (fun hc => ?_) (fun hc => ?_)
        · rw [if_pos hc] at hf
          exact hX12_peaceOf_47 hX hR ih hf
        · rw [if_neg hc] at hf
          refine sp_iload_n (i := 3) (q := 46) hX dX12_peaceOf_45 rfl rfl rfl ?_
          refine sp_istore_n (i := 2) (lv' := [some (.ref (sx_ad X 0)), some (.int z1), some (.int z3), some (.int z3)]) (q := 47) hX dX12_peaceOf_46 rfl (Nat.le_of_ble_eq_true rfl) rfl rfl rfl ?_
          exact hX12_peaceOf_47 hX hR ih hf
set_option maxRecDepth 100000 in
set_option maxHeartbeats 4000000 in
theorem hX12_peaceOf {X : sp_X} (hX : sp_OK shM X cX12_peaceOf RX12 4 rmX12_peaceOf) {τ : sp_St} {r : Int32} (hR : sp_Ri shM X (some .int) τ r 0 0) {n : Nat}  {σ : sp_St}   (hf : X12_peaceOf n σ = some (τ, r)) : sp_GG shM X σ 4 [some (.ref (sx_ad X 0)), none, none, none] [] 0 0 0 := by
  unfold X12_peaceOf at hf
  refine sp_aload_n (i := 0) (q := 1) hX dX12_peaceOf_0 rfl rfl rfl ?_
  refine sp_aload_n (i := 0) (q := 2) hX dX12_peaceOf_1 rfl rfl rfl ?_
  refine sp_gets (t := 26) (q := 5) hX flX12_105 fkX12_42 atM_0 srM_0_42 dX12_peaceOf_2 rfl ?_
  refine sp_iconst (v := 0) (q := 6) hX dX12_peaceOf_5 li_0 rfl ?_
  obtain ⟨σ2, h1, hf⟩ := sp_bv_so hf
  refine sp_callVv (As := [.ref (sx_ad X 26), .int ((0 : Int32))]) (rest := []) (q := 9) hX (cnX12_pack (sp_st hX) arM_26 h1) cwX12_414 atM_0 rfl rfl rfl rfl rfl (Nat.le_of_ble_eq_true rfl) (Nat.le_of_ble_eq_true rfl) (Nat.le_of_ble_eq_true rfl) (Nat.le_of_ble_eq_true rfl) (Nat.le_of_ble_eq_true rfl) dX12_peaceOf_6 rfl ?_
  refine sp_aload_n (i := 0) (q := 10) hX dX12_peaceOf_9 rfl rfl rfl ?_
  refine sp_geti (q := 13) hX flX12_327 fkX12_34 atM_0 dX12_peaceOf_10 rfl ?_
  obtain ⟨x3, e4, hf⟩ := sp_pl_some hf
  refine sp_nmi e4 ?_
  refine sp_istore_n (i := 1) (lv' := [some (.ref (sx_ad X 0)), some (.int x3), none, none]) (q := 14) hX dX12_peaceOf_13 rfl (Nat.le_of_ble_eq_true rfl) rfl rfl rfl ?_
  refine sp_sipush (v := 1000) (q := 17) hX dX12_peaceOf_14 ls_1000 rfl ?_
  obtain ⟨x5, e6, hf⟩ := sp_pl_some hf
  refine sp_nmi e6 ?_
  refine sp_istore_n (i := 2) (lv' := [some (.ref (sx_ad X 0)), some (.int x3), some (.int x5), none]) (q := 18) hX dX12_peaceOf_17 rfl (Nat.le_of_ble_eq_true rfl) rfl rfl rfl ?_
  refine sp_iconst (v := 1) (q := 19) hX dX12_peaceOf_18 li_1 rfl ?_
  obtain ⟨x7, e8, hf⟩ := sp_pl_some hf
  refine sp_nmi e8 ?_
  refine sp_istore_n (i := 3) (lv' := [some (.ref (sx_ad X 0)), some (.int x3), some (.int x5), some (.int x7)]) (q := 20) hX dX12_peaceOf_19 rfl (Nat.le_of_ble_eq_true rfl) rfl rfl rfl ?_
  exact hX12_peaceOf_20 hX hR n σ2 x3 x5 x7 hf
set_option maxRecDepth 100000 in
set_option maxHeartbeats 4000000 in
theorem cnX12_peaceOf {l : Launch} (hst : l.stackTraces = false) {w : sp_Wd} {n : Nat}  {σ : sp_St}  {τ : sp_St} {r : Int32}  (hf : X12_peaceOf n σ = some (τ, r)) : sp_Ci shM l w yX12_peaceOf cX12_peaceOf 4 (some .int) rmX12_peaceOf 0 0 σ [.ref (w.2.1 0)] τ r :=
  sp_ci (own := RX12) (by decide) rfl hst (Nat.le_of_ble_eq_true rfl) rfl (fun X hX hw hl hR => by subst hw; subst hl; exact hX12_peaceOf hX hR   hf)
def rmX12_peace : Room := { frames := 7, cells := 0, slots := 0, locals := 155 }
def X12_peace (n : Nat)  (σ : sp_St)  : Option (sp_St × Int32) :=
  sp_pl (sp_si σ 0 3 ((0 : Int32))) fun σ1 =>
  sp_bd (X12_peaceOf n σ1) fun σ4 v5 =>
  sp_pl (if v5 = ((1000 : Int32)) then ((-1 : Int32)) else v5) fun v6 =>
  some (σ4, v6)
set_option maxRecDepth 100000 in
set_option maxHeartbeats 4000000 in
theorem hX12_peace {X : sp_X} (hX : sp_OK shM X cX12_peace RX12 2 rmX12_peace) {τ : sp_St} {r : Int32} (hR : sp_Ri shM X (some .int) τ r 0 0) {n : Nat}  {σ : sp_St}   (hf : X12_peace n σ = some (τ, r)) : sp_GG shM X σ 2 [some (.ref (sx_ad X 0)), none] [] 0 0 0 := by
  unfold X12_peace at hf
  refine sp_aload_n (i := 0) (q := 1) hX dX12_peace_0 rfl rfl rfl ?_
  refine sp_iconst (v := 0) (q := 2) hX dX12_peace_1 li_0 rfl ?_
  obtain ⟨σ1, e2, hf⟩ := sp_pl_some hf
  refine sp_puti (q := 5) hX fpX12_158 fkX12_3 atM_0 dX12_peace_2 rfl ?_
  refine sp_nms e2 ?_
  refine sp_aload_n (i := 0) (q := 6) hX dX12_peace_5 rfl rfl rfl ?_
  obtain ⟨σ4, v5, h3, hf⟩ := sp_bd_so hf
  refine sp_callVi (As := []) (rest := []) (q := 9) hX (cnX12_peaceOf (sp_st hX)  h3) cwX12_437 atM_0 rfl rfl rfl rfl rfl (Nat.le_of_ble_eq_true rfl) (Nat.le_of_ble_eq_true rfl) (Nat.le_of_ble_eq_true rfl) (Nat.le_of_ble_eq_true rfl) (Nat.le_of_ble_eq_true rfl) dX12_peace_6 rfl ?_
  refine sp_istore_n (i := 1) (lv' := [some (.ref (sx_ad X 0)), some (.int v5)]) (q := 10) hX dX12_peace_9 rfl (Nat.le_of_ble_eq_true rfl) rfl rfl rfl ?_
  refine sp_iload_n (i := 1) (q := 11) hX dX12_peace_10 rfl rfl rfl ?_
  refine sp_sipush (v := 1000) (q := 14) hX dX12_peace_11 ls_1000 rfl ?_
  obtain ⟨v6, e7, hf⟩ := sp_pl_some hf
  have hj8 : sp_GG shM X σ4 2 [some (.ref (sx_ad X 0)), some (.int v5)] [.int v6] 22 0 0 := by
    exact sp_iret hX hR dX12_peace_22 hf (Nat.le_of_ble_eq_true rfl) (Nat.le_of_ble_eq_true rfl)
  refine sp_icmp_ne (tgt := 21) (q := 17) hX dX12_peace_14 (by decide) rfl (fun hc => ?_) (fun hc => ?_)
  · refine sp_iload_n (i := 1) (q := 22) hX dX12_peace_21 rfl rfl rfl ?_
    exact sp_nmi (by rw [e7, if_neg hc]) hj8
  · refine sp_iconst (v := -1) (q := 18) hX dX12_peace_17 li_m1 rfl ?_
    refine sp_goto (tgt := 22) hX dX12_peace_18 (by decide) ?_
    exact sp_nmi (by rw [e7, if_pos hc]) hj8
set_option maxRecDepth 100000 in
set_option maxHeartbeats 4000000 in
theorem cnX12_peace {l : Launch} (hst : l.stackTraces = false) {w : sp_Wd} {n : Nat}  {σ : sp_St}  {τ : sp_St} {r : Int32}  (hf : X12_peace n σ = some (τ, r)) : sp_Ci shM l w yX12_peace cX12_peace 2 (some .int) rmX12_peace 0 0 σ [.ref (w.2.1 0)] τ r :=
  sp_ci (own := RX12) (by decide) rfl hst (Nat.le_of_ble_eq_true rfl) rfl (fun X hX hw hl hR => by subst hw; subst hl; exact hX12_peace hX hR   hf)
def rmX12_fights : Room := { frames := 7, cells := 0, slots := 0, locals := 154 }
def X12_fights (n : Nat)  (σ : sp_St) (a1 : Int32) : Option (sp_St × Int32) :=
  sp_pl (sp_si σ 0 3 ((0 : Int32))) fun σ1 =>
  sp_bd (X12_isIn n σ1 a1.toInt64 ((0 : Int64)) ((60 : Int64))) fun σ4 v5 =>
  if v5 = 0 then
    sp_bd (X12_fail n σ4 ((1 : Int32))) fun σ17 v18 =>
    some (σ17, v18)
  else
    sp_bv (X12_pack n σ4 25 88 ((0 : Int32))) fun σ7 =>
    sp_pl (σ7.1 0 34) fun x8 =>
    sp_bv (X12_goOn n σ7 a1) fun σ11 =>
    sp_pl ((σ11.1 0 34) - x8) fun x12 =>
    sp_bv (X12_unpack n σ11 25 88 ((0 : Int32))) fun σ15 =>
    some (σ15, x12)
set_option maxRecDepth 100000 in
set_option maxHeartbeats 4000000 in
theorem hX12_fights {X : sp_X} (hX : sp_OK shM X cX12_fights RX12 4 rmX12_fights) {τ : sp_St} {r : Int32} (hR : sp_Ri shM X (some .int) τ r 0 0) {n : Nat}  {σ : sp_St} {a1 : Int32}  (hf : X12_fights n σ a1 = some (τ, r)) : sp_GG shM X σ 4 [some (.ref (sx_ad X 0)), some (.int a1), none, none] [] 0 0 0 := by
  unfold X12_fights at hf
  refine sp_aload_n (i := 0) (q := 1) hX dX12_fights_0 rfl rfl rfl ?_
  refine sp_iconst (v := 0) (q := 2) hX dX12_fights_1 li_0 rfl ?_
  obtain ⟨σ1, e2, hf⟩ := sp_pl_some hf
  refine sp_puti (q := 5) hX fpX12_158 fkX12_3 atM_0 dX12_fights_2 rfl ?_
  refine sp_nms e2 ?_
  refine sp_iload_n (i := 1) (q := 6) hX dX12_fights_5 rfl rfl rfl ?_
  refine sp_i2l (q := 7) hX dX12_fights_6 rfl ?_
  refine sp_lconst (v := 0) (q := 8) hX dX12_fights_7 (by decide) rfl ?_
  refine sp_ldc2 (v := 60) (q := 11) hX wd_2097 dX12_fights_8 rfl ?_
  obtain ⟨σ4, v5, h3, hf⟩ := sp_bd_so hf
  refine sp_callSi (As := [.long a1.toInt64, .long ((0 : Int64)), .long ((60 : Int64))]) (rest := []) (q := 14) hX (cnX12_isIn (sp_st hX)  h3) cwX12_161 rfl rfl rfl rfl (Nat.le_of_ble_eq_true rfl) (Nat.le_of_ble_eq_true rfl) (Nat.le_of_ble_eq_true rfl) (Nat.le_of_ble_eq_true rfl) (Nat.le_of_ble_eq_true rfl) dX12_fights_11 rfl ?_
  refine sp_if_ne (tgt := 23) (q := 17) hX dX12_fights_14 (by decide) rfl (fun hc => ?_) (fun hc => ?_)
  · rw [if_neg hc] at hf
    refine sp_aload_n (i := 0) (q := 24) hX dX12_fights_23 rfl rfl rfl ?_
    refine sp_aload_n (i := 0) (q := 25) hX dX12_fights_24 rfl rfl rfl ?_
    refine sp_gets (t := 25) (q := 28) hX flX12_102 fkX12_41 atM_0 srM_0_41 dX12_fights_25 rfl ?_
    refine sp_iconst (v := 0) (q := 29) hX dX12_fights_28 li_0 rfl ?_
    obtain ⟨σ7, h6, hf⟩ := sp_bv_so hf
    refine sp_callVv (As := [.ref (sx_ad X 25), .int ((0 : Int32))]) (rest := []) (q := 32) hX (cnX12_pack (sp_st hX) arM_25 h6) cwX12_414 atM_0 rfl rfl rfl rfl rfl (Nat.le_of_ble_eq_true rfl) (Nat.le_of_ble_eq_true rfl) (Nat.le_of_ble_eq_true rfl) (Nat.le_of_ble_eq_true rfl) (Nat.le_of_ble_eq_true rfl) dX12_fights_29 rfl ?_
    refine sp_aload_n (i := 0) (q := 33) hX dX12_fights_32 rfl rfl rfl ?_
    refine sp_geti (q := 36) hX flX12_327 fkX12_34 atM_0 dX12_fights_33 rfl ?_
    obtain ⟨x8, e9, hf⟩ := sp_pl_some hf
    refine sp_nmi e9 ?_
    refine sp_istore_n (i := 2) (lv' := [some (.ref (sx_ad X 0)), some (.int a1), some (.int x8), none]) (q := 37) hX dX12_fights_36 rfl (Nat.le_of_ble_eq_true rfl) rfl rfl rfl ?_
    refine sp_aload_n (i := 0) (q := 38) hX dX12_fights_37 rfl rfl rfl ?_
    refine sp_iload_n (i := 1) (q := 39) hX dX12_fights_38 rfl rfl rfl ?_
    obtain ⟨σ11, h10, hf⟩ := sp_bv_so hf
    refine sp_callVv (As := [.int a1]) (rest := []) (q := 42) hX (cnX12_goOn (sp_st hX)  h10) cwX12_426 atM_0 rfl rfl rfl rfl rfl (Nat.le_of_ble_eq_true rfl) (Nat.le_of_ble_eq_true rfl) (Nat.le_of_ble_eq_true rfl) (Nat.le_of_ble_eq_true rfl) (Nat.le_of_ble_eq_true rfl) dX12_fights_39 rfl ?_
    refine sp_aload_n (i := 0) (q := 43) hX dX12_fights_42 rfl rfl rfl ?_
    refine sp_geti (q := 46) hX flX12_327 fkX12_34 atM_0 dX12_fights_43 rfl ?_
    refine sp_iload_n (i := 2) (q := 47) hX dX12_fights_46 rfl rfl rfl ?_
    refine sp_isub (q := 48) hX dX12_fights_47 rfl ?_
    obtain ⟨x12, e13, hf⟩ := sp_pl_some hf
    refine sp_nmi e13 ?_
    refine sp_istore_n (i := 3) (lv' := [some (.ref (sx_ad X 0)), some (.int a1), some (.int x8), some (.int x12)]) (q := 49) hX dX12_fights_48 rfl (Nat.le_of_ble_eq_true rfl) rfl rfl rfl ?_
    refine sp_aload_n (i := 0) (q := 50) hX dX12_fights_49 rfl rfl rfl ?_
    refine sp_aload_n (i := 0) (q := 51) hX dX12_fights_50 rfl rfl rfl ?_
    refine sp_gets (t := 25) (q := 54) hX flX12_102 fkX12_41 atM_0 srM_0_41 dX12_fights_51 rfl ?_
    refine sp_iconst (v := 0) (q := 55) hX dX12_fights_54 li_0 rfl ?_
    obtain ⟨σ15, h14, hf⟩ := sp_bv_so hf
    refine sp_callVv (As := [.ref (sx_ad X 25), .int ((0 : Int32))]) (rest := []) (q := 58) hX (cnX12_unpack (sp_st hX) arM_25 h14) cwX12_432 atM_0 rfl rfl rfl rfl rfl (Nat.le_of_ble_eq_true rfl) (Nat.le_of_ble_eq_true rfl) (Nat.le_of_ble_eq_true rfl) (Nat.le_of_ble_eq_true rfl) (Nat.le_of_ble_eq_true rfl) dX12_fights_55 rfl ?_
    refine sp_iload_n (i := 3) (q := 59) hX dX12_fights_58 rfl rfl rfl ?_
    exact sp_iret hX hR dX12_fights_59 hf (Nat.le_of_ble_eq_true rfl) (Nat.le_of_ble_eq_true rfl)
  · rw [if_pos hc] at hf
    refine sp_aload_n (i := 0) (q := 18) hX dX12_fights_17 rfl rfl rfl ?_
    refine sp_iconst (v := 1) (q := 19) hX dX12_fights_18 li_1 rfl ?_
    obtain ⟨σ17, v18, h16, hf⟩ := sp_bd_so hf
    refine sp_callVi (As := [.int ((1 : Int32))]) (rest := []) (q := 22) hX (cnX12_fail (sp_st hX)  h16) cwX12_312 atM_0 rfl rfl rfl rfl rfl (Nat.le_of_ble_eq_true rfl) (Nat.le_of_ble_eq_true rfl) (Nat.le_of_ble_eq_true rfl) (Nat.le_of_ble_eq_true rfl) (Nat.le_of_ble_eq_true rfl) dX12_fights_19 rfl ?_
    exact sp_iret hX hR dX12_fights_22 hf (Nat.le_of_ble_eq_true rfl) (Nat.le_of_ble_eq_true rfl)
set_option maxRecDepth 100000 in
set_option maxHeartbeats 4000000 in
theorem cnX12_fights {l : Launch} (hst : l.stackTraces = false) {w : sp_Wd} {n : Nat}  {σ : sp_St} {a1 : Int32} {τ : sp_St} {r : Int32}  (hf : X12_fights n σ a1 = some (τ, r)) : sp_Ci shM l w yX12_fights cX12_fights 4 (some .int) rmX12_fights 0 0 σ [.ref (w.2.1 0), .int a1] τ r :=
  sp_ci (own := RX12) (by decide) rfl hst (Nat.le_of_ble_eq_true rfl) rfl (fun X hX hw hl hR => by subst hw; subst hl; exact hX12_fights hX hR   hf)
def rmX12_rests : Room := { frames := 6, cells := 0, slots := 0, locals := 132 }
def X12_rests_65 (n : Nat) (σ : sp_St) (z2 : Int32) : Option (sp_St × Int32) :=
  sp_bv (X12_unpack n σ 25 88 ((0 : Int32))) fun σ2 =>
  some (σ2, z2)
def X12_rests_55 (n : Nat) (k32 : sp_St → Int32 → Int32 → Int32 → Option (sp_St × Int32)) (σ : sp_St) (z1 : Int32) (z2 : Int32) (z3 : Int32) : Option (sp_St × Int32) :=
  sp_bv (X12_aDay n σ) fun σ2 =>
  sp_pl (z3 + 1) fun x3 =>
  k32 σ2 z1 z2 x3
def X12_rests_32 (n : Nat) : Nat → sp_St → Int32 → Int32 → Int32 → Option (sp_St × Int32)
  | 0, _, _, _, _ => none
  | f + 1, σ, z1, z2, z3 =>
    if ((60 : Int32)) < z3 then
      X12_rests_65 n σ z2
    else
      if z2 = ((-1 : Int32)) then
        sp_ck (sp_in z1 10) <|
        if (sp_g σ 15 z1) = ((2 : Int32)) then
          X12_rests_55 n (X12_rests_32 n f) σ z1 z3 z3
        else
          X12_rests_55 n (X12_rests_32 n f) σ z1 z2 z3
      else
        X12_rests_65 n σ z2
def X12_rests (n : Nat)  (σ : sp_St) (a1 : Int32) : Option (sp_St × Int32) :=
  sp_pl (sp_si σ 0 3 ((0 : Int32))) fun σ1 =>
  sp_bd (X12_isBlade n σ1 a1) fun σ4 v5 =>
  if v5 = 0 then
    sp_bd (X12_fail n σ4 ((1 : Int32))) fun σ13 v14 =>
    some (σ13, v14)
  else
    sp_bv (X12_pack n σ4 25 88 ((0 : Int32))) fun σ7 =>
    sp_pl ((-1 : Int32)) fun x8 =>
    sp_pl ((0 : Int32)) fun x10 =>
    X12_rests_32 n n σ7 a1 x8 x10
set_option maxRecDepth 100000 in
set_option maxHeartbeats 4000000 in
theorem hX12_rests_65 {X : sp_X} (hX : sp_OK shM X cX12_rests RX12 4 rmX12_rests) {τ : sp_St} {r : Int32} (hR : sp_Ri shM X (some .int) τ r 0 0) {n : Nat}    {σ : sp_St} {z2 : Int32} (hf : X12_rests_65 n σ z2 = some (τ, r)) : sp_GG shM X σ 4 [some (.ref (sx_ad X 0)), none, some (.int z2), none] [] 65 0 0 := by
  unfold X12_rests_65 at hf
  refine sp_aload_n (i := 0) (q := 66) hX dX12_rests_65 rfl rfl rfl ?_
  refine sp_aload_n (i := 0) (q := 67) hX dX12_rests_66 rfl rfl rfl ?_
  refine sp_gets (t := 25) (q := 70) hX flX12_102 fkX12_41 atM_0 srM_0_41 dX12_rests_67 rfl ?_
  refine sp_iconst (v := 0) (q := 71) hX dX12_rests_70 li_0 rfl ?_
  obtain ⟨σ2, h1, hf⟩ := sp_bv_so hf
  refine sp_callVv (As := [.ref (sx_ad X 25), .int ((0 : Int32))]) (rest := []) (q := 74) hX (cnX12_unpack (sp_st hX) arM_25 h1) cwX12_432 atM_0 rfl rfl rfl rfl rfl (Nat.le_of_ble_eq_true rfl) (Nat.le_of_ble_eq_true rfl) (Nat.le_of_ble_eq_true rfl) (Nat.le_of_ble_eq_true rfl) (Nat.le_of_ble_eq_true rfl) dX12_rests_71 rfl ?_
  refine sp_iload_n (i := 2) (q := 75) hX dX12_rests_74 rfl rfl rfl ?_
  exact sp_iret hX hR dX12_rests_75 hf (Nat.le_of_ble_eq_true rfl) (Nat.le_of_ble_eq_true rfl)
set_option maxRecDepth 100000 in
set_option maxHeartbeats 4000000 in
theorem hX12_rests_55 {X : sp_X} (hX : sp_OK shM X cX12_rests RX12 4 rmX12_rests) {τ : sp_St} {r : Int32} (hR : sp_Ri shM X (some .int) τ r 0 0) {n : Nat}   {k32 : sp_St → Int32 → Int32 → Int32 → Option (sp_St × Int32)} (hk32 : ∀ (σ : sp_St) (z1 : Int32) (z2 : Int32) (z3 : Int32), k32 σ z1 z2 z3 = some (τ, r) → sp_GG shM X σ 4 [some (.ref (sx_ad X 0)), some (.int z1), some (.int z2), some (.int z3)] [] 32 0 0) {σ : sp_St} {z1 : Int32} {z2 : Int32} {z3 : Int32} (hf : X12_rests_55 n k32 σ z1 z2 z3 = some (τ, r)) : sp_GG shM X σ 4 [some (.ref (sx_ad X 0)), some (.int z1), some (.int z2), some (.int z3)] [] 55 0 0 := by
  unfold X12_rests_55 at hf
  refine sp_aload_n (i := 0) (q := 56) hX dX12_rests_55 rfl rfl rfl ?_
  obtain ⟨σ2, h1, hf⟩ := sp_bv_so hf
  refine sp_callVv (As := []) (rest := []) (q := 59) hX (cnX12_aDay (sp_st hX)  h1) cwX12_393 atM_0 rfl rfl rfl rfl rfl (Nat.le_of_ble_eq_true rfl) (Nat.le_of_ble_eq_true rfl) (Nat.le_of_ble_eq_true rfl) (Nat.le_of_ble_eq_true rfl) (Nat.le_of_ble_eq_true rfl) dX12_rests_56 rfl ?_
  obtain ⟨x3, e4, hf⟩ := sp_pl_some hf
  refine sp_iinc (i := 3) (v := x3) (lv' := [some (.ref (sx_ad X 0)), some (.int z1), some (.int z2), some (.int x3)]) (q := 62) hX dX12_rests_59 rfl (by rw [e4, li_1]) (Nat.le_of_ble_eq_true rfl) rfl rfl rfl ?_
  refine sp_goto (tgt := 32) hX dX12_rests_62 (by decide) ?_
  exact hk32 σ2 z1 z2 x3 hf
set_option maxRecDepth 100000 in
set_option maxHeartbeats 4000000 in
theorem hX12_rests_32 {X : sp_X} (hX : sp_OK shM X cX12_rests RX12 4 rmX12_rests) {τ : sp_St} {r : Int32} (hR : sp_Ri shM X (some .int) τ r 0 0) {n : Nat}    : ∀ (f : Nat) (σ : sp_St) (z1 : Int32) (z2 : Int32) (z3 : Int32), X12_rests_32 n f σ z1 z2 z3 = some (τ, r) → sp_GG shM X σ 4 [some (.ref (sx_ad X 0)), some (.int z1), some (.int z2), some (.int z3)] [] 32 0 0 := by
  intro f
  induction f with
  | zero =>
    intro σ z1 z2 z3 hf
    rw [X12_rests_32] at hf
    cases hf
  | succ f ih =>
    intro σ z1 z2 z3 hf
    rw [X12_rests_32] at hf
    refine sp_iload_n (i := 3) (q := 33) hX dX12_rests_32 rfl rfl rfl ?_
    refine sp_bipush (v := 60) (q := 35) hX dX12_rests_33 lb_60 rfl ?_
    refine sp_icmp_gt (tgt := 65) (q := 38) hX dX12_rests_35 (by decide) rfl (fun hc => ?_) (fun hc => ?_)
    · rw [if_pos hc] at hf
      refine sp_drop (lv' := [some (.ref (sx_ad X 0)), none, some (.int z2), none]) (And.intro rfl (And.intro rfl trivial)) ?_
      exact hX12_rests_65 hX hR hf
    · rw [if_neg hc] at hf
      refine sp_iload_n (i := 2) (q := 39) hX dX12_rests_38 rfl rfl rfl ?_
      refine sp_iconst (v := -1) (q := 40) hX dX12_rests_39 li_m1 rfl ?_
      refine sp_icmp_ne (tgt := 65) (q := 43) hX dX12_rests_40 (by decide) rfl (fun hc => ?_) (fun hc => ?_)
      · rw [if_neg hc] at hf
        refine sp_drop (lv' := [some (.ref (sx_ad X 0)), none, some (.int z2), none]) (And.intro rfl (And.intro rfl trivial)) ?_
        exact hX12_rests_65 hX hR hf
      · rw [if_pos hc] at hf
        refine sp_aload_n (i := 0) (q := 44) hX dX12_rests_43 rfl rfl rfl ?_
        refine sp_gets (t := 15) (q := 47) hX flX12_72 fkX12_27 atM_0 srM_0_27 dX12_rests_44 rfl ?_
        refine sp_iload_n (i := 1) (q := 48) hX dX12_rests_47 rfl rfl rfl ?_
        obtain ⟨h1, hf⟩ := sp_ck_some hf
        refine sp_iald (q := 49) hX arM_15 h1 dX12_rests_48 rfl ?_
        refine sp_iconst (v := 2) (q := 50) hX dX12_rests_49 li_2 rfl ?_
        refine sp_icmp_ne (tgt := 55) (q := 53) hX dX12_rests_50 (by decide) rfl (fun hc => ?_) (fun hc => ?_)
        · rw [if_neg hc] at hf
          exact hX12_rests_55 hX hR ih hf
        · rw [if_pos hc] at hf
          refine sp_iload_n (i := 3) (q := 54) hX dX12_rests_53 rfl rfl rfl ?_
          refine sp_istore_n (i := 2) (lv' := [some (.ref (sx_ad X 0)), some (.int z1), some (.int z3), some (.int z3)]) (q := 55) hX dX12_rests_54 rfl (Nat.le_of_ble_eq_true rfl) rfl rfl rfl ?_
          exact hX12_rests_55 hX hR ih hf
set_option maxRecDepth 100000 in
set_option maxHeartbeats 4000000 in
theorem hX12_rests {X : sp_X} (hX : sp_OK shM X cX12_rests RX12 4 rmX12_rests) {τ : sp_St} {r : Int32} (hR : sp_Ri shM X (some .int) τ r 0 0) {n : Nat}  {σ : sp_St} {a1 : Int32}  (hf : X12_rests n σ a1 = some (τ, r)) : sp_GG shM X σ 4 [some (.ref (sx_ad X 0)), some (.int a1), none, none] [] 0 0 0 := by
  unfold X12_rests at hf
  refine sp_aload_n (i := 0) (q := 1) hX dX12_rests_0 rfl rfl rfl ?_
  refine sp_iconst (v := 0) (q := 2) hX dX12_rests_1 li_0 rfl ?_
  obtain ⟨σ1, e2, hf⟩ := sp_pl_some hf
  refine sp_puti (q := 5) hX fpX12_158 fkX12_3 atM_0 dX12_rests_2 rfl ?_
  refine sp_nms e2 ?_
  refine sp_aload_n (i := 0) (q := 6) hX dX12_rests_5 rfl rfl rfl ?_
  refine sp_iload_n (i := 1) (q := 7) hX dX12_rests_6 rfl rfl rfl ?_
  obtain ⟨σ4, v5, h3, hf⟩ := sp_bd_so hf
  refine sp_callVi (As := [.int a1]) (rest := []) (q := 10) hX (cnX12_isBlade (sp_st hX)  h3) cwX12_399 atM_0 rfl rfl rfl rfl rfl (Nat.le_of_ble_eq_true rfl) (Nat.le_of_ble_eq_true rfl) (Nat.le_of_ble_eq_true rfl) (Nat.le_of_ble_eq_true rfl) (Nat.le_of_ble_eq_true rfl) dX12_rests_7 rfl ?_
  refine sp_if_ne (tgt := 19) (q := 13) hX dX12_rests_10 (by decide) rfl (fun hc => ?_) (fun hc => ?_)
  · rw [if_neg hc] at hf
    refine sp_aload_n (i := 0) (q := 20) hX dX12_rests_19 rfl rfl rfl ?_
    refine sp_aload_n (i := 0) (q := 21) hX dX12_rests_20 rfl rfl rfl ?_
    refine sp_gets (t := 25) (q := 24) hX flX12_102 fkX12_41 atM_0 srM_0_41 dX12_rests_21 rfl ?_
    refine sp_iconst (v := 0) (q := 25) hX dX12_rests_24 li_0 rfl ?_
    obtain ⟨σ7, h6, hf⟩ := sp_bv_so hf
    refine sp_callVv (As := [.ref (sx_ad X 25), .int ((0 : Int32))]) (rest := []) (q := 28) hX (cnX12_pack (sp_st hX) arM_25 h6) cwX12_414 atM_0 rfl rfl rfl rfl rfl (Nat.le_of_ble_eq_true rfl) (Nat.le_of_ble_eq_true rfl) (Nat.le_of_ble_eq_true rfl) (Nat.le_of_ble_eq_true rfl) (Nat.le_of_ble_eq_true rfl) dX12_rests_25 rfl ?_
    refine sp_iconst (v := -1) (q := 29) hX dX12_rests_28 li_m1 rfl ?_
    obtain ⟨x8, e9, hf⟩ := sp_pl_some hf
    refine sp_nmi e9 ?_
    refine sp_istore_n (i := 2) (lv' := [some (.ref (sx_ad X 0)), some (.int a1), some (.int x8), none]) (q := 30) hX dX12_rests_29 rfl (Nat.le_of_ble_eq_true rfl) rfl rfl rfl ?_
    refine sp_iconst (v := 0) (q := 31) hX dX12_rests_30 li_0 rfl ?_
    obtain ⟨x10, e11, hf⟩ := sp_pl_some hf
    refine sp_nmi e11 ?_
    refine sp_istore_n (i := 3) (lv' := [some (.ref (sx_ad X 0)), some (.int a1), some (.int x8), some (.int x10)]) (q := 32) hX dX12_rests_31 rfl (Nat.le_of_ble_eq_true rfl) rfl rfl rfl ?_
    exact hX12_rests_32 hX hR n σ7 a1 x8 x10 hf
  · rw [if_pos hc] at hf
    refine sp_aload_n (i := 0) (q := 14) hX dX12_rests_13 rfl rfl rfl ?_
    refine sp_iconst (v := 1) (q := 15) hX dX12_rests_14 li_1 rfl ?_
    obtain ⟨σ13, v14, h12, hf⟩ := sp_bd_so hf
    refine sp_callVi (As := [.int ((1 : Int32))]) (rest := []) (q := 18) hX (cnX12_fail (sp_st hX)  h12) cwX12_312 atM_0 rfl rfl rfl rfl rfl (Nat.le_of_ble_eq_true rfl) (Nat.le_of_ble_eq_true rfl) (Nat.le_of_ble_eq_true rfl) (Nat.le_of_ble_eq_true rfl) (Nat.le_of_ble_eq_true rfl) dX12_rests_15 rfl ?_
    exact sp_iret hX hR dX12_rests_18 hf (Nat.le_of_ble_eq_true rfl) (Nat.le_of_ble_eq_true rfl)
set_option maxRecDepth 100000 in
set_option maxHeartbeats 4000000 in
theorem cnX12_rests {l : Launch} (hst : l.stackTraces = false) {w : sp_Wd} {n : Nat}  {σ : sp_St} {a1 : Int32} {τ : sp_St} {r : Int32}  (hf : X12_rests n σ a1 = some (τ, r)) : sp_Ci shM l w yX12_rests cX12_rests 4 (some .int) rmX12_rests 0 0 σ [.ref (w.2.1 0), .int a1] τ r :=
  sp_ci (own := RX12) (by decide) rfl hst (Nat.le_of_ble_eq_true rfl) rfl (fun X hX hw hl hR => by subst hw; subst hl; exact hX12_rests hX hR   hf)
def rmX12_worst : Room := { frames := 7, cells := 0, slots := 0, locals := 154 }
def X12_worst_103 (n : Nat) (σ : sp_St) (z2 : Int32) : Option (sp_St × Int32) :=
  sp_bv (X12_unpack n σ 25 88 ((0 : Int32))) fun σ2 =>
  some (σ2, z2)
def X12_worst_97 (n : Nat) (k62 : sp_St → Int32 → Int32 → Option (sp_St × Int32)) (σ : sp_St) (z2 : Int32) (z3 : Int32) : Option (sp_St × Int32) :=
  sp_pl (z3 + (-1)) fun x1 =>
  k62 σ z2 x1
def X12_worst_95 (n : Nat) (k62 : sp_St → Int32 → Int32 → Option (sp_St × Int32)) (σ : sp_St) (z3 : Int32) : Option (sp_St × Int32) :=
  X12_worst_97 n k62 σ z3 z3
def X12_worst_62 (n : Nat) : Nat → sp_St → Int32 → Int32 → Option (sp_St × Int32)
  | 0, _, _, _ => none
  | f + 1, σ, z2, z3 =>
    if z3 < 0 then
      X12_worst_103 n σ z2
    else
      sp_ck (sp_in z3 6) <|
      if (sp_g σ 24 z3) ≤ 0 then
        X12_worst_97 n (X12_worst_62 n f) σ z2 z3
      else
        if z2 = ((-1 : Int32)) then
          X12_worst_95 n (X12_worst_62 n f) σ z3
        else
          sp_ck (sp_in z3 6) <|
          sp_ck (sp_in z2 6) <|
          if (sp_g σ 24 z3) < (sp_g σ 24 z2) then
            X12_worst_97 n (X12_worst_62 n f) σ z2 z3
          else
            X12_worst_95 n (X12_worst_62 n f) σ z3
def X12_worst_53 (n : Nat) (σ : sp_St) (z1 : Int32) : Option (sp_St × Int32) :=
  sp_bv (X12_goOn n σ z1) fun σ2 =>
  sp_pl ((-1 : Int32)) fun x3 =>
  sp_pl ((5 : Int32)) fun x5 =>
  X12_worst_62 n n σ2 x3 x5
def X12_worst_34 (n : Nat) : Nat → sp_St → Int32 → Int32 → Option (sp_St × Int32)
  | 0, _, _, _ => none
  | f + 1, σ, z1, z2 =>
    if ((6 : Int32)) ≤ z2 then
      X12_worst_53 n σ z1
    else
      sp_ck (sp_in z2 6) <|
      sp_pl (sp_sa σ 24 z2.toNatClampNeg ((0 : Int32))) fun σ2 =>
      sp_pl (z2 + 1) fun x4 =>
      X12_worst_34 n f σ2 z1 x4
def X12_worst (n : Nat)  (σ : sp_St) (a1 : Int32) : Option (sp_St × Int32) :=
  sp_pl (sp_si σ 0 3 ((0 : Int32))) fun σ1 =>
  sp_bd (X12_isIn n σ1 a1.toInt64 ((0 : Int64)) ((60 : Int64))) fun σ4 v5 =>
  if v5 = 0 then
    sp_bd (X12_fail n σ4 ((1 : Int32))) fun σ11 v12 =>
    some (σ11, v12)
  else
    sp_bv (X12_pack n σ4 25 88 ((0 : Int32))) fun σ7 =>
    sp_pl ((0 : Int32)) fun x8 =>
    X12_worst_34 n n σ7 a1 x8
set_option maxRecDepth 100000 in
set_option maxHeartbeats 4000000 in
theorem hX12_worst_103 {X : sp_X} (hX : sp_OK shM X cX12_worst RX12 4 rmX12_worst) {τ : sp_St} {r : Int32} (hR : sp_Ri shM X (some .int) τ r 0 0) {n : Nat}    {σ : sp_St} {z2 : Int32} (hf : X12_worst_103 n σ z2 = some (τ, r)) : sp_GG shM X σ 4 [some (.ref (sx_ad X 0)), none, some (.int z2), none] [] 103 0 0 := by
  unfold X12_worst_103 at hf
  refine sp_aload_n (i := 0) (q := 104) hX dX12_worst_103 rfl rfl rfl ?_
  refine sp_aload_n (i := 0) (q := 105) hX dX12_worst_104 rfl rfl rfl ?_
  refine sp_gets (t := 25) (q := 108) hX flX12_102 fkX12_41 atM_0 srM_0_41 dX12_worst_105 rfl ?_
  refine sp_iconst (v := 0) (q := 109) hX dX12_worst_108 li_0 rfl ?_
  obtain ⟨σ2, h1, hf⟩ := sp_bv_so hf
  refine sp_callVv (As := [.ref (sx_ad X 25), .int ((0 : Int32))]) (rest := []) (q := 112) hX (cnX12_unpack (sp_st hX) arM_25 h1) cwX12_432 atM_0 rfl rfl rfl rfl rfl (Nat.le_of_ble_eq_true rfl) (Nat.le_of_ble_eq_true rfl) (Nat.le_of_ble_eq_true rfl) (Nat.le_of_ble_eq_true rfl) (Nat.le_of_ble_eq_true rfl) dX12_worst_109 rfl ?_
  refine sp_iload_n (i := 2) (q := 113) hX dX12_worst_112 rfl rfl rfl ?_
  exact sp_iret hX hR dX12_worst_113 hf (Nat.le_of_ble_eq_true rfl) (Nat.le_of_ble_eq_true rfl)
set_option maxRecDepth 100000 in
set_option maxHeartbeats 4000000 in
theorem hX12_worst_97 {X : sp_X} (hX : sp_OK shM X cX12_worst RX12 4 rmX12_worst) {τ : sp_St} {r : Int32} (hR : sp_Ri shM X (some .int) τ r 0 0) {n : Nat}   {k62 : sp_St → Int32 → Int32 → Option (sp_St × Int32)} (hk62 : ∀ (σ : sp_St) (z2 : Int32) (z3 : Int32), k62 σ z2 z3 = some (τ, r) → sp_GG shM X σ 4 [some (.ref (sx_ad X 0)), none, some (.int z2), some (.int z3)] [] 62 0 0) {σ : sp_St} {z2 : Int32} {z3 : Int32} (hf : X12_worst_97 n k62 σ z2 z3 = some (τ, r)) : sp_GG shM X σ 4 [some (.ref (sx_ad X 0)), none, some (.int z2), some (.int z3)] [] 97 0 0 := by
  unfold X12_worst_97 at hf
  obtain ⟨x1, e2, hf⟩ := sp_pl_some hf
  refine sp_iinc (i := 3) (v := x1) (lv' := [some (.ref (sx_ad X 0)), none, some (.int z2), some (.int x1)]) (q := 100) hX dX12_worst_97 rfl (by rw [e2, li_m1]) (Nat.le_of_ble_eq_true rfl) rfl rfl rfl ?_
  refine sp_goto (tgt := 62) hX dX12_worst_100 (by decide) ?_
  exact hk62 σ z2 x1 hf
set_option maxRecDepth 100000 in
set_option maxHeartbeats 4000000 in
theorem hX12_worst_95 {X : sp_X} (hX : sp_OK shM X cX12_worst RX12 4 rmX12_worst) {τ : sp_St} {r : Int32} (hR : sp_Ri shM X (some .int) τ r 0 0) {n : Nat}   {k62 : sp_St → Int32 → Int32 → Option (sp_St × Int32)} (hk62 : ∀ (σ : sp_St) (z2 : Int32) (z3 : Int32), k62 σ z2 z3 = some (τ, r) → sp_GG shM X σ 4 [some (.ref (sx_ad X 0)), none, some (.int z2), some (.int z3)] [] 62 0 0) {σ : sp_St} {z3 : Int32} (hf : X12_worst_95 n k62 σ z3 = some (τ, r)) : sp_GG shM X σ 4 [some (.ref (sx_ad X 0)), none, none, some (.int z3)] [] 95 0 0 := by
  unfold X12_worst_95 at hf
  refine sp_iload_n (i := 3) (q := 96) hX dX12_worst_95 rfl rfl rfl ?_
  refine sp_istore_n (i := 2) (lv' := [some (.ref (sx_ad X 0)), none, some (.int z3), some (.int z3)]) (q := 97) hX dX12_worst_96 rfl (Nat.le_of_ble_eq_true rfl) rfl rfl rfl ?_
  exact hX12_worst_97 hX hR hk62 hf
set_option maxRecDepth 100000 in
set_option maxHeartbeats 4000000 in
theorem hX12_worst_62 {X : sp_X} (hX : sp_OK shM X cX12_worst RX12 4 rmX12_worst) {τ : sp_St} {r : Int32} (hR : sp_Ri shM X (some .int) τ r 0 0) {n : Nat}    : ∀ (f : Nat) (σ : sp_St) (z2 : Int32) (z3 : Int32), X12_worst_62 n f σ z2 z3 = some (τ, r) → sp_GG shM X σ 4 [some (.ref (sx_ad X 0)), none, some (.int z2), some (.int z3)] [] 62 0 0 := by
  intro f
  induction f with
  | zero =>
    intro σ z2 z3 hf
    rw [X12_worst_62] at hf
    cases hf
  | succ f ih =>
    intro σ z2 z3 hf
    rw [X12_worst_62] at hf
    refine sp_iload_n (i := 3) (q := 63) hX dX12_worst_62 rfl rfl rfl ?_
    refine sp_if_lt (tgt := 103) (q := 66) hX dX12_worst_63 (by decide) rfl (fun hc => ?_) (fun hc => ?_)
    · rw [if_pos hc] at hf
      refine sp_drop (lv' := [some (.ref (sx_ad X 0)), none, some (.int z2), none]) (And.intro rfl (And.intro rfl trivial)) ?_
      exact hX12_worst_103 hX hR hf
    · rw [if_neg hc] at hf
      refine sp_aload_n (i := 0) (q := 67) hX dX12_worst_66 rfl rfl rfl ?_
      refine sp_gets (t := 24) (q := 70) hX flX12_99 fkX12_40 atM_0 srM_0_40 dX12_worst_67 rfl ?_
      refine sp_iload_n (i := 3) (q := 71) hX dX12_worst_70 rfl rfl rfl ?_
      obtain ⟨h1, hf⟩ := sp_ck_some hf
      refine sp_iald (q := 72) hX arM_24 h1 dX12_worst_71 rfl ?_
      refine sp_if_le (tgt := 97) (q := 75) hX dX12_worst_72 (by decide) rfl (fun hc => ?_) (fun hc => ?_)
      · rw [if_pos hc] at hf
        exact hX12_worst_97 hX hR ih hf
      · rw [if_neg hc] at hf
        refine sp_iload_n (i := 2) (q := 76) hX dX12_worst_75 rfl rfl rfl ?_
        refine sp_iconst (v := -1) (q := 77) hX dX12_worst_76 li_m1 rfl ?_
        refine sp_icmp_eq (tgt := 95) (q := 80) hX dX12_worst_77 (by decide) rfl (fun hc => ?_) (fun hc => ?_)
        · rw [if_pos hc] at hf
          refine sp_drop (lv' := [some (.ref (sx_ad X 0)), none, none, some (.int z3)]) (And.intro rfl (And.intro rfl trivial)) ?_
          exact hX12_worst_95 hX hR ih hf
        · rw [if_neg hc] at hf
          refine sp_aload_n (i := 0) (q := 81) hX dX12_worst_80 rfl rfl rfl ?_
          refine sp_gets (t := 24) (q := 84) hX flX12_99 fkX12_40 atM_0 srM_0_40 dX12_worst_81 rfl ?_
          refine sp_iload_n (i := 3) (q := 85) hX dX12_worst_84 rfl rfl rfl ?_
          obtain ⟨h2, hf⟩ := sp_ck_some hf
          refine sp_iald (q := 86) hX arM_24 h2 dX12_worst_85 rfl ?_
          refine sp_aload_n (i := 0) (q := 87) hX dX12_worst_86 rfl rfl rfl ?_
          refine sp_gets (t := 24) (q := 90) hX flX12_99 fkX12_40 atM_0 srM_0_40 dX12_worst_87 rfl ?_
          refine sp_iload_n (i := 2) (q := 91) hX dX12_worst_90 rfl rfl rfl ?_
          obtain ⟨h3, hf⟩ := sp_ck_some hf
          refine sp_iald (q := 92) hX arM_24 h3 dX12_worst_91 rfl ?_
          refine sp_icmp_lt (tgt := 97) (q := 95) hX dX12_worst_92 (by decide) rfl (fun hc => ?_) (fun hc => ?_)
          · rw [if_pos hc] at hf
            exact hX12_worst_97 hX hR ih hf
          · rw [if_neg hc] at hf
            refine sp_drop (lv' := [some (.ref (sx_ad X 0)), none, none, some (.int z3)]) (And.intro rfl (And.intro rfl trivial)) ?_
            exact hX12_worst_95 hX hR ih hf
set_option maxRecDepth 100000 in
set_option maxHeartbeats 4000000 in
theorem hX12_worst_53 {X : sp_X} (hX : sp_OK shM X cX12_worst RX12 4 rmX12_worst) {τ : sp_St} {r : Int32} (hR : sp_Ri shM X (some .int) τ r 0 0) {n : Nat}    {σ : sp_St} {z1 : Int32} (hf : X12_worst_53 n σ z1 = some (τ, r)) : sp_GG shM X σ 4 [some (.ref (sx_ad X 0)), some (.int z1), none, none] [] 53 0 0 := by
  unfold X12_worst_53 at hf
  refine sp_aload_n (i := 0) (q := 54) hX dX12_worst_53 rfl rfl rfl ?_
  refine sp_iload_n (i := 1) (q := 55) hX dX12_worst_54 rfl rfl rfl ?_
  obtain ⟨σ2, h1, hf⟩ := sp_bv_so hf
  refine sp_callVv (As := [.int z1]) (rest := []) (q := 58) hX (cnX12_goOn (sp_st hX)  h1) cwX12_426 atM_0 rfl rfl rfl rfl rfl (Nat.le_of_ble_eq_true rfl) (Nat.le_of_ble_eq_true rfl) (Nat.le_of_ble_eq_true rfl) (Nat.le_of_ble_eq_true rfl) (Nat.le_of_ble_eq_true rfl) dX12_worst_55 rfl ?_
  refine sp_iconst (v := -1) (q := 59) hX dX12_worst_58 li_m1 rfl ?_
  obtain ⟨x3, e4, hf⟩ := sp_pl_some hf
  refine sp_nmi e4 ?_
  refine sp_istore_n (i := 2) (lv' := [some (.ref (sx_ad X 0)), some (.int z1), some (.int x3), none]) (q := 60) hX dX12_worst_59 rfl (Nat.le_of_ble_eq_true rfl) rfl rfl rfl ?_
  refine sp_iconst (v := 5) (q := 61) hX dX12_worst_60 li_5 rfl ?_
  obtain ⟨x5, e6, hf⟩ := sp_pl_some hf
  refine sp_nmi e6 ?_
  refine sp_istore_n (i := 3) (lv' := [some (.ref (sx_ad X 0)), some (.int z1), some (.int x3), some (.int x5)]) (q := 62) hX dX12_worst_61 rfl (Nat.le_of_ble_eq_true rfl) rfl rfl rfl ?_
  refine sp_drop (lv' := [some (.ref (sx_ad X 0)), none, some (.int x3), some (.int x5)]) (And.intro rfl (And.intro rfl (And.intro rfl trivial))) ?_
  exact hX12_worst_62 hX hR n σ2 x3 x5 hf
set_option maxRecDepth 100000 in
set_option maxHeartbeats 4000000 in
theorem hX12_worst_34 {X : sp_X} (hX : sp_OK shM X cX12_worst RX12 4 rmX12_worst) {τ : sp_St} {r : Int32} (hR : sp_Ri shM X (some .int) τ r 0 0) {n : Nat}    : ∀ (f : Nat) (σ : sp_St) (z1 : Int32) (z2 : Int32), X12_worst_34 n f σ z1 z2 = some (τ, r) → sp_GG shM X σ 4 [some (.ref (sx_ad X 0)), some (.int z1), some (.int z2), none] [] 34 0 0 := by
  intro f
  induction f with
  | zero =>
    intro σ z1 z2 hf
    rw [X12_worst_34] at hf
    cases hf
  | succ f ih =>
    intro σ z1 z2 hf
    rw [X12_worst_34] at hf
    refine sp_iload_n (i := 2) (q := 35) hX dX12_worst_34 rfl rfl rfl ?_
    refine sp_bipush (v := 6) (q := 37) hX dX12_worst_35 lb_6 rfl ?_
    refine sp_icmp_ge (tgt := 53) (q := 40) hX dX12_worst_37 (by decide) rfl (fun hc => ?_) (fun hc => ?_)
    · rw [if_pos hc] at hf
      refine sp_drop (lv' := [some (.ref (sx_ad X 0)), some (.int z1), none, none]) (And.intro rfl (And.intro rfl trivial)) ?_
      exact hX12_worst_53 hX hR hf
    · rw [if_neg hc] at hf
      refine sp_aload_n (i := 0) (q := 41) hX dX12_worst_40 rfl rfl rfl ?_
      refine sp_gets (t := 24) (q := 44) hX flX12_99 fkX12_40 atM_0 srM_0_40 dX12_worst_41 rfl ?_
      refine sp_iload_n (i := 2) (q := 45) hX dX12_worst_44 rfl rfl rfl ?_
      refine sp_iconst (v := 0) (q := 46) hX dX12_worst_45 li_0 rfl ?_
      obtain ⟨h1, hf⟩ := sp_ck_some hf
      obtain ⟨σ2, e3, hf⟩ := sp_pl_some hf
      refine sp_iast (q := 47) hX arM_24 h1 dX12_worst_46 rfl ?_
      refine sp_nms e3 ?_
      obtain ⟨x4, e5, hf⟩ := sp_pl_some hf
      refine sp_iinc (i := 2) (v := x4) (lv' := [some (.ref (sx_ad X 0)), some (.int z1), some (.int x4), none]) (q := 50) hX dX12_worst_47 rfl (by rw [e5, li_1]) (Nat.le_of_ble_eq_true rfl) rfl rfl rfl ?_
      refine sp_goto (tgt := 34) hX dX12_worst_50 (by decide) ?_
      exact ih σ2 z1 x4 hf
set_option maxRecDepth 100000 in
set_option maxHeartbeats 4000000 in
theorem hX12_worst {X : sp_X} (hX : sp_OK shM X cX12_worst RX12 4 rmX12_worst) {τ : sp_St} {r : Int32} (hR : sp_Ri shM X (some .int) τ r 0 0) {n : Nat}  {σ : sp_St} {a1 : Int32}  (hf : X12_worst n σ a1 = some (τ, r)) : sp_GG shM X σ 4 [some (.ref (sx_ad X 0)), some (.int a1), none, none] [] 0 0 0 := by
  unfold X12_worst at hf
  refine sp_aload_n (i := 0) (q := 1) hX dX12_worst_0 rfl rfl rfl ?_
  refine sp_iconst (v := 0) (q := 2) hX dX12_worst_1 li_0 rfl ?_
  obtain ⟨σ1, e2, hf⟩ := sp_pl_some hf
  refine sp_puti (q := 5) hX fpX12_158 fkX12_3 atM_0 dX12_worst_2 rfl ?_
  refine sp_nms e2 ?_
  refine sp_iload_n (i := 1) (q := 6) hX dX12_worst_5 rfl rfl rfl ?_
  refine sp_i2l (q := 7) hX dX12_worst_6 rfl ?_
  refine sp_lconst (v := 0) (q := 8) hX dX12_worst_7 (by decide) rfl ?_
  refine sp_ldc2 (v := 60) (q := 11) hX wd_2097 dX12_worst_8 rfl ?_
  obtain ⟨σ4, v5, h3, hf⟩ := sp_bd_so hf
  refine sp_callSi (As := [.long a1.toInt64, .long ((0 : Int64)), .long ((60 : Int64))]) (rest := []) (q := 14) hX (cnX12_isIn (sp_st hX)  h3) cwX12_161 rfl rfl rfl rfl (Nat.le_of_ble_eq_true rfl) (Nat.le_of_ble_eq_true rfl) (Nat.le_of_ble_eq_true rfl) (Nat.le_of_ble_eq_true rfl) (Nat.le_of_ble_eq_true rfl) dX12_worst_11 rfl ?_
  refine sp_if_ne (tgt := 23) (q := 17) hX dX12_worst_14 (by decide) rfl (fun hc => ?_) (fun hc => ?_)
  · rw [if_neg hc] at hf
    refine sp_aload_n (i := 0) (q := 24) hX dX12_worst_23 rfl rfl rfl ?_
    refine sp_aload_n (i := 0) (q := 25) hX dX12_worst_24 rfl rfl rfl ?_
    refine sp_gets (t := 25) (q := 28) hX flX12_102 fkX12_41 atM_0 srM_0_41 dX12_worst_25 rfl ?_
    refine sp_iconst (v := 0) (q := 29) hX dX12_worst_28 li_0 rfl ?_
    obtain ⟨σ7, h6, hf⟩ := sp_bv_so hf
    refine sp_callVv (As := [.ref (sx_ad X 25), .int ((0 : Int32))]) (rest := []) (q := 32) hX (cnX12_pack (sp_st hX) arM_25 h6) cwX12_414 atM_0 rfl rfl rfl rfl rfl (Nat.le_of_ble_eq_true rfl) (Nat.le_of_ble_eq_true rfl) (Nat.le_of_ble_eq_true rfl) (Nat.le_of_ble_eq_true rfl) (Nat.le_of_ble_eq_true rfl) dX12_worst_29 rfl ?_
    refine sp_iconst (v := 0) (q := 33) hX dX12_worst_32 li_0 rfl ?_
    obtain ⟨x8, e9, hf⟩ := sp_pl_some hf
    refine sp_nmi e9 ?_
    refine sp_istore_n (i := 2) (lv' := [some (.ref (sx_ad X 0)), some (.int a1), some (.int x8), none]) (q := 34) hX dX12_worst_33 rfl (Nat.le_of_ble_eq_true rfl) rfl rfl rfl ?_
    exact hX12_worst_34 hX hR n σ7 a1 x8 hf
  · rw [if_pos hc] at hf
    refine sp_aload_n (i := 0) (q := 18) hX dX12_worst_17 rfl rfl rfl ?_
    refine sp_iconst (v := 1) (q := 19) hX dX12_worst_18 li_1 rfl ?_
    obtain ⟨σ11, v12, h10, hf⟩ := sp_bd_so hf
    refine sp_callVi (As := [.int ((1 : Int32))]) (rest := []) (q := 22) hX (cnX12_fail (sp_st hX)  h10) cwX12_312 atM_0 rfl rfl rfl rfl rfl (Nat.le_of_ble_eq_true rfl) (Nat.le_of_ble_eq_true rfl) (Nat.le_of_ble_eq_true rfl) (Nat.le_of_ble_eq_true rfl) (Nat.le_of_ble_eq_true rfl) dX12_worst_19 rfl ?_
    exact sp_iret hX hR dX12_worst_22 hf (Nat.le_of_ble_eq_true rfl) (Nat.le_of_ble_eq_true rfl)
set_option maxRecDepth 100000 in
set_option maxHeartbeats 4000000 in
theorem cnX12_worst {l : Launch} (hst : l.stackTraces = false) {w : sp_Wd} {n : Nat}  {σ : sp_St} {a1 : Int32} {τ : sp_St} {r : Int32}  (hf : X12_worst n σ a1 = some (τ, r)) : sp_Ci shM l w yX12_worst cX12_worst 4 (some .int) rmX12_worst 0 0 σ [.ref (w.2.1 0), .int a1] τ r :=
  sp_ci (own := RX12) (by decide) rfl hst (Nat.le_of_ble_eq_true rfl) rfl (fun X hX hw hl hR => by subst hw; subst hl; exact hX12_worst hX hR   hf)
def rmX12_angers : Room := { frames := 1, cells := 0, slots := 0, locals := 21 }
def X12_angers_41 (n : Nat) (σ : sp_St) (z2 : Int32) : Option (sp_St × Int32) :=
  some (σ, z2)
def X12_angers_33 (n : Nat) (k4 : sp_St → Int32 → Int32 → Int32 → Option (sp_St × Int32)) (σ : sp_St) (z1 : Int32) (z3 : Int32) (zs0 : Int32) (zs1 : Int32) : Option (sp_St × Int32) :=
  sp_pl (zs1 + zs0) fun x1 =>
  sp_pl (z3 + 1) fun x3 =>
  k4 σ z1 x1 x3
def X12_angers_4 (n : Nat) : Nat → sp_St → Int32 → Int32 → Int32 → Option (sp_St × Int32)
  | 0, _, _, _, _ => none
  | f + 1, σ, z1, z2, z3 =>
    if (sp_g σ 3 ((2 : Int32))) ≤ z3 then
      X12_angers_41 n σ z2
    else
      sp_bd (X12_isOf n σ z1 z3) fun σ2 v3 =>
      if v3 = 0 then
        X12_angers_33 n (X12_angers_4 n f) σ2 z1 z3 ((0 : Int32)) z2
      else
        sp_ck (sp_in z3 10) <|
        X12_angers_33 n (X12_angers_4 n f) σ2 z1 z3 (sp_g σ2 14 z3) z2
def X12_angers (n : Nat)  (σ : sp_St) (a1 : Int32) : Option (sp_St × Int32) :=
  sp_pl ((0 : Int32)) fun x1 =>
  sp_pl ((0 : Int32)) fun x3 =>
  X12_angers_4 n n σ a1 x1 x3
set_option maxRecDepth 100000 in
set_option maxHeartbeats 4000000 in
theorem hX12_angers_41 {X : sp_X} (hX : sp_OK shM X cX12_angers RX12 4 rmX12_angers) {τ : sp_St} {r : Int32} (hR : sp_Ri shM X (some .int) τ r 0 0) {n : Nat}    {σ : sp_St} {z2 : Int32} (hf : X12_angers_41 n σ z2 = some (τ, r)) : sp_GG shM X σ 4 [none, none, some (.int z2), none] [] 41 0 0 := by
  unfold X12_angers_41 at hf
  refine sp_iload_n (i := 2) (q := 42) hX dX12_angers_41 rfl rfl rfl ?_
  exact sp_iret hX hR dX12_angers_42 hf (Nat.le_of_ble_eq_true rfl) (Nat.le_of_ble_eq_true rfl)
set_option maxRecDepth 100000 in
set_option maxHeartbeats 4000000 in
theorem hX12_angers_33 {X : sp_X} (hX : sp_OK shM X cX12_angers RX12 4 rmX12_angers) {τ : sp_St} {r : Int32} (hR : sp_Ri shM X (some .int) τ r 0 0) {n : Nat}   {k4 : sp_St → Int32 → Int32 → Int32 → Option (sp_St × Int32)} (hk4 : ∀ (σ : sp_St) (z1 : Int32) (z2 : Int32) (z3 : Int32), k4 σ z1 z2 z3 = some (τ, r) → sp_GG shM X σ 4 [some (.ref (sx_ad X 0)), some (.int z1), some (.int z2), some (.int z3)] [] 4 0 0) {σ : sp_St} {z1 : Int32} {z3 : Int32} {zs0 : Int32} {zs1 : Int32} (hf : X12_angers_33 n k4 σ z1 z3 zs0 zs1 = some (τ, r)) : sp_GG shM X σ 4 [some (.ref (sx_ad X 0)), some (.int z1), none, some (.int z3)] [.int zs0, .int zs1] 33 0 0 := by
  unfold X12_angers_33 at hf
  refine sp_iadd (q := 34) hX dX12_angers_33 rfl ?_
  obtain ⟨x1, e2, hf⟩ := sp_pl_some hf
  refine sp_nmi e2 ?_
  refine sp_istore_n (i := 2) (lv' := [some (.ref (sx_ad X 0)), some (.int z1), some (.int x1), some (.int z3)]) (q := 35) hX dX12_angers_34 rfl (Nat.le_of_ble_eq_true rfl) rfl rfl rfl ?_
  obtain ⟨x3, e4, hf⟩ := sp_pl_some hf
  refine sp_iinc (i := 3) (v := x3) (lv' := [some (.ref (sx_ad X 0)), some (.int z1), some (.int x1), some (.int x3)]) (q := 38) hX dX12_angers_35 rfl (by rw [e4, li_1]) (Nat.le_of_ble_eq_true rfl) rfl rfl rfl ?_
  refine sp_goto (tgt := 4) hX dX12_angers_38 (by decide) ?_
  exact hk4 σ z1 x1 x3 hf
set_option maxRecDepth 100000 in
set_option maxHeartbeats 4000000 in
theorem hX12_angers_4 {X : sp_X} (hX : sp_OK shM X cX12_angers RX12 4 rmX12_angers) {τ : sp_St} {r : Int32} (hR : sp_Ri shM X (some .int) τ r 0 0) {n : Nat}    : ∀ (f : Nat) (σ : sp_St) (z1 : Int32) (z2 : Int32) (z3 : Int32), X12_angers_4 n f σ z1 z2 z3 = some (τ, r) → sp_GG shM X σ 4 [some (.ref (sx_ad X 0)), some (.int z1), some (.int z2), some (.int z3)] [] 4 0 0 := by
  intro f
  induction f with
  | zero =>
    intro σ z1 z2 z3 hf
    rw [X12_angers_4] at hf
    cases hf
  | succ f ih =>
    intro σ z1 z2 z3 hf
    rw [X12_angers_4] at hf
    refine sp_iload_n (i := 3) (q := 5) hX dX12_angers_4 rfl rfl rfl ?_
    refine sp_aload_n (i := 0) (q := 6) hX dX12_angers_5 rfl rfl rfl ?_
    refine sp_gets (t := 3) (q := 9) hX flX12_33 fkX12_4 atM_0 srM_0_4 dX12_angers_6 rfl ?_
    refine sp_iconst (v := 2) (q := 10) hX dX12_angers_9 li_2 rfl ?_
    refine sp_iald (q := 11) hX arM_3 (by decide) dX12_angers_10 rfl ?_
    refine sp_icmp_ge (tgt := 41) (q := 14) hX dX12_angers_11 (by decide) rfl (fun hc => ?_) (fun hc => ?_)
    · rw [if_pos hc] at hf
      refine sp_drop (lv' := [none, none, some (.int z2), none]) (And.intro rfl trivial) ?_
      exact hX12_angers_41 hX hR hf
    · rw [if_neg hc] at hf
      refine sp_iload_n (i := 2) (q := 15) hX dX12_angers_14 rfl rfl rfl ?_
      refine sp_iload_n (i := 1) (q := 16) hX dX12_angers_15 rfl rfl rfl ?_
      refine sp_iload_n (i := 3) (q := 17) hX dX12_angers_16 rfl rfl rfl ?_
      obtain ⟨σ2, v3, h1, hf⟩ := sp_bd_so hf
      refine sp_callSi (As := [.int z1, .int z3]) (rest := [.int z2]) (q := 20) hX (cnX12_isOf (sp_st hX)  h1) cwX12_284 rfl rfl rfl rfl (Nat.le_of_ble_eq_true rfl) (Nat.le_of_ble_eq_true rfl) (Nat.le_of_ble_eq_true rfl) (Nat.le_of_ble_eq_true rfl) (Nat.le_of_ble_eq_true rfl) dX12_angers_17 rfl ?_
      refine sp_if_eq (tgt := 32) (q := 23) hX dX12_angers_20 (by decide) rfl (fun hc => ?_) (fun hc => ?_)
      · rw [if_pos hc] at hf
        refine sp_iconst (v := 0) (q := 33) hX dX12_angers_32 li_0 rfl ?_
        refine sp_drop (lv' := [some (.ref (sx_ad X 0)), some (.int z1), none, some (.int z3)]) (And.intro rfl (And.intro rfl (And.intro rfl trivial))) ?_
        exact hX12_angers_33 hX hR ih hf
      · rw [if_neg hc] at hf
        refine sp_aload_n (i := 0) (q := 24) hX dX12_angers_23 rfl rfl rfl ?_
        refine sp_gets (t := 14) (q := 27) hX flX12_70 fkX12_26 atM_0 srM_0_26 dX12_angers_24 rfl ?_
        refine sp_iload_n (i := 3) (q := 28) hX dX12_angers_27 rfl rfl rfl ?_
        obtain ⟨h4, hf⟩ := sp_ck_some hf
        refine sp_iald (q := 29) hX arM_14 h4 dX12_angers_28 rfl ?_
        refine sp_goto (tgt := 33) hX dX12_angers_29 (by decide) ?_
        refine sp_drop (lv' := [some (.ref (sx_ad X 0)), some (.int z1), none, some (.int z3)]) (And.intro rfl (And.intro rfl (And.intro rfl trivial))) ?_
        exact hX12_angers_33 hX hR ih hf
set_option maxRecDepth 100000 in
set_option maxHeartbeats 4000000 in
theorem hX12_angers {X : sp_X} (hX : sp_OK shM X cX12_angers RX12 4 rmX12_angers) {τ : sp_St} {r : Int32} (hR : sp_Ri shM X (some .int) τ r 0 0) {n : Nat}  {σ : sp_St} {a1 : Int32}  (hf : X12_angers n σ a1 = some (τ, r)) : sp_GG shM X σ 4 [some (.ref (sx_ad X 0)), some (.int a1), none, none] [] 0 0 0 := by
  unfold X12_angers at hf
  refine sp_iconst (v := 0) (q := 1) hX dX12_angers_0 li_0 rfl ?_
  obtain ⟨x1, e2, hf⟩ := sp_pl_some hf
  refine sp_nmi e2 ?_
  refine sp_istore_n (i := 2) (lv' := [some (.ref (sx_ad X 0)), some (.int a1), some (.int x1), none]) (q := 2) hX dX12_angers_1 rfl (Nat.le_of_ble_eq_true rfl) rfl rfl rfl ?_
  refine sp_iconst (v := 0) (q := 3) hX dX12_angers_2 li_0 rfl ?_
  obtain ⟨x3, e4, hf⟩ := sp_pl_some hf
  refine sp_nmi e4 ?_
  refine sp_istore_n (i := 3) (lv' := [some (.ref (sx_ad X 0)), some (.int a1), some (.int x1), some (.int x3)]) (q := 4) hX dX12_angers_3 rfl (Nat.le_of_ble_eq_true rfl) rfl rfl rfl ?_
  exact hX12_angers_4 hX hR n σ a1 x1 x3 hf
set_option maxRecDepth 100000 in
set_option maxHeartbeats 4000000 in
theorem cnX12_angers {l : Launch} (hst : l.stackTraces = false) {w : sp_Wd} {n : Nat}  {σ : sp_St} {a1 : Int32} {τ : sp_St} {r : Int32}  (hf : X12_angers n σ a1 = some (τ, r)) : sp_Ci shM l w yX12_angers cX12_angers 4 (some .int) rmX12_angers 0 0 σ [.ref (w.2.1 0), .int a1] τ r :=
  sp_ci (own := RX12) (by decide) rfl hst (Nat.le_of_ble_eq_true rfl) rfl (fun X hX hw hl hR => by subst hw; subst hl; exact hX12_angers hX hR   hf)
def rmX12_tellMost : Room := { frames := 3, cells := 0, slots := 0, locals := 65 }
def X12_tellMost_172 (n : Nat) (k41 : sp_St → Int32 → Int32 → Option (sp_St)) (σ : sp_St) (z1 : Int32) (z2 : Int32) : Option (sp_St) :=
  sp_pl (z2 + (-1)) fun x1 =>
  k41 σ z1 x1
def X12_tellMost_166 (n : Nat) (k41 : sp_St → Int32 → Int32 → Option (sp_St)) (k54 : sp_St → Int32 → Int32 → Int32 → Int32 → Option (sp_St)) (σ : sp_St) (z1 : Int32) (z2 : Int32) (z3 : Int32) (z4 : Int32) : Option (sp_St) :=
  sp_pl (z4 + 1) fun x1 =>
  k54 σ z1 z2 z3 x1
def X12_tellMost_152 (n : Nat) (k41 : sp_St → Int32 → Int32 → Option (sp_St)) (k54 : sp_St → Int32 → Int32 → Int32 → Int32 → Option (sp_St)) (σ : sp_St) (z1 : Int32) (z2 : Int32) (z3 : Int32) (z4 : Int32) (z5 : Int32) : Option (sp_St) :=
  sp_ck (sp_in ((z2 <<< (((10 : Int32)) &&& 31)) + z4) 6144) <|
  sp_pl (sp_sa σ 27 ((z2 <<< (((10 : Int32)) &&& 31)) + z4).toNatClampNeg z5) fun σ2 =>
  X12_tellMost_166 n k41 k54 σ2 z1 z2 z3 z4
def X12_tellMost_140 (n : Nat) (k41 : sp_St → Int32 → Int32 → Option (sp_St)) (k54 : sp_St → Int32 → Int32 → Int32 → Int32 → Option (sp_St)) (k92 : sp_St → Int32 → Int32 → Int32 → Int32 → Int32 → Int32 → Option (sp_St)) (σ : sp_St) (z1 : Int32) (z2 : Int32) (z3 : Int32) (z4 : Int32) (z5 : Int32) (z6 : Int32) : Option (sp_St) :=
  sp_pl ((z6 - ((1 : Int32))) &&& z4) fun x1 =>
  k92 σ z1 z2 z3 z4 z5 x1
def X12_tellMost_92 (n : Nat) (k41 : sp_St → Int32 → Int32 → Option (sp_St)) (k54 : sp_St → Int32 → Int32 → Int32 → Int32 → Option (sp_St)) : Nat → sp_St → Int32 → Int32 → Int32 → Int32 → Int32 → Int32 → Option (sp_St)
  | 0, _, _, _, _, _, _, _ => none
  | f + 1, σ, z1, z2, z3, z4, z5, z6 =>
    if z6 ≤ 0 then
      X12_tellMost_152 n k41 k54 σ z1 z2 z3 z4 z5
    else
      sp_bd (X12_lengths n σ z6) fun σ2 v3 =>
      if z3 < v3 then
        X12_tellMost_140 n k41 k54 (X12_tellMost_92 n k41 k54 f) σ2 z1 z2 z3 z4 z5 z6
      else
        sp_bd (X12_angers n σ2 z6) fun σ5 v6 =>
        sp_ck (sp_in (((z2 + ((1 : Int32))) <<< (((10 : Int32)) &&& 31)) + (z4 &&& (z6 ^^^ ((-1 : Int32))))) 6144) <|
        sp_pl (sp_max z5 (v6 + (sp_g σ5 27 (((z2 + ((1 : Int32))) <<< (((10 : Int32)) &&& 31)) + (z4 &&& (z6 ^^^ ((-1 : Int32)))))))) fun v8 =>
        X12_tellMost_140 n k41 k54 (X12_tellMost_92 n k41 k54 f) σ5 z1 z2 z3 z4 v8 z6
def X12_tellMost_54 (n : Nat) (k41 : sp_St → Int32 → Int32 → Option (sp_St)) : Nat → sp_St → Int32 → Int32 → Int32 → Int32 → Option (sp_St)
  | 0, _, _, _, _, _ => none
  | f + 1, σ, z1, z2, z3, z4 =>
    if z1 < z4 then
      X12_tellMost_172 n k41 σ z1 z2
    else
      if (z4 &&& (z1 ^^^ ((-1 : Int32)))) = 0 then
        sp_ck (sp_in (((z2 + ((1 : Int32))) <<< (((10 : Int32)) &&& 31)) + z4) 6144) <|
        sp_pl (sp_g σ 27 (((z2 + ((1 : Int32))) <<< (((10 : Int32)) &&& 31)) + z4)) fun x2 =>
        X12_tellMost_92 n k41 (X12_tellMost_54 n k41 f) n σ z1 z2 z3 z4 x2 z4
      else
        X12_tellMost_166 n k41 (X12_tellMost_54 n k41 f) σ z1 z2 z3 z4
def X12_tellMost_41 (n : Nat) : Nat → sp_St → Int32 → Int32 → Option (sp_St)
  | 0, _, _, _ => none
  | f + 1, σ, z1, z2 =>
    if z2 < 0 then
      some σ
    else
      sp_bd (X12_leftOf n σ z2) fun σ2 v3 =>
      sp_pl ((0 : Int32)) fun x4 =>
      X12_tellMost_54 n (X12_tellMost_41 n f) n σ2 z1 z2 v3 x4
def X12_tellMost_32 (n : Nat) (σ : sp_St) (z1 : Int32) : Option (sp_St) :=
  sp_pl ((sp_g σ 3 ((1 : Int32))) - ((1 : Int32))) fun x1 =>
  X12_tellMost_41 n n σ z1 x1
def X12_tellMost_2 (n : Nat) : Nat → sp_St → Int32 → Int32 → Option (sp_St)
  | 0, _, _, _ => none
  | f + 1, σ, z1, z2 =>
    if ((1024 : Int32)) ≤ z2 then
      X12_tellMost_32 n σ z1
    else
      sp_ck (sp_in (((sp_g σ 3 ((1 : Int32))) <<< (((10 : Int32)) &&& 31)) + z2) 6144) <|
      sp_pl (sp_sa σ 27 (((sp_g σ 3 ((1 : Int32))) <<< (((10 : Int32)) &&& 31)) + z2).toNatClampNeg ((0 : Int32))) fun σ2 =>
      sp_pl (z2 + 1) fun x4 =>
      X12_tellMost_2 n f σ2 z1 x4
def X12_tellMost (n : Nat)  (σ : sp_St) (a1 : Int32) : Option (sp_St) :=
  sp_pl ((0 : Int32)) fun x1 =>
  X12_tellMost_2 n n σ a1 x1
set_option maxRecDepth 100000 in
set_option maxHeartbeats 4000000 in
theorem hX12_tellMost_172 {X : sp_X} (hX : sp_OK shM X cX12_tellMost RX12 7 rmX12_tellMost) {τ : sp_St} (hR : sp_Rv shM X τ 0 0) {n : Nat}   {k41 : sp_St → Int32 → Int32 → Option (sp_St)} (hk41 : ∀ (σ : sp_St) (z1 : Int32) (z2 : Int32), k41 σ z1 z2 = some τ → sp_GG shM X σ 7 [some (.ref (sx_ad X 0)), some (.int z1), some (.int z2), none, none, none, none] [] 41 0 0) {σ : sp_St} {z1 : Int32} {z2 : Int32} (hf : X12_tellMost_172 n k41 σ z1 z2 = some τ) : sp_GG shM X σ 7 [some (.ref (sx_ad X 0)), some (.int z1), some (.int z2), none, none, none, none] [] 172 0 0 := by
  unfold X12_tellMost_172 at hf
  obtain ⟨x1, e2, hf⟩ := sp_pl_some hf
  refine sp_iinc (i := 2) (v := x1) (lv' := [some (.ref (sx_ad X 0)), some (.int z1), some (.int x1), none, none, none, none]) (q := 175) hX dX12_tellMost_172 rfl (by rw [e2, li_m1]) (Nat.le_of_ble_eq_true rfl) rfl rfl rfl ?_
  refine sp_goto (tgt := 41) hX dX12_tellMost_175 (by decide) ?_
  exact hk41 σ z1 x1 hf
set_option maxRecDepth 100000 in
set_option maxHeartbeats 4000000 in
theorem hX12_tellMost_166 {X : sp_X} (hX : sp_OK shM X cX12_tellMost RX12 7 rmX12_tellMost) {τ : sp_St} (hR : sp_Rv shM X τ 0 0) {n : Nat}   {k41 : sp_St → Int32 → Int32 → Option (sp_St)} (hk41 : ∀ (σ : sp_St) (z1 : Int32) (z2 : Int32), k41 σ z1 z2 = some τ → sp_GG shM X σ 7 [some (.ref (sx_ad X 0)), some (.int z1), some (.int z2), none, none, none, none] [] 41 0 0) {k54 : sp_St → Int32 → Int32 → Int32 → Int32 → Option (sp_St)} (hk54 : ∀ (σ : sp_St) (z1 : Int32) (z2 : Int32) (z3 : Int32) (z4 : Int32), k54 σ z1 z2 z3 z4 = some τ → sp_GG shM X σ 7 [some (.ref (sx_ad X 0)), some (.int z1), some (.int z2), some (.int z3), some (.int z4), none, none] [] 54 0 0) {σ : sp_St} {z1 : Int32} {z2 : Int32} {z3 : Int32} {z4 : Int32} (hf : X12_tellMost_166 n k41 k54 σ z1 z2 z3 z4 = some τ) : sp_GG shM X σ 7 [some (.ref (sx_ad X 0)), some (.int z1), some (.int z2), some (.int z3), some (.int z4), none, none] [] 166 0 0 := by
  unfold X12_tellMost_166 at hf
  obtain ⟨x1, e2, hf⟩ := sp_pl_some hf
  refine sp_iinc (i := 4) (v := x1) (lv' := [some (.ref (sx_ad X 0)), some (.int z1), some (.int z2), some (.int z3), some (.int x1), none, none]) (q := 169) hX dX12_tellMost_166 rfl (by rw [e2, li_1]) (Nat.le_of_ble_eq_true rfl) rfl rfl rfl ?_
  refine sp_goto (tgt := 54) hX dX12_tellMost_169 (by decide) ?_
  exact hk54 σ z1 z2 z3 x1 hf
set_option maxRecDepth 100000 in
set_option maxHeartbeats 4000000 in
theorem hX12_tellMost_152 {X : sp_X} (hX : sp_OK shM X cX12_tellMost RX12 7 rmX12_tellMost) {τ : sp_St} (hR : sp_Rv shM X τ 0 0) {n : Nat}   {k41 : sp_St → Int32 → Int32 → Option (sp_St)} (hk41 : ∀ (σ : sp_St) (z1 : Int32) (z2 : Int32), k41 σ z1 z2 = some τ → sp_GG shM X σ 7 [some (.ref (sx_ad X 0)), some (.int z1), some (.int z2), none, none, none, none] [] 41 0 0) {k54 : sp_St → Int32 → Int32 → Int32 → Int32 → Option (sp_St)} (hk54 : ∀ (σ : sp_St) (z1 : Int32) (z2 : Int32) (z3 : Int32) (z4 : Int32), k54 σ z1 z2 z3 z4 = some τ → sp_GG shM X σ 7 [some (.ref (sx_ad X 0)), some (.int z1), some (.int z2), some (.int z3), some (.int z4), none, none] [] 54 0 0) {σ : sp_St} {z1 : Int32} {z2 : Int32} {z3 : Int32} {z4 : Int32} {z5 : Int32} (hf : X12_tellMost_152 n k41 k54 σ z1 z2 z3 z4 z5 = some τ) : sp_GG shM X σ 7 [some (.ref (sx_ad X 0)), some (.int z1), some (.int z2), some (.int z3), some (.int z4), some (.int z5), none] [] 152 0 0 := by
  unfold X12_tellMost_152 at hf
  refine sp_aload_n (i := 0) (q := 153) hX dX12_tellMost_152 rfl rfl rfl ?_
  refine sp_gets (t := 27) (q := 156) hX flX12_108 fkX12_43 atM_0 srM_0_43 dX12_tellMost_153 rfl ?_
  refine sp_iload_n (i := 2) (q := 157) hX dX12_tellMost_156 rfl rfl rfl ?_
  refine sp_bipush (v := 10) (q := 159) hX dX12_tellMost_157 lb_10 rfl ?_
  refine sp_ishl (q := 160) hX dX12_tellMost_159 rfl ?_
  refine sp_iload (i := 4) (q := 162) hX dX12_tellMost_160 rfl rfl ?_
  refine sp_iadd (q := 163) hX dX12_tellMost_162 rfl ?_
  refine sp_iload (i := 5) (q := 165) hX dX12_tellMost_163 rfl rfl ?_
  obtain ⟨h1, hf⟩ := sp_ck_some hf
  obtain ⟨σ2, e3, hf⟩ := sp_pl_some hf
  refine sp_iast (q := 166) hX arM_27 h1 dX12_tellMost_165 rfl ?_
  refine sp_nms e3 ?_
  refine sp_drop (lv' := [some (.ref (sx_ad X 0)), some (.int z1), some (.int z2), some (.int z3), some (.int z4), none, none]) (And.intro rfl (And.intro rfl (And.intro rfl (And.intro rfl (And.intro rfl trivial))))) ?_
  exact hX12_tellMost_166 hX hR hk41 hk54 hf
set_option maxRecDepth 100000 in
set_option maxHeartbeats 4000000 in
theorem hX12_tellMost_140 {X : sp_X} (hX : sp_OK shM X cX12_tellMost RX12 7 rmX12_tellMost) {τ : sp_St} (hR : sp_Rv shM X τ 0 0) {n : Nat}   {k41 : sp_St → Int32 → Int32 → Option (sp_St)} (hk41 : ∀ (σ : sp_St) (z1 : Int32) (z2 : Int32), k41 σ z1 z2 = some τ → sp_GG shM X σ 7 [some (.ref (sx_ad X 0)), some (.int z1), some (.int z2), none, none, none, none] [] 41 0 0) {k54 : sp_St → Int32 → Int32 → Int32 → Int32 → Option (sp_St)} (hk54 : ∀ (σ : sp_St) (z1 : Int32) (z2 : Int32) (z3 : Int32) (z4 : Int32), k54 σ z1 z2 z3 z4 = some τ → sp_GG shM X σ 7 [some (.ref (sx_ad X 0)), some (.int z1), some (.int z2), some (.int z3), some (.int z4), none, none] [] 54 0 0) {k92 : sp_St → Int32 → Int32 → Int32 → Int32 → Int32 → Int32 → Option (sp_St)} (hk92 : ∀ (σ : sp_St) (z1 : Int32) (z2 : Int32) (z3 : Int32) (z4 : Int32) (z5 : Int32) (z6 : Int32), k92 σ z1 z2 z3 z4 z5 z6 = some τ → sp_GG shM X σ 7 [some (.ref (sx_ad X 0)), some (.int z1), some (.int z2), some (.int z3), some (.int z4), some (.int z5), some (.int z6)] [] 92 0 0) {σ : sp_St} {z1 : Int32} {z2 : Int32} {z3 : Int32} {z4 : Int32} {z5 : Int32} {z6 : Int32} (hf : X12_tellMost_140 n k41 k54 k92 σ z1 z2 z3 z4 z5 z6 = some τ) : sp_GG shM X σ 7 [some (.ref (sx_ad X 0)), some (.int z1), some (.int z2), some (.int z3), some (.int z4), some (.int z5), some (.int z6)] [] 140 0 0 := by
  unfold X12_tellMost_140 at hf
  refine sp_iload (i := 6) (q := 142) hX dX12_tellMost_140 rfl rfl ?_
  refine sp_iconst (v := 1) (q := 143) hX dX12_tellMost_142 li_1 rfl ?_
  refine sp_isub (q := 144) hX dX12_tellMost_143 rfl ?_
  refine sp_iload (i := 4) (q := 146) hX dX12_tellMost_144 rfl rfl ?_
  refine sp_iand (q := 147) hX dX12_tellMost_146 rfl ?_
  obtain ⟨x1, e2, hf⟩ := sp_pl_some hf
  refine sp_nmi e2 ?_
  refine sp_istore (i := 6) (lv' := [some (.ref (sx_ad X 0)), some (.int z1), some (.int z2), some (.int z3), some (.int z4), some (.int z5), some (.int x1)]) (q := 149) hX dX12_tellMost_147 (Nat.le_of_ble_eq_true rfl) rfl rfl rfl ?_
  refine sp_goto (tgt := 92) hX dX12_tellMost_149 (by decide) ?_
  exact hk92 σ z1 z2 z3 z4 z5 x1 hf
set_option maxRecDepth 100000 in
set_option maxHeartbeats 4000000 in
theorem hX12_tellMost_92 {X : sp_X} (hX : sp_OK shM X cX12_tellMost RX12 7 rmX12_tellMost) {τ : sp_St} (hR : sp_Rv shM X τ 0 0) {n : Nat}   {k41 : sp_St → Int32 → Int32 → Option (sp_St)} (hk41 : ∀ (σ : sp_St) (z1 : Int32) (z2 : Int32), k41 σ z1 z2 = some τ → sp_GG shM X σ 7 [some (.ref (sx_ad X 0)), some (.int z1), some (.int z2), none, none, none, none] [] 41 0 0) {k54 : sp_St → Int32 → Int32 → Int32 → Int32 → Option (sp_St)} (hk54 : ∀ (σ : sp_St) (z1 : Int32) (z2 : Int32) (z3 : Int32) (z4 : Int32), k54 σ z1 z2 z3 z4 = some τ → sp_GG shM X σ 7 [some (.ref (sx_ad X 0)), some (.int z1), some (.int z2), some (.int z3), some (.int z4), none, none] [] 54 0 0) : ∀ (f : Nat) (σ : sp_St) (z1 : Int32) (z2 : Int32) (z3 : Int32) (z4 : Int32) (z5 : Int32) (z6 : Int32), X12_tellMost_92 n k41 k54 f σ z1 z2 z3 z4 z5 z6 = some τ → sp_GG shM X σ 7 [some (.ref (sx_ad X 0)), some (.int z1), some (.int z2), some (.int z3), some (.int z4), some (.int z5), some (.int z6)] [] 92 0 0 := by
  intro f
  induction f with
  | zero =>
    intro σ z1 z2 z3 z4 z5 z6 hf
    rw [X12_tellMost_92] at hf
    cases hf
  | succ f ih =>
    intro σ z1 z2 z3 z4 z5 z6 hf
    rw [X12_tellMost_92] at hf
    refine sp_iload (i := 6) (q := 94) hX dX12_tellMost_92 rfl rfl ?_
    refine sp_if_le (tgt := 152) (q := 97) hX dX12_tellMost_94 (by decide) rfl (fun hc => ?_) (fun hc => ?_)
    · rw [if_pos hc] at hf
      refine sp_drop (lv' := [some (.ref (sx_ad X 0)), some (.int z1), some (.int z2), some (.int z3), some (.int z4), some (.int z5), none]) (And.intro rfl (And.intro rfl (And.intro rfl (And.intro rfl (And.intro rfl (And.intro rfl trivial)))))) ?_
      exact hX12_tellMost_152 hX hR hk41 hk54 hf
    · rw [if_neg hc] at hf
      refine sp_aload_n (i := 0) (q := 98) hX dX12_tellMost_97 rfl rfl rfl ?_
      refine sp_iload (i := 6) (q := 100) hX dX12_tellMost_98 rfl rfl ?_
      obtain ⟨σ2, v3, h1, hf⟩ := sp_bd_so hf
      refine sp_callVi (As := [.int z6]) (rest := []) (q := 103) hX (cnX12_lengths (sp_st hX)  h1) cwX12_345 atM_0 rfl rfl rfl rfl rfl (Nat.le_of_ble_eq_true rfl) (Nat.le_of_ble_eq_true rfl) (Nat.le_of_ble_eq_true rfl) (Nat.le_of_ble_eq_true rfl) (Nat.le_of_ble_eq_true rfl) dX12_tellMost_100 rfl ?_
      refine sp_iload_n (i := 3) (q := 104) hX dX12_tellMost_103 rfl rfl rfl ?_
      refine sp_icmp_gt (tgt := 140) (q := 107) hX dX12_tellMost_104 (by decide) rfl (fun hc => ?_) (fun hc => ?_)
      · rw [if_pos hc] at hf
        exact hX12_tellMost_140 hX hR hk41 hk54 ih hf
      · rw [if_neg hc] at hf
        refine sp_iload (i := 5) (q := 109) hX dX12_tellMost_107 rfl rfl ?_
        refine sp_aload_n (i := 0) (q := 110) hX dX12_tellMost_109 rfl rfl rfl ?_
        refine sp_iload (i := 6) (q := 112) hX dX12_tellMost_110 rfl rfl ?_
        obtain ⟨σ5, v6, h4, hf⟩ := sp_bd_so hf
        refine sp_callVi (As := [.int z6]) (rest := [.int z5]) (q := 115) hX (cnX12_angers (sp_st hX)  h4) cwX12_440 atM_0 rfl rfl rfl rfl rfl (Nat.le_of_ble_eq_true rfl) (Nat.le_of_ble_eq_true rfl) (Nat.le_of_ble_eq_true rfl) (Nat.le_of_ble_eq_true rfl) (Nat.le_of_ble_eq_true rfl) dX12_tellMost_112 rfl ?_
        refine sp_aload_n (i := 0) (q := 116) hX dX12_tellMost_115 rfl rfl rfl ?_
        refine sp_gets (t := 27) (q := 119) hX flX12_108 fkX12_43 atM_0 srM_0_43 dX12_tellMost_116 rfl ?_
        refine sp_iload_n (i := 2) (q := 120) hX dX12_tellMost_119 rfl rfl rfl ?_
        refine sp_iconst (v := 1) (q := 121) hX dX12_tellMost_120 li_1 rfl ?_
        refine sp_iadd (q := 122) hX dX12_tellMost_121 rfl ?_
        refine sp_bipush (v := 10) (q := 124) hX dX12_tellMost_122 lb_10 rfl ?_
        refine sp_ishl (q := 125) hX dX12_tellMost_124 rfl ?_
        refine sp_iload (i := 4) (q := 127) hX dX12_tellMost_125 rfl rfl ?_
        refine sp_iload (i := 6) (q := 129) hX dX12_tellMost_127 rfl rfl ?_
        refine sp_iconst (v := -1) (q := 130) hX dX12_tellMost_129 li_m1 rfl ?_
        refine sp_ixor (q := 131) hX dX12_tellMost_130 rfl ?_
        refine sp_iand (q := 132) hX dX12_tellMost_131 rfl ?_
        refine sp_iadd (q := 133) hX dX12_tellMost_132 rfl ?_
        obtain ⟨h7, hf⟩ := sp_ck_some hf
        refine sp_iald (q := 134) hX arM_27 h7 dX12_tellMost_133 rfl ?_
        refine sp_iadd (q := 135) hX dX12_tellMost_134 rfl ?_
        obtain ⟨v8, e9, hf⟩ := sp_pl_some hf
        refine sp_mmax (q := 138) hX wd_1991 wd_656 wd_144 wd_657 (Nat.le_of_ble_eq_true rfl) (Nat.le_of_ble_eq_true rfl) (Nat.le_of_ble_eq_true rfl) (Nat.le_of_ble_eq_true rfl) dX12_tellMost_135 rfl ?_
        refine sp_nmi e9 ?_
        refine sp_istore (i := 5) (lv' := [some (.ref (sx_ad X 0)), some (.int z1), some (.int z2), some (.int z3), some (.int z4), some (.int v8), some (.int z6)]) (q := 140) hX dX12_tellMost_138 (Nat.le_of_ble_eq_true rfl) rfl rfl rfl ?_
        exact hX12_tellMost_140 hX hR hk41 hk54 ih hf
set_option maxRecDepth 100000 in
set_option maxHeartbeats 4000000 in
theorem hX12_tellMost_54 {X : sp_X} (hX : sp_OK shM X cX12_tellMost RX12 7 rmX12_tellMost) {τ : sp_St} (hR : sp_Rv shM X τ 0 0) {n : Nat}   {k41 : sp_St → Int32 → Int32 → Option (sp_St)} (hk41 : ∀ (σ : sp_St) (z1 : Int32) (z2 : Int32), k41 σ z1 z2 = some τ → sp_GG shM X σ 7 [some (.ref (sx_ad X 0)), some (.int z1), some (.int z2), none, none, none, none] [] 41 0 0) : ∀ (f : Nat) (σ : sp_St) (z1 : Int32) (z2 : Int32) (z3 : Int32) (z4 : Int32), X12_tellMost_54 n k41 f σ z1 z2 z3 z4 = some τ → sp_GG shM X σ 7 [some (.ref (sx_ad X 0)), some (.int z1), some (.int z2), some (.int z3), some (.int z4), none, none] [] 54 0 0 := by
  intro f
  induction f with
  | zero =>
    intro σ z1 z2 z3 z4 hf
    rw [X12_tellMost_54] at hf
    cases hf
  | succ f ih =>
    intro σ z1 z2 z3 z4 hf
    rw [X12_tellMost_54] at hf
    refine sp_iload (i := 4) (q := 56) hX dX12_tellMost_54 rfl rfl ?_
    refine sp_iload_n (i := 1) (q := 57) hX dX12_tellMost_56 rfl rfl rfl ?_
    refine sp_icmp_gt (tgt := 172) (q := 60) hX dX12_tellMost_57 (by decide) rfl (fun hc => ?_) (fun hc => ?_)
    · rw [if_pos hc] at hf
      refine sp_drop (lv' := [some (.ref (sx_ad X 0)), some (.int z1), some (.int z2), none, none, none, none]) (And.intro rfl (And.intro rfl (And.intro rfl trivial))) ?_
      exact hX12_tellMost_172 hX hR hk41 hf
    · rw [if_neg hc] at hf
      refine sp_iload (i := 4) (q := 62) hX dX12_tellMost_60 rfl rfl ?_
      refine sp_iload_n (i := 1) (q := 63) hX dX12_tellMost_62 rfl rfl rfl ?_
      refine sp_iconst (v := -1) (q := 64) hX dX12_tellMost_63 li_m1 rfl ?_
      refine sp_ixor (q := 65) hX dX12_tellMost_64 rfl ?_
      refine sp_iand (q := 66) hX dX12_tellMost_65 rfl ?_
      refine sp_if_eq (tgt := 72) (q := 69) hX dX12_tellMost_66 (by decide) rfl (fun hc => ?_) (fun hc => ?_)
      · rw [if_pos hc] at hf
        refine sp_aload_n (i := 0) (q := 73) hX dX12_tellMost_72 rfl rfl rfl ?_
        refine sp_gets (t := 27) (q := 76) hX flX12_108 fkX12_43 atM_0 srM_0_43 dX12_tellMost_73 rfl ?_
        refine sp_iload_n (i := 2) (q := 77) hX dX12_tellMost_76 rfl rfl rfl ?_
        refine sp_iconst (v := 1) (q := 78) hX dX12_tellMost_77 li_1 rfl ?_
        refine sp_iadd (q := 79) hX dX12_tellMost_78 rfl ?_
        refine sp_bipush (v := 10) (q := 81) hX dX12_tellMost_79 lb_10 rfl ?_
        refine sp_ishl (q := 82) hX dX12_tellMost_81 rfl ?_
        refine sp_iload (i := 4) (q := 84) hX dX12_tellMost_82 rfl rfl ?_
        refine sp_iadd (q := 85) hX dX12_tellMost_84 rfl ?_
        obtain ⟨h1, hf⟩ := sp_ck_some hf
        refine sp_iald (q := 86) hX arM_27 h1 dX12_tellMost_85 rfl ?_
        obtain ⟨x2, e3, hf⟩ := sp_pl_some hf
        refine sp_nmi e3 ?_
        refine sp_istore (i := 5) (lv' := [some (.ref (sx_ad X 0)), some (.int z1), some (.int z2), some (.int z3), some (.int z4), some (.int x2), none]) (q := 88) hX dX12_tellMost_86 (Nat.le_of_ble_eq_true rfl) rfl rfl rfl ?_
        refine sp_iload (i := 4) (q := 90) hX dX12_tellMost_88 rfl rfl ?_
        refine sp_istore (i := 6) (lv' := [some (.ref (sx_ad X 0)), some (.int z1), some (.int z2), some (.int z3), some (.int z4), some (.int x2), some (.int z4)]) (q := 92) hX dX12_tellMost_90 (Nat.le_of_ble_eq_true rfl) rfl rfl rfl ?_
        exact hX12_tellMost_92 hX hR hk41 ih n σ z1 z2 z3 z4 x2 z4 hf
      · rw [if_neg hc] at hf
        refine sp_goto (tgt := 166) hX dX12_tellMost_69 (by decide) ?_
        exact hX12_tellMost_166 hX hR hk41 ih hf
set_option maxRecDepth 100000 in
set_option maxHeartbeats 4000000 in
theorem hX12_tellMost_41 {X : sp_X} (hX : sp_OK shM X cX12_tellMost RX12 7 rmX12_tellMost) {τ : sp_St} (hR : sp_Rv shM X τ 0 0) {n : Nat}    : ∀ (f : Nat) (σ : sp_St) (z1 : Int32) (z2 : Int32), X12_tellMost_41 n f σ z1 z2 = some τ → sp_GG shM X σ 7 [some (.ref (sx_ad X 0)), some (.int z1), some (.int z2), none, none, none, none] [] 41 0 0 := by
  intro f
  induction f with
  | zero =>
    intro σ z1 z2 hf
    rw [X12_tellMost_41] at hf
    cases hf
  | succ f ih =>
    intro σ z1 z2 hf
    rw [X12_tellMost_41] at hf
    refine sp_iload_n (i := 2) (q := 42) hX dX12_tellMost_41 rfl rfl rfl ?_
    refine sp_if_lt (tgt := 178) (q := 45) hX dX12_tellMost_42 (by decide) rfl (fun hc => ?_) (fun hc => ?_)
    · rw [if_pos hc] at hf
      exact sp_vret hX hR dX12_tellMost_178 hf (Nat.le_of_ble_eq_true rfl) (Nat.le_of_ble_eq_true rfl)
    · rw [if_neg hc] at hf
      refine sp_aload_n (i := 0) (q := 46) hX dX12_tellMost_45 rfl rfl rfl ?_
      refine sp_iload_n (i := 2) (q := 47) hX dX12_tellMost_46 rfl rfl rfl ?_
      obtain ⟨σ2, v3, h1, hf⟩ := sp_bd_so hf
      refine sp_callVi (As := [.int z2]) (rest := []) (q := 50) hX (cnX12_leftOf (sp_st hX)  h1) cwX12_405 atM_0 rfl rfl rfl rfl rfl (Nat.le_of_ble_eq_true rfl) (Nat.le_of_ble_eq_true rfl) (Nat.le_of_ble_eq_true rfl) (Nat.le_of_ble_eq_true rfl) (Nat.le_of_ble_eq_true rfl) dX12_tellMost_47 rfl ?_
      refine sp_istore_n (i := 3) (lv' := [some (.ref (sx_ad X 0)), some (.int z1), some (.int z2), some (.int v3), none, none, none]) (q := 51) hX dX12_tellMost_50 rfl (Nat.le_of_ble_eq_true rfl) rfl rfl rfl ?_
      refine sp_iconst (v := 0) (q := 52) hX dX12_tellMost_51 li_0 rfl ?_
      obtain ⟨x4, e5, hf⟩ := sp_pl_some hf
      refine sp_nmi e5 ?_
      refine sp_istore (i := 4) (lv' := [some (.ref (sx_ad X 0)), some (.int z1), some (.int z2), some (.int v3), some (.int x4), none, none]) (q := 54) hX dX12_tellMost_52 (Nat.le_of_ble_eq_true rfl) rfl rfl rfl ?_
      exact hX12_tellMost_54 hX hR ih n σ2 z1 z2 v3 x4 hf
set_option maxRecDepth 100000 in
set_option maxHeartbeats 4000000 in
theorem hX12_tellMost_32 {X : sp_X} (hX : sp_OK shM X cX12_tellMost RX12 7 rmX12_tellMost) {τ : sp_St} (hR : sp_Rv shM X τ 0 0) {n : Nat}    {σ : sp_St} {z1 : Int32} (hf : X12_tellMost_32 n σ z1 = some τ) : sp_GG shM X σ 7 [some (.ref (sx_ad X 0)), some (.int z1), none, none, none, none, none] [] 32 0 0 := by
  unfold X12_tellMost_32 at hf
  refine sp_aload_n (i := 0) (q := 33) hX dX12_tellMost_32 rfl rfl rfl ?_
  refine sp_gets (t := 3) (q := 36) hX flX12_33 fkX12_4 atM_0 srM_0_4 dX12_tellMost_33 rfl ?_
  refine sp_iconst (v := 1) (q := 37) hX dX12_tellMost_36 li_1 rfl ?_
  refine sp_iald (q := 38) hX arM_3 (by decide) dX12_tellMost_37 rfl ?_
  refine sp_iconst (v := 1) (q := 39) hX dX12_tellMost_38 li_1 rfl ?_
  refine sp_isub (q := 40) hX dX12_tellMost_39 rfl ?_
  obtain ⟨x1, e2, hf⟩ := sp_pl_some hf
  refine sp_nmi e2 ?_
  refine sp_istore_n (i := 2) (lv' := [some (.ref (sx_ad X 0)), some (.int z1), some (.int x1), none, none, none, none]) (q := 41) hX dX12_tellMost_40 rfl (Nat.le_of_ble_eq_true rfl) rfl rfl rfl ?_
  exact hX12_tellMost_41 hX hR n σ z1 x1 hf
set_option maxRecDepth 100000 in
set_option maxHeartbeats 4000000 in
theorem hX12_tellMost_2 {X : sp_X} (hX : sp_OK shM X cX12_tellMost RX12 7 rmX12_tellMost) {τ : sp_St} (hR : sp_Rv shM X τ 0 0) {n : Nat}    : ∀ (f : Nat) (σ : sp_St) (z1 : Int32) (z2 : Int32), X12_tellMost_2 n f σ z1 z2 = some τ → sp_GG shM X σ 7 [some (.ref (sx_ad X 0)), some (.int z1), some (.int z2), none, none, none, none] [] 2 0 0 := by
  intro f
  induction f with
  | zero =>
    intro σ z1 z2 hf
    rw [X12_tellMost_2] at hf
    cases hf
  | succ f ih =>
    intro σ z1 z2 hf
    rw [X12_tellMost_2] at hf
    refine sp_iload_n (i := 2) (q := 3) hX dX12_tellMost_2 rfl rfl rfl ?_
    refine sp_sipush (v := 1024) (q := 6) hX dX12_tellMost_3 ls_1024 rfl ?_
    refine sp_icmp_ge (tgt := 32) (q := 9) hX dX12_tellMost_6 (by decide) rfl (fun hc => ?_) (fun hc => ?_)
    · rw [if_pos hc] at hf
      refine sp_drop (lv' := [some (.ref (sx_ad X 0)), some (.int z1), none, none, none, none, none]) (And.intro rfl (And.intro rfl trivial)) ?_
      exact hX12_tellMost_32 hX hR hf
    · rw [if_neg hc] at hf
      refine sp_aload_n (i := 0) (q := 10) hX dX12_tellMost_9 rfl rfl rfl ?_
      refine sp_gets (t := 27) (q := 13) hX flX12_108 fkX12_43 atM_0 srM_0_43 dX12_tellMost_10 rfl ?_
      refine sp_aload_n (i := 0) (q := 14) hX dX12_tellMost_13 rfl rfl rfl ?_
      refine sp_gets (t := 3) (q := 17) hX flX12_33 fkX12_4 atM_0 srM_0_4 dX12_tellMost_14 rfl ?_
      refine sp_iconst (v := 1) (q := 18) hX dX12_tellMost_17 li_1 rfl ?_
      refine sp_iald (q := 19) hX arM_3 (by decide) dX12_tellMost_18 rfl ?_
      refine sp_bipush (v := 10) (q := 21) hX dX12_tellMost_19 lb_10 rfl ?_
      refine sp_ishl (q := 22) hX dX12_tellMost_21 rfl ?_
      refine sp_iload_n (i := 2) (q := 23) hX dX12_tellMost_22 rfl rfl rfl ?_
      refine sp_iadd (q := 24) hX dX12_tellMost_23 rfl ?_
      refine sp_iconst (v := 0) (q := 25) hX dX12_tellMost_24 li_0 rfl ?_
      obtain ⟨h1, hf⟩ := sp_ck_some hf
      obtain ⟨σ2, e3, hf⟩ := sp_pl_some hf
      refine sp_iast (q := 26) hX arM_27 h1 dX12_tellMost_25 rfl ?_
      refine sp_nms e3 ?_
      obtain ⟨x4, e5, hf⟩ := sp_pl_some hf
      refine sp_iinc (i := 2) (v := x4) (lv' := [some (.ref (sx_ad X 0)), some (.int z1), some (.int x4), none, none, none, none]) (q := 29) hX dX12_tellMost_26 rfl (by rw [e5, li_1]) (Nat.le_of_ble_eq_true rfl) rfl rfl rfl ?_
      refine sp_goto (tgt := 2) hX dX12_tellMost_29 (by decide) ?_
      exact ih σ2 z1 x4 hf
set_option maxRecDepth 100000 in
set_option maxHeartbeats 4000000 in
theorem hX12_tellMost {X : sp_X} (hX : sp_OK shM X cX12_tellMost RX12 7 rmX12_tellMost) {τ : sp_St} (hR : sp_Rv shM X τ 0 0) {n : Nat}  {σ : sp_St} {a1 : Int32}  (hf : X12_tellMost n σ a1 = some τ) : sp_GG shM X σ 7 [some (.ref (sx_ad X 0)), some (.int a1), none, none, none, none, none] [] 0 0 0 := by
  unfold X12_tellMost at hf
  refine sp_iconst (v := 0) (q := 1) hX dX12_tellMost_0 li_0 rfl ?_
  obtain ⟨x1, e2, hf⟩ := sp_pl_some hf
  refine sp_nmi e2 ?_
  refine sp_istore_n (i := 2) (lv' := [some (.ref (sx_ad X 0)), some (.int a1), some (.int x1), none, none, none, none]) (q := 2) hX dX12_tellMost_1 rfl (Nat.le_of_ble_eq_true rfl) rfl rfl rfl ?_
  exact hX12_tellMost_2 hX hR n σ a1 x1 hf
set_option maxRecDepth 100000 in
set_option maxHeartbeats 4000000 in
theorem cnX12_tellMost {l : Launch} (hst : l.stackTraces = false) {w : sp_Wd} {n : Nat}  {σ : sp_St} {a1 : Int32} {τ : sp_St}  (hf : X12_tellMost n σ a1 = some τ) : sp_Cv shM l w yX12_tellMost cX12_tellMost 7 rmX12_tellMost 0 0 σ [.ref (w.2.1 0), .int a1] τ :=
  sp_cv (own := RX12) (by decide) rfl hst (Nat.le_of_ble_eq_true rfl) rfl (fun X hX hw hl hR => by subst hw; subst hl; exact hX12_tellMost hX hR   hf)
def rmX12_goingTo : Room := { frames := 3, cells := 0, slots := 0, locals := 65 }
def X12_goingTo_73 (n : Nat) (σ : sp_St) (z2 : Int32) : Option (sp_St × Int32) :=
  some (σ, z2)
def X12_goingTo_67 (n : Nat) (k2 : sp_St → Int32 → Int32 → Int32 → Option (sp_St × Int32)) (σ : sp_St) (z1 : Int32) (z2 : Int32) (z3 : Int32) : Option (sp_St × Int32) :=
  sp_pl (z3 + 1) fun x1 =>
  k2 σ z1 z2 x1
def X12_goingTo_65 (n : Nat) (σ : sp_St) (z3 : Int32) : Option (sp_St × Int32) :=
  some (σ, z3)
def X12_goingTo_2 (n : Nat) : Nat → sp_St → Int32 → Int32 → Int32 → Option (sp_St × Int32)
  | 0, _, _, _, _ => none
  | f + 1, σ, z1, z2, z3 =>
    if z2 ≤ z3 then
      X12_goingTo_73 n σ z2
    else
      if (z3 &&& (z2 ^^^ ((-1 : Int32)))) = 0 then
        sp_bd (X12_lengths n σ z3) fun σ2 v3 =>
        sp_bd (X12_leftOf n σ2 z1) fun σ5 v6 =>
        if v6 < v3 then
          X12_goingTo_67 n (X12_goingTo_2 n f) σ5 z1 z2 z3
        else
          sp_bd (X12_angers n σ5 z3) fun σ8 v9 =>
          sp_ck (sp_in (((z1 + ((1 : Int32))) <<< (((10 : Int32)) &&& 31)) + (z2 &&& (z3 ^^^ ((-1 : Int32))))) 6144) <|
          sp_ck (sp_in ((z1 <<< (((10 : Int32)) &&& 31)) + z2) 6144) <|
          if (v9 + (sp_g σ8 27 (((z1 + ((1 : Int32))) <<< (((10 : Int32)) &&& 31)) + (z2 &&& (z3 ^^^ ((-1 : Int32))))))) = (sp_g σ8 27 ((z1 <<< (((10 : Int32)) &&& 31)) + z2)) then
            X12_goingTo_65 n σ8 z3
          else
            X12_goingTo_67 n (X12_goingTo_2 n f) σ8 z1 z2 z3
      else
        X12_goingTo_67 n (X12_goingTo_2 n f) σ z1 z2 z3
def X12_goingTo (n : Nat)  (σ : sp_St) (a1 : Int32) (a2 : Int32) : Option (sp_St × Int32) :=
  sp_pl ((0 : Int32)) fun x1 =>
  X12_goingTo_2 n n σ a1 a2 x1
set_option maxRecDepth 100000 in
set_option maxHeartbeats 4000000 in
theorem hX12_goingTo_73 {X : sp_X} (hX : sp_OK shM X cX12_goingTo RX12 4 rmX12_goingTo) {τ : sp_St} {r : Int32} (hR : sp_Ri shM X (some .int) τ r 0 0) {n : Nat}    {σ : sp_St} {z2 : Int32} (hf : X12_goingTo_73 n σ z2 = some (τ, r)) : sp_GG shM X σ 4 [none, none, some (.int z2), none] [] 73 0 0 := by
  unfold X12_goingTo_73 at hf
  refine sp_iload_n (i := 2) (q := 74) hX dX12_goingTo_73 rfl rfl rfl ?_
  exact sp_iret hX hR dX12_goingTo_74 hf (Nat.le_of_ble_eq_true rfl) (Nat.le_of_ble_eq_true rfl)
set_option maxRecDepth 100000 in
set_option maxHeartbeats 4000000 in
theorem hX12_goingTo_67 {X : sp_X} (hX : sp_OK shM X cX12_goingTo RX12 4 rmX12_goingTo) {τ : sp_St} {r : Int32} (hR : sp_Ri shM X (some .int) τ r 0 0) {n : Nat}   {k2 : sp_St → Int32 → Int32 → Int32 → Option (sp_St × Int32)} (hk2 : ∀ (σ : sp_St) (z1 : Int32) (z2 : Int32) (z3 : Int32), k2 σ z1 z2 z3 = some (τ, r) → sp_GG shM X σ 4 [some (.ref (sx_ad X 0)), some (.int z1), some (.int z2), some (.int z3)] [] 2 0 0) {σ : sp_St} {z1 : Int32} {z2 : Int32} {z3 : Int32} (hf : X12_goingTo_67 n k2 σ z1 z2 z3 = some (τ, r)) : sp_GG shM X σ 4 [some (.ref (sx_ad X 0)), some (.int z1), some (.int z2), some (.int z3)] [] 67 0 0 := by
  unfold X12_goingTo_67 at hf
  obtain ⟨x1, e2, hf⟩ := sp_pl_some hf
  refine sp_iinc (i := 3) (v := x1) (lv' := [some (.ref (sx_ad X 0)), some (.int z1), some (.int z2), some (.int x1)]) (q := 70) hX dX12_goingTo_67 rfl (by rw [e2, li_1]) (Nat.le_of_ble_eq_true rfl) rfl rfl rfl ?_
  refine sp_goto (tgt := 2) hX dX12_goingTo_70 (by decide) ?_
  exact hk2 σ z1 z2 x1 hf
set_option maxRecDepth 100000 in
set_option maxHeartbeats 4000000 in
theorem hX12_goingTo_65 {X : sp_X} (hX : sp_OK shM X cX12_goingTo RX12 4 rmX12_goingTo) {τ : sp_St} {r : Int32} (hR : sp_Ri shM X (some .int) τ r 0 0) {n : Nat}    {σ : sp_St} {z3 : Int32} (hf : X12_goingTo_65 n σ z3 = some (τ, r)) : sp_GG shM X σ 4 [none, none, none, some (.int z3)] [] 65 0 0 := by
  unfold X12_goingTo_65 at hf
  refine sp_iload_n (i := 3) (q := 66) hX dX12_goingTo_65 rfl rfl rfl ?_
  exact sp_iret hX hR dX12_goingTo_66 hf (Nat.le_of_ble_eq_true rfl) (Nat.le_of_ble_eq_true rfl)
set_option maxRecDepth 100000 in
set_option maxHeartbeats 4000000 in
theorem hX12_goingTo_2 {X : sp_X} (hX : sp_OK shM X cX12_goingTo RX12 4 rmX12_goingTo) {τ : sp_St} {r : Int32} (hR : sp_Ri shM X (some .int) τ r 0 0) {n : Nat}    : ∀ (f : Nat) (σ : sp_St) (z1 : Int32) (z2 : Int32) (z3 : Int32), X12_goingTo_2 n f σ z1 z2 z3 = some (τ, r) → sp_GG shM X σ 4 [some (.ref (sx_ad X 0)), some (.int z1), some (.int z2), some (.int z3)] [] 2 0 0 := by
  intro f
  induction f with
  | zero =>
    intro σ z1 z2 z3 hf
    rw [X12_goingTo_2] at hf
    cases hf
  | succ f ih =>
    intro σ z1 z2 z3 hf
    rw [X12_goingTo_2] at hf
    refine sp_iload_n (i := 3) (q := 3) hX dX12_goingTo_2 rfl rfl rfl ?_
    refine sp_iload_n (i := 2) (q := 4) hX dX12_goingTo_3 rfl rfl rfl ?_
    refine sp_icmp_ge (tgt := 73) (q := 7) hX dX12_goingTo_4 (by decide) rfl (fun hc => ?_) (fun hc => ?_)
    · rw [if_pos hc] at hf
      refine sp_drop (lv' := [none, none, some (.int z2), none]) (And.intro rfl trivial) ?_
      exact hX12_goingTo_73 hX hR hf
    · rw [if_neg hc] at hf
      refine sp_iload_n (i := 3) (q := 8) hX dX12_goingTo_7 rfl rfl rfl ?_
      refine sp_iload_n (i := 2) (q := 9) hX dX12_goingTo_8 rfl rfl rfl ?_
      refine sp_iconst (v := -1) (q := 10) hX dX12_goingTo_9 li_m1 rfl ?_
      refine sp_ixor (q := 11) hX dX12_goingTo_10 rfl ?_
      refine sp_iand (q := 12) hX dX12_goingTo_11 rfl ?_
      refine sp_if_ne (tgt := 67) (q := 15) hX dX12_goingTo_12 (by decide) rfl (fun hc => ?_) (fun hc => ?_)
      · rw [if_neg hc] at hf
        exact hX12_goingTo_67 hX hR ih hf
      · rw [if_pos hc] at hf
        refine sp_aload_n (i := 0) (q := 16) hX dX12_goingTo_15 rfl rfl rfl ?_
        refine sp_iload_n (i := 3) (q := 17) hX dX12_goingTo_16 rfl rfl rfl ?_
        obtain ⟨σ2, v3, h1, hf⟩ := sp_bd_so hf
        refine sp_callVi (As := [.int z3]) (rest := []) (q := 20) hX (cnX12_lengths (sp_st hX)  h1) cwX12_345 atM_0 rfl rfl rfl rfl rfl (Nat.le_of_ble_eq_true rfl) (Nat.le_of_ble_eq_true rfl) (Nat.le_of_ble_eq_true rfl) (Nat.le_of_ble_eq_true rfl) (Nat.le_of_ble_eq_true rfl) dX12_goingTo_17 rfl ?_
        refine sp_aload_n (i := 0) (q := 21) hX dX12_goingTo_20 rfl rfl rfl ?_
        refine sp_iload_n (i := 1) (q := 22) hX dX12_goingTo_21 rfl rfl rfl ?_
        obtain ⟨σ5, v6, h4, hf⟩ := sp_bd_so hf
        refine sp_callVi (As := [.int z1]) (rest := [.int v3]) (q := 25) hX (cnX12_leftOf (sp_st hX)  h4) cwX12_405 atM_0 rfl rfl rfl rfl rfl (Nat.le_of_ble_eq_true rfl) (Nat.le_of_ble_eq_true rfl) (Nat.le_of_ble_eq_true rfl) (Nat.le_of_ble_eq_true rfl) (Nat.le_of_ble_eq_true rfl) dX12_goingTo_22 rfl ?_
        refine sp_icmp_gt (tgt := 67) (q := 28) hX dX12_goingTo_25 (by decide) rfl (fun hc => ?_) (fun hc => ?_)
        · rw [if_pos hc] at hf
          exact hX12_goingTo_67 hX hR ih hf
        · rw [if_neg hc] at hf
          refine sp_aload_n (i := 0) (q := 29) hX dX12_goingTo_28 rfl rfl rfl ?_
          refine sp_iload_n (i := 3) (q := 30) hX dX12_goingTo_29 rfl rfl rfl ?_
          obtain ⟨σ8, v9, h7, hf⟩ := sp_bd_so hf
          refine sp_callVi (As := [.int z3]) (rest := []) (q := 33) hX (cnX12_angers (sp_st hX)  h7) cwX12_440 atM_0 rfl rfl rfl rfl rfl (Nat.le_of_ble_eq_true rfl) (Nat.le_of_ble_eq_true rfl) (Nat.le_of_ble_eq_true rfl) (Nat.le_of_ble_eq_true rfl) (Nat.le_of_ble_eq_true rfl) dX12_goingTo_30 rfl ?_
          refine sp_aload_n (i := 0) (q := 34) hX dX12_goingTo_33 rfl rfl rfl ?_
          refine sp_gets (t := 27) (q := 37) hX flX12_108 fkX12_43 atM_0 srM_0_43 dX12_goingTo_34 rfl ?_
          refine sp_iload_n (i := 1) (q := 38) hX dX12_goingTo_37 rfl rfl rfl ?_
          refine sp_iconst (v := 1) (q := 39) hX dX12_goingTo_38 li_1 rfl ?_
          refine sp_iadd (q := 40) hX dX12_goingTo_39 rfl ?_
          refine sp_bipush (v := 10) (q := 42) hX dX12_goingTo_40 lb_10 rfl ?_
          refine sp_ishl (q := 43) hX dX12_goingTo_42 rfl ?_
          refine sp_iload_n (i := 2) (q := 44) hX dX12_goingTo_43 rfl rfl rfl ?_
          refine sp_iload_n (i := 3) (q := 45) hX dX12_goingTo_44 rfl rfl rfl ?_
          refine sp_iconst (v := -1) (q := 46) hX dX12_goingTo_45 li_m1 rfl ?_
          refine sp_ixor (q := 47) hX dX12_goingTo_46 rfl ?_
          refine sp_iand (q := 48) hX dX12_goingTo_47 rfl ?_
          refine sp_iadd (q := 49) hX dX12_goingTo_48 rfl ?_
          obtain ⟨h10, hf⟩ := sp_ck_some hf
          refine sp_iald (q := 50) hX arM_27 h10 dX12_goingTo_49 rfl ?_
          refine sp_iadd (q := 51) hX dX12_goingTo_50 rfl ?_
          refine sp_aload_n (i := 0) (q := 52) hX dX12_goingTo_51 rfl rfl rfl ?_
          refine sp_gets (t := 27) (q := 55) hX flX12_108 fkX12_43 atM_0 srM_0_43 dX12_goingTo_52 rfl ?_
          refine sp_iload_n (i := 1) (q := 56) hX dX12_goingTo_55 rfl rfl rfl ?_
          refine sp_bipush (v := 10) (q := 58) hX dX12_goingTo_56 lb_10 rfl ?_
          refine sp_ishl (q := 59) hX dX12_goingTo_58 rfl ?_
          refine sp_iload_n (i := 2) (q := 60) hX dX12_goingTo_59 rfl rfl rfl ?_
          refine sp_iadd (q := 61) hX dX12_goingTo_60 rfl ?_
          obtain ⟨h11, hf⟩ := sp_ck_some hf
          refine sp_iald (q := 62) hX arM_27 h11 dX12_goingTo_61 rfl ?_
          refine sp_icmp_ne (tgt := 67) (q := 65) hX dX12_goingTo_62 (by decide) rfl (fun hc => ?_) (fun hc => ?_)
          · rw [if_neg hc] at hf
            exact hX12_goingTo_67 hX hR ih hf
          · rw [if_pos hc] at hf
            refine sp_drop (lv' := [none, none, none, some (.int z3)]) (And.intro rfl trivial) ?_
            exact hX12_goingTo_65 hX hR hf
set_option maxRecDepth 100000 in
set_option maxHeartbeats 4000000 in
theorem hX12_goingTo {X : sp_X} (hX : sp_OK shM X cX12_goingTo RX12 4 rmX12_goingTo) {τ : sp_St} {r : Int32} (hR : sp_Ri shM X (some .int) τ r 0 0) {n : Nat}  {σ : sp_St} {a1 : Int32} {a2 : Int32}  (hf : X12_goingTo n σ a1 a2 = some (τ, r)) : sp_GG shM X σ 4 [some (.ref (sx_ad X 0)), some (.int a1), some (.int a2), none] [] 0 0 0 := by
  unfold X12_goingTo at hf
  refine sp_iconst (v := 0) (q := 1) hX dX12_goingTo_0 li_0 rfl ?_
  obtain ⟨x1, e2, hf⟩ := sp_pl_some hf
  refine sp_nmi e2 ?_
  refine sp_istore_n (i := 3) (lv' := [some (.ref (sx_ad X 0)), some (.int a1), some (.int a2), some (.int x1)]) (q := 2) hX dX12_goingTo_1 rfl (Nat.le_of_ble_eq_true rfl) rfl rfl rfl ?_
  exact hX12_goingTo_2 hX hR n σ a1 a2 x1 hf
set_option maxRecDepth 100000 in
set_option maxHeartbeats 4000000 in
theorem cnX12_goingTo {l : Launch} (hst : l.stackTraces = false) {w : sp_Wd} {n : Nat}  {σ : sp_St} {a1 : Int32} {a2 : Int32} {τ : sp_St} {r : Int32}  (hf : X12_goingTo n σ a1 a2 = some (τ, r)) : sp_Ci shM l w yX12_goingTo cX12_goingTo 4 (some .int) rmX12_goingTo 0 0 σ [.ref (w.2.1 0), .int a1, .int a2] τ r :=
  sp_ci (own := RX12) (by decide) rfl hst (Nat.le_of_ble_eq_true rfl) rfl (fun X hX hw hl hR => by subst hw; subst hl; exact hX12_goingTo hX hR   hf)
