def rmX7_feudLine : Room := { frames := 6, cells := 0, slots := 0, locals := 132 }
def X7_feudLine_91 (n : Nat) (σ : sp_St) : Option (sp_St × Int32) :=
  sp_bd (X7_fail n σ ((4 : Int32))) fun σ2 v3 =>
  sp_ck (sp_zb v3) <|
  some (σ2, v3)
def X7_feudLine (n : Nat)  (σ : sp_St)  : Option (sp_St × Int32) :=
  sp_pl (σ.2.1 21 1) fun c1 =>
  sp_ck (sp_isc c1) <|
  if (σ.1 c1 15) < ((9 : Int32)) then
    sp_bv (X10_next n σ) fun σ5 =>
    sp_bd (X7_isNumber n σ5 ((0 : Int32)) ((5 : Int32))) fun σ7 v8 =>
    if v8 = 0 then
      some (σ7, (0 : Int32))
    else
      sp_pl (σ7.1 20 5) fun x9 =>
      sp_bv (X10_next n σ7) fun σ12 =>
      sp_bd (X7_isNumber n σ12 ((0 : Int32)) ((5 : Int32))) fun σ14 v15 =>
      if v15 = 0 then
        some (σ14, (0 : Int32))
      else
        sp_pl (σ14.1 20 5) fun x16 =>
        if x9 = x16 then
          X7_feudLine_91 n σ14
        else
          sp_pl (σ14.2.1 21 1) fun c18 =>
          sp_ck (sp_isc c18) <|
          sp_ck (sp_in x9 6) <|
          if (((sp_g σ14 (c18 + 7) x9) >>> (x16 &&& 31)) &&& ((1 : Int32))) = 0 then
            sp_ck (sp_in x9 6) <|
            sp_ck (sp_in x9 6) <|
            sp_pl (sp_sa σ14 (c18 + 7) x9.toNatClampNeg ((sp_g σ14 (c18 + 7) x9) ||| (((1 : Int32)) <<< (x16 &&& 31)))) fun σ24 =>
            sp_pl (σ24.2.1 21 1) fun c26 =>
            sp_ck (sp_isc c26) <|
            sp_ck (sp_in x16 6) <|
            sp_ck (sp_in x16 6) <|
            sp_pl (sp_sa σ24 (c26 + 7) x16.toNatClampNeg ((sp_g σ24 (c26 + 7) x16) ||| (((1 : Int32)) <<< (x9 &&& 31)))) fun σ31 =>
            sp_pl (σ31.2.1 21 1) fun c33 =>
            sp_ck (sp_isc c33) <|
            sp_pl (sp_si σ31 c33 15 ((σ31.1 c33 15) + ((1 : Int32)))) fun σ36 =>
            sp_bv (X10_next n σ36) fun σ39 =>
            some (σ39, (1 : Int32))
          else
            X7_feudLine_91 n σ14
  else
    sp_bd (X7_fail n σ ((2 : Int32))) fun σ41 v42 =>
    sp_ck (sp_zb v42) <|
    some (σ41, v42)
set_option maxRecDepth 100000 in
set_option maxHeartbeats 4000000 in
theorem hX7_feudLine_91 {X : sp_X} (hX : sp_OK shX X cX7_feudLine RX7 3 rmX7_feudLine) {τ : sp_St} {r : Int32} (hR : sp_Ri shX X (some .boolean) τ r 0 0) {n : Nat}    {σ : sp_St} (hf : X7_feudLine_91 n σ = some (τ, r)) : sp_GG shX X σ 3 [some (.ref (sx_ad X 21)), none, none] [] 91 0 0 := by
  unfold X7_feudLine_91 at hf
  refine sp_aload_n (i := 0) (q := 92) hX dX7_feudLine_91 rfl rfl rfl ?_
  refine sp_iconst (v := 4) (q := 93) hX dX7_feudLine_92 li_4 rfl ?_
  obtain ⟨σ2, v3, h1, hf⟩ := sp_bd_so hf
  refine sp_callVi (As := [.int ((4 : Int32))]) (rest := []) (q := 96) hX (cnX7_fail (sp_st hX)  h1) cwX7_81 atX_21 rfl rfl rfl rfl rfl (Nat.le_of_ble_eq_true rfl) (Nat.le_of_ble_eq_true rfl) (Nat.le_of_ble_eq_true rfl) (Nat.le_of_ble_eq_true rfl) (Nat.le_of_ble_eq_true rfl) dX7_feudLine_93 rfl ?_
  obtain ⟨h4, hf⟩ := sp_ck_some hf
  exact sp_zret hX hR h4 dX7_feudLine_96 hf (Nat.le_of_ble_eq_true rfl) (Nat.le_of_ble_eq_true rfl)
set_option maxRecDepth 100000 in
set_option maxHeartbeats 4000000 in
theorem hX7_feudLine {X : sp_X} (hX : sp_OK shX X cX7_feudLine RX7 3 rmX7_feudLine) {τ : sp_St} {r : Int32} (hR : sp_Ri shX X (some .boolean) τ r 0 0) {n : Nat}  {σ : sp_St}   (hf : X7_feudLine n σ = some (τ, r)) : sp_GG shX X σ 3 [some (.ref (sx_ad X 21)), none, none] [] 0 0 0 := by
  unfold X7_feudLine at hf
  refine sp_aload_n (i := 0) (q := 1) hX dX7_feudLine_0 rfl rfl rfl ?_
  obtain ⟨c1, e3, hf⟩ := sp_pl_some hf
  obtain ⟨h2, hf⟩ := sp_ck_some hf
  refine sp_getr (q := 4) hX flX7_15 fkX7_1 atX_21 dX7_feudLine_1 rfl ?_
  refine sp_nmr e3 ?_
  refine sp_geti (q := 7) hX flX7_89 fkX2_15 (sp_isc_at h2) dX7_feudLine_4 rfl ?_
  refine sp_bipush (v := 9) (q := 9) hX dX7_feudLine_7 lb_9 rfl ?_
  refine sp_icmp_lt (tgt := 18) (q := 12) hX dX7_feudLine_9 (by decide) rfl (fun hc => ?_) (fun hc => ?_)
  · rw [if_pos hc] at hf
    refine sp_aload_n (i := 0) (q := 19) hX dX7_feudLine_18 rfl rfl rfl ?_
    refine sp_gets (t := 20) (q := 22) hX flX7_9 fkX7_0 atX_21 srX_21_0 dX7_feudLine_19 rfl ?_
    obtain ⟨σ5, h4, hf⟩ := sp_bv_so hf
    refine sp_callVv (As := []) (rest := []) (q := 25) hX (cnX10_next (sp_st hX)  h4) cwX7_92 atX_20 rfl rfl rfl rfl rfl (Nat.le_of_ble_eq_true rfl) (Nat.le_of_ble_eq_true rfl) (Nat.le_of_ble_eq_true rfl) (Nat.le_of_ble_eq_true rfl) (Nat.le_of_ble_eq_true rfl) dX7_feudLine_22 rfl ?_
    refine sp_aload_n (i := 0) (q := 26) hX dX7_feudLine_25 rfl rfl rfl ?_
    refine sp_iconst (v := 0) (q := 27) hX dX7_feudLine_26 li_0 rfl ?_
    refine sp_iconst (v := 5) (q := 28) hX dX7_feudLine_27 li_5 rfl ?_
    obtain ⟨σ7, v8, h6, hf⟩ := sp_bd_so hf
    refine sp_callVi (As := [.int ((0 : Int32)), .int ((5 : Int32))]) (rest := []) (q := 31) hX (cnX7_isNumber (sp_st hX)  h6) cwX7_95 atX_21 rfl rfl rfl rfl rfl (Nat.le_of_ble_eq_true rfl) (Nat.le_of_ble_eq_true rfl) (Nat.le_of_ble_eq_true rfl) (Nat.le_of_ble_eq_true rfl) (Nat.le_of_ble_eq_true rfl) dX7_feudLine_28 rfl ?_
    refine sp_if_ne (tgt := 36) (q := 34) hX dX7_feudLine_31 (by decide) rfl (fun hc => ?_) (fun hc => ?_)
    · rw [if_neg hc] at hf
      refine sp_aload_n (i := 0) (q := 37) hX dX7_feudLine_36 rfl rfl rfl ?_
      refine sp_gets (t := 20) (q := 40) hX flX7_9 fkX7_0 atX_21 srX_21_0 dX7_feudLine_37 rfl ?_
      refine sp_geti (q := 43) hX flX7_99 fkX10_5 atX_20 dX7_feudLine_40 rfl ?_
      obtain ⟨x9, e10, hf⟩ := sp_pl_some hf
      refine sp_nmi e10 ?_
      refine sp_istore_n (i := 1) (lv' := [some (.ref (sx_ad X 21)), some (.int x9), none]) (q := 44) hX dX7_feudLine_43 rfl (Nat.le_of_ble_eq_true rfl) rfl rfl rfl ?_
      refine sp_aload_n (i := 0) (q := 45) hX dX7_feudLine_44 rfl rfl rfl ?_
      refine sp_gets (t := 20) (q := 48) hX flX7_9 fkX7_0 atX_21 srX_21_0 dX7_feudLine_45 rfl ?_
      obtain ⟨σ12, h11, hf⟩ := sp_bv_so hf
      refine sp_callVv (As := []) (rest := []) (q := 51) hX (cnX10_next (sp_st hX)  h11) cwX7_92 atX_20 rfl rfl rfl rfl rfl (Nat.le_of_ble_eq_true rfl) (Nat.le_of_ble_eq_true rfl) (Nat.le_of_ble_eq_true rfl) (Nat.le_of_ble_eq_true rfl) (Nat.le_of_ble_eq_true rfl) dX7_feudLine_48 rfl ?_
      refine sp_aload_n (i := 0) (q := 52) hX dX7_feudLine_51 rfl rfl rfl ?_
      refine sp_iconst (v := 0) (q := 53) hX dX7_feudLine_52 li_0 rfl ?_
      refine sp_iconst (v := 5) (q := 54) hX dX7_feudLine_53 li_5 rfl ?_
      obtain ⟨σ14, v15, h13, hf⟩ := sp_bd_so hf
      refine sp_callVi (As := [.int ((0 : Int32)), .int ((5 : Int32))]) (rest := []) (q := 57) hX (cnX7_isNumber (sp_st hX)  h13) cwX7_95 atX_21 rfl rfl rfl rfl rfl (Nat.le_of_ble_eq_true rfl) (Nat.le_of_ble_eq_true rfl) (Nat.le_of_ble_eq_true rfl) (Nat.le_of_ble_eq_true rfl) (Nat.le_of_ble_eq_true rfl) dX7_feudLine_54 rfl ?_
      refine sp_if_ne (tgt := 62) (q := 60) hX dX7_feudLine_57 (by decide) rfl (fun hc => ?_) (fun hc => ?_)
      · rw [if_neg hc] at hf
        refine sp_aload_n (i := 0) (q := 63) hX dX7_feudLine_62 rfl rfl rfl ?_
        refine sp_gets (t := 20) (q := 66) hX flX7_9 fkX7_0 atX_21 srX_21_0 dX7_feudLine_63 rfl ?_
        refine sp_geti (q := 69) hX flX7_99 fkX10_5 atX_20 dX7_feudLine_66 rfl ?_
        obtain ⟨x16, e17, hf⟩ := sp_pl_some hf
        refine sp_nmi e17 ?_
        refine sp_istore_n (i := 2) (lv' := [some (.ref (sx_ad X 21)), some (.int x9), some (.int x16)]) (q := 70) hX dX7_feudLine_69 rfl (Nat.le_of_ble_eq_true rfl) rfl rfl rfl ?_
        refine sp_iload_n (i := 1) (q := 71) hX dX7_feudLine_70 rfl rfl rfl ?_
        refine sp_iload_n (i := 2) (q := 72) hX dX7_feudLine_71 rfl rfl rfl ?_
        refine sp_icmp_eq (tgt := 91) (q := 75) hX dX7_feudLine_72 (by decide) rfl (fun hc => ?_) (fun hc => ?_)
        · rw [if_pos hc] at hf
          refine sp_drop (lv' := [some (.ref (sx_ad X 21)), none, none]) (And.intro rfl trivial) ?_
          exact hX7_feudLine_91 hX hR hf
        · rw [if_neg hc] at hf
          refine sp_aload_n (i := 0) (q := 76) hX dX7_feudLine_75 rfl rfl rfl ?_
          obtain ⟨c18, e20, hf⟩ := sp_pl_some hf
          obtain ⟨h19, hf⟩ := sp_ck_some hf
          refine sp_getr (q := 79) hX flX7_15 fkX7_1 atX_21 dX7_feudLine_76 rfl ?_
          refine sp_nmr e20 ?_
          refine sp_gets (t := c18 + 7) (q := 82) hX flX7_102 fkX2_6 (sp_isc_at h19) (msX2_6 (sp_isc_at h19)) dX7_feudLine_79 rfl ?_
          refine sp_iload_n (i := 1) (q := 83) hX dX7_feudLine_82 rfl rfl rfl ?_
          obtain ⟨h21, hf⟩ := sp_ck_some hf
          refine sp_iald (q := 84) hX (mfX2_6 (sp_isc_at h19)) h21 dX7_feudLine_83 rfl ?_
          refine sp_iload_n (i := 2) (q := 85) hX dX7_feudLine_84 rfl rfl rfl ?_
          refine sp_ishr (q := 86) hX dX7_feudLine_85 rfl ?_
          refine sp_iconst (v := 1) (q := 87) hX dX7_feudLine_86 li_1 rfl ?_
          refine sp_iand (q := 88) hX dX7_feudLine_87 rfl ?_
          refine sp_if_eq (tgt := 97) (q := 91) hX dX7_feudLine_88 (by decide) rfl (fun hc => ?_) (fun hc => ?_)
          · rw [if_pos hc] at hf
            refine sp_aload_n (i := 0) (q := 98) hX dX7_feudLine_97 rfl rfl rfl ?_
            refine sp_getr (q := 101) hX flX7_15 fkX7_1 atX_21 dX7_feudLine_98 rfl ?_
            refine sp_nmr e20 ?_
            refine sp_gets (t := c18 + 7) (q := 104) hX flX7_102 fkX2_6 (sp_isc_at h19) (msX2_6 (sp_isc_at h19)) dX7_feudLine_101 rfl ?_
            refine sp_iload_n (i := 1) (q := 105) hX dX7_feudLine_104 rfl rfl rfl ?_
            refine sp_dup2 (q := 106) hX dX7_feudLine_105 rfl rfl rfl ?_
            obtain ⟨h22, hf⟩ := sp_ck_some hf
            refine sp_iald (q := 107) hX (mfX2_6 (sp_isc_at h19)) h22 dX7_feudLine_106 rfl ?_
            refine sp_iconst (v := 1) (q := 108) hX dX7_feudLine_107 li_1 rfl ?_
            refine sp_iload_n (i := 2) (q := 109) hX dX7_feudLine_108 rfl rfl rfl ?_
            refine sp_ishl (q := 110) hX dX7_feudLine_109 rfl ?_
            refine sp_ior (q := 111) hX dX7_feudLine_110 rfl ?_
            obtain ⟨h23, hf⟩ := sp_ck_some hf
            obtain ⟨σ24, e25, hf⟩ := sp_pl_some hf
            refine sp_iast (q := 112) hX (mfX2_6 (sp_isc_at h19)) h23 dX7_feudLine_111 rfl ?_
            refine sp_nms e25 ?_
            refine sp_aload_n (i := 0) (q := 113) hX dX7_feudLine_112 rfl rfl rfl ?_
            obtain ⟨c26, e28, hf⟩ := sp_pl_some hf
            obtain ⟨h27, hf⟩ := sp_ck_some hf
            refine sp_getr (q := 116) hX flX7_15 fkX7_1 atX_21 dX7_feudLine_113 rfl ?_
            refine sp_nmr e28 ?_
            refine sp_gets (t := c26 + 7) (q := 119) hX flX7_102 fkX2_6 (sp_isc_at h27) (msX2_6 (sp_isc_at h27)) dX7_feudLine_116 rfl ?_
            refine sp_iload_n (i := 2) (q := 120) hX dX7_feudLine_119 rfl rfl rfl ?_
            refine sp_dup2 (q := 121) hX dX7_feudLine_120 rfl rfl rfl ?_
            obtain ⟨h29, hf⟩ := sp_ck_some hf
            refine sp_iald (q := 122) hX (mfX2_6 (sp_isc_at h27)) h29 dX7_feudLine_121 rfl ?_
            refine sp_iconst (v := 1) (q := 123) hX dX7_feudLine_122 li_1 rfl ?_
            refine sp_iload_n (i := 1) (q := 124) hX dX7_feudLine_123 rfl rfl rfl ?_
            refine sp_ishl (q := 125) hX dX7_feudLine_124 rfl ?_
            refine sp_ior (q := 126) hX dX7_feudLine_125 rfl ?_
            obtain ⟨h30, hf⟩ := sp_ck_some hf
            obtain ⟨σ31, e32, hf⟩ := sp_pl_some hf
            refine sp_iast (q := 127) hX (mfX2_6 (sp_isc_at h27)) h30 dX7_feudLine_126 rfl ?_
            refine sp_nms e32 ?_
            refine sp_aload_n (i := 0) (q := 128) hX dX7_feudLine_127 rfl rfl rfl ?_
            obtain ⟨c33, e35, hf⟩ := sp_pl_some hf
            obtain ⟨h34, hf⟩ := sp_ck_some hf
            refine sp_getr (q := 131) hX flX7_15 fkX7_1 atX_21 dX7_feudLine_128 rfl ?_
            refine sp_nmr e35 ?_
            refine sp_dup (q := 132) hX dX7_feudLine_131 rfl rfl ?_
            refine sp_geti (q := 135) hX flX7_89 fkX2_15 (sp_isc_at h34) dX7_feudLine_132 rfl ?_
            refine sp_iconst (v := 1) (q := 136) hX dX7_feudLine_135 li_1 rfl ?_
            refine sp_iadd (q := 137) hX dX7_feudLine_136 rfl ?_
            obtain ⟨σ36, e37, hf⟩ := sp_pl_some hf
            refine sp_puti (q := 140) hX fpX7_89 fkX2_15 (sp_isc_at h34) dX7_feudLine_137 rfl ?_
            refine sp_nms e37 ?_
            refine sp_aload_n (i := 0) (q := 141) hX dX7_feudLine_140 rfl rfl rfl ?_
            refine sp_gets (t := 20) (q := 144) hX flX7_9 fkX7_0 atX_21 srX_21_0 dX7_feudLine_141 rfl ?_
            obtain ⟨σ39, h38, hf⟩ := sp_bv_so hf
            refine sp_callVv (As := []) (rest := []) (q := 147) hX (cnX10_next (sp_st hX)  h38) cwX7_92 atX_20 rfl rfl rfl rfl rfl (Nat.le_of_ble_eq_true rfl) (Nat.le_of_ble_eq_true rfl) (Nat.le_of_ble_eq_true rfl) (Nat.le_of_ble_eq_true rfl) (Nat.le_of_ble_eq_true rfl) dX7_feudLine_144 rfl ?_
            refine sp_iconst (v := 1) (q := 148) hX dX7_feudLine_147 li_1 rfl ?_
            exact sp_zret hX hR (by decide) dX7_feudLine_148 hf (Nat.le_of_ble_eq_true rfl) (Nat.le_of_ble_eq_true rfl)
          · rw [if_neg hc] at hf
            refine sp_drop (lv' := [some (.ref (sx_ad X 21)), none, none]) (And.intro rfl trivial) ?_
            exact hX7_feudLine_91 hX hR hf
      · rw [if_pos hc] at hf
        refine sp_iconst (v := 0) (q := 61) hX dX7_feudLine_60 li_0 rfl ?_
        exact sp_zret hX hR (by decide) dX7_feudLine_61 hf (Nat.le_of_ble_eq_true rfl) (Nat.le_of_ble_eq_true rfl)
    · rw [if_pos hc] at hf
      refine sp_iconst (v := 0) (q := 35) hX dX7_feudLine_34 li_0 rfl ?_
      exact sp_zret hX hR (by decide) dX7_feudLine_35 hf (Nat.le_of_ble_eq_true rfl) (Nat.le_of_ble_eq_true rfl)
  · rw [if_neg hc] at hf
    refine sp_aload_n (i := 0) (q := 13) hX dX7_feudLine_12 rfl rfl rfl ?_
    refine sp_iconst (v := 2) (q := 14) hX dX7_feudLine_13 li_2 rfl ?_
    obtain ⟨σ41, v42, h40, hf⟩ := sp_bd_so hf
    refine sp_callVi (As := [.int ((2 : Int32))]) (rest := []) (q := 17) hX (cnX7_fail (sp_st hX)  h40) cwX7_81 atX_21 rfl rfl rfl rfl rfl (Nat.le_of_ble_eq_true rfl) (Nat.le_of_ble_eq_true rfl) (Nat.le_of_ble_eq_true rfl) (Nat.le_of_ble_eq_true rfl) (Nat.le_of_ble_eq_true rfl) dX7_feudLine_14 rfl ?_
    obtain ⟨h43, hf⟩ := sp_ck_some hf
    exact sp_zret hX hR h43 dX7_feudLine_17 hf (Nat.le_of_ble_eq_true rfl) (Nat.le_of_ble_eq_true rfl)
set_option maxRecDepth 100000 in
set_option maxHeartbeats 4000000 in
theorem cnX7_feudLine {l : Launch} (hst : l.stackTraces = false) {w : sp_Wd} {n : Nat}  {σ : sp_St}  {τ : sp_St} {r : Int32}  (hf : X7_feudLine n σ = some (τ, r)) : sp_Ci shX l w yX7_feudLine cX7_feudLine 3 (some .boolean) rmX7_feudLine 0 0 σ [.ref (w.2.1 21)] τ r :=
  sp_ci (own := RX7) (by decide) rfl hst (Nat.le_of_ble_eq_true rfl) rfl (fun X hX hw hl hR => by subst hw; subst hl; exact hX7_feudLine hX hR   hf)
def rmX7_swallowerLine : Room := { frames := 6, cells := 0, slots := 0, locals := 132 }
def X7_swallowerLine (n : Nat)  (σ : sp_St)  : Option (sp_St × Int32) :=
  sp_pl (σ.2.1 21 1) fun c1 =>
  sp_ck (sp_isc c1) <|
  sp_pl (σ.1 c1 14) fun x4 =>
  if x4 < ((5 : Int32)) then
    sp_bv (X10_next n σ) fun σ7 =>
    sp_bd (X7_isNumber n σ7 ((1 : Int32)) ((99 : Int32))) fun σ9 v10 =>
    if v10 = 0 then
      some (σ9, (0 : Int32))
    else
      sp_pl (σ9.2.1 21 1) fun c11 =>
      sp_ck (sp_isc c11) <|
      sp_ck (sp_in x4 5) <|
      sp_pl (sp_sa σ9 (c11 + 5) x4.toNatClampNeg (σ9.1 20 5)) fun σ15 =>
      sp_bv (X10_next n σ15) fun σ18 =>
      sp_bd (X7_isNumber n σ18 ((0 : Int32)) ((30 : Int32))) fun σ20 v21 =>
      if v21 = 0 then
        some (σ20, (0 : Int32))
      else
        sp_pl (σ20.2.1 21 1) fun c22 =>
        sp_ck (sp_isc c22) <|
        sp_ck (sp_in x4 5) <|
        sp_pl (sp_sa σ20 (c22 + 6) x4.toNatClampNeg (σ20.1 20 5)) fun σ26 =>
        sp_pl (σ26.2.1 21 1) fun c28 =>
        sp_ck (sp_isc c28) <|
        sp_pl (sp_si σ26 c28 14 ((σ26.1 c28 14) + ((1 : Int32)))) fun σ31 =>
        sp_bv (X10_next n σ31) fun σ34 =>
        some (σ34, (1 : Int32))
  else
    sp_bd (X7_fail n σ ((2 : Int32))) fun σ36 v37 =>
    sp_ck (sp_zb v37) <|
    some (σ36, v37)
set_option maxRecDepth 100000 in
set_option maxHeartbeats 4000000 in
theorem hX7_swallowerLine {X : sp_X} (hX : sp_OK shX X cX7_swallowerLine RX7 2 rmX7_swallowerLine) {τ : sp_St} {r : Int32} (hR : sp_Ri shX X (some .boolean) τ r 0 0) {n : Nat}  {σ : sp_St}   (hf : X7_swallowerLine n σ = some (τ, r)) : sp_GG shX X σ 2 [some (.ref (sx_ad X 21)), none] [] 0 0 0 := by
  unfold X7_swallowerLine at hf
  refine sp_aload_n (i := 0) (q := 1) hX dX7_swallowerLine_0 rfl rfl rfl ?_
  obtain ⟨c1, e3, hf⟩ := sp_pl_some hf
  obtain ⟨h2, hf⟩ := sp_ck_some hf
  refine sp_getr (q := 4) hX flX7_15 fkX7_1 atX_21 dX7_swallowerLine_1 rfl ?_
  refine sp_nmr e3 ?_
  refine sp_geti (q := 7) hX flX7_106 fkX2_14 (sp_isc_at h2) dX7_swallowerLine_4 rfl ?_
  obtain ⟨x4, e5, hf⟩ := sp_pl_some hf
  refine sp_nmi e5 ?_
  refine sp_istore_n (i := 1) (lv' := [some (.ref (sx_ad X 21)), some (.int x4)]) (q := 8) hX dX7_swallowerLine_7 rfl (Nat.le_of_ble_eq_true rfl) rfl rfl rfl ?_
  refine sp_iload_n (i := 1) (q := 9) hX dX7_swallowerLine_8 rfl rfl rfl ?_
  refine sp_iconst (v := 5) (q := 10) hX dX7_swallowerLine_9 li_5 rfl ?_
  refine sp_icmp_lt (tgt := 19) (q := 13) hX dX7_swallowerLine_10 (by decide) rfl (fun hc => ?_) (fun hc => ?_)
  · rw [if_pos hc] at hf
    refine sp_aload_n (i := 0) (q := 20) hX dX7_swallowerLine_19 rfl rfl rfl ?_
    refine sp_gets (t := 20) (q := 23) hX flX7_9 fkX7_0 atX_21 srX_21_0 dX7_swallowerLine_20 rfl ?_
    obtain ⟨σ7, h6, hf⟩ := sp_bv_so hf
    refine sp_callVv (As := []) (rest := []) (q := 26) hX (cnX10_next (sp_st hX)  h6) cwX7_92 atX_20 rfl rfl rfl rfl rfl (Nat.le_of_ble_eq_true rfl) (Nat.le_of_ble_eq_true rfl) (Nat.le_of_ble_eq_true rfl) (Nat.le_of_ble_eq_true rfl) (Nat.le_of_ble_eq_true rfl) dX7_swallowerLine_23 rfl ?_
    refine sp_aload_n (i := 0) (q := 27) hX dX7_swallowerLine_26 rfl rfl rfl ?_
    refine sp_iconst (v := 1) (q := 28) hX dX7_swallowerLine_27 li_1 rfl ?_
    refine sp_bipush (v := 99) (q := 30) hX dX7_swallowerLine_28 lb_99 rfl ?_
    obtain ⟨σ9, v10, h8, hf⟩ := sp_bd_so hf
    refine sp_callVi (As := [.int ((1 : Int32)), .int ((99 : Int32))]) (rest := []) (q := 33) hX (cnX7_isNumber (sp_st hX)  h8) cwX7_95 atX_21 rfl rfl rfl rfl rfl (Nat.le_of_ble_eq_true rfl) (Nat.le_of_ble_eq_true rfl) (Nat.le_of_ble_eq_true rfl) (Nat.le_of_ble_eq_true rfl) (Nat.le_of_ble_eq_true rfl) dX7_swallowerLine_30 rfl ?_
    refine sp_if_ne (tgt := 38) (q := 36) hX dX7_swallowerLine_33 (by decide) rfl (fun hc => ?_) (fun hc => ?_)
    · rw [if_neg hc] at hf
      refine sp_aload_n (i := 0) (q := 39) hX dX7_swallowerLine_38 rfl rfl rfl ?_
      obtain ⟨c11, e13, hf⟩ := sp_pl_some hf
      obtain ⟨h12, hf⟩ := sp_ck_some hf
      refine sp_getr (q := 42) hX flX7_15 fkX7_1 atX_21 dX7_swallowerLine_39 rfl ?_
      refine sp_nmr e13 ?_
      refine sp_gets (t := c11 + 5) (q := 45) hX flX7_109 fkX2_4 (sp_isc_at h12) (msX2_4 (sp_isc_at h12)) dX7_swallowerLine_42 rfl ?_
      refine sp_iload_n (i := 1) (q := 46) hX dX7_swallowerLine_45 rfl rfl rfl ?_
      refine sp_aload_n (i := 0) (q := 47) hX dX7_swallowerLine_46 rfl rfl rfl ?_
      refine sp_gets (t := 20) (q := 50) hX flX7_9 fkX7_0 atX_21 srX_21_0 dX7_swallowerLine_47 rfl ?_
      refine sp_geti (q := 53) hX flX7_99 fkX10_5 atX_20 dX7_swallowerLine_50 rfl ?_
      obtain ⟨h14, hf⟩ := sp_ck_some hf
      obtain ⟨σ15, e16, hf⟩ := sp_pl_some hf
      refine sp_iast (q := 54) hX (mfX2_4 (sp_isc_at h12)) h14 dX7_swallowerLine_53 rfl ?_
      refine sp_nms e16 ?_
      refine sp_aload_n (i := 0) (q := 55) hX dX7_swallowerLine_54 rfl rfl rfl ?_
      refine sp_gets (t := 20) (q := 58) hX flX7_9 fkX7_0 atX_21 srX_21_0 dX7_swallowerLine_55 rfl ?_
      obtain ⟨σ18, h17, hf⟩ := sp_bv_so hf
      refine sp_callVv (As := []) (rest := []) (q := 61) hX (cnX10_next (sp_st hX)  h17) cwX7_92 atX_20 rfl rfl rfl rfl rfl (Nat.le_of_ble_eq_true rfl) (Nat.le_of_ble_eq_true rfl) (Nat.le_of_ble_eq_true rfl) (Nat.le_of_ble_eq_true rfl) (Nat.le_of_ble_eq_true rfl) dX7_swallowerLine_58 rfl ?_
      refine sp_aload_n (i := 0) (q := 62) hX dX7_swallowerLine_61 rfl rfl rfl ?_
      refine sp_iconst (v := 0) (q := 63) hX dX7_swallowerLine_62 li_0 rfl ?_
      refine sp_bipush (v := 30) (q := 65) hX dX7_swallowerLine_63 lb_30 rfl ?_
      obtain ⟨σ20, v21, h19, hf⟩ := sp_bd_so hf
      refine sp_callVi (As := [.int ((0 : Int32)), .int ((30 : Int32))]) (rest := []) (q := 68) hX (cnX7_isNumber (sp_st hX)  h19) cwX7_95 atX_21 rfl rfl rfl rfl rfl (Nat.le_of_ble_eq_true rfl) (Nat.le_of_ble_eq_true rfl) (Nat.le_of_ble_eq_true rfl) (Nat.le_of_ble_eq_true rfl) (Nat.le_of_ble_eq_true rfl) dX7_swallowerLine_65 rfl ?_
      refine sp_if_ne (tgt := 73) (q := 71) hX dX7_swallowerLine_68 (by decide) rfl (fun hc => ?_) (fun hc => ?_)
      · rw [if_neg hc] at hf
        refine sp_aload_n (i := 0) (q := 74) hX dX7_swallowerLine_73 rfl rfl rfl ?_
        obtain ⟨c22, e24, hf⟩ := sp_pl_some hf
        obtain ⟨h23, hf⟩ := sp_ck_some hf
        refine sp_getr (q := 77) hX flX7_15 fkX7_1 atX_21 dX7_swallowerLine_74 rfl ?_
        refine sp_nmr e24 ?_
        refine sp_gets (t := c22 + 6) (q := 80) hX flX7_112 fkX2_5 (sp_isc_at h23) (msX2_5 (sp_isc_at h23)) dX7_swallowerLine_77 rfl ?_
        refine sp_iload_n (i := 1) (q := 81) hX dX7_swallowerLine_80 rfl rfl rfl ?_
        refine sp_aload_n (i := 0) (q := 82) hX dX7_swallowerLine_81 rfl rfl rfl ?_
        refine sp_gets (t := 20) (q := 85) hX flX7_9 fkX7_0 atX_21 srX_21_0 dX7_swallowerLine_82 rfl ?_
        refine sp_geti (q := 88) hX flX7_99 fkX10_5 atX_20 dX7_swallowerLine_85 rfl ?_
        obtain ⟨h25, hf⟩ := sp_ck_some hf
        obtain ⟨σ26, e27, hf⟩ := sp_pl_some hf
        refine sp_iast (q := 89) hX (mfX2_5 (sp_isc_at h23)) h25 dX7_swallowerLine_88 rfl ?_
        refine sp_nms e27 ?_
        refine sp_aload_n (i := 0) (q := 90) hX dX7_swallowerLine_89 rfl rfl rfl ?_
        obtain ⟨c28, e30, hf⟩ := sp_pl_some hf
        obtain ⟨h29, hf⟩ := sp_ck_some hf
        refine sp_getr (q := 93) hX flX7_15 fkX7_1 atX_21 dX7_swallowerLine_90 rfl ?_
        refine sp_nmr e30 ?_
        refine sp_dup (q := 94) hX dX7_swallowerLine_93 rfl rfl ?_
        refine sp_geti (q := 97) hX flX7_106 fkX2_14 (sp_isc_at h29) dX7_swallowerLine_94 rfl ?_
        refine sp_iconst (v := 1) (q := 98) hX dX7_swallowerLine_97 li_1 rfl ?_
        refine sp_iadd (q := 99) hX dX7_swallowerLine_98 rfl ?_
        obtain ⟨σ31, e32, hf⟩ := sp_pl_some hf
        refine sp_puti (q := 102) hX fpX7_106 fkX2_14 (sp_isc_at h29) dX7_swallowerLine_99 rfl ?_
        refine sp_nms e32 ?_
        refine sp_aload_n (i := 0) (q := 103) hX dX7_swallowerLine_102 rfl rfl rfl ?_
        refine sp_gets (t := 20) (q := 106) hX flX7_9 fkX7_0 atX_21 srX_21_0 dX7_swallowerLine_103 rfl ?_
        obtain ⟨σ34, h33, hf⟩ := sp_bv_so hf
        refine sp_callVv (As := []) (rest := []) (q := 109) hX (cnX10_next (sp_st hX)  h33) cwX7_92 atX_20 rfl rfl rfl rfl rfl (Nat.le_of_ble_eq_true rfl) (Nat.le_of_ble_eq_true rfl) (Nat.le_of_ble_eq_true rfl) (Nat.le_of_ble_eq_true rfl) (Nat.le_of_ble_eq_true rfl) dX7_swallowerLine_106 rfl ?_
        refine sp_iconst (v := 1) (q := 110) hX dX7_swallowerLine_109 li_1 rfl ?_
        exact sp_zret hX hR (by decide) dX7_swallowerLine_110 hf (Nat.le_of_ble_eq_true rfl) (Nat.le_of_ble_eq_true rfl)
      · rw [if_pos hc] at hf
        refine sp_iconst (v := 0) (q := 72) hX dX7_swallowerLine_71 li_0 rfl ?_
        exact sp_zret hX hR (by decide) dX7_swallowerLine_72 hf (Nat.le_of_ble_eq_true rfl) (Nat.le_of_ble_eq_true rfl)
    · rw [if_pos hc] at hf
      refine sp_iconst (v := 0) (q := 37) hX dX7_swallowerLine_36 li_0 rfl ?_
      exact sp_zret hX hR (by decide) dX7_swallowerLine_37 hf (Nat.le_of_ble_eq_true rfl) (Nat.le_of_ble_eq_true rfl)
  · rw [if_neg hc] at hf
    refine sp_aload_n (i := 0) (q := 14) hX dX7_swallowerLine_13 rfl rfl rfl ?_
    refine sp_iconst (v := 2) (q := 15) hX dX7_swallowerLine_14 li_2 rfl ?_
    obtain ⟨σ36, v37, h35, hf⟩ := sp_bd_so hf
    refine sp_callVi (As := [.int ((2 : Int32))]) (rest := []) (q := 18) hX (cnX7_fail (sp_st hX)  h35) cwX7_81 atX_21 rfl rfl rfl rfl rfl (Nat.le_of_ble_eq_true rfl) (Nat.le_of_ble_eq_true rfl) (Nat.le_of_ble_eq_true rfl) (Nat.le_of_ble_eq_true rfl) (Nat.le_of_ble_eq_true rfl) dX7_swallowerLine_15 rfl ?_
    obtain ⟨h38, hf⟩ := sp_ck_some hf
    exact sp_zret hX hR h38 dX7_swallowerLine_18 hf (Nat.le_of_ble_eq_true rfl) (Nat.le_of_ble_eq_true rfl)
set_option maxRecDepth 100000 in
set_option maxHeartbeats 4000000 in
theorem cnX7_swallowerLine {l : Launch} (hst : l.stackTraces = false) {w : sp_Wd} {n : Nat}  {σ : sp_St}  {τ : sp_St} {r : Int32}  (hf : X7_swallowerLine n σ = some (τ, r)) : sp_Ci shX l w yX7_swallowerLine cX7_swallowerLine 2 (some .boolean) rmX7_swallowerLine 0 0 σ [.ref (w.2.1 21)] τ r :=
  sp_ci (own := RX7) (by decide) rfl hst (Nat.le_of_ble_eq_true rfl) rfl (fun X hX hw hl hR => by subst hw; subst hl; exact hX7_swallowerLine hX hR   hf)
def rmX7_bladeLine : Room := { frames := 6, cells := 0, slots := 0, locals := 132 }
def X7_bladeLine (n : Nat)  (σ : sp_St)  : Option (sp_St × Int32) :=
  sp_pl (σ.2.1 21 1) fun c1 =>
  sp_ck (sp_isc c1) <|
  sp_pl (σ.1 c1 13) fun x4 =>
  if x4 < ((10 : Int32)) then
    sp_bv (X10_next n σ) fun σ7 =>
    sp_bd (X7_isNumber n σ7 ((0 : Int32)) ((5 : Int32))) fun σ9 v10 =>
    if v10 = 0 then
      some (σ9, (0 : Int32))
    else
      sp_pl (σ9.1 20 5) fun x11 =>
      sp_bv (X10_next n σ9) fun σ14 =>
      sp_bd (X7_isNumber n σ14 ((1 : Int32)) ((40 : Int32))) fun σ16 v17 =>
      if v17 = 0 then
        some (σ16, (0 : Int32))
      else
        sp_pl (σ16.2.1 21 1) fun c18 =>
        sp_ck (sp_isc c18) <|
        sp_ck (sp_in x4 10) <|
        sp_pl (sp_sa σ16 (c18 + 2) x4.toNatClampNeg (σ16.1 20 5)) fun σ22 =>
        sp_bv (X10_next n σ22) fun σ25 =>
        sp_bd (X7_isNumber n σ25 ((0 : Int32)) ((99 : Int32))) fun σ27 v28 =>
        if v28 = 0 then
          some (σ27, (0 : Int32))
        else
          sp_pl (σ27.2.1 21 1) fun c29 =>
          sp_ck (sp_isc c29) <|
          sp_ck (sp_in x4 10) <|
          sp_pl (sp_sa σ27 (c29 + 3) x4.toNatClampNeg (σ27.1 20 5)) fun σ33 =>
          sp_pl (σ33.2.1 21 1) fun c35 =>
          sp_ck (sp_isc c35) <|
          sp_ck (sp_in x4 10) <|
          sp_pl (sp_sa σ33 (c35 + 1) x4.toNatClampNeg x11) fun σ39 =>
          sp_pl (σ39.2.1 21 1) fun c41 =>
          sp_ck (sp_isc c41) <|
          sp_ck (sp_in x11 6) <|
          sp_ck (sp_in x11 6) <|
          sp_pl (sp_sa σ39 (c41 + 4) x11.toNatClampNeg ((sp_g σ39 (c41 + 4) x11) ||| (((1 : Int32)) <<< (x4 &&& 31)))) fun σ46 =>
          sp_pl (σ46.2.1 21 1) fun c48 =>
          sp_ck (sp_isc c48) <|
          sp_pl (sp_si σ46 c48 13 ((σ46.1 c48 13) + ((1 : Int32)))) fun σ51 =>
          sp_bv (X10_next n σ51) fun σ54 =>
          some (σ54, (1 : Int32))
  else
    sp_bd (X7_fail n σ ((2 : Int32))) fun σ56 v57 =>
    sp_ck (sp_zb v57) <|
    some (σ56, v57)
set_option maxRecDepth 100000 in
set_option maxHeartbeats 4000000 in
theorem hX7_bladeLine {X : sp_X} (hX : sp_OK shX X cX7_bladeLine RX7 3 rmX7_bladeLine) {τ : sp_St} {r : Int32} (hR : sp_Ri shX X (some .boolean) τ r 0 0) {n : Nat}  {σ : sp_St}   (hf : X7_bladeLine n σ = some (τ, r)) : sp_GG shX X σ 3 [some (.ref (sx_ad X 21)), none, none] [] 0 0 0 := by
  unfold X7_bladeLine at hf
  refine sp_aload_n (i := 0) (q := 1) hX dX7_bladeLine_0 rfl rfl rfl ?_
  obtain ⟨c1, e3, hf⟩ := sp_pl_some hf
  obtain ⟨h2, hf⟩ := sp_ck_some hf
  refine sp_getr (q := 4) hX flX7_15 fkX7_1 atX_21 dX7_bladeLine_1 rfl ?_
  refine sp_nmr e3 ?_
  refine sp_geti (q := 7) hX flX7_115 fkX2_13 (sp_isc_at h2) dX7_bladeLine_4 rfl ?_
  obtain ⟨x4, e5, hf⟩ := sp_pl_some hf
  refine sp_nmi e5 ?_
  refine sp_istore_n (i := 1) (lv' := [some (.ref (sx_ad X 21)), some (.int x4), none]) (q := 8) hX dX7_bladeLine_7 rfl (Nat.le_of_ble_eq_true rfl) rfl rfl rfl ?_
  refine sp_iload_n (i := 1) (q := 9) hX dX7_bladeLine_8 rfl rfl rfl ?_
  refine sp_bipush (v := 10) (q := 11) hX dX7_bladeLine_9 lb_10 rfl ?_
  refine sp_icmp_lt (tgt := 20) (q := 14) hX dX7_bladeLine_11 (by decide) rfl (fun hc => ?_) (fun hc => ?_)
  · rw [if_pos hc] at hf
    refine sp_aload_n (i := 0) (q := 21) hX dX7_bladeLine_20 rfl rfl rfl ?_
    refine sp_gets (t := 20) (q := 24) hX flX7_9 fkX7_0 atX_21 srX_21_0 dX7_bladeLine_21 rfl ?_
    obtain ⟨σ7, h6, hf⟩ := sp_bv_so hf
    refine sp_callVv (As := []) (rest := []) (q := 27) hX (cnX10_next (sp_st hX)  h6) cwX7_92 atX_20 rfl rfl rfl rfl rfl (Nat.le_of_ble_eq_true rfl) (Nat.le_of_ble_eq_true rfl) (Nat.le_of_ble_eq_true rfl) (Nat.le_of_ble_eq_true rfl) (Nat.le_of_ble_eq_true rfl) dX7_bladeLine_24 rfl ?_
    refine sp_aload_n (i := 0) (q := 28) hX dX7_bladeLine_27 rfl rfl rfl ?_
    refine sp_iconst (v := 0) (q := 29) hX dX7_bladeLine_28 li_0 rfl ?_
    refine sp_iconst (v := 5) (q := 30) hX dX7_bladeLine_29 li_5 rfl ?_
    obtain ⟨σ9, v10, h8, hf⟩ := sp_bd_so hf
    refine sp_callVi (As := [.int ((0 : Int32)), .int ((5 : Int32))]) (rest := []) (q := 33) hX (cnX7_isNumber (sp_st hX)  h8) cwX7_95 atX_21 rfl rfl rfl rfl rfl (Nat.le_of_ble_eq_true rfl) (Nat.le_of_ble_eq_true rfl) (Nat.le_of_ble_eq_true rfl) (Nat.le_of_ble_eq_true rfl) (Nat.le_of_ble_eq_true rfl) dX7_bladeLine_30 rfl ?_
    refine sp_if_ne (tgt := 38) (q := 36) hX dX7_bladeLine_33 (by decide) rfl (fun hc => ?_) (fun hc => ?_)
    · rw [if_neg hc] at hf
      refine sp_aload_n (i := 0) (q := 39) hX dX7_bladeLine_38 rfl rfl rfl ?_
      refine sp_gets (t := 20) (q := 42) hX flX7_9 fkX7_0 atX_21 srX_21_0 dX7_bladeLine_39 rfl ?_
      refine sp_geti (q := 45) hX flX7_99 fkX10_5 atX_20 dX7_bladeLine_42 rfl ?_
      obtain ⟨x11, e12, hf⟩ := sp_pl_some hf
      refine sp_nmi e12 ?_
      refine sp_istore_n (i := 2) (lv' := [some (.ref (sx_ad X 21)), some (.int x4), some (.int x11)]) (q := 46) hX dX7_bladeLine_45 rfl (Nat.le_of_ble_eq_true rfl) rfl rfl rfl ?_
      refine sp_aload_n (i := 0) (q := 47) hX dX7_bladeLine_46 rfl rfl rfl ?_
      refine sp_gets (t := 20) (q := 50) hX flX7_9 fkX7_0 atX_21 srX_21_0 dX7_bladeLine_47 rfl ?_
      obtain ⟨σ14, h13, hf⟩ := sp_bv_so hf
      refine sp_callVv (As := []) (rest := []) (q := 53) hX (cnX10_next (sp_st hX)  h13) cwX7_92 atX_20 rfl rfl rfl rfl rfl (Nat.le_of_ble_eq_true rfl) (Nat.le_of_ble_eq_true rfl) (Nat.le_of_ble_eq_true rfl) (Nat.le_of_ble_eq_true rfl) (Nat.le_of_ble_eq_true rfl) dX7_bladeLine_50 rfl ?_
      refine sp_aload_n (i := 0) (q := 54) hX dX7_bladeLine_53 rfl rfl rfl ?_
      refine sp_iconst (v := 1) (q := 55) hX dX7_bladeLine_54 li_1 rfl ?_
      refine sp_bipush (v := 40) (q := 57) hX dX7_bladeLine_55 lb_40 rfl ?_
      obtain ⟨σ16, v17, h15, hf⟩ := sp_bd_so hf
      refine sp_callVi (As := [.int ((1 : Int32)), .int ((40 : Int32))]) (rest := []) (q := 60) hX (cnX7_isNumber (sp_st hX)  h15) cwX7_95 atX_21 rfl rfl rfl rfl rfl (Nat.le_of_ble_eq_true rfl) (Nat.le_of_ble_eq_true rfl) (Nat.le_of_ble_eq_true rfl) (Nat.le_of_ble_eq_true rfl) (Nat.le_of_ble_eq_true rfl) dX7_bladeLine_57 rfl ?_
      refine sp_if_ne (tgt := 65) (q := 63) hX dX7_bladeLine_60 (by decide) rfl (fun hc => ?_) (fun hc => ?_)
      · rw [if_neg hc] at hf
        refine sp_aload_n (i := 0) (q := 66) hX dX7_bladeLine_65 rfl rfl rfl ?_
        obtain ⟨c18, e20, hf⟩ := sp_pl_some hf
        obtain ⟨h19, hf⟩ := sp_ck_some hf
        refine sp_getr (q := 69) hX flX7_15 fkX7_1 atX_21 dX7_bladeLine_66 rfl ?_
        refine sp_nmr e20 ?_
        refine sp_gets (t := c18 + 2) (q := 72) hX flX7_118 fkX2_1 (sp_isc_at h19) (msX2_1 (sp_isc_at h19)) dX7_bladeLine_69 rfl ?_
        refine sp_iload_n (i := 1) (q := 73) hX dX7_bladeLine_72 rfl rfl rfl ?_
        refine sp_aload_n (i := 0) (q := 74) hX dX7_bladeLine_73 rfl rfl rfl ?_
        refine sp_gets (t := 20) (q := 77) hX flX7_9 fkX7_0 atX_21 srX_21_0 dX7_bladeLine_74 rfl ?_
        refine sp_geti (q := 80) hX flX7_99 fkX10_5 atX_20 dX7_bladeLine_77 rfl ?_
        obtain ⟨h21, hf⟩ := sp_ck_some hf
        obtain ⟨σ22, e23, hf⟩ := sp_pl_some hf
        refine sp_iast (q := 81) hX (mfX2_1 (sp_isc_at h19)) h21 dX7_bladeLine_80 rfl ?_
        refine sp_nms e23 ?_
        refine sp_aload_n (i := 0) (q := 82) hX dX7_bladeLine_81 rfl rfl rfl ?_
        refine sp_gets (t := 20) (q := 85) hX flX7_9 fkX7_0 atX_21 srX_21_0 dX7_bladeLine_82 rfl ?_
        obtain ⟨σ25, h24, hf⟩ := sp_bv_so hf
        refine sp_callVv (As := []) (rest := []) (q := 88) hX (cnX10_next (sp_st hX)  h24) cwX7_92 atX_20 rfl rfl rfl rfl rfl (Nat.le_of_ble_eq_true rfl) (Nat.le_of_ble_eq_true rfl) (Nat.le_of_ble_eq_true rfl) (Nat.le_of_ble_eq_true rfl) (Nat.le_of_ble_eq_true rfl) dX7_bladeLine_85 rfl ?_
        refine sp_aload_n (i := 0) (q := 89) hX dX7_bladeLine_88 rfl rfl rfl ?_
        refine sp_iconst (v := 0) (q := 90) hX dX7_bladeLine_89 li_0 rfl ?_
        refine sp_bipush (v := 99) (q := 92) hX dX7_bladeLine_90 lb_99 rfl ?_
        obtain ⟨σ27, v28, h26, hf⟩ := sp_bd_so hf
        refine sp_callVi (As := [.int ((0 : Int32)), .int ((99 : Int32))]) (rest := []) (q := 95) hX (cnX7_isNumber (sp_st hX)  h26) cwX7_95 atX_21 rfl rfl rfl rfl rfl (Nat.le_of_ble_eq_true rfl) (Nat.le_of_ble_eq_true rfl) (Nat.le_of_ble_eq_true rfl) (Nat.le_of_ble_eq_true rfl) (Nat.le_of_ble_eq_true rfl) dX7_bladeLine_92 rfl ?_
        refine sp_if_ne (tgt := 100) (q := 98) hX dX7_bladeLine_95 (by decide) rfl (fun hc => ?_) (fun hc => ?_)
        · rw [if_neg hc] at hf
          refine sp_aload_n (i := 0) (q := 101) hX dX7_bladeLine_100 rfl rfl rfl ?_
          obtain ⟨c29, e31, hf⟩ := sp_pl_some hf
          obtain ⟨h30, hf⟩ := sp_ck_some hf
          refine sp_getr (q := 104) hX flX7_15 fkX7_1 atX_21 dX7_bladeLine_101 rfl ?_
          refine sp_nmr e31 ?_
          refine sp_gets (t := c29 + 3) (q := 107) hX flX7_121 fkX2_2 (sp_isc_at h30) (msX2_2 (sp_isc_at h30)) dX7_bladeLine_104 rfl ?_
          refine sp_iload_n (i := 1) (q := 108) hX dX7_bladeLine_107 rfl rfl rfl ?_
          refine sp_aload_n (i := 0) (q := 109) hX dX7_bladeLine_108 rfl rfl rfl ?_
          refine sp_gets (t := 20) (q := 112) hX flX7_9 fkX7_0 atX_21 srX_21_0 dX7_bladeLine_109 rfl ?_
          refine sp_geti (q := 115) hX flX7_99 fkX10_5 atX_20 dX7_bladeLine_112 rfl ?_
          obtain ⟨h32, hf⟩ := sp_ck_some hf
          obtain ⟨σ33, e34, hf⟩ := sp_pl_some hf
          refine sp_iast (q := 116) hX (mfX2_2 (sp_isc_at h30)) h32 dX7_bladeLine_115 rfl ?_
          refine sp_nms e34 ?_
          refine sp_aload_n (i := 0) (q := 117) hX dX7_bladeLine_116 rfl rfl rfl ?_
          obtain ⟨c35, e37, hf⟩ := sp_pl_some hf
          obtain ⟨h36, hf⟩ := sp_ck_some hf
          refine sp_getr (q := 120) hX flX7_15 fkX7_1 atX_21 dX7_bladeLine_117 rfl ?_
          refine sp_nmr e37 ?_
          refine sp_gets (t := c35 + 1) (q := 123) hX flX7_124 fkX2_0 (sp_isc_at h36) (msX2_0 (sp_isc_at h36)) dX7_bladeLine_120 rfl ?_
          refine sp_iload_n (i := 1) (q := 124) hX dX7_bladeLine_123 rfl rfl rfl ?_
          refine sp_iload_n (i := 2) (q := 125) hX dX7_bladeLine_124 rfl rfl rfl ?_
          obtain ⟨h38, hf⟩ := sp_ck_some hf
          obtain ⟨σ39, e40, hf⟩ := sp_pl_some hf
          refine sp_iast (q := 126) hX (mfX2_0 (sp_isc_at h36)) h38 dX7_bladeLine_125 rfl ?_
          refine sp_nms e40 ?_
          refine sp_aload_n (i := 0) (q := 127) hX dX7_bladeLine_126 rfl rfl rfl ?_
          obtain ⟨c41, e43, hf⟩ := sp_pl_some hf
          obtain ⟨h42, hf⟩ := sp_ck_some hf
          refine sp_getr (q := 130) hX flX7_15 fkX7_1 atX_21 dX7_bladeLine_127 rfl ?_
          refine sp_nmr e43 ?_
          refine sp_gets (t := c41 + 4) (q := 133) hX flX7_127 fkX2_3 (sp_isc_at h42) (msX2_3 (sp_isc_at h42)) dX7_bladeLine_130 rfl ?_
          refine sp_iload_n (i := 2) (q := 134) hX dX7_bladeLine_133 rfl rfl rfl ?_
          refine sp_dup2 (q := 135) hX dX7_bladeLine_134 rfl rfl rfl ?_
          obtain ⟨h44, hf⟩ := sp_ck_some hf
          refine sp_iald (q := 136) hX (mfX2_3 (sp_isc_at h42)) h44 dX7_bladeLine_135 rfl ?_
          refine sp_iconst (v := 1) (q := 137) hX dX7_bladeLine_136 li_1 rfl ?_
          refine sp_iload_n (i := 1) (q := 138) hX dX7_bladeLine_137 rfl rfl rfl ?_
          refine sp_ishl (q := 139) hX dX7_bladeLine_138 rfl ?_
          refine sp_ior (q := 140) hX dX7_bladeLine_139 rfl ?_
          obtain ⟨h45, hf⟩ := sp_ck_some hf
          obtain ⟨σ46, e47, hf⟩ := sp_pl_some hf
          refine sp_iast (q := 141) hX (mfX2_3 (sp_isc_at h42)) h45 dX7_bladeLine_140 rfl ?_
          refine sp_nms e47 ?_
          refine sp_aload_n (i := 0) (q := 142) hX dX7_bladeLine_141 rfl rfl rfl ?_
          obtain ⟨c48, e50, hf⟩ := sp_pl_some hf
          obtain ⟨h49, hf⟩ := sp_ck_some hf
          refine sp_getr (q := 145) hX flX7_15 fkX7_1 atX_21 dX7_bladeLine_142 rfl ?_
          refine sp_nmr e50 ?_
          refine sp_dup (q := 146) hX dX7_bladeLine_145 rfl rfl ?_
          refine sp_geti (q := 149) hX flX7_115 fkX2_13 (sp_isc_at h49) dX7_bladeLine_146 rfl ?_
          refine sp_iconst (v := 1) (q := 150) hX dX7_bladeLine_149 li_1 rfl ?_
          refine sp_iadd (q := 151) hX dX7_bladeLine_150 rfl ?_
          obtain ⟨σ51, e52, hf⟩ := sp_pl_some hf
          refine sp_puti (q := 154) hX fpX7_115 fkX2_13 (sp_isc_at h49) dX7_bladeLine_151 rfl ?_
          refine sp_nms e52 ?_
          refine sp_aload_n (i := 0) (q := 155) hX dX7_bladeLine_154 rfl rfl rfl ?_
          refine sp_gets (t := 20) (q := 158) hX flX7_9 fkX7_0 atX_21 srX_21_0 dX7_bladeLine_155 rfl ?_
          obtain ⟨σ54, h53, hf⟩ := sp_bv_so hf
          refine sp_callVv (As := []) (rest := []) (q := 161) hX (cnX10_next (sp_st hX)  h53) cwX7_92 atX_20 rfl rfl rfl rfl rfl (Nat.le_of_ble_eq_true rfl) (Nat.le_of_ble_eq_true rfl) (Nat.le_of_ble_eq_true rfl) (Nat.le_of_ble_eq_true rfl) (Nat.le_of_ble_eq_true rfl) dX7_bladeLine_158 rfl ?_
          refine sp_iconst (v := 1) (q := 162) hX dX7_bladeLine_161 li_1 rfl ?_
          exact sp_zret hX hR (by decide) dX7_bladeLine_162 hf (Nat.le_of_ble_eq_true rfl) (Nat.le_of_ble_eq_true rfl)
        · rw [if_pos hc] at hf
          refine sp_iconst (v := 0) (q := 99) hX dX7_bladeLine_98 li_0 rfl ?_
          exact sp_zret hX hR (by decide) dX7_bladeLine_99 hf (Nat.le_of_ble_eq_true rfl) (Nat.le_of_ble_eq_true rfl)
      · rw [if_pos hc] at hf
        refine sp_iconst (v := 0) (q := 64) hX dX7_bladeLine_63 li_0 rfl ?_
        exact sp_zret hX hR (by decide) dX7_bladeLine_64 hf (Nat.le_of_ble_eq_true rfl) (Nat.le_of_ble_eq_true rfl)
    · rw [if_pos hc] at hf
      refine sp_iconst (v := 0) (q := 37) hX dX7_bladeLine_36 li_0 rfl ?_
      exact sp_zret hX hR (by decide) dX7_bladeLine_37 hf (Nat.le_of_ble_eq_true rfl) (Nat.le_of_ble_eq_true rfl)
  · rw [if_neg hc] at hf
    refine sp_aload_n (i := 0) (q := 15) hX dX7_bladeLine_14 rfl rfl rfl ?_
    refine sp_iconst (v := 2) (q := 16) hX dX7_bladeLine_15 li_2 rfl ?_
    obtain ⟨σ56, v57, h55, hf⟩ := sp_bd_so hf
    refine sp_callVi (As := [.int ((2 : Int32))]) (rest := []) (q := 19) hX (cnX7_fail (sp_st hX)  h55) cwX7_81 atX_21 rfl rfl rfl rfl rfl (Nat.le_of_ble_eq_true rfl) (Nat.le_of_ble_eq_true rfl) (Nat.le_of_ble_eq_true rfl) (Nat.le_of_ble_eq_true rfl) (Nat.le_of_ble_eq_true rfl) dX7_bladeLine_16 rfl ?_
    obtain ⟨h58, hf⟩ := sp_ck_some hf
    exact sp_zret hX hR h58 dX7_bladeLine_19 hf (Nat.le_of_ble_eq_true rfl) (Nat.le_of_ble_eq_true rfl)
set_option maxRecDepth 100000 in
set_option maxHeartbeats 4000000 in
theorem cnX7_bladeLine {l : Launch} (hst : l.stackTraces = false) {w : sp_Wd} {n : Nat}  {σ : sp_St}  {τ : sp_St} {r : Int32}  (hf : X7_bladeLine n σ = some (τ, r)) : sp_Ci shX l w yX7_bladeLine cX7_bladeLine 3 (some .boolean) rmX7_bladeLine 0 0 σ [.ref (w.2.1 21)] τ r :=
  sp_ci (own := RX7) (by decide) rfl hst (Nat.le_of_ble_eq_true rfl) rfl (fun X hX hw hl hR => by subst hw; subst hl; exact hX7_bladeLine hX hR   hf)
def rmX7_patienceLine : Room := { frames := 6, cells := 0, slots := 0, locals := 132 }
def X7_patienceLine (n : Nat)  (σ : sp_St)  : Option (sp_St × Int32) :=
  sp_pl (σ.2.1 21 1) fun c1 =>
  sp_ck (sp_isc c1) <|
  if (σ.1 c1 17) = 0 then
    sp_bv (X10_next n σ) fun σ5 =>
    sp_bd (X7_isNumber n σ5 ((1 : Int32)) ((99 : Int32))) fun σ7 v8 =>
    if v8 = 0 then
      some (σ7, (0 : Int32))
    else
      sp_pl (σ7.2.1 21 1) fun c9 =>
      sp_ck (sp_isc c9) <|
      sp_pl (sp_si σ7 c9 16 (σ7.1 20 5)) fun σ12 =>
      sp_pl (σ12.2.1 21 1) fun c14 =>
      sp_ck (sp_isc c14) <|
      sp_pl (sp_si σ12 c14 17 ((1 : Int32))) fun σ17 =>
      sp_bv (X10_next n σ17) fun σ20 =>
      some (σ20, (1 : Int32))
  else
    sp_bd (X7_fail n σ ((5 : Int32))) fun σ22 v23 =>
    sp_ck (sp_zb v23) <|
    some (σ22, v23)
set_option maxRecDepth 100000 in
set_option maxHeartbeats 4000000 in
theorem hX7_patienceLine {X : sp_X} (hX : sp_OK shX X cX7_patienceLine RX7 1 rmX7_patienceLine) {τ : sp_St} {r : Int32} (hR : sp_Ri shX X (some .boolean) τ r 0 0) {n : Nat}  {σ : sp_St}   (hf : X7_patienceLine n σ = some (τ, r)) : sp_GG shX X σ 1 [some (.ref (sx_ad X 21))] [] 0 0 0 := by
  unfold X7_patienceLine at hf
  refine sp_aload_n (i := 0) (q := 1) hX dX7_patienceLine_0 rfl rfl rfl ?_
  obtain ⟨c1, e3, hf⟩ := sp_pl_some hf
  obtain ⟨h2, hf⟩ := sp_ck_some hf
  refine sp_getr (q := 4) hX flX7_15 fkX7_1 atX_21 dX7_patienceLine_1 rfl ?_
  refine sp_nmr e3 ?_
  refine sp_geti (q := 7) hX flX7_130 fkX2_17 (sp_isc_at h2) dX7_patienceLine_4 rfl ?_
  refine sp_if_eq (tgt := 16) (q := 10) hX dX7_patienceLine_7 (by decide) rfl (fun hc => ?_) (fun hc => ?_)
  · rw [if_pos hc] at hf
    refine sp_aload_n (i := 0) (q := 17) hX dX7_patienceLine_16 rfl rfl rfl ?_
    refine sp_gets (t := 20) (q := 20) hX flX7_9 fkX7_0 atX_21 srX_21_0 dX7_patienceLine_17 rfl ?_
    obtain ⟨σ5, h4, hf⟩ := sp_bv_so hf
    refine sp_callVv (As := []) (rest := []) (q := 23) hX (cnX10_next (sp_st hX)  h4) cwX7_92 atX_20 rfl rfl rfl rfl rfl (Nat.le_of_ble_eq_true rfl) (Nat.le_of_ble_eq_true rfl) (Nat.le_of_ble_eq_true rfl) (Nat.le_of_ble_eq_true rfl) (Nat.le_of_ble_eq_true rfl) dX7_patienceLine_20 rfl ?_
    refine sp_aload_n (i := 0) (q := 24) hX dX7_patienceLine_23 rfl rfl rfl ?_
    refine sp_iconst (v := 1) (q := 25) hX dX7_patienceLine_24 li_1 rfl ?_
    refine sp_bipush (v := 99) (q := 27) hX dX7_patienceLine_25 lb_99 rfl ?_
    obtain ⟨σ7, v8, h6, hf⟩ := sp_bd_so hf
    refine sp_callVi (As := [.int ((1 : Int32)), .int ((99 : Int32))]) (rest := []) (q := 30) hX (cnX7_isNumber (sp_st hX)  h6) cwX7_95 atX_21 rfl rfl rfl rfl rfl (Nat.le_of_ble_eq_true rfl) (Nat.le_of_ble_eq_true rfl) (Nat.le_of_ble_eq_true rfl) (Nat.le_of_ble_eq_true rfl) (Nat.le_of_ble_eq_true rfl) dX7_patienceLine_27 rfl ?_
    refine sp_if_ne (tgt := 35) (q := 33) hX dX7_patienceLine_30 (by decide) rfl (fun hc => ?_) (fun hc => ?_)
    · rw [if_neg hc] at hf
      refine sp_aload_n (i := 0) (q := 36) hX dX7_patienceLine_35 rfl rfl rfl ?_
      obtain ⟨c9, e11, hf⟩ := sp_pl_some hf
      obtain ⟨h10, hf⟩ := sp_ck_some hf
      refine sp_getr (q := 39) hX flX7_15 fkX7_1 atX_21 dX7_patienceLine_36 rfl ?_
      refine sp_nmr e11 ?_
      refine sp_aload_n (i := 0) (q := 40) hX dX7_patienceLine_39 rfl rfl rfl ?_
      refine sp_gets (t := 20) (q := 43) hX flX7_9 fkX7_0 atX_21 srX_21_0 dX7_patienceLine_40 rfl ?_
      refine sp_geti (q := 46) hX flX7_99 fkX10_5 atX_20 dX7_patienceLine_43 rfl ?_
      obtain ⟨σ12, e13, hf⟩ := sp_pl_some hf
      refine sp_puti (q := 49) hX fpX7_134 fkX2_16 (sp_isc_at h10) dX7_patienceLine_46 rfl ?_
      refine sp_nms e13 ?_
      refine sp_aload_n (i := 0) (q := 50) hX dX7_patienceLine_49 rfl rfl rfl ?_
      obtain ⟨c14, e16, hf⟩ := sp_pl_some hf
      obtain ⟨h15, hf⟩ := sp_ck_some hf
      refine sp_getr (q := 53) hX flX7_15 fkX7_1 atX_21 dX7_patienceLine_50 rfl ?_
      refine sp_nmr e16 ?_
      refine sp_iconst (v := 1) (q := 54) hX dX7_patienceLine_53 li_1 rfl ?_
      obtain ⟨σ17, e18, hf⟩ := sp_pl_some hf
      refine sp_putz (q := 57) hX fpX7_130 fkX2_17 (sp_isc_at h15) (by decide) dX7_patienceLine_54 rfl ?_
      refine sp_nms e18 ?_
      refine sp_aload_n (i := 0) (q := 58) hX dX7_patienceLine_57 rfl rfl rfl ?_
      refine sp_gets (t := 20) (q := 61) hX flX7_9 fkX7_0 atX_21 srX_21_0 dX7_patienceLine_58 rfl ?_
      obtain ⟨σ20, h19, hf⟩ := sp_bv_so hf
      refine sp_callVv (As := []) (rest := []) (q := 64) hX (cnX10_next (sp_st hX)  h19) cwX7_92 atX_20 rfl rfl rfl rfl rfl (Nat.le_of_ble_eq_true rfl) (Nat.le_of_ble_eq_true rfl) (Nat.le_of_ble_eq_true rfl) (Nat.le_of_ble_eq_true rfl) (Nat.le_of_ble_eq_true rfl) dX7_patienceLine_61 rfl ?_
      refine sp_iconst (v := 1) (q := 65) hX dX7_patienceLine_64 li_1 rfl ?_
      exact sp_zret hX hR (by decide) dX7_patienceLine_65 hf (Nat.le_of_ble_eq_true rfl) (Nat.le_of_ble_eq_true rfl)
    · rw [if_pos hc] at hf
      refine sp_iconst (v := 0) (q := 34) hX dX7_patienceLine_33 li_0 rfl ?_
      exact sp_zret hX hR (by decide) dX7_patienceLine_34 hf (Nat.le_of_ble_eq_true rfl) (Nat.le_of_ble_eq_true rfl)
  · rw [if_neg hc] at hf
    refine sp_aload_n (i := 0) (q := 11) hX dX7_patienceLine_10 rfl rfl rfl ?_
    refine sp_iconst (v := 5) (q := 12) hX dX7_patienceLine_11 li_5 rfl ?_
    obtain ⟨σ22, v23, h21, hf⟩ := sp_bd_so hf
    refine sp_callVi (As := [.int ((5 : Int32))]) (rest := []) (q := 15) hX (cnX7_fail (sp_st hX)  h21) cwX7_81 atX_21 rfl rfl rfl rfl rfl (Nat.le_of_ble_eq_true rfl) (Nat.le_of_ble_eq_true rfl) (Nat.le_of_ble_eq_true rfl) (Nat.le_of_ble_eq_true rfl) (Nat.le_of_ble_eq_true rfl) dX7_patienceLine_12 rfl ?_
    obtain ⟨h24, hf⟩ := sp_ck_some hf
    exact sp_zret hX hR h24 dX7_patienceLine_15 hf (Nat.le_of_ble_eq_true rfl) (Nat.le_of_ble_eq_true rfl)
set_option maxRecDepth 100000 in
set_option maxHeartbeats 4000000 in
theorem cnX7_patienceLine {l : Launch} (hst : l.stackTraces = false) {w : sp_Wd} {n : Nat}  {σ : sp_St}  {τ : sp_St} {r : Int32}  (hf : X7_patienceLine n σ = some (τ, r)) : sp_Ci shX l w yX7_patienceLine cX7_patienceLine 1 (some .boolean) rmX7_patienceLine 0 0 σ [.ref (w.2.1 21)] τ r :=
  sp_ci (own := RX7) (by decide) rfl hst (Nat.le_of_ble_eq_true rfl) rfl (fun X hX hw hl hR => by subst hw; subst hl; exact hX7_patienceLine hX hR   hf)
def rmX7_coolsLine : Room := { frames := 111, cells := 0, slots := 0, locals := 5223 }
def X7_coolsLine (n : Nat)  (σ : sp_St)  : Option (sp_St × Int32) :=
  sp_pl (σ.2.1 21 1) fun c1 =>
  sp_ck (sp_isc c1) <|
  sp_bd (X2_coolsTold n σ c1) fun σ5 v6 =>
  if v6 = 0 then
    sp_bv (X10_next n σ5) fun σ8 =>
    sp_pl (sp_si σ8 21 3 ((1 : Int32))) fun σ9 =>
    sp_pl (σ9.2.1 21 1) fun c11 =>
    sp_ck (sp_isc c11) <|
    sp_pl (sp_si σ9 c11 9 (σ9.1 c11 8)) fun σ14 =>
    sp_bd (X7_either 8 n σ14 ((0 : Int32))) fun σ17 v18 =>
    sp_pl (σ17.2.1 21 1) fun c19 =>
    sp_ck (sp_isc c19) <|
    sp_pl (sp_si σ17 c19 10 (σ17.1 c19 8)) fun σ22 =>
    sp_ck (sp_zb v18) <|
    some (σ22, v18)
  else
    sp_bd (X7_fail n σ5 ((5 : Int32))) fun σ26 v27 =>
    sp_ck (sp_zb v27) <|
    some (σ26, v27)
set_option maxRecDepth 100000 in
set_option maxHeartbeats 4000000 in
theorem hX7_coolsLine {X : sp_X} (hX : sp_OK shX X cX7_coolsLine RX7 2 rmX7_coolsLine) {τ : sp_St} {r : Int32} (hR : sp_Ri shX X (some .boolean) τ r 0 0) {n : Nat}  {σ : sp_St}   (hf : X7_coolsLine n σ = some (τ, r)) : sp_GG shX X σ 2 [some (.ref (sx_ad X 21)), none] [] 0 0 0 := by
  unfold X7_coolsLine at hf
  refine sp_aload_n (i := 0) (q := 1) hX dX7_coolsLine_0 rfl rfl rfl ?_
  obtain ⟨c1, e3, hf⟩ := sp_pl_some hf
  obtain ⟨h2, hf⟩ := sp_ck_some hf
  refine sp_getr (q := 4) hX flX7_15 fkX7_1 atX_21 dX7_coolsLine_1 rfl ?_
  refine sp_nmr e3 ?_
  obtain ⟨σ5, v6, h4, hf⟩ := sp_bd_so hf
  refine sp_callVi (As := []) (rest := []) (q := 7) hX (cnX2_coolsTold (sp_st hX) (sp_isc_at h2) h4) cwX7_136 (sp_isc_at h2) rfl rfl rfl rfl rfl (Nat.le_of_ble_eq_true rfl) (Nat.le_of_ble_eq_true rfl) (Nat.le_of_ble_eq_true rfl) (Nat.le_of_ble_eq_true rfl) (Nat.le_of_ble_eq_true rfl) dX7_coolsLine_4 rfl ?_
  refine sp_if_eq (tgt := 16) (q := 10) hX dX7_coolsLine_7 (by decide) rfl (fun hc => ?_) (fun hc => ?_)
  · rw [if_pos hc] at hf
    refine sp_aload_n (i := 0) (q := 17) hX dX7_coolsLine_16 rfl rfl rfl ?_
    refine sp_gets (t := 20) (q := 20) hX flX7_9 fkX7_0 atX_21 srX_21_0 dX7_coolsLine_17 rfl ?_
    obtain ⟨σ8, h7, hf⟩ := sp_bv_so hf
    refine sp_callVv (As := []) (rest := []) (q := 23) hX (cnX10_next (sp_st hX)  h7) cwX7_92 atX_20 rfl rfl rfl rfl rfl (Nat.le_of_ble_eq_true rfl) (Nat.le_of_ble_eq_true rfl) (Nat.le_of_ble_eq_true rfl) (Nat.le_of_ble_eq_true rfl) (Nat.le_of_ble_eq_true rfl) dX7_coolsLine_20 rfl ?_
    refine sp_aload_n (i := 0) (q := 24) hX dX7_coolsLine_23 rfl rfl rfl ?_
    refine sp_iconst (v := 1) (q := 25) hX dX7_coolsLine_24 li_1 rfl ?_
    obtain ⟨σ9, e10, hf⟩ := sp_pl_some hf
    refine sp_putz (q := 28) hX fpX7_139 fkX7_3 atX_21 (by decide) dX7_coolsLine_25 rfl ?_
    refine sp_nms e10 ?_
    refine sp_aload_n (i := 0) (q := 29) hX dX7_coolsLine_28 rfl rfl rfl ?_
    obtain ⟨c11, e13, hf⟩ := sp_pl_some hf
    obtain ⟨h12, hf⟩ := sp_ck_some hf
    refine sp_getr (q := 32) hX flX7_15 fkX7_1 atX_21 dX7_coolsLine_29 rfl ?_
    refine sp_nmr e13 ?_
    refine sp_aload_n (i := 0) (q := 33) hX dX7_coolsLine_32 rfl rfl rfl ?_
    refine sp_getr (q := 36) hX flX7_15 fkX7_1 atX_21 dX7_coolsLine_33 rfl ?_
    refine sp_nmr e13 ?_
    refine sp_geti (q := 39) hX flX7_142 fkX2_8 (sp_isc_at h12) dX7_coolsLine_36 rfl ?_
    obtain ⟨σ14, e15, hf⟩ := sp_pl_some hf
    refine sp_puti (q := 42) hX fpX7_145 fkX2_9 (sp_isc_at h12) dX7_coolsLine_39 rfl ?_
    refine sp_nms e15 ?_
    refine sp_aload_n (i := 0) (q := 43) hX dX7_coolsLine_42 rfl rfl rfl ?_
    refine sp_iconst (v := 0) (q := 44) hX dX7_coolsLine_43 li_0 rfl ?_
    obtain ⟨σ17, v18, h16, hf⟩ := sp_bd_so hf
    refine sp_callVi (As := [.int ((0 : Int32))]) (rest := []) (q := 47) hX (cnX7_either (sp_st hX) 8 h16) cwX7_148 atX_21 rfl rfl rfl rfl rfl (Nat.le_of_ble_eq_true rfl) (Nat.le_of_ble_eq_true rfl) (Nat.le_of_ble_eq_true rfl) (Nat.le_of_ble_eq_true rfl) (Nat.le_of_ble_eq_true rfl) dX7_coolsLine_44 rfl ?_
    refine sp_istore_n (i := 1) (lv' := [some (.ref (sx_ad X 21)), some (.int v18)]) (q := 48) hX dX7_coolsLine_47 rfl (Nat.le_of_ble_eq_true rfl) rfl rfl rfl ?_
    refine sp_aload_n (i := 0) (q := 49) hX dX7_coolsLine_48 rfl rfl rfl ?_
    obtain ⟨c19, e21, hf⟩ := sp_pl_some hf
    obtain ⟨h20, hf⟩ := sp_ck_some hf
    refine sp_getr (q := 52) hX flX7_15 fkX7_1 atX_21 dX7_coolsLine_49 rfl ?_
    refine sp_nmr e21 ?_
    refine sp_aload_n (i := 0) (q := 53) hX dX7_coolsLine_52 rfl rfl rfl ?_
    refine sp_getr (q := 56) hX flX7_15 fkX7_1 atX_21 dX7_coolsLine_53 rfl ?_
    refine sp_nmr e21 ?_
    refine sp_geti (q := 59) hX flX7_142 fkX2_8 (sp_isc_at h20) dX7_coolsLine_56 rfl ?_
    obtain ⟨σ22, e23, hf⟩ := sp_pl_some hf
    refine sp_puti (q := 62) hX fpX7_151 fkX2_10 (sp_isc_at h20) dX7_coolsLine_59 rfl ?_
    refine sp_nms e23 ?_
    refine sp_iload_n (i := 1) (q := 63) hX dX7_coolsLine_62 rfl rfl rfl ?_
    obtain ⟨h24, hf⟩ := sp_ck_some hf
    exact sp_zret hX hR h24 dX7_coolsLine_63 hf (Nat.le_of_ble_eq_true rfl) (Nat.le_of_ble_eq_true rfl)
  · rw [if_neg hc] at hf
    refine sp_aload_n (i := 0) (q := 11) hX dX7_coolsLine_10 rfl rfl rfl ?_
    refine sp_iconst (v := 5) (q := 12) hX dX7_coolsLine_11 li_5 rfl ?_
    obtain ⟨σ26, v27, h25, hf⟩ := sp_bd_so hf
    refine sp_callVi (As := [.int ((5 : Int32))]) (rest := []) (q := 15) hX (cnX7_fail (sp_st hX)  h25) cwX7_81 atX_21 rfl rfl rfl rfl rfl (Nat.le_of_ble_eq_true rfl) (Nat.le_of_ble_eq_true rfl) (Nat.le_of_ble_eq_true rfl) (Nat.le_of_ble_eq_true rfl) (Nat.le_of_ble_eq_true rfl) dX7_coolsLine_12 rfl ?_
    obtain ⟨h28, hf⟩ := sp_ck_some hf
    exact sp_zret hX hR h28 dX7_coolsLine_15 hf (Nat.le_of_ble_eq_true rfl) (Nat.le_of_ble_eq_true rfl)
set_option maxRecDepth 100000 in
set_option maxHeartbeats 4000000 in
theorem cnX7_coolsLine {l : Launch} (hst : l.stackTraces = false) {w : sp_Wd} {n : Nat}  {σ : sp_St}  {τ : sp_St} {r : Int32}  (hf : X7_coolsLine n σ = some (τ, r)) : sp_Ci shX l w yX7_coolsLine cX7_coolsLine 2 (some .boolean) rmX7_coolsLine 0 0 σ [.ref (w.2.1 21)] τ r :=
  sp_ci (own := RX7) (by decide) rfl hst (Nat.le_of_ble_eq_true rfl) rfl (fun X hX hw hl hR => by subst hw; subst hl; exact hX7_coolsLine hX hR   hf)
def rmX7_risesLine : Room := { frames := 111, cells := 0, slots := 0, locals := 5223 }
def X7_risesLine (n : Nat)  (σ : sp_St)  : Option (sp_St × Int32) :=
  sp_pl (σ.2.1 21 1) fun c1 =>
  sp_ck (sp_isc c1) <|
  sp_bd (X2_risesTold n σ c1) fun σ5 v6 =>
  if v6 = 0 then
    sp_bv (X10_next n σ5) fun σ8 =>
    sp_pl (sp_si σ8 21 3 ((0 : Int32))) fun σ9 =>
    sp_pl (σ9.2.1 21 1) fun c11 =>
    sp_ck (sp_isc c11) <|
    sp_pl (sp_si σ9 c11 11 (σ9.1 c11 8)) fun σ14 =>
    sp_bd (X7_either 8 n σ14 ((0 : Int32))) fun σ17 v18 =>
    sp_pl (σ17.2.1 21 1) fun c19 =>
    sp_ck (sp_isc c19) <|
    sp_pl (sp_si σ17 c19 12 (σ17.1 c19 8)) fun σ22 =>
    sp_ck (sp_zb v18) <|
    some (σ22, v18)
  else
    sp_bd (X7_fail n σ5 ((5 : Int32))) fun σ26 v27 =>
    sp_ck (sp_zb v27) <|
    some (σ26, v27)
set_option maxRecDepth 100000 in
set_option maxHeartbeats 4000000 in
theorem hX7_risesLine {X : sp_X} (hX : sp_OK shX X cX7_risesLine RX7 2 rmX7_risesLine) {τ : sp_St} {r : Int32} (hR : sp_Ri shX X (some .boolean) τ r 0 0) {n : Nat}  {σ : sp_St}   (hf : X7_risesLine n σ = some (τ, r)) : sp_GG shX X σ 2 [some (.ref (sx_ad X 21)), none] [] 0 0 0 := by
  unfold X7_risesLine at hf
  refine sp_aload_n (i := 0) (q := 1) hX dX7_risesLine_0 rfl rfl rfl ?_
  obtain ⟨c1, e3, hf⟩ := sp_pl_some hf
  obtain ⟨h2, hf⟩ := sp_ck_some hf
  refine sp_getr (q := 4) hX flX7_15 fkX7_1 atX_21 dX7_risesLine_1 rfl ?_
  refine sp_nmr e3 ?_
  obtain ⟨σ5, v6, h4, hf⟩ := sp_bd_so hf
  refine sp_callVi (As := []) (rest := []) (q := 7) hX (cnX2_risesTold (sp_st hX) (sp_isc_at h2) h4) cwX7_154 (sp_isc_at h2) rfl rfl rfl rfl rfl (Nat.le_of_ble_eq_true rfl) (Nat.le_of_ble_eq_true rfl) (Nat.le_of_ble_eq_true rfl) (Nat.le_of_ble_eq_true rfl) (Nat.le_of_ble_eq_true rfl) dX7_risesLine_4 rfl ?_
  refine sp_if_eq (tgt := 16) (q := 10) hX dX7_risesLine_7 (by decide) rfl (fun hc => ?_) (fun hc => ?_)
  · rw [if_pos hc] at hf
    refine sp_aload_n (i := 0) (q := 17) hX dX7_risesLine_16 rfl rfl rfl ?_
    refine sp_gets (t := 20) (q := 20) hX flX7_9 fkX7_0 atX_21 srX_21_0 dX7_risesLine_17 rfl ?_
    obtain ⟨σ8, h7, hf⟩ := sp_bv_so hf
    refine sp_callVv (As := []) (rest := []) (q := 23) hX (cnX10_next (sp_st hX)  h7) cwX7_92 atX_20 rfl rfl rfl rfl rfl (Nat.le_of_ble_eq_true rfl) (Nat.le_of_ble_eq_true rfl) (Nat.le_of_ble_eq_true rfl) (Nat.le_of_ble_eq_true rfl) (Nat.le_of_ble_eq_true rfl) dX7_risesLine_20 rfl ?_
    refine sp_aload_n (i := 0) (q := 24) hX dX7_risesLine_23 rfl rfl rfl ?_
    refine sp_iconst (v := 0) (q := 25) hX dX7_risesLine_24 li_0 rfl ?_
    obtain ⟨σ9, e10, hf⟩ := sp_pl_some hf
    refine sp_putz (q := 28) hX fpX7_139 fkX7_3 atX_21 (by decide) dX7_risesLine_25 rfl ?_
    refine sp_nms e10 ?_
    refine sp_aload_n (i := 0) (q := 29) hX dX7_risesLine_28 rfl rfl rfl ?_
    obtain ⟨c11, e13, hf⟩ := sp_pl_some hf
    obtain ⟨h12, hf⟩ := sp_ck_some hf
    refine sp_getr (q := 32) hX flX7_15 fkX7_1 atX_21 dX7_risesLine_29 rfl ?_
    refine sp_nmr e13 ?_
    refine sp_aload_n (i := 0) (q := 33) hX dX7_risesLine_32 rfl rfl rfl ?_
    refine sp_getr (q := 36) hX flX7_15 fkX7_1 atX_21 dX7_risesLine_33 rfl ?_
    refine sp_nmr e13 ?_
    refine sp_geti (q := 39) hX flX7_142 fkX2_8 (sp_isc_at h12) dX7_risesLine_36 rfl ?_
    obtain ⟨σ14, e15, hf⟩ := sp_pl_some hf
    refine sp_puti (q := 42) hX fpX7_157 fkX2_11 (sp_isc_at h12) dX7_risesLine_39 rfl ?_
    refine sp_nms e15 ?_
    refine sp_aload_n (i := 0) (q := 43) hX dX7_risesLine_42 rfl rfl rfl ?_
    refine sp_iconst (v := 0) (q := 44) hX dX7_risesLine_43 li_0 rfl ?_
    obtain ⟨σ17, v18, h16, hf⟩ := sp_bd_so hf
    refine sp_callVi (As := [.int ((0 : Int32))]) (rest := []) (q := 47) hX (cnX7_either (sp_st hX) 8 h16) cwX7_148 atX_21 rfl rfl rfl rfl rfl (Nat.le_of_ble_eq_true rfl) (Nat.le_of_ble_eq_true rfl) (Nat.le_of_ble_eq_true rfl) (Nat.le_of_ble_eq_true rfl) (Nat.le_of_ble_eq_true rfl) dX7_risesLine_44 rfl ?_
    refine sp_istore_n (i := 1) (lv' := [some (.ref (sx_ad X 21)), some (.int v18)]) (q := 48) hX dX7_risesLine_47 rfl (Nat.le_of_ble_eq_true rfl) rfl rfl rfl ?_
    refine sp_aload_n (i := 0) (q := 49) hX dX7_risesLine_48 rfl rfl rfl ?_
    obtain ⟨c19, e21, hf⟩ := sp_pl_some hf
    obtain ⟨h20, hf⟩ := sp_ck_some hf
    refine sp_getr (q := 52) hX flX7_15 fkX7_1 atX_21 dX7_risesLine_49 rfl ?_
    refine sp_nmr e21 ?_
    refine sp_aload_n (i := 0) (q := 53) hX dX7_risesLine_52 rfl rfl rfl ?_
    refine sp_getr (q := 56) hX flX7_15 fkX7_1 atX_21 dX7_risesLine_53 rfl ?_
    refine sp_nmr e21 ?_
    refine sp_geti (q := 59) hX flX7_142 fkX2_8 (sp_isc_at h20) dX7_risesLine_56 rfl ?_
    obtain ⟨σ22, e23, hf⟩ := sp_pl_some hf
    refine sp_puti (q := 62) hX fpX7_160 fkX2_12 (sp_isc_at h20) dX7_risesLine_59 rfl ?_
    refine sp_nms e23 ?_
    refine sp_iload_n (i := 1) (q := 63) hX dX7_risesLine_62 rfl rfl rfl ?_
    obtain ⟨h24, hf⟩ := sp_ck_some hf
    exact sp_zret hX hR h24 dX7_risesLine_63 hf (Nat.le_of_ble_eq_true rfl) (Nat.le_of_ble_eq_true rfl)
  · rw [if_neg hc] at hf
    refine sp_aload_n (i := 0) (q := 11) hX dX7_risesLine_10 rfl rfl rfl ?_
    refine sp_iconst (v := 5) (q := 12) hX dX7_risesLine_11 li_5 rfl ?_
    obtain ⟨σ26, v27, h25, hf⟩ := sp_bd_so hf
    refine sp_callVi (As := [.int ((5 : Int32))]) (rest := []) (q := 15) hX (cnX7_fail (sp_st hX)  h25) cwX7_81 atX_21 rfl rfl rfl rfl rfl (Nat.le_of_ble_eq_true rfl) (Nat.le_of_ble_eq_true rfl) (Nat.le_of_ble_eq_true rfl) (Nat.le_of_ble_eq_true rfl) (Nat.le_of_ble_eq_true rfl) dX7_risesLine_12 rfl ?_
    obtain ⟨h28, hf⟩ := sp_ck_some hf
    exact sp_zret hX hR h28 dX7_risesLine_15 hf (Nat.le_of_ble_eq_true rfl) (Nat.le_of_ble_eq_true rfl)
set_option maxRecDepth 100000 in
set_option maxHeartbeats 4000000 in
theorem cnX7_risesLine {l : Launch} (hst : l.stackTraces = false) {w : sp_Wd} {n : Nat}  {σ : sp_St}  {τ : sp_St} {r : Int32}  (hf : X7_risesLine n σ = some (τ, r)) : sp_Ci shX l w yX7_risesLine cX7_risesLine 2 (some .boolean) rmX7_risesLine 0 0 σ [.ref (w.2.1 21)] τ r :=
  sp_ci (own := RX7) (by decide) rfl hst (Nat.le_of_ble_eq_true rfl) rfl (fun X hX hw hl hR => by subst hw; subst hl; exact hX7_risesLine hX hR   hf)
def rmX7_line : Room := { frames := 112, cells := 0, slots := 0, locals := 5244 }
def X7_line_144 (n : Nat) (σ : sp_St) (zs0 : Int32) : Option (sp_St × Int32) :=
  sp_ck (sp_zb zs0) <|
  some (σ, zs0)
def X7_line_143 (n : Nat) (σ : sp_St) : Option (sp_St × Int32) :=
  X7_line_144 n σ ((0 : Int32))
def X7_line_126 (n : Nat) (σ : sp_St) (z1 : Int32) : Option (sp_St × Int32) :=
  if z1 = 0 then
    X7_line_143 n σ
  else
    sp_bd (X7_passSign n σ ((59 : Int32))) fun σ2 v3 =>
    if v3 = 0 then
      X7_line_143 n σ2
    else
      X7_line_144 n σ2 ((1 : Int32))
def X7_line (n : Nat)  (σ : sp_St)  : Option (sp_St × Int32) :=
  sp_bd (X10_isWord n σ 12) fun σ2 v3 =>
  if v3 = 0 then
    sp_bd (X10_isWord n σ2 13) fun σ5 v6 =>
    if v6 = 0 then
      sp_bd (X10_isWord n σ5 14) fun σ8 v9 =>
      if v9 = 0 then
        sp_bd (X10_isWord n σ8 9) fun σ11 v12 =>
        if v12 = 0 then
          sp_bd (X10_isWord n σ11 10) fun σ14 v15 =>
          if v15 = 0 then
            sp_bd (X10_isWord n σ14 11) fun σ17 v18 =>
            if v18 = 0 then
              sp_bd (X7_fail n σ17 ((1 : Int32))) fun σ20 v21 =>
              X7_line_126 n σ20 v21
            else
              sp_bd (X7_risesLine n σ17) fun σ23 v24 =>
              X7_line_126 n σ23 v24
          else
            sp_bd (X7_coolsLine n σ14) fun σ26 v27 =>
            X7_line_126 n σ26 v27
        else
          sp_bd (X7_patienceLine n σ11) fun σ29 v30 =>
          X7_line_126 n σ29 v30
      else
        sp_bd (X7_bladeLine n σ8) fun σ32 v33 =>
        X7_line_126 n σ32 v33
    else
      sp_bd (X7_swallowerLine n σ5) fun σ35 v36 =>
      X7_line_126 n σ35 v36
  else
    sp_bd (X7_feudLine n σ2) fun σ38 v39 =>
    X7_line_126 n σ38 v39
set_option maxRecDepth 100000 in
set_option maxHeartbeats 4000000 in
theorem hX7_line_144 {X : sp_X} (hX : sp_OK shX X cX7_line RX7 2 rmX7_line) {τ : sp_St} {r : Int32} (hR : sp_Ri shX X (some .boolean) τ r 0 0) {n : Nat}    {σ : sp_St} {zs0 : Int32} (hf : X7_line_144 n σ zs0 = some (τ, r)) : sp_GG shX X σ 2 [none, none] [.int zs0] 144 0 0 := by
  unfold X7_line_144 at hf
  obtain ⟨h1, hf⟩ := sp_ck_some hf
  exact sp_zret hX hR h1 dX7_line_144 hf (Nat.le_of_ble_eq_true rfl) (Nat.le_of_ble_eq_true rfl)
set_option maxRecDepth 100000 in
set_option maxHeartbeats 4000000 in
theorem hX7_line_143 {X : sp_X} (hX : sp_OK shX X cX7_line RX7 2 rmX7_line) {τ : sp_St} {r : Int32} (hR : sp_Ri shX X (some .boolean) τ r 0 0) {n : Nat}    {σ : sp_St} (hf : X7_line_143 n σ = some (τ, r)) : sp_GG shX X σ 2 [none, none] [] 143 0 0 := by
  unfold X7_line_143 at hf
  refine sp_iconst (v := 0) (q := 144) hX dX7_line_143 li_0 rfl ?_
  exact hX7_line_144 hX hR hf
set_option maxRecDepth 100000 in
set_option maxHeartbeats 4000000 in
theorem hX7_line_126 {X : sp_X} (hX : sp_OK shX X cX7_line RX7 2 rmX7_line) {τ : sp_St} {r : Int32} (hR : sp_Ri shX X (some .boolean) τ r 0 0) {n : Nat}    {σ : sp_St} {z1 : Int32} (hf : X7_line_126 n σ z1 = some (τ, r)) : sp_GG shX X σ 2 [some (.ref (sx_ad X 21)), some (.int z1)] [] 126 0 0 := by
  unfold X7_line_126 at hf
  refine sp_iload_n (i := 1) (q := 127) hX dX7_line_126 rfl rfl rfl ?_
  refine sp_if_eq (tgt := 143) (q := 130) hX dX7_line_127 (by decide) rfl (fun hc => ?_) (fun hc => ?_)
  · rw [if_pos hc] at hf
    refine sp_drop (lv' := [none, none]) trivial ?_
    exact hX7_line_143 hX hR hf
  · rw [if_neg hc] at hf
    refine sp_aload_n (i := 0) (q := 131) hX dX7_line_130 rfl rfl rfl ?_
    refine sp_bipush (v := 59) (q := 133) hX dX7_line_131 lb_59 rfl ?_
    obtain ⟨σ2, v3, h1, hf⟩ := sp_bd_so hf
    refine sp_callVi (As := [.int ((59 : Int32))]) (rest := []) (q := 136) hX (cnX7_passSign (sp_st hX)  h1) cwX7_85 atX_21 rfl rfl rfl rfl rfl (Nat.le_of_ble_eq_true rfl) (Nat.le_of_ble_eq_true rfl) (Nat.le_of_ble_eq_true rfl) (Nat.le_of_ble_eq_true rfl) (Nat.le_of_ble_eq_true rfl) dX7_line_133 rfl ?_
    refine sp_if_eq (tgt := 143) (q := 139) hX dX7_line_136 (by decide) rfl (fun hc => ?_) (fun hc => ?_)
    · rw [if_pos hc] at hf
      refine sp_drop (lv' := [none, none]) trivial ?_
      exact hX7_line_143 hX hR hf
    · rw [if_neg hc] at hf
      refine sp_iconst (v := 1) (q := 140) hX dX7_line_139 li_1 rfl ?_
      refine sp_goto (tgt := 144) hX dX7_line_140 (by decide) ?_
      refine sp_drop (lv' := [none, none]) trivial ?_
      exact hX7_line_144 hX hR hf
set_option maxRecDepth 100000 in
set_option maxHeartbeats 4000000 in
theorem hX7_line {X : sp_X} (hX : sp_OK shX X cX7_line RX7 2 rmX7_line) {τ : sp_St} {r : Int32} (hR : sp_Ri shX X (some .boolean) τ r 0 0) {n : Nat}  {σ : sp_St}   (hf : X7_line n σ = some (τ, r)) : sp_GG shX X σ 2 [some (.ref (sx_ad X 21)), none] [] 0 0 0 := by
  unfold X7_line at hf
  refine sp_aload_n (i := 0) (q := 1) hX dX7_line_0 rfl rfl rfl ?_
  refine sp_gets (t := 20) (q := 4) hX flX7_9 fkX7_0 atX_21 srX_21_0 dX7_line_1 rfl ?_
  refine sp_ldcS (i := 12) (tx := "feud") (q := 6) hX (by decide) dX7_line_4 rfl ?_
  obtain ⟨σ2, v3, h1, hf⟩ := sp_bd_so hf
  refine sp_callVi (As := [.ref ((sx_w X).2.2.1 0 12)]) (rest := []) (q := 9) hX (cnX10_isWord (sp_st hX) (by decide) h1) cwX7_49 atX_20 rfl rfl rfl rfl rfl (Nat.le_of_ble_eq_true rfl) (Nat.le_of_ble_eq_true rfl) (Nat.le_of_ble_eq_true rfl) (Nat.le_of_ble_eq_true rfl) (Nat.le_of_ble_eq_true rfl) dX7_line_6 rfl ?_
  refine sp_if_eq (tgt := 20) (q := 12) hX dX7_line_9 (by decide) rfl (fun hc => ?_) (fun hc => ?_)
  · rw [if_pos hc] at hf
    refine sp_aload_n (i := 0) (q := 21) hX dX7_line_20 rfl rfl rfl ?_
    refine sp_gets (t := 20) (q := 24) hX flX7_9 fkX7_0 atX_21 srX_21_0 dX7_line_21 rfl ?_
    refine sp_ldcS (i := 13) (tx := "swallower") (q := 26) hX (by decide) dX7_line_24 rfl ?_
    obtain ⟨σ5, v6, h4, hf⟩ := sp_bd_so hf
    refine sp_callVi (As := [.ref ((sx_w X).2.2.1 0 13)]) (rest := []) (q := 29) hX (cnX10_isWord (sp_st hX) (by decide) h4) cwX7_49 atX_20 rfl rfl rfl rfl rfl (Nat.le_of_ble_eq_true rfl) (Nat.le_of_ble_eq_true rfl) (Nat.le_of_ble_eq_true rfl) (Nat.le_of_ble_eq_true rfl) (Nat.le_of_ble_eq_true rfl) dX7_line_26 rfl ?_
    refine sp_if_eq (tgt := 40) (q := 32) hX dX7_line_29 (by decide) rfl (fun hc => ?_) (fun hc => ?_)
    · rw [if_pos hc] at hf
      refine sp_aload_n (i := 0) (q := 41) hX dX7_line_40 rfl rfl rfl ?_
      refine sp_gets (t := 20) (q := 44) hX flX7_9 fkX7_0 atX_21 srX_21_0 dX7_line_41 rfl ?_
      refine sp_ldcS (i := 14) (tx := "blade") (q := 46) hX (by decide) dX7_line_44 rfl ?_
      obtain ⟨σ8, v9, h7, hf⟩ := sp_bd_so hf
      refine sp_callVi (As := [.ref ((sx_w X).2.2.1 0 14)]) (rest := []) (q := 49) hX (cnX10_isWord (sp_st hX) (by decide) h7) cwX7_49 atX_20 rfl rfl rfl rfl rfl (Nat.le_of_ble_eq_true rfl) (Nat.le_of_ble_eq_true rfl) (Nat.le_of_ble_eq_true rfl) (Nat.le_of_ble_eq_true rfl) (Nat.le_of_ble_eq_true rfl) dX7_line_46 rfl ?_
      refine sp_if_eq (tgt := 60) (q := 52) hX dX7_line_49 (by decide) rfl (fun hc => ?_) (fun hc => ?_)
      · rw [if_pos hc] at hf
        refine sp_aload_n (i := 0) (q := 61) hX dX7_line_60 rfl rfl rfl ?_
        refine sp_gets (t := 20) (q := 64) hX flX7_9 fkX7_0 atX_21 srX_21_0 dX7_line_61 rfl ?_
        refine sp_ldcS (i := 9) (tx := "patience") (q := 66) hX (by decide) dX7_line_64 rfl ?_
        obtain ⟨σ11, v12, h10, hf⟩ := sp_bd_so hf
        refine sp_callVi (As := [.ref ((sx_w X).2.2.1 0 9)]) (rest := []) (q := 69) hX (cnX10_isWord (sp_st hX) (by decide) h10) cwX7_49 atX_20 rfl rfl rfl rfl rfl (Nat.le_of_ble_eq_true rfl) (Nat.le_of_ble_eq_true rfl) (Nat.le_of_ble_eq_true rfl) (Nat.le_of_ble_eq_true rfl) (Nat.le_of_ble_eq_true rfl) dX7_line_66 rfl ?_
        refine sp_if_eq (tgt := 80) (q := 72) hX dX7_line_69 (by decide) rfl (fun hc => ?_) (fun hc => ?_)
        · rw [if_pos hc] at hf
          refine sp_aload_n (i := 0) (q := 81) hX dX7_line_80 rfl rfl rfl ?_
          refine sp_gets (t := 20) (q := 84) hX flX7_9 fkX7_0 atX_21 srX_21_0 dX7_line_81 rfl ?_
          refine sp_ldcS (i := 10) (tx := "cools") (q := 86) hX (by decide) dX7_line_84 rfl ?_
          obtain ⟨σ14, v15, h13, hf⟩ := sp_bd_so hf
          refine sp_callVi (As := [.ref ((sx_w X).2.2.1 0 10)]) (rest := []) (q := 89) hX (cnX10_isWord (sp_st hX) (by decide) h13) cwX7_49 atX_20 rfl rfl rfl rfl rfl (Nat.le_of_ble_eq_true rfl) (Nat.le_of_ble_eq_true rfl) (Nat.le_of_ble_eq_true rfl) (Nat.le_of_ble_eq_true rfl) (Nat.le_of_ble_eq_true rfl) dX7_line_86 rfl ?_
          refine sp_if_eq (tgt := 100) (q := 92) hX dX7_line_89 (by decide) rfl (fun hc => ?_) (fun hc => ?_)
          · rw [if_pos hc] at hf
            refine sp_aload_n (i := 0) (q := 101) hX dX7_line_100 rfl rfl rfl ?_
            refine sp_gets (t := 20) (q := 104) hX flX7_9 fkX7_0 atX_21 srX_21_0 dX7_line_101 rfl ?_
            refine sp_ldcS (i := 11) (tx := "rises") (q := 106) hX (by decide) dX7_line_104 rfl ?_
            obtain ⟨σ17, v18, h16, hf⟩ := sp_bd_so hf
            refine sp_callVi (As := [.ref ((sx_w X).2.2.1 0 11)]) (rest := []) (q := 109) hX (cnX10_isWord (sp_st hX) (by decide) h16) cwX7_49 atX_20 rfl rfl rfl rfl rfl (Nat.le_of_ble_eq_true rfl) (Nat.le_of_ble_eq_true rfl) (Nat.le_of_ble_eq_true rfl) (Nat.le_of_ble_eq_true rfl) (Nat.le_of_ble_eq_true rfl) dX7_line_106 rfl ?_
            refine sp_if_eq (tgt := 120) (q := 112) hX dX7_line_109 (by decide) rfl (fun hc => ?_) (fun hc => ?_)
            · rw [if_pos hc] at hf
              refine sp_aload_n (i := 0) (q := 121) hX dX7_line_120 rfl rfl rfl ?_
              refine sp_iconst (v := 1) (q := 122) hX dX7_line_121 li_1 rfl ?_
              obtain ⟨σ20, v21, h19, hf⟩ := sp_bd_so hf
              refine sp_callVi (As := [.int ((1 : Int32))]) (rest := []) (q := 125) hX (cnX7_fail (sp_st hX)  h19) cwX7_81 atX_21 rfl rfl rfl rfl rfl (Nat.le_of_ble_eq_true rfl) (Nat.le_of_ble_eq_true rfl) (Nat.le_of_ble_eq_true rfl) (Nat.le_of_ble_eq_true rfl) (Nat.le_of_ble_eq_true rfl) dX7_line_122 rfl ?_
              refine sp_istore_n (i := 1) (lv' := [some (.ref (sx_ad X 21)), some (.int v21)]) (q := 126) hX dX7_line_125 rfl (Nat.le_of_ble_eq_true rfl) rfl rfl rfl ?_
              exact hX7_line_126 hX hR hf
            · rw [if_neg hc] at hf
              refine sp_aload_n (i := 0) (q := 113) hX dX7_line_112 rfl rfl rfl ?_
              obtain ⟨σ23, v24, h22, hf⟩ := sp_bd_so hf
              refine sp_callVi (As := []) (rest := []) (q := 116) hX (cnX7_risesLine (sp_st hX)  h22) cwX7_78 atX_21 rfl rfl rfl rfl rfl (Nat.le_of_ble_eq_true rfl) (Nat.le_of_ble_eq_true rfl) (Nat.le_of_ble_eq_true rfl) (Nat.le_of_ble_eq_true rfl) (Nat.le_of_ble_eq_true rfl) dX7_line_113 rfl ?_
              refine sp_istore_n (i := 1) (lv' := [some (.ref (sx_ad X 21)), some (.int v24)]) (q := 117) hX dX7_line_116 rfl (Nat.le_of_ble_eq_true rfl) rfl rfl rfl ?_
              refine sp_goto (tgt := 126) hX dX7_line_117 (by decide) ?_
              exact hX7_line_126 hX hR hf
          · rw [if_neg hc] at hf
            refine sp_aload_n (i := 0) (q := 93) hX dX7_line_92 rfl rfl rfl ?_
            obtain ⟨σ26, v27, h25, hf⟩ := sp_bd_so hf
            refine sp_callVi (As := []) (rest := []) (q := 96) hX (cnX7_coolsLine (sp_st hX)  h25) cwX7_73 atX_21 rfl rfl rfl rfl rfl (Nat.le_of_ble_eq_true rfl) (Nat.le_of_ble_eq_true rfl) (Nat.le_of_ble_eq_true rfl) (Nat.le_of_ble_eq_true rfl) (Nat.le_of_ble_eq_true rfl) dX7_line_93 rfl ?_
            refine sp_istore_n (i := 1) (lv' := [some (.ref (sx_ad X 21)), some (.int v27)]) (q := 97) hX dX7_line_96 rfl (Nat.le_of_ble_eq_true rfl) rfl rfl rfl ?_
            refine sp_goto (tgt := 126) hX dX7_line_97 (by decide) ?_
            exact hX7_line_126 hX hR hf
        · rw [if_neg hc] at hf
          refine sp_aload_n (i := 0) (q := 73) hX dX7_line_72 rfl rfl rfl ?_
          obtain ⟨σ29, v30, h28, hf⟩ := sp_bd_so hf
          refine sp_callVi (As := []) (rest := []) (q := 76) hX (cnX7_patienceLine (sp_st hX)  h28) cwX7_68 atX_21 rfl rfl rfl rfl rfl (Nat.le_of_ble_eq_true rfl) (Nat.le_of_ble_eq_true rfl) (Nat.le_of_ble_eq_true rfl) (Nat.le_of_ble_eq_true rfl) (Nat.le_of_ble_eq_true rfl) dX7_line_73 rfl ?_
          refine sp_istore_n (i := 1) (lv' := [some (.ref (sx_ad X 21)), some (.int v30)]) (q := 77) hX dX7_line_76 rfl (Nat.le_of_ble_eq_true rfl) rfl rfl rfl ?_
          refine sp_goto (tgt := 126) hX dX7_line_77 (by decide) ?_
          exact hX7_line_126 hX hR hf
      · rw [if_neg hc] at hf
        refine sp_aload_n (i := 0) (q := 53) hX dX7_line_52 rfl rfl rfl ?_
        obtain ⟨σ32, v33, h31, hf⟩ := sp_bd_so hf
        refine sp_callVi (As := []) (rest := []) (q := 56) hX (cnX7_bladeLine (sp_st hX)  h31) cwX7_63 atX_21 rfl rfl rfl rfl rfl (Nat.le_of_ble_eq_true rfl) (Nat.le_of_ble_eq_true rfl) (Nat.le_of_ble_eq_true rfl) (Nat.le_of_ble_eq_true rfl) (Nat.le_of_ble_eq_true rfl) dX7_line_53 rfl ?_
        refine sp_istore_n (i := 1) (lv' := [some (.ref (sx_ad X 21)), some (.int v33)]) (q := 57) hX dX7_line_56 rfl (Nat.le_of_ble_eq_true rfl) rfl rfl rfl ?_
        refine sp_goto (tgt := 126) hX dX7_line_57 (by decide) ?_
        exact hX7_line_126 hX hR hf
    · rw [if_neg hc] at hf
      refine sp_aload_n (i := 0) (q := 33) hX dX7_line_32 rfl rfl rfl ?_
      obtain ⟨σ35, v36, h34, hf⟩ := sp_bd_so hf
      refine sp_callVi (As := []) (rest := []) (q := 36) hX (cnX7_swallowerLine (sp_st hX)  h34) cwX7_58 atX_21 rfl rfl rfl rfl rfl (Nat.le_of_ble_eq_true rfl) (Nat.le_of_ble_eq_true rfl) (Nat.le_of_ble_eq_true rfl) (Nat.le_of_ble_eq_true rfl) (Nat.le_of_ble_eq_true rfl) dX7_line_33 rfl ?_
      refine sp_istore_n (i := 1) (lv' := [some (.ref (sx_ad X 21)), some (.int v36)]) (q := 37) hX dX7_line_36 rfl (Nat.le_of_ble_eq_true rfl) rfl rfl rfl ?_
      refine sp_goto (tgt := 126) hX dX7_line_37 (by decide) ?_
      exact hX7_line_126 hX hR hf
  · rw [if_neg hc] at hf
    refine sp_aload_n (i := 0) (q := 13) hX dX7_line_12 rfl rfl rfl ?_
    obtain ⟨σ38, v39, h37, hf⟩ := sp_bd_so hf
    refine sp_callVi (As := []) (rest := []) (q := 16) hX (cnX7_feudLine (sp_st hX)  h37) cwX7_53 atX_21 rfl rfl rfl rfl rfl (Nat.le_of_ble_eq_true rfl) (Nat.le_of_ble_eq_true rfl) (Nat.le_of_ble_eq_true rfl) (Nat.le_of_ble_eq_true rfl) (Nat.le_of_ble_eq_true rfl) dX7_line_13 rfl ?_
    refine sp_istore_n (i := 1) (lv' := [some (.ref (sx_ad X 21)), some (.int v39)]) (q := 17) hX dX7_line_16 rfl (Nat.le_of_ble_eq_true rfl) rfl rfl rfl ?_
    refine sp_goto (tgt := 126) hX dX7_line_17 (by decide) ?_
    exact hX7_line_126 hX hR hf
set_option maxRecDepth 100000 in
set_option maxHeartbeats 4000000 in
theorem cnX7_line {l : Launch} (hst : l.stackTraces = false) {w : sp_Wd} {n : Nat}  {σ : sp_St}  {τ : sp_St} {r : Int32}  (hf : X7_line n σ = some (τ, r)) : sp_Ci shX l w yX7_line cX7_line 2 (some .boolean) rmX7_line 0 0 σ [.ref (w.2.1 21)] τ r :=
  sp_ci (own := RX7) (by decide) rfl hst (Nat.le_of_ble_eq_true rfl) rfl (fun X hX hw hl hR => by subst hw; subst hl; exact hX7_line hX hR   hf)
def rmX7_tell : Room := { frames := 113, cells := 0, slots := 0, locals := 5265 }
def X7_tell_60 (n : Nat) (p2 : Nat) (σ : sp_St) : Option (sp_St × Int32) :=
  some (σ, (0 : Int32))
def X7_tell_49 (n : Nat) (p2 : Nat) (σ : sp_St) : Option (sp_St × Int32) :=
  some (σ, σ.1 21 2)
def X7_tell_27 (n : Nat) (p2 : Nat) : Nat → sp_St → Int32 → Int32 → Option (sp_St × Int32)
  | 0, _, _, _ => none
  | f + 1, σ, z1, z3 =>
    if z1 < z3 then
      X7_tell_60 n p2 σ
    else
      if (σ.1 20 4) = 0 then
        X7_tell_60 n p2 σ
      else
        sp_bd (X7_line n σ) fun σ2 v3 =>
        if v3 = 0 then
          X7_tell_49 n p2 σ2
        else
          sp_pl (z3 + 1) fun x4 =>
          X7_tell_27 n p2 f σ2 z1 x4
def X7_tell (n : Nat)  (σ : sp_St) (a1 : Int32) (p2 : Nat) : Option (sp_St × Int32) :=
  sp_pl (sp_sr σ 21 1 p2) fun σ1 =>
  sp_pl (σ1.2.1 21 1) fun c3 =>
  sp_ck (sp_isc c3) <|
  sp_bv (X2_clear n σ1 c3) fun σ7 =>
  sp_pl (sp_si σ7 21 2 ((0 : Int32))) fun σ8 =>
  sp_bv (X10_open n σ8 a1) fun σ11 =>
  sp_pl ((0 : Int32)) fun x12 =>
  X7_tell_27 n p2 n σ11 a1 x12
set_option maxRecDepth 100000 in
set_option maxHeartbeats 4000000 in
theorem hX7_tell_60 {X : sp_X} (hX : sp_OK shX X cX7_tell RX7 4 rmX7_tell) {τ : sp_St} {r : Int32} (hR : sp_Ri shX X (some .int) τ r 0 0) {n : Nat}  {p2 : Nat} (hp2 : sp_at shX p2 2 18)  {σ : sp_St} (hf : X7_tell_60 n p2 σ = some (τ, r)) : sp_GG shX X σ 4 [none, none, none, none] [] 60 0 0 := by
  unfold X7_tell_60 at hf
  refine sp_iconst (v := 0) (q := 61) hX dX7_tell_60 li_0 rfl ?_
  exact sp_iret hX hR dX7_tell_61 hf (Nat.le_of_ble_eq_true rfl) (Nat.le_of_ble_eq_true rfl)
set_option maxRecDepth 100000 in
set_option maxHeartbeats 4000000 in
theorem hX7_tell_49 {X : sp_X} (hX : sp_OK shX X cX7_tell RX7 4 rmX7_tell) {τ : sp_St} {r : Int32} (hR : sp_Ri shX X (some .int) τ r 0 0) {n : Nat}  {p2 : Nat} (hp2 : sp_at shX p2 2 18)  {σ : sp_St} (hf : X7_tell_49 n p2 σ = some (τ, r)) : sp_GG shX X σ 4 [some (.ref (sx_ad X 21)), none, none, none] [] 49 0 0 := by
  unfold X7_tell_49 at hf
  refine sp_aload_n (i := 0) (q := 50) hX dX7_tell_49 rfl rfl rfl ?_
  refine sp_geti (q := 53) hX flX7_24 fkX7_2 atX_21 dX7_tell_50 rfl ?_
  exact sp_iret hX hR dX7_tell_53 hf (Nat.le_of_ble_eq_true rfl) (Nat.le_of_ble_eq_true rfl)
set_option maxRecDepth 100000 in
set_option maxHeartbeats 4000000 in
theorem hX7_tell_27 {X : sp_X} (hX : sp_OK shX X cX7_tell RX7 4 rmX7_tell) {τ : sp_St} {r : Int32} (hR : sp_Ri shX X (some .int) τ r 0 0) {n : Nat}  {p2 : Nat} (hp2 : sp_at shX p2 2 18)  : ∀ (f : Nat) (σ : sp_St) (z1 : Int32) (z3 : Int32), X7_tell_27 n p2 f σ z1 z3 = some (τ, r) → sp_GG shX X σ 4 [some (.ref (sx_ad X 21)), some (.int z1), none, some (.int z3)] [] 27 0 0 := by
  intro f
  induction f with
  | zero =>
    intro σ z1 z3 hf
    rw [X7_tell_27] at hf
    cases hf
  | succ f ih =>
    intro σ z1 z3 hf
    rw [X7_tell_27] at hf
    refine sp_iload_n (i := 3) (q := 28) hX dX7_tell_27 rfl rfl rfl ?_
    refine sp_iload_n (i := 1) (q := 29) hX dX7_tell_28 rfl rfl rfl ?_
    refine sp_icmp_gt (tgt := 60) (q := 32) hX dX7_tell_29 (by decide) rfl (fun hc => ?_) (fun hc => ?_)
    · rw [if_pos hc] at hf
      refine sp_drop (lv' := [none, none, none, none]) trivial ?_
      exact hX7_tell_60 hX hR hp2 hf
    · rw [if_neg hc] at hf
      refine sp_aload_n (i := 0) (q := 33) hX dX7_tell_32 rfl rfl rfl ?_
      refine sp_gets (t := 20) (q := 36) hX flX7_9 fkX7_0 atX_21 srX_21_0 dX7_tell_33 rfl ?_
      refine sp_geti (q := 39) hX flX7_34 fkX10_4 atX_20 dX7_tell_36 rfl ?_
      refine sp_if_eq (tgt := 60) (q := 42) hX dX7_tell_39 (by decide) rfl (fun hc => ?_) (fun hc => ?_)
      · rw [if_pos hc] at hf
        refine sp_drop (lv' := [none, none, none, none]) trivial ?_
        exact hX7_tell_60 hX hR hp2 hf
      · rw [if_neg hc] at hf
        refine sp_aload_n (i := 0) (q := 43) hX dX7_tell_42 rfl rfl rfl ?_
        obtain ⟨σ2, v3, h1, hf⟩ := sp_bd_so hf
        refine sp_callVi (As := []) (rest := []) (q := 46) hX (cnX7_line (sp_st hX)  h1) cwX7_37 atX_21 rfl rfl rfl rfl rfl (Nat.le_of_ble_eq_true rfl) (Nat.le_of_ble_eq_true rfl) (Nat.le_of_ble_eq_true rfl) (Nat.le_of_ble_eq_true rfl) (Nat.le_of_ble_eq_true rfl) dX7_tell_43 rfl ?_
        refine sp_if_ne (tgt := 54) (q := 49) hX dX7_tell_46 (by decide) rfl (fun hc => ?_) (fun hc => ?_)
        · rw [if_neg hc] at hf
          obtain ⟨x4, e5, hf⟩ := sp_pl_some hf
          refine sp_iinc (i := 3) (v := x4) (lv' := [some (.ref (sx_ad X 21)), some (.int z1), none, some (.int x4)]) (q := 57) hX dX7_tell_54 rfl (by rw [e5, li_1]) (Nat.le_of_ble_eq_true rfl) rfl rfl rfl ?_
          refine sp_goto (tgt := 27) hX dX7_tell_57 (by decide) ?_
          exact ih σ2 z1 x4 hf
        · rw [if_pos hc] at hf
          refine sp_drop (lv' := [some (.ref (sx_ad X 21)), none, none, none]) (And.intro rfl trivial) ?_
          exact hX7_tell_49 hX hR hp2 hf
set_option maxRecDepth 100000 in
set_option maxHeartbeats 4000000 in
theorem hX7_tell {X : sp_X} (hX : sp_OK shX X cX7_tell RX7 4 rmX7_tell) {τ : sp_St} {r : Int32} (hR : sp_Ri shX X (some .int) τ r 0 0) {n : Nat}  {σ : sp_St} {a1 : Int32} {p2 : Nat} (hp2 : sp_at shX p2 2 18) (hf : X7_tell n σ a1 p2 = some (τ, r)) : sp_GG shX X σ 4 [some (.ref (sx_ad X 21)), some (.int a1), some (.ref (sx_ad X p2)), none] [] 0 0 0 := by
  unfold X7_tell at hf
  refine sp_aload_n (i := 0) (q := 1) hX dX7_tell_0 rfl rfl rfl ?_
  refine sp_aload_n (i := 2) (q := 2) hX dX7_tell_1 rfl rfl rfl ?_
  obtain ⟨σ1, e2, hf⟩ := sp_pl_some hf
  refine sp_putr (q := 5) hX fpX7_15 fkX7_1 atX_21 (fun _ => rfl) (fun _ => rfl) dX7_tell_2 rfl ?_
  refine sp_nms e2 ?_
  refine sp_aload_n (i := 0) (q := 6) hX dX7_tell_5 rfl rfl rfl ?_
  obtain ⟨c3, e5, hf⟩ := sp_pl_some hf
  obtain ⟨h4, hf⟩ := sp_ck_some hf
  refine sp_getr (q := 9) hX flX7_15 fkX7_1 atX_21 dX7_tell_6 rfl ?_
  refine sp_nmr e5 ?_
  obtain ⟨σ7, h6, hf⟩ := sp_bv_so hf
  refine sp_callVv (As := []) (rest := []) (q := 12) hX (cnX2_clear (sp_st hX) (sp_isc_at h4) h6) cwX7_19 (sp_isc_at h4) rfl rfl rfl rfl rfl (Nat.le_of_ble_eq_true rfl) (Nat.le_of_ble_eq_true rfl) (Nat.le_of_ble_eq_true rfl) (Nat.le_of_ble_eq_true rfl) (Nat.le_of_ble_eq_true rfl) dX7_tell_9 rfl ?_
  refine sp_aload_n (i := 0) (q := 13) hX dX7_tell_12 rfl rfl rfl ?_
  refine sp_iconst (v := 0) (q := 14) hX dX7_tell_13 li_0 rfl ?_
  obtain ⟨σ8, e9, hf⟩ := sp_pl_some hf
  refine sp_puti (q := 17) hX fpX7_24 fkX7_2 atX_21 dX7_tell_14 rfl ?_
  refine sp_nms e9 ?_
  refine sp_aload_n (i := 0) (q := 18) hX dX7_tell_17 rfl rfl rfl ?_
  refine sp_gets (t := 20) (q := 21) hX flX7_9 fkX7_0 atX_21 srX_21_0 dX7_tell_18 rfl ?_
  refine sp_iload_n (i := 1) (q := 22) hX dX7_tell_21 rfl rfl rfl ?_
  obtain ⟨σ11, h10, hf⟩ := sp_bv_so hf
  refine sp_callVv (As := [.int a1]) (rest := []) (q := 25) hX (cnX10_open (sp_st hX)  h10) cwX7_28 atX_20 rfl rfl rfl rfl rfl (Nat.le_of_ble_eq_true rfl) (Nat.le_of_ble_eq_true rfl) (Nat.le_of_ble_eq_true rfl) (Nat.le_of_ble_eq_true rfl) (Nat.le_of_ble_eq_true rfl) dX7_tell_22 rfl ?_
  refine sp_iconst (v := 0) (q := 26) hX dX7_tell_25 li_0 rfl ?_
  obtain ⟨x12, e13, hf⟩ := sp_pl_some hf
  refine sp_nmi e13 ?_
  refine sp_istore_n (i := 3) (lv' := [some (.ref (sx_ad X 21)), some (.int a1), some (.ref (sx_ad X p2)), some (.int x12)]) (q := 27) hX dX7_tell_26 rfl (Nat.le_of_ble_eq_true rfl) rfl rfl rfl ?_
  refine sp_drop (lv' := [some (.ref (sx_ad X 21)), some (.int a1), none, some (.int x12)]) (And.intro rfl (And.intro rfl (And.intro rfl trivial))) ?_
  exact hX7_tell_27 hX hR hp2 n σ11 a1 x12 hf
set_option maxRecDepth 100000 in
set_option maxHeartbeats 4000000 in
theorem cnX7_tell {l : Launch} (hst : l.stackTraces = false) {w : sp_Wd} {n : Nat}  {σ : sp_St} {a1 : Int32} {p2 : Nat} {τ : sp_St} {r : Int32} (hp2 : sp_at shX p2 2 18) (hf : X7_tell n σ a1 p2 = some (τ, r)) : sp_Ci shX l w yX7_tell cX7_tell 4 (some .int) rmX7_tell 0 0 σ [.ref (w.2.1 21), .int a1, .ref (w.2.1 p2)] τ r :=
  sp_ci (own := RX7) (by decide) rfl hst (Nat.le_of_ble_eq_true rfl) rfl (fun X hX hw hl hR => by subst hw; subst hl; exact hX7_tell hX hR  hp2 hf)
