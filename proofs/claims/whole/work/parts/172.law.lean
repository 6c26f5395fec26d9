def LK13 (n : Nat) (σ μ : sp_St) (a1 a2 a3 a4 a5 : Int32) : Option (sp_St × sp_St) :=
  sp_bd (L_then n σ a1 a2 a3) fun σ2 v3 =>
  sp_bd (X12_then n μ a1 a2 a3) fun μ5 v6 =>
  sp_bd (X12_thrown n μ5) fun μ8 v9 =>
  if v9 = v3 then
    if v3 = 0 then
      if (lg_cmp (sp_gl σ2 68 (0 : Int32)) v6.toInt64) = 0 then
        some (σ2, μ8)
      else
        none
    else
      some (σ2, μ8)
  else
    none
set_option maxRecDepth 100000 in
set_option maxHeartbeats 8000000 in
theorem hLK13 {X : sp_X} (hX : sp_OK shL X cL_law RL 7 room_1) {b L : Nat} {xs : Nat → Int32} (hs : lg_scr X b L xs) {n : Nat} {i a1 a2 a3 a4 a5 : Int32} (ha : lg_arg L xs i a1 a2 a3 a4 a5) {σ μ τ υ : sp_St} {kc ks : Nat} (hkc : kc + 4 ≤ 601024) (hks : ks + 24 ≤ 7293034) (hf : LK13 n σ μ a1 a2 a3 a4 a5 = some (τ, υ)) (hk : sp_GG shL X (sp_pair τ υ) 7 [some (.ref b), some (.ref (sx_ad X 0)), some (.ref (sx_ad X 69)), some (.ref (sx_ad X 68)), some (.int i), none, none] [] 2170 (kc + 4) (ks + 24)) : sp_GG shL X (sp_pair σ μ) 7 [some (.ref b), some (.ref (sx_ad X 0)), some (.ref (sx_ad X 69)), some (.ref (sx_ad X 68)), some (.int i), none, none] [] 954 kc ks := by
  unfold LK13 at hf
  refine sp_aload_n (i := 1) (q := 955) hX dL_law_954 rfl rfl rfl ?_
  refine sp_aload_n (i := 0) (q := 956) hX dL_law_955 rfl rfl rfl ?_
  refine sp_iload (i := 4) (q := 958) hX dL_law_956 rfl rfl ?_
  refine sp_iconst (v := 1) (q := 959) hX dL_law_958 li_1 rfl ?_
  refine sp_iadd (q := 960) hX dL_law_959 rfl ?_
  refine lg_sld (q := 961) hX hs ha.1 dL_law_960 rfl ?_
  refine sp_aload_n (i := 0) (q := 962) hX dL_law_961 rfl rfl rfl ?_
  refine sp_iload (i := 4) (q := 964) hX dL_law_962 rfl rfl ?_
  refine sp_iconst (v := 2) (q := 965) hX dL_law_964 li_2 rfl ?_
  refine sp_iadd (q := 966) hX dL_law_965 rfl ?_
  refine lg_sld (q := 967) hX hs ha.2.1 dL_law_966 rfl ?_
  refine sp_aload_n (i := 0) (q := 968) hX dL_law_967 rfl rfl rfl ?_
  refine sp_iload (i := 4) (q := 970) hX dL_law_968 rfl rfl ?_
  refine sp_iconst (v := 3) (q := 971) hX dL_law_970 li_3 rfl ?_
  refine sp_iadd (q := 972) hX dL_law_971 rfl ?_
  refine lg_sld (q := 973) hX hs ha.2.2.1 dL_law_972 rfl ?_
  refine sp_aload_n (i := 3) (q := 974) hX dL_law_973 rfl rfl rfl ?_
  obtain ⟨σ2, v3, h1, hf⟩ := sp_bd_so hf
  refine lg_callWX (As := [.ref (sx_ad X 0), .int a1, .int a2, .int a3, .ref (sx_ad X 68)]) (rest := []) (q := 977) hX (cnL_then (sp_st hX) h1) cwwL_156 rfl rfl rfl rfl (Nat.le_of_ble_eq_true rfl) (Nat.le_of_ble_eq_true rfl) (Nat.le_of_ble_eq_true rfl) (by show _ ≤ 601024; omega) (by show _ ≤ 7293034; omega) dL_law_974 rfl ?_
  refine sp_istore (i := 5) (lv' := [some (.ref b), some (.ref (sx_ad X 0)), some (.ref (sx_ad X 69)), some (.ref (sx_ad X 68)), some (.int i), some (.int v3), none]) (q := 979) hX dL_law_977 (Nat.le_of_ble_eq_true rfl) rfl rfl rfl ?_
  refine sp_aload_n (i := 2) (q := 980) hX dL_law_979 rfl rfl rfl ?_
  refine sp_aload_n (i := 0) (q := 981) hX dL_law_980 rfl rfl rfl ?_
  refine sp_iload (i := 4) (q := 983) hX dL_law_981 rfl rfl ?_
  refine sp_iconst (v := 1) (q := 984) hX dL_law_983 li_1 rfl ?_
  refine sp_iadd (q := 985) hX dL_law_984 rfl ?_
  refine lg_sld (q := 986) hX hs ha.1 dL_law_985 rfl ?_
  refine sp_aload_n (i := 0) (q := 987) hX dL_law_986 rfl rfl rfl ?_
  refine sp_iload (i := 4) (q := 989) hX dL_law_987 rfl rfl ?_
  refine sp_iconst (v := 2) (q := 990) hX dL_law_989 li_2 rfl ?_
  refine sp_iadd (q := 991) hX dL_law_990 rfl ?_
  refine lg_sld (q := 992) hX hs ha.2.1 dL_law_991 rfl ?_
  refine sp_aload_n (i := 0) (q := 993) hX dL_law_992 rfl rfl rfl ?_
  refine sp_iload (i := 4) (q := 995) hX dL_law_993 rfl rfl ?_
  refine sp_iconst (v := 3) (q := 996) hX dL_law_995 li_3 rfl ?_
  refine sp_iadd (q := 997) hX dL_law_996 rfl ?_
  refine lg_sld (q := 998) hX hs ha.2.2.1 dL_law_997 rfl ?_
  obtain ⟨μ5, v6, h4, hf⟩ := sp_bd_so hf
  refine lg_callVMi (As := [.int a1, .int a2, .int a3]) (rest := []) (q := 1001) hX (cnX12_then (sp_st hX) h4) cwL_159 rfl rfl rfl rfl (Nat.le_of_ble_eq_true rfl) (Nat.le_of_ble_eq_true rfl) (Nat.le_of_ble_eq_true rfl) (by show _ ≤ 601024; omega) (by show _ ≤ 7293034; omega) dL_law_998 rfl ?_
  refine sp_istore (i := 6) (lv' := [some (.ref b), some (.ref (sx_ad X 0)), some (.ref (sx_ad X 69)), some (.ref (sx_ad X 68)), some (.int i), some (.int v3), some (.int v6)]) (q := 1003) hX dL_law_1001 (Nat.le_of_ble_eq_true rfl) rfl rfl rfl ?_
  refine sp_aload_n (i := 2) (q := 1004) hX dL_law_1003 rfl rfl rfl ?_
  obtain ⟨μ8, v9, h7, hf⟩ := sp_bd_so hf
  refine lg_callVMi (As := []) (rest := []) (q := 1007) hX (cnX12_thrown (sp_st hX) h7) cwL_114 rfl rfl rfl rfl (Nat.le_of_ble_eq_true rfl) (Nat.le_of_ble_eq_true rfl) (Nat.le_of_ble_eq_true rfl) (by show _ ≤ 601024; omega) (by show _ ≤ 7293034; omega) dL_law_1004 rfl ?_
  refine sp_iload (i := 5) (q := 1009) hX dL_law_1007 rfl rfl ?_
  refine sp_icmp_eq (tgt := 1014) (q := 1012) hX dL_law_1009 (by decide) rfl (fun hc => ?_) (fun hc => ?_)
  · rw [if_pos hc] at hf
    refine sp_iload (i := 5) (q := 1016) hX dL_law_1014 rfl rfl ?_
    refine sp_if_ne (tgt := 1031) (q := 1019) hX dL_law_1016 (by decide) rfl (fun hc => ?_) (fun hc => ?_)
    · rw [if_neg hc] at hf
      refine sp_goto (tgt := 2170) hX dL_law_1031 (by decide) ?_
      cases hf
      refine sp_drop (lv' := [some (.ref b), some (.ref (sx_ad X 0)), some (.ref (sx_ad X 69)), some (.ref (sx_ad X 68)), some (.int i), none, none]) (And.intro rfl (And.intro rfl (And.intro rfl (And.intro rfl (And.intro rfl trivial))))) ?_
      refine sp_wid (a := kc + 4) (b := ks + 24) (by omega) (by omega) ?_
      exact hk
    · rw [if_pos hc] at hf
      refine sp_aload_n (i := 3) (q := 1020) hX dL_law_1019 rfl rfl rfl ?_
      refine sp_iconst (v := 0) (q := 1021) hX dL_law_1020 li_0 rfl ?_
      refine sp_lald (q := 1022) hX arL_68 (by decide) dL_law_1021 rfl ?_
      refine sp_nml (x := sp_gl σ2 68 (0 : Int32)) lg_g68.symm ?_
      refine sp_iload (i := 6) (q := 1024) hX dL_law_1022 rfl rfl ?_
      refine sp_i2l (q := 1025) hX dL_law_1024 rfl ?_
      refine sp_lcmp (q := 1026) hX dL_law_1025 rfl ?_
      refine sp_if_eq (tgt := 1031) (q := 1029) hX dL_law_1026 (by decide) rfl (fun hc => ?_) (fun hc => ?_)
      · rw [if_pos hc] at hf
        refine sp_goto (tgt := 2170) hX dL_law_1031 (by decide) ?_
        cases hf
        refine sp_drop (lv' := [some (.ref b), some (.ref (sx_ad X 0)), some (.ref (sx_ad X 69)), some (.ref (sx_ad X 68)), some (.int i), none, none]) (And.intro rfl (And.intro rfl (And.intro rfl (And.intro rfl (And.intro rfl trivial))))) ?_
        refine sp_wid (a := kc + 4) (b := ks + 24) (by omega) (by omega) ?_
        exact hk
      · rw [if_neg hc] at hf
        refine sp_iconst (v := 0) (q := 1030) hX dL_law_1029 li_0 rfl ?_
        cases hf
  · rw [if_neg hc] at hf
    refine sp_iconst (v := 0) (q := 1013) hX dL_law_1012 li_0 rfl ?_
    cases hf
def LK14 (n : Nat) (σ μ : sp_St) (a1 a2 a3 a4 a5 : Int32) : Option (sp_St × sp_St) :=
  sp_bd (X11_peace n σ) fun σ2 v3 =>
  sp_bd (X12_peace n μ) fun μ5 v6 =>
  if v3 = v6 then
    some (σ2, μ5)
  else
    none
set_option maxRecDepth 100000 in
set_option maxHeartbeats 8000000 in
theorem hLK14 {X : sp_X} (hX : sp_OK shL X cL_law RL 7 room_1) {b L : Nat} {xs : Nat → Int32} (hs : lg_scr X b L xs) {n : Nat} {i a1 a2 a3 a4 a5 : Int32} (ha : lg_arg L xs i a1 a2 a3 a4 a5) {σ μ τ υ : sp_St} {kc ks : Nat} (hkc : kc + 4 ≤ 601024) (hks : ks + 24 ≤ 7293034) (hf : LK14 n σ μ a1 a2 a3 a4 a5 = some (τ, υ)) (hk : sp_GG shL X (sp_pair τ υ) 7 [some (.ref b), some (.ref (sx_ad X 0)), some (.ref (sx_ad X 69)), some (.ref (sx_ad X 68)), some (.int i), none, none] [] 2170 (kc + 4) (ks + 24)) : sp_GG shL X (sp_pair σ μ) 7 [some (.ref b), some (.ref (sx_ad X 0)), some (.ref (sx_ad X 69)), some (.ref (sx_ad X 68)), some (.int i), none, none] [] 1034 kc ks := by
  unfold LK14 at hf
  refine sp_aload_n (i := 1) (q := 1035) hX dL_law_1034 rfl rfl rfl ?_
  obtain ⟨σ2, v3, h1, hf⟩ := sp_bd_so hf
  refine lg_callVXi (As := []) (rest := []) (q := 1038) hX (cnX11_peace (sp_st hX) h1) cwL_160 rfl rfl rfl rfl (Nat.le_of_ble_eq_true rfl) (Nat.le_of_ble_eq_true rfl) (Nat.le_of_ble_eq_true rfl) (by show _ ≤ 601024; omega) (by show _ ≤ 7293034; omega) dL_law_1035 rfl ?_
  refine sp_aload_n (i := 2) (q := 1039) hX dL_law_1038 rfl rfl rfl ?_
  obtain ⟨μ5, v6, h4, hf⟩ := sp_bd_so hf
  refine lg_callVMi (As := []) (rest := [.int v3]) (q := 1042) hX (cnX12_peace (sp_st hX) h4) cwL_163 rfl rfl rfl rfl (Nat.le_of_ble_eq_true rfl) (Nat.le_of_ble_eq_true rfl) (Nat.le_of_ble_eq_true rfl) (by show _ ≤ 601024; omega) (by show _ ≤ 7293034; omega) dL_law_1039 rfl ?_
  refine sp_icmp_eq (tgt := 2170) (q := 1045) hX dL_law_1042 (by decide) rfl (fun hc => ?_) (fun hc => ?_)
  · rw [if_pos hc] at hf
    cases hf
    refine sp_wid (a := kc + 4) (b := ks + 24) (by omega) (by omega) ?_
    exact hk
  · rw [if_neg hc] at hf
    refine sp_iconst (v := 0) (q := 1046) hX dL_law_1045 li_0 rfl ?_
    cases hf
def LK15 (n : Nat) (σ μ : sp_St) (a1 a2 a3 a4 a5 : Int32) : Option (sp_St × sp_St) :=
  sp_bd (L_fights n σ a1) fun σ2 v3 =>
  sp_bd (X12_fights n μ a1) fun μ5 v6 =>
  sp_bd (X12_thrown n μ5) fun μ8 v9 =>
  if v9 = v3 then
    if v3 = 0 then
      if (lg_cmp (sp_gl σ2 68 (0 : Int32)) v6.toInt64) = 0 then
        some (σ2, μ8)
      else
        none
    else
      some (σ2, μ8)
  else
    none
set_option maxRecDepth 100000 in
set_option maxHeartbeats 8000000 in
theorem hLK15 {X : sp_X} (hX : sp_OK shL X cL_law RL 7 room_1) {b L : Nat} {xs : Nat → Int32} (hs : lg_scr X b L xs) {n : Nat} {i a1 a2 a3 a4 a5 : Int32} (ha : lg_arg L xs i a1 a2 a3 a4 a5) {σ μ τ υ : sp_St} {kc ks : Nat} (hkc : kc + 4 ≤ 601024) (hks : ks + 24 ≤ 7293034) (hf : LK15 n σ μ a1 a2 a3 a4 a5 = some (τ, υ)) (hk : sp_GG shL X (sp_pair τ υ) 7 [some (.ref b), some (.ref (sx_ad X 0)), some (.ref (sx_ad X 69)), some (.ref (sx_ad X 68)), some (.int i), none, none] [] 2170 (kc + 4) (ks + 24)) : sp_GG shL X (sp_pair σ μ) 7 [some (.ref b), some (.ref (sx_ad X 0)), some (.ref (sx_ad X 69)), some (.ref (sx_ad X 68)), some (.int i), none, none] [] 1047 kc ks := by
  unfold LK15 at hf
  refine sp_aload_n (i := 1) (q := 1048) hX dL_law_1047 rfl rfl rfl ?_
  refine sp_aload_n (i := 0) (q := 1049) hX dL_law_1048 rfl rfl rfl ?_
  refine sp_iload (i := 4) (q := 1051) hX dL_law_1049 rfl rfl ?_
  refine sp_iconst (v := 1) (q := 1052) hX dL_law_1051 li_1 rfl ?_
  refine sp_iadd (q := 1053) hX dL_law_1052 rfl ?_
  refine lg_sld (q := 1054) hX hs ha.1 dL_law_1053 rfl ?_
  refine sp_aload_n (i := 3) (q := 1055) hX dL_law_1054 rfl rfl rfl ?_
  obtain ⟨σ2, v3, h1, hf⟩ := sp_bd_so hf
  refine lg_callWX (As := [.ref (sx_ad X 0), .int a1, .ref (sx_ad X 68)]) (rest := []) (q := 1058) hX (cnL_fights (sp_st hX) h1) cwwL_164 rfl rfl rfl rfl (Nat.le_of_ble_eq_true rfl) (Nat.le_of_ble_eq_true rfl) (Nat.le_of_ble_eq_true rfl) (by show _ ≤ 601024; omega) (by show _ ≤ 7293034; omega) dL_law_1055 rfl ?_
  refine sp_istore (i := 5) (lv' := [some (.ref b), some (.ref (sx_ad X 0)), some (.ref (sx_ad X 69)), some (.ref (sx_ad X 68)), some (.int i), some (.int v3), none]) (q := 1060) hX dL_law_1058 (Nat.le_of_ble_eq_true rfl) rfl rfl rfl ?_
  refine sp_aload_n (i := 2) (q := 1061) hX dL_law_1060 rfl rfl rfl ?_
  refine sp_aload_n (i := 0) (q := 1062) hX dL_law_1061 rfl rfl rfl ?_
  refine sp_iload (i := 4) (q := 1064) hX dL_law_1062 rfl rfl ?_
  refine sp_iconst (v := 1) (q := 1065) hX dL_law_1064 li_1 rfl ?_
  refine sp_iadd (q := 1066) hX dL_law_1065 rfl ?_
  refine lg_sld (q := 1067) hX hs ha.1 dL_law_1066 rfl ?_
  obtain ⟨μ5, v6, h4, hf⟩ := sp_bd_so hf
  refine lg_callVMi (As := [.int a1]) (rest := []) (q := 1070) hX (cnX12_fights (sp_st hX) h4) cwL_166 rfl rfl rfl rfl (Nat.le_of_ble_eq_true rfl) (Nat.le_of_ble_eq_true rfl) (Nat.le_of_ble_eq_true rfl) (by show _ ≤ 601024; omega) (by show _ ≤ 7293034; omega) dL_law_1067 rfl ?_
  refine sp_istore (i := 6) (lv' := [some (.ref b), some (.ref (sx_ad X 0)), some (.ref (sx_ad X 69)), some (.ref (sx_ad X 68)), some (.int i), some (.int v3), some (.int v6)]) (q := 1072) hX dL_law_1070 (Nat.le_of_ble_eq_true rfl) rfl rfl rfl ?_
  refine sp_aload_n (i := 2) (q := 1073) hX dL_law_1072 rfl rfl rfl ?_
  obtain ⟨μ8, v9, h7, hf⟩ := sp_bd_so hf
  refine lg_callVMi (As := []) (rest := []) (q := 1076) hX (cnX12_thrown (sp_st hX) h7) cwL_114 rfl rfl rfl rfl (Nat.le_of_ble_eq_true rfl) (Nat.le_of_ble_eq_true rfl) (Nat.le_of_ble_eq_true rfl) (by show _ ≤ 601024; omega) (by show _ ≤ 7293034; omega) dL_law_1073 rfl ?_
  refine sp_iload (i := 5) (q := 1078) hX dL_law_1076 rfl rfl ?_
  refine sp_icmp_eq (tgt := 1083) (q := 1081) hX dL_law_1078 (by decide) rfl (fun hc => ?_) (fun hc => ?_)
  · rw [if_pos hc] at hf
    refine sp_iload (i := 5) (q := 1085) hX dL_law_1083 rfl rfl ?_
    refine sp_if_ne (tgt := 1100) (q := 1088) hX dL_law_1085 (by decide) rfl (fun hc => ?_) (fun hc => ?_)
    · rw [if_neg hc] at hf
      refine sp_goto (tgt := 2170) hX dL_law_1100 (by decide) ?_
      cases hf
      refine sp_drop (lv' := [some (.ref b), some (.ref (sx_ad X 0)), some (.ref (sx_ad X 69)), some (.ref (sx_ad X 68)), some (.int i), none, none]) (And.intro rfl (And.intro rfl (And.intro rfl (And.intro rfl (And.intro rfl trivial))))) ?_
      refine sp_wid (a := kc + 4) (b := ks + 24) (by omega) (by omega) ?_
      exact hk
    · rw [if_pos hc] at hf
      refine sp_aload_n (i := 3) (q := 1089) hX dL_law_1088 rfl rfl rfl ?_
      refine sp_iconst (v := 0) (q := 1090) hX dL_law_1089 li_0 rfl ?_
      refine sp_lald (q := 1091) hX arL_68 (by decide) dL_law_1090 rfl ?_
      refine sp_nml (x := sp_gl σ2 68 (0 : Int32)) lg_g68.symm ?_
      refine sp_iload (i := 6) (q := 1093) hX dL_law_1091 rfl rfl ?_
      refine sp_i2l (q := 1094) hX dL_law_1093 rfl ?_
      refine sp_lcmp (q := 1095) hX dL_law_1094 rfl ?_
      refine sp_if_eq (tgt := 1100) (q := 1098) hX dL_law_1095 (by decide) rfl (fun hc => ?_) (fun hc => ?_)
      · rw [if_pos hc] at hf
        refine sp_goto (tgt := 2170) hX dL_law_1100 (by decide) ?_
        cases hf
        refine sp_drop (lv' := [some (.ref b), some (.ref (sx_ad X 0)), some (.ref (sx_ad X 69)), some (.ref (sx_ad X 68)), some (.int i), none, none]) (And.intro rfl (And.intro rfl (And.intro rfl (And.intro rfl (And.intro rfl trivial))))) ?_
        refine sp_wid (a := kc + 4) (b := ks + 24) (by omega) (by omega) ?_
        exact hk
      · rw [if_neg hc] at hf
        refine sp_iconst (v := 0) (q := 1099) hX dL_law_1098 li_0 rfl ?_
        cases hf
  · rw [if_neg hc] at hf
    refine sp_iconst (v := 0) (q := 1082) hX dL_law_1081 li_0 rfl ?_
    cases hf
def LK16 (n : Nat) (σ μ : sp_St) (a1 a2 a3 a4 a5 : Int32) : Option (sp_St × sp_St) :=
  sp_bd (L_rests n σ a1) fun σ2 v3 =>
  sp_bd (X12_rests n μ a1) fun μ5 v6 =>
  sp_bd (X12_thrown n μ5) fun μ8 v9 =>
  if v9 = v3 then
    if v3 = 0 then
      if (lg_cmp (sp_gl σ2 68 (0 : Int32)) v6.toInt64) = 0 then
        some (σ2, μ8)
      else
        none
    else
      some (σ2, μ8)
  else
    none
set_option maxRecDepth 100000 in
set_option maxHeartbeats 8000000 in
theorem hLK16 {X : sp_X} (hX : sp_OK shL X cL_law RL 7 room_1) {b L : Nat} {xs : Nat → Int32} (hs : lg_scr X b L xs) {n : Nat} {i a1 a2 a3 a4 a5 : Int32} (ha : lg_arg L xs i a1 a2 a3 a4 a5) {σ μ τ υ : sp_St} {kc ks : Nat} (hkc : kc + 4 ≤ 601024) (hks : ks + 24 ≤ 7293034) (hf : LK16 n σ μ a1 a2 a3 a4 a5 = some (τ, υ)) (hk : sp_GG shL X (sp_pair τ υ) 7 [some (.ref b), some (.ref (sx_ad X 0)), some (.ref (sx_ad X 69)), some (.ref (sx_ad X 68)), some (.int i), none, none] [] 2170 (kc + 4) (ks + 24)) : sp_GG shL X (sp_pair σ μ) 7 [some (.ref b), some (.ref (sx_ad X 0)), some (.ref (sx_ad X 69)), some (.ref (sx_ad X 68)), some (.int i), none, none] [] 1103 kc ks := by
  unfold LK16 at hf
  refine sp_aload_n (i := 1) (q := 1104) hX dL_law_1103 rfl rfl rfl ?_
  refine sp_aload_n (i := 0) (q := 1105) hX dL_law_1104 rfl rfl rfl ?_
  refine sp_iload (i := 4) (q := 1107) hX dL_law_1105 rfl rfl ?_
  refine sp_iconst (v := 1) (q := 1108) hX dL_law_1107 li_1 rfl ?_
  refine sp_iadd (q := 1109) hX dL_law_1108 rfl ?_
  refine lg_sld (q := 1110) hX hs ha.1 dL_law_1109 rfl ?_
  refine sp_aload_n (i := 3) (q := 1111) hX dL_law_1110 rfl rfl rfl ?_
  obtain ⟨σ2, v3, h1, hf⟩ := sp_bd_so hf
  refine lg_callWX (As := [.ref (sx_ad X 0), .int a1, .ref (sx_ad X 68)]) (rest := []) (q := 1114) hX (cnL_rests (sp_st hX) h1) cwwL_167 rfl rfl rfl rfl (Nat.le_of_ble_eq_true rfl) (Nat.le_of_ble_eq_true rfl) (Nat.le_of_ble_eq_true rfl) (by show _ ≤ 601024; omega) (by show _ ≤ 7293034; omega) dL_law_1111 rfl ?_
  refine sp_istore (i := 5) (lv' := [some (.ref b), some (.ref (sx_ad X 0)), some (.ref (sx_ad X 69)), some (.ref (sx_ad X 68)), some (.int i), some (.int v3), none]) (q := 1116) hX dL_law_1114 (Nat.le_of_ble_eq_true rfl) rfl rfl rfl ?_
  refine sp_aload_n (i := 2) (q := 1117) hX dL_law_1116 rfl rfl rfl ?_
  refine sp_aload_n (i := 0) (q := 1118) hX dL_law_1117 rfl rfl rfl ?_
  refine sp_iload (i := 4) (q := 1120) hX dL_law_1118 rfl rfl ?_
  refine sp_iconst (v := 1) (q := 1121) hX dL_law_1120 li_1 rfl ?_
  refine sp_iadd (q := 1122) hX dL_law_1121 rfl ?_
  refine lg_sld (q := 1123) hX hs ha.1 dL_law_1122 rfl ?_
  obtain ⟨μ5, v6, h4, hf⟩ := sp_bd_so hf
  refine lg_callVMi (As := [.int a1]) (rest := []) (q := 1126) hX (cnX12_rests (sp_st hX) h4) cwL_169 rfl rfl rfl rfl (Nat.le_of_ble_eq_true rfl) (Nat.le_of_ble_eq_true rfl) (Nat.le_of_ble_eq_true rfl) (by show _ ≤ 601024; omega) (by show _ ≤ 7293034; omega) dL_law_1123 rfl ?_
  refine sp_istore (i := 6) (lv' := [some (.ref b), some (.ref (sx_ad X 0)), some (.ref (sx_ad X 69)), some (.ref (sx_ad X 68)), some (.int i), some (.int v3), some (.int v6)]) (q := 1128) hX dL_law_1126 (Nat.le_of_ble_eq_true rfl) rfl rfl rfl ?_
  refine sp_aload_n (i := 2) (q := 1129) hX dL_law_1128 rfl rfl rfl ?_
  obtain ⟨μ8, v9, h7, hf⟩ := sp_bd_so hf
  refine lg_callVMi (As := []) (rest := []) (q := 1132) hX (cnX12_thrown (sp_st hX) h7) cwL_114 rfl rfl rfl rfl (Nat.le_of_ble_eq_true rfl) (Nat.le_of_ble_eq_true rfl) (Nat.le_of_ble_eq_true rfl) (by show _ ≤ 601024; omega) (by show _ ≤ 7293034; omega) dL_law_1129 rfl ?_
  refine sp_iload (i := 5) (q := 1134) hX dL_law_1132 rfl rfl ?_
  refine sp_icmp_eq (tgt := 1139) (q := 1137) hX dL_law_1134 (by decide) rfl (fun hc => ?_) (fun hc => ?_)
  · rw [if_pos hc] at hf
    refine sp_iload (i := 5) (q := 1141) hX dL_law_1139 rfl rfl ?_
    refine sp_if_ne (tgt := 1156) (q := 1144) hX dL_law_1141 (by decide) rfl (fun hc => ?_) (fun hc => ?_)
    · rw [if_neg hc] at hf
      refine sp_goto (tgt := 2170) hX dL_law_1156 (by decide) ?_
      cases hf
      refine sp_drop (lv' := [some (.ref b), some (.ref (sx_ad X 0)), some (.ref (sx_ad X 69)), some (.ref (sx_ad X 68)), some (.int i), none, none]) (And.intro rfl (And.intro rfl (And.intro rfl (And.intro rfl (And.intro rfl trivial))))) ?_
      refine sp_wid (a := kc + 4) (b := ks + 24) (by omega) (by omega) ?_
      exact hk
    · rw [if_pos hc] at hf
      refine sp_aload_n (i := 3) (q := 1145) hX dL_law_1144 rfl rfl rfl ?_
      refine sp_iconst (v := 0) (q := 1146) hX dL_law_1145 li_0 rfl ?_
      refine sp_lald (q := 1147) hX arL_68 (by decide) dL_law_1146 rfl ?_
      refine sp_nml (x := sp_gl σ2 68 (0 : Int32)) lg_g68.symm ?_
      refine sp_iload (i := 6) (q := 1149) hX dL_law_1147 rfl rfl ?_
      refine sp_i2l (q := 1150) hX dL_law_1149 rfl ?_
      refine sp_lcmp (q := 1151) hX dL_law_1150 rfl ?_
      refine sp_if_eq (tgt := 1156) (q := 1154) hX dL_law_1151 (by decide) rfl (fun hc => ?_) (fun hc => ?_)
      · rw [if_pos hc] at hf
        refine sp_goto (tgt := 2170) hX dL_law_1156 (by decide) ?_
        cases hf
        refine sp_drop (lv' := [some (.ref b), some (.ref (sx_ad X 0)), some (.ref (sx_ad X 69)), some (.ref (sx_ad X 68)), some (.int i), none, none]) (And.intro rfl (And.intro rfl (And.intro rfl (And.intro rfl (And.intro rfl trivial))))) ?_
        refine sp_wid (a := kc + 4) (b := ks + 24) (by omega) (by omega) ?_
        exact hk
      · rw [if_neg hc] at hf
        refine sp_iconst (v := 0) (q := 1155) hX dL_law_1154 li_0 rfl ?_
        cases hf
  · rw [if_neg hc] at hf
    refine sp_iconst (v := 0) (q := 1138) hX dL_law_1137 li_0 rfl ?_
    cases hf
def LK17 (n : Nat) (σ μ : sp_St) (a1 a2 a3 a4 a5 : Int32) : Option (sp_St × sp_St) :=
  sp_bd (L_worst n σ a1) fun σ2 v3 =>
  sp_bd (X12_worst n μ a1) fun μ5 v6 =>
  sp_bd (X12_thrown n μ5) fun μ8 v9 =>
  if v9 = v3 then
    if v3 = 0 then
      if (lg_cmp (sp_gl σ2 68 (0 : Int32)) v6.toInt64) = 0 then
        some (σ2, μ8)
      else
        none
    else
      some (σ2, μ8)
  else
    none
set_option maxRecDepth 100000 in
set_option maxHeartbeats 8000000 in
theorem hLK17 {X : sp_X} (hX : sp_OK shL X cL_law RL 7 room_1) {b L : Nat} {xs : Nat → Int32} (hs : lg_scr X b L xs) {n : Nat} {i a1 a2 a3 a4 a5 : Int32} (ha : lg_arg L xs i a1 a2 a3 a4 a5) {σ μ τ υ : sp_St} {kc ks : Nat} (hkc : kc + 4 ≤ 601024) (hks : ks + 24 ≤ 7293034) (hf : LK17 n σ μ a1 a2 a3 a4 a5 = some (τ, υ)) (hk : sp_GG shL X (sp_pair τ υ) 7 [some (.ref b), some (.ref (sx_ad X 0)), some (.ref (sx_ad X 69)), some (.ref (sx_ad X 68)), some (.int i), none, none] [] 2170 (kc + 4) (ks + 24)) : sp_GG shL X (sp_pair σ μ) 7 [some (.ref b), some (.ref (sx_ad X 0)), some (.ref (sx_ad X 69)), some (.ref (sx_ad X 68)), some (.int i), none, none] [] 1159 kc ks := by
  unfold LK17 at hf
  refine sp_aload_n (i := 1) (q := 1160) hX dL_law_1159 rfl rfl rfl ?_
  refine sp_aload_n (i := 0) (q := 1161) hX dL_law_1160 rfl rfl rfl ?_
  refine sp_iload (i := 4) (q := 1163) hX dL_law_1161 rfl rfl ?_
  refine sp_iconst (v := 1) (q := 1164) hX dL_law_1163 li_1 rfl ?_
  refine sp_iadd (q := 1165) hX dL_law_1164 rfl ?_
  refine lg_sld (q := 1166) hX hs ha.1 dL_law_1165 rfl ?_
  refine sp_aload_n (i := 3) (q := 1167) hX dL_law_1166 rfl rfl rfl ?_
  obtain ⟨σ2, v3, h1, hf⟩ := sp_bd_so hf
  refine lg_callWX (As := [.ref (sx_ad X 0), .int a1, .ref (sx_ad X 68)]) (rest := []) (q := 1170) hX (cnL_worst (sp_st hX) h1) cwwL_170 rfl rfl rfl rfl (Nat.le_of_ble_eq_true rfl) (Nat.le_of_ble_eq_true rfl) (Nat.le_of_ble_eq_true rfl) (by show _ ≤ 601024; omega) (by show _ ≤ 7293034; omega) dL_law_1167 rfl ?_
  refine sp_istore (i := 5) (lv' := [some (.ref b), some (.ref (sx_ad X 0)), some (.ref (sx_ad X 69)), some (.ref (sx_ad X 68)), some (.int i), some (.int v3), none]) (q := 1172) hX dL_law_1170 (Nat.le_of_ble_eq_true rfl) rfl rfl rfl ?_
  refine sp_aload_n (i := 2) (q := 1173) hX dL_law_1172 rfl rfl rfl ?_
  refine sp_aload_n (i := 0) (q := 1174) hX dL_law_1173 rfl rfl rfl ?_
  refine sp_iload (i := 4) (q := 1176) hX dL_law_1174 rfl rfl ?_
  refine sp_iconst (v := 1) (q := 1177) hX dL_law_1176 li_1 rfl ?_
  refine sp_iadd (q := 1178) hX dL_law_1177 rfl ?_
  refine lg_sld (q := 1179) hX hs ha.1 dL_law_1178 rfl ?_
  obtain ⟨μ5, v6, h4, hf⟩ := sp_bd_so hf
  refine lg_callVMi (As := [.int a1]) (rest := []) (q := 1182) hX (cnX12_worst (sp_st hX) h4) cwL_172 rfl rfl rfl rfl (Nat.le_of_ble_eq_true rfl) (Nat.le_of_ble_eq_true rfl) (Nat.le_of_ble_eq_true rfl) (by show _ ≤ 601024; omega) (by show _ ≤ 7293034; omega) dL_law_1179 rfl ?_
  refine sp_istore (i := 6) (lv' := [some (.ref b), some (.ref (sx_ad X 0)), some (.ref (sx_ad X 69)), some (.ref (sx_ad X 68)), some (.int i), some (.int v3), some (.int v6)]) (q := 1184) hX dL_law_1182 (Nat.le_of_ble_eq_true rfl) rfl rfl rfl ?_
  refine sp_aload_n (i := 2) (q := 1185) hX dL_law_1184 rfl rfl rfl ?_
  obtain ⟨μ8, v9, h7, hf⟩ := sp_bd_so hf
  refine lg_callVMi (As := []) (rest := []) (q := 1188) hX (cnX12_thrown (sp_st hX) h7) cwL_114 rfl rfl rfl rfl (Nat.le_of_ble_eq_true rfl) (Nat.le_of_ble_eq_true rfl) (Nat.le_of_ble_eq_true rfl) (by show _ ≤ 601024; omega) (by show _ ≤ 7293034; omega) dL_law_1185 rfl ?_
  refine sp_iload (i := 5) (q := 1190) hX dL_law_1188 rfl rfl ?_
  refine sp_icmp_eq (tgt := 1195) (q := 1193) hX dL_law_1190 (by decide) rfl (fun hc => ?_) (fun hc => ?_)
  · rw [if_pos hc] at hf
    refine sp_iload (i := 5) (q := 1197) hX dL_law_1195 rfl rfl ?_
    refine sp_if_ne (tgt := 1212) (q := 1200) hX dL_law_1197 (by decide) rfl (fun hc => ?_) (fun hc => ?_)
    · rw [if_neg hc] at hf
      refine sp_goto (tgt := 2170) hX dL_law_1212 (by decide) ?_
      cases hf
      refine sp_drop (lv' := [some (.ref b), some (.ref (sx_ad X 0)), some (.ref (sx_ad X 69)), some (.ref (sx_ad X 68)), some (.int i), none, none]) (And.intro rfl (And.intro rfl (And.intro rfl (And.intro rfl (And.intro rfl trivial))))) ?_
      refine sp_wid (a := kc + 4) (b := ks + 24) (by omega) (by omega) ?_
      exact hk
    · rw [if_pos hc] at hf
      refine sp_aload_n (i := 3) (q := 1201) hX dL_law_1200 rfl rfl rfl ?_
      refine sp_iconst (v := 0) (q := 1202) hX dL_law_1201 li_0 rfl ?_
      refine sp_lald (q := 1203) hX arL_68 (by decide) dL_law_1202 rfl ?_
      refine sp_nml (x := sp_gl σ2 68 (0 : Int32)) lg_g68.symm ?_
      refine sp_iload (i := 6) (q := 1205) hX dL_law_1203 rfl rfl ?_
      refine sp_i2l (q := 1206) hX dL_law_1205 rfl ?_
      refine sp_lcmp (q := 1207) hX dL_law_1206 rfl ?_
      refine sp_if_eq (tgt := 1212) (q := 1210) hX dL_law_1207 (by decide) rfl (fun hc => ?_) (fun hc => ?_)
      · rw [if_pos hc] at hf
        refine sp_goto (tgt := 2170) hX dL_law_1212 (by decide) ?_
        cases hf
        refine sp_drop (lv' := [some (.ref b), some (.ref (sx_ad X 0)), some (.ref (sx_ad X 69)), some (.ref (sx_ad X 68)), some (.int i), none, none]) (And.intro rfl (And.intro rfl (And.intro rfl (And.intro rfl (And.intro rfl trivial))))) ?_
        refine sp_wid (a := kc + 4) (b := ks + 24) (by omega) (by omega) ?_
        exact hk
      · rw [if_neg hc] at hf
        refine sp_iconst (v := 0) (q := 1211) hX dL_law_1210 li_0 rfl ?_
        cases hf
  · rw [if_neg hc] at hf
    refine sp_iconst (v := 0) (q := 1194) hX dL_law_1193 li_0 rfl ?_
    cases hf
def LK18 (n : Nat) (σ μ : sp_St) (a1 a2 a3 a4 a5 : Int32) : Option (sp_St × sp_St) :=
  sp_bd (L_takeIn n σ a1) fun σ2 v3 =>
  sp_bd (X12_takeIn n μ a1) fun μ5 v6 =>
  sp_bd (X12_thrown n μ5) fun μ8 v9 =>
  if v9 = v3 then
    if v3 = 0 then
      if (lg_cmp (sp_gl σ2 68 (0 : Int32)) v6.toInt64) = 0 then
        some (σ2, μ8)
      else
        none
    else
      some (σ2, μ8)
  else
    none
set_option maxRecDepth 100000 in
set_option maxHeartbeats 8000000 in
theorem hLK18 {X : sp_X} (hX : sp_OK shL X cL_law RL 7 room_1) {b L : Nat} {xs : Nat → Int32} (hs : lg_scr X b L xs) {n : Nat} {i a1 a2 a3 a4 a5 : Int32} (ha : lg_arg L xs i a1 a2 a3 a4 a5) {σ μ τ υ : sp_St} {kc ks : Nat} (hkc : kc + 4 ≤ 601024) (hks : ks + 24 ≤ 7293034) (hf : LK18 n σ μ a1 a2 a3 a4 a5 = some (τ, υ)) (hk : sp_GG shL X (sp_pair τ υ) 7 [some (.ref b), some (.ref (sx_ad X 0)), some (.ref (sx_ad X 69)), some (.ref (sx_ad X 68)), some (.int i), none, none] [] 2170 (kc + 4) (ks + 24)) : sp_GG shL X (sp_pair σ μ) 7 [some (.ref b), some (.ref (sx_ad X 0)), some (.ref (sx_ad X 69)), some (.ref (sx_ad X 68)), some (.int i), none, none] [] 1215 kc ks := by
  unfold LK18 at hf
  refine sp_aload_n (i := 1) (q := 1216) hX dL_law_1215 rfl rfl rfl ?_
  refine sp_aload_n (i := 0) (q := 1217) hX dL_law_1216 rfl rfl rfl ?_
  refine sp_iload (i := 4) (q := 1219) hX dL_law_1217 rfl rfl ?_
  refine sp_iconst (v := 1) (q := 1220) hX dL_law_1219 li_1 rfl ?_
  refine sp_iadd (q := 1221) hX dL_law_1220 rfl ?_
  refine lg_sld (q := 1222) hX hs ha.1 dL_law_1221 rfl ?_
  refine sp_aload_n (i := 3) (q := 1223) hX dL_law_1222 rfl rfl rfl ?_
  obtain ⟨σ2, v3, h1, hf⟩ := sp_bd_so hf
  refine lg_callWX (As := [.ref (sx_ad X 0), .int a1, .ref (sx_ad X 68)]) (rest := []) (q := 1226) hX (cnL_takeIn (sp_st hX) h1) cwwL_173 rfl rfl rfl rfl (Nat.le_of_ble_eq_true rfl) (Nat.le_of_ble_eq_true rfl) (Nat.le_of_ble_eq_true rfl) (by show _ ≤ 601024; omega) (by show _ ≤ 7293034; omega) dL_law_1223 rfl ?_
  refine sp_istore (i := 5) (lv' := [some (.ref b), some (.ref (sx_ad X 0)), some (.ref (sx_ad X 69)), some (.ref (sx_ad X 68)), some (.int i), some (.int v3), none]) (q := 1228) hX dL_law_1226 (Nat.le_of_ble_eq_true rfl) rfl rfl rfl ?_
  refine sp_aload_n (i := 2) (q := 1229) hX dL_law_1228 rfl rfl rfl ?_
  refine sp_aload_n (i := 0) (q := 1230) hX dL_law_1229 rfl rfl rfl ?_
  refine sp_iload (i := 4) (q := 1232) hX dL_law_1230 rfl rfl ?_
  refine sp_iconst (v := 1) (q := 1233) hX dL_law_1232 li_1 rfl ?_
  refine sp_iadd (q := 1234) hX dL_law_1233 rfl ?_
  refine lg_sld (q := 1235) hX hs ha.1 dL_law_1234 rfl ?_
  obtain ⟨μ5, v6, h4, hf⟩ := sp_bd_so hf
  refine lg_callVMi (As := [.int a1]) (rest := []) (q := 1238) hX (cnX12_takeIn (sp_st hX) h4) cwL_175 rfl rfl rfl rfl (Nat.le_of_ble_eq_true rfl) (Nat.le_of_ble_eq_true rfl) (Nat.le_of_ble_eq_true rfl) (by show _ ≤ 601024; omega) (by show _ ≤ 7293034; omega) dL_law_1235 rfl ?_
  refine sp_istore (i := 6) (lv' := [some (.ref b), some (.ref (sx_ad X 0)), some (.ref (sx_ad X 69)), some (.ref (sx_ad X 68)), some (.int i), some (.int v3), some (.int v6)]) (q := 1240) hX dL_law_1238 (Nat.le_of_ble_eq_true rfl) rfl rfl rfl ?_
  refine sp_aload_n (i := 2) (q := 1241) hX dL_law_1240 rfl rfl rfl ?_
  obtain ⟨μ8, v9, h7, hf⟩ := sp_bd_so hf
  refine lg_callVMi (As := []) (rest := []) (q := 1244) hX (cnX12_thrown (sp_st hX) h7) cwL_114 rfl rfl rfl rfl (Nat.le_of_ble_eq_true rfl) (Nat.le_of_ble_eq_true rfl) (Nat.le_of_ble_eq_true rfl) (by show _ ≤ 601024; omega) (by show _ ≤ 7293034; omega) dL_law_1241 rfl ?_
  refine sp_iload (i := 5) (q := 1246) hX dL_law_1244 rfl rfl ?_
  refine sp_icmp_eq (tgt := 1251) (q := 1249) hX dL_law_1246 (by decide) rfl (fun hc => ?_) (fun hc => ?_)
  · rw [if_pos hc] at hf
    refine sp_iload (i := 5) (q := 1253) hX dL_law_1251 rfl rfl ?_
    refine sp_if_ne (tgt := 1268) (q := 1256) hX dL_law_1253 (by decide) rfl (fun hc => ?_) (fun hc => ?_)
    · rw [if_neg hc] at hf
      refine sp_goto (tgt := 2170) hX dL_law_1268 (by decide) ?_
      cases hf
      refine sp_drop (lv' := [some (.ref b), some (.ref (sx_ad X 0)), some (.ref (sx_ad X 69)), some (.ref (sx_ad X 68)), some (.int i), none, none]) (And.intro rfl (And.intro rfl (And.intro rfl (And.intro rfl (And.intro rfl trivial))))) ?_
      refine sp_wid (a := kc + 4) (b := ks + 24) (by omega) (by omega) ?_
      exact hk
    · rw [if_pos hc] at hf
      refine sp_aload_n (i := 3) (q := 1257) hX dL_law_1256 rfl rfl rfl ?_
      refine sp_iconst (v := 0) (q := 1258) hX dL_law_1257 li_0 rfl ?_
      refine sp_lald (q := 1259) hX arL_68 (by decide) dL_law_1258 rfl ?_
      refine sp_nml (x := sp_gl σ2 68 (0 : Int32)) lg_g68.symm ?_
      refine sp_iload (i := 6) (q := 1261) hX dL_law_1259 rfl rfl ?_
      refine sp_i2l (q := 1262) hX dL_law_1261 rfl ?_
      refine sp_lcmp (q := 1263) hX dL_law_1262 rfl ?_
      refine sp_if_eq (tgt := 1268) (q := 1266) hX dL_law_1263 (by decide) rfl (fun hc => ?_) (fun hc => ?_)
      · rw [if_pos hc] at hf
        refine sp_goto (tgt := 2170) hX dL_law_1268 (by decide) ?_
        cases hf
        refine sp_drop (lv' := [some (.ref b), some (.ref (sx_ad X 0)), some (.ref (sx_ad X 69)), some (.ref (sx_ad X 68)), some (.int i), none, none]) (And.intro rfl (And.intro rfl (And.intro rfl (And.intro rfl (And.intro rfl trivial))))) ?_
        refine sp_wid (a := kc + 4) (b := ks + 24) (by omega) (by omega) ?_
        exact hk
      · rw [if_neg hc] at hf
        refine sp_iconst (v := 0) (q := 1267) hX dL_law_1266 li_0 rfl ?_
        cases hf
  · rw [if_neg hc] at hf
    refine sp_iconst (v := 0) (q := 1250) hX dL_law_1249 li_0 rfl ?_
    cases hf
def LK19 (n : Nat) (σ μ : sp_St) (a1 a2 a3 a4 a5 : Int32) : Option (sp_St × sp_St) :=
  sp_bd (X11_throats n σ) fun σ2 v3 =>
  sp_bd (X12_throats n μ) fun μ5 v6 =>
  if v3 = v6 then
    some (σ2, μ5)
  else
    none
set_option maxRecDepth 100000 in
set_option maxHeartbeats 8000000 in
theorem hLK19 {X : sp_X} (hX : sp_OK shL X cL_law RL 7 room_1) {b L : Nat} {xs : Nat → Int32} (hs : lg_scr X b L xs) {n : Nat} {i a1 a2 a3 a4 a5 : Int32} (ha : lg_arg L xs i a1 a2 a3 a4 a5) {σ μ τ υ : sp_St} {kc ks : Nat} (hkc : kc + 4 ≤ 601024) (hks : ks + 24 ≤ 7293034) (hf : LK19 n σ μ a1 a2 a3 a4 a5 = some (τ, υ)) (hk : sp_GG shL X (sp_pair τ υ) 7 [some (.ref b), some (.ref (sx_ad X 0)), some (.ref (sx_ad X 69)), some (.ref (sx_ad X 68)), some (.int i), none, none] [] 2170 (kc + 4) (ks + 24)) : sp_GG shL X (sp_pair σ μ) 7 [some (.ref b), some (.ref (sx_ad X 0)), some (.ref (sx_ad X 69)), some (.ref (sx_ad X 68)), some (.int i), none, none] [] 1271 kc ks := by
  unfold LK19 at hf
  refine sp_aload_n (i := 1) (q := 1272) hX dL_law_1271 rfl rfl rfl ?_
  obtain ⟨σ2, v3, h1, hf⟩ := sp_bd_so hf
  refine lg_callVXi (As := []) (rest := []) (q := 1275) hX (cnX11_throats (sp_st hX) h1) cwL_176 rfl rfl rfl rfl (Nat.le_of_ble_eq_true rfl) (Nat.le_of_ble_eq_true rfl) (Nat.le_of_ble_eq_true rfl) (by show _ ≤ 601024; omega) (by show _ ≤ 7293034; omega) dL_law_1272 rfl ?_
  refine sp_aload_n (i := 2) (q := 1276) hX dL_law_1275 rfl rfl rfl ?_
  obtain ⟨μ5, v6, h4, hf⟩ := sp_bd_so hf
  refine lg_callVMi (As := []) (rest := [.int v3]) (q := 1279) hX (cnX12_throats (sp_st hX) h4) cwL_179 rfl rfl rfl rfl (Nat.le_of_ble_eq_true rfl) (Nat.le_of_ble_eq_true rfl) (Nat.le_of_ble_eq_true rfl) (by show _ ≤ 601024; omega) (by show _ ≤ 7293034; omega) dL_law_1276 rfl ?_
  refine sp_icmp_eq (tgt := 2170) (q := 1282) hX dL_law_1279 (by decide) rfl (fun hc => ?_) (fun hc => ?_)
  · rw [if_pos hc] at hf
    cases hf
    refine sp_wid (a := kc + 4) (b := ks + 24) (by omega) (by omega) ?_
    exact hk
  · rw [if_neg hc] at hf
    refine sp_iconst (v := 0) (q := 1283) hX dL_law_1282 li_0 rfl ?_
    cases hf
def LK20 (n : Nat) (σ μ : sp_St) (a1 a2 a3 a4 a5 : Int32) : Option (sp_St × sp_St) :=
  sp_bd (L_toDraw n σ a1) fun σ2 v3 =>
  sp_bd (X12_toDraw n μ a1) fun μ5 v6 =>
  sp_bd (X12_thrown n μ5) fun μ8 v9 =>
  if v9 = v3 then
    if v3 = 0 then
      if (lg_cmp (sp_gl σ2 68 (0 : Int32)) v6.toInt64) = 0 then
        some (σ2, μ8)
      else
        none
    else
      some (σ2, μ8)
  else
    none
set_option maxRecDepth 100000 in
set_option maxHeartbeats 8000000 in
theorem hLK20 {X : sp_X} (hX : sp_OK shL X cL_law RL 7 room_1) {b L : Nat} {xs : Nat → Int32} (hs : lg_scr X b L xs) {n : Nat} {i a1 a2 a3 a4 a5 : Int32} (ha : lg_arg L xs i a1 a2 a3 a4 a5) {σ μ τ υ : sp_St} {kc ks : Nat} (hkc : kc + 4 ≤ 601024) (hks : ks + 24 ≤ 7293034) (hf : LK20 n σ μ a1 a2 a3 a4 a5 = some (τ, υ)) (hk : sp_GG shL X (sp_pair τ υ) 7 [some (.ref b), some (.ref (sx_ad X 0)), some (.ref (sx_ad X 69)), some (.ref (sx_ad X 68)), some (.int i), none, none] [] 2170 (kc + 4) (ks + 24)) : sp_GG shL X (sp_pair σ μ) 7 [some (.ref b), some (.ref (sx_ad X 0)), some (.ref (sx_ad X 69)), some (.ref (sx_ad X 68)), some (.int i), none, none] [] 1284 kc ks := by
  unfold LK20 at hf
  refine sp_aload_n (i := 1) (q := 1285) hX dL_law_1284 rfl rfl rfl ?_
  refine sp_aload_n (i := 0) (q := 1286) hX dL_law_1285 rfl rfl rfl ?_
  refine sp_iload (i := 4) (q := 1288) hX dL_law_1286 rfl rfl ?_
  refine sp_iconst (v := 1) (q := 1289) hX dL_law_1288 li_1 rfl ?_
  refine sp_iadd (q := 1290) hX dL_law_1289 rfl ?_
  refine lg_sld (q := 1291) hX hs ha.1 dL_law_1290 rfl ?_
  refine sp_aload_n (i := 3) (q := 1292) hX dL_law_1291 rfl rfl rfl ?_
  obtain ⟨σ2, v3, h1, hf⟩ := sp_bd_so hf
  refine lg_callWX (As := [.ref (sx_ad X 0), .int a1, .ref (sx_ad X 68)]) (rest := []) (q := 1295) hX (cnL_toDraw (sp_st hX) h1) cwwL_180 rfl rfl rfl rfl (Nat.le_of_ble_eq_true rfl) (Nat.le_of_ble_eq_true rfl) (Nat.le_of_ble_eq_true rfl) (by show _ ≤ 601024; omega) (by show _ ≤ 7293034; omega) dL_law_1292 rfl ?_
  refine sp_istore (i := 5) (lv' := [some (.ref b), some (.ref (sx_ad X 0)), some (.ref (sx_ad X 69)), some (.ref (sx_ad X 68)), some (.int i), some (.int v3), none]) (q := 1297) hX dL_law_1295 (Nat.le_of_ble_eq_true rfl) rfl rfl rfl ?_
  refine sp_aload_n (i := 2) (q := 1298) hX dL_law_1297 rfl rfl rfl ?_
  refine sp_aload_n (i := 0) (q := 1299) hX dL_law_1298 rfl rfl rfl ?_
  refine sp_iload (i := 4) (q := 1301) hX dL_law_1299 rfl rfl ?_
  refine sp_iconst (v := 1) (q := 1302) hX dL_law_1301 li_1 rfl ?_
  refine sp_iadd (q := 1303) hX dL_law_1302 rfl ?_
  refine lg_sld (q := 1304) hX hs ha.1 dL_law_1303 rfl ?_
  obtain ⟨μ5, v6, h4, hf⟩ := sp_bd_so hf
  refine lg_callVMi (As := [.int a1]) (rest := []) (q := 1307) hX (cnX12_toDraw (sp_st hX) h4) cwL_182 rfl rfl rfl rfl (Nat.le_of_ble_eq_true rfl) (Nat.le_of_ble_eq_true rfl) (Nat.le_of_ble_eq_true rfl) (by show _ ≤ 601024; omega) (by show _ ≤ 7293034; omega) dL_law_1304 rfl ?_
  refine sp_istore (i := 6) (lv' := [some (.ref b), some (.ref (sx_ad X 0)), some (.ref (sx_ad X 69)), some (.ref (sx_ad X 68)), some (.int i), some (.int v3), some (.int v6)]) (q := 1309) hX dL_law_1307 (Nat.le_of_ble_eq_true rfl) rfl rfl rfl ?_
  refine sp_aload_n (i := 2) (q := 1310) hX dL_law_1309 rfl rfl rfl ?_
  obtain ⟨μ8, v9, h7, hf⟩ := sp_bd_so hf
  refine lg_callVMi (As := []) (rest := []) (q := 1313) hX (cnX12_thrown (sp_st hX) h7) cwL_114 rfl rfl rfl rfl (Nat.le_of_ble_eq_true rfl) (Nat.le_of_ble_eq_true rfl) (Nat.le_of_ble_eq_true rfl) (by show _ ≤ 601024; omega) (by show _ ≤ 7293034; omega) dL_law_1310 rfl ?_
  refine sp_iload (i := 5) (q := 1315) hX dL_law_1313 rfl rfl ?_
  refine sp_icmp_eq (tgt := 1320) (q := 1318) hX dL_law_1315 (by decide) rfl (fun hc => ?_) (fun hc => ?_)
  · rw [if_pos hc] at hf
    refine sp_iload (i := 5) (q := 1322) hX dL_law_1320 rfl rfl ?_
    refine sp_if_ne (tgt := 1337) (q := 1325) hX dL_law_1322 (by decide) rfl (fun hc => ?_) (fun hc => ?_)
    · rw [if_neg hc] at hf
      refine sp_goto (tgt := 2170) hX dL_law_1337 (by decide) ?_
      cases hf
      refine sp_drop (lv' := [some (.ref b), some (.ref (sx_ad X 0)), some (.ref (sx_ad X 69)), some (.ref (sx_ad X 68)), some (.int i), none, none]) (And.intro rfl (And.intro rfl (And.intro rfl (And.intro rfl (And.intro rfl trivial))))) ?_
      refine sp_wid (a := kc + 4) (b := ks + 24) (by omega) (by omega) ?_
      exact hk
    · rw [if_pos hc] at hf
      refine sp_aload_n (i := 3) (q := 1326) hX dL_law_1325 rfl rfl rfl ?_
      refine sp_iconst (v := 0) (q := 1327) hX dL_law_1326 li_0 rfl ?_
      refine sp_lald (q := 1328) hX arL_68 (by decide) dL_law_1327 rfl ?_
      refine sp_nml (x := sp_gl σ2 68 (0 : Int32)) lg_g68.symm ?_
      refine sp_iload (i := 6) (q := 1330) hX dL_law_1328 rfl rfl ?_
      refine sp_i2l (q := 1331) hX dL_law_1330 rfl ?_
      refine sp_lcmp (q := 1332) hX dL_law_1331 rfl ?_
      refine sp_if_eq (tgt := 1337) (q := 1335) hX dL_law_1332 (by decide) rfl (fun hc => ?_) (fun hc => ?_)
      · rw [if_pos hc] at hf
        refine sp_goto (tgt := 2170) hX dL_law_1337 (by decide) ?_
        cases hf
        refine sp_drop (lv' := [some (.ref b), some (.ref (sx_ad X 0)), some (.ref (sx_ad X 69)), some (.ref (sx_ad X 68)), some (.int i), none, none]) (And.intro rfl (And.intro rfl (And.intro rfl (And.intro rfl (And.intro rfl trivial))))) ?_
        refine sp_wid (a := kc + 4) (b := ks + 24) (by omega) (by omega) ?_
        exact hk
      · rw [if_neg hc] at hf
        refine sp_iconst (v := 0) (q := 1336) hX dL_law_1335 li_0 rfl ?_
        cases hf
  · rw [if_neg hc] at hf
    refine sp_iconst (v := 0) (q := 1319) hX dL_law_1318 li_0 rfl ?_
    cases hf
def LK21 (n : Nat) (σ μ : sp_St) (a1 a2 a3 a4 a5 : Int32) : Option (sp_St × sp_St) :=
  sp_bd (L_toSwallow n σ a1) fun σ2 v3 =>
  sp_bd (X12_toSwallow n μ a1) fun μ5 v6 =>
  sp_bd (X12_thrown n μ5) fun μ8 v9 =>
  if v9 = v3 then
    if v3 = 0 then
      if (lg_cmp (sp_gl σ2 68 (0 : Int32)) v6.toInt64) = 0 then
        some (σ2, μ8)
      else
        none
    else
      some (σ2, μ8)
  else
    none
set_option maxRecDepth 100000 in
set_option maxHeartbeats 8000000 in
theorem hLK21 {X : sp_X} (hX : sp_OK shL X cL_law RL 7 room_1) {b L : Nat} {xs : Nat → Int32} (hs : lg_scr X b L xs) {n : Nat} {i a1 a2 a3 a4 a5 : Int32} (ha : lg_arg L xs i a1 a2 a3 a4 a5) {σ μ τ υ : sp_St} {kc ks : Nat} (hkc : kc + 4 ≤ 601024) (hks : ks + 24 ≤ 7293034) (hf : LK21 n σ μ a1 a2 a3 a4 a5 = some (τ, υ)) (hk : sp_GG shL X (sp_pair τ υ) 7 [some (.ref b), some (.ref (sx_ad X 0)), some (.ref (sx_ad X 69)), some (.ref (sx_ad X 68)), some (.int i), none, none] [] 2170 (kc + 4) (ks + 24)) : sp_GG shL X (sp_pair σ μ) 7 [some (.ref b), some (.ref (sx_ad X 0)), some (.ref (sx_ad X 69)), some (.ref (sx_ad X 68)), some (.int i), none, none] [] 1340 kc ks := by
  unfold LK21 at hf
  refine sp_aload_n (i := 1) (q := 1341) hX dL_law_1340 rfl rfl rfl ?_
  refine sp_aload_n (i := 0) (q := 1342) hX dL_law_1341 rfl rfl rfl ?_
  refine sp_iload (i := 4) (q := 1344) hX dL_law_1342 rfl rfl ?_
  refine sp_iconst (v := 1) (q := 1345) hX dL_law_1344 li_1 rfl ?_
  refine sp_iadd (q := 1346) hX dL_law_1345 rfl ?_
  refine lg_sld (q := 1347) hX hs ha.1 dL_law_1346 rfl ?_
  refine sp_aload_n (i := 3) (q := 1348) hX dL_law_1347 rfl rfl rfl ?_
  obtain ⟨σ2, v3, h1, hf⟩ := sp_bd_so hf
  refine lg_callWX (As := [.ref (sx_ad X 0), .int a1, .ref (sx_ad X 68)]) (rest := []) (q := 1351) hX (cnL_toSwallow (sp_st hX) h1) cwwL_183 rfl rfl rfl rfl (Nat.le_of_ble_eq_true rfl) (Nat.le_of_ble_eq_true rfl) (Nat.le_of_ble_eq_true rfl) (by show _ ≤ 601024; omega) (by show _ ≤ 7293034; omega) dL_law_1348 rfl ?_
  refine sp_istore (i := 5) (lv' := [some (.ref b), some (.ref (sx_ad X 0)), some (.ref (sx_ad X 69)), some (.ref (sx_ad X 68)), some (.int i), some (.int v3), none]) (q := 1353) hX dL_law_1351 (Nat.le_of_ble_eq_true rfl) rfl rfl rfl ?_
  refine sp_aload_n (i := 2) (q := 1354) hX dL_law_1353 rfl rfl rfl ?_
  refine sp_aload_n (i := 0) (q := 1355) hX dL_law_1354 rfl rfl rfl ?_
  refine sp_iload (i := 4) (q := 1357) hX dL_law_1355 rfl rfl ?_
  refine sp_iconst (v := 1) (q := 1358) hX dL_law_1357 li_1 rfl ?_
  refine sp_iadd (q := 1359) hX dL_law_1358 rfl ?_
  refine lg_sld (q := 1360) hX hs ha.1 dL_law_1359 rfl ?_
  obtain ⟨μ5, v6, h4, hf⟩ := sp_bd_so hf
  refine lg_callVMi (As := [.int a1]) (rest := []) (q := 1363) hX (cnX12_toSwallow (sp_st hX) h4) cwL_185 rfl rfl rfl rfl (Nat.le_of_ble_eq_true rfl) (Nat.le_of_ble_eq_true rfl) (Nat.le_of_ble_eq_true rfl) (by show _ ≤ 601024; omega) (by show _ ≤ 7293034; omega) dL_law_1360 rfl ?_
  refine sp_istore (i := 6) (lv' := [some (.ref b), some (.ref (sx_ad X 0)), some (.ref (sx_ad X 69)), some (.ref (sx_ad X 68)), some (.int i), some (.int v3), some (.int v6)]) (q := 1365) hX dL_law_1363 (Nat.le_of_ble_eq_true rfl) rfl rfl rfl ?_
  refine sp_aload_n (i := 2) (q := 1366) hX dL_law_1365 rfl rfl rfl ?_
  obtain ⟨μ8, v9, h7, hf⟩ := sp_bd_so hf
  refine lg_callVMi (As := []) (rest := []) (q := 1369) hX (cnX12_thrown (sp_st hX) h7) cwL_114 rfl rfl rfl rfl (Nat.le_of_ble_eq_true rfl) (Nat.le_of_ble_eq_true rfl) (Nat.le_of_ble_eq_true rfl) (by show _ ≤ 601024; omega) (by show _ ≤ 7293034; omega) dL_law_1366 rfl ?_
  refine sp_iload (i := 5) (q := 1371) hX dL_law_1369 rfl rfl ?_
  refine sp_icmp_eq (tgt := 1376) (q := 1374) hX dL_law_1371 (by decide) rfl (fun hc => ?_) (fun hc => ?_)
  · rw [if_pos hc] at hf
    refine sp_iload (i := 5) (q := 1378) hX dL_law_1376 rfl rfl ?_
    refine sp_if_ne (tgt := 1393) (q := 1381) hX dL_law_1378 (by decide) rfl (fun hc => ?_) (fun hc => ?_)
    · rw [if_neg hc] at hf
      refine sp_goto (tgt := 2170) hX dL_law_1393 (by decide) ?_
      cases hf
      refine sp_drop (lv' := [some (.ref b), some (.ref (sx_ad X 0)), some (.ref (sx_ad X 69)), some (.ref (sx_ad X 68)), some (.int i), none, none]) (And.intro rfl (And.intro rfl (And.intro rfl (And.intro rfl (And.intro rfl trivial))))) ?_
      refine sp_wid (a := kc + 4) (b := ks + 24) (by omega) (by omega) ?_
      exact hk
    · rw [if_pos hc] at hf
      refine sp_aload_n (i := 3) (q := 1382) hX dL_law_1381 rfl rfl rfl ?_
      refine sp_iconst (v := 0) (q := 1383) hX dL_law_1382 li_0 rfl ?_
      refine sp_lald (q := 1384) hX arL_68 (by decide) dL_law_1383 rfl ?_
      refine sp_nml (x := sp_gl σ2 68 (0 : Int32)) lg_g68.symm ?_
      refine sp_iload (i := 6) (q := 1386) hX dL_law_1384 rfl rfl ?_
      refine sp_i2l (q := 1387) hX dL_law_1386 rfl ?_
      refine sp_lcmp (q := 1388) hX dL_law_1387 rfl ?_
      refine sp_if_eq (tgt := 1393) (q := 1391) hX dL_law_1388 (by decide) rfl (fun hc => ?_) (fun hc => ?_)
      · rw [if_pos hc] at hf
        refine sp_goto (tgt := 2170) hX dL_law_1393 (by decide) ?_
        cases hf
        refine sp_drop (lv' := [some (.ref b), some (.ref (sx_ad X 0)), some (.ref (sx_ad X 69)), some (.ref (sx_ad X 68)), some (.int i), none, none]) (And.intro rfl (And.intro rfl (And.intro rfl (And.intro rfl (And.intro rfl trivial))))) ?_
        refine sp_wid (a := kc + 4) (b := ks + 24) (by omega) (by omega) ?_
        exact hk
      · rw [if_neg hc] at hf
        refine sp_iconst (v := 0) (q := 1392) hX dL_law_1391 li_0 rfl ?_
        cases hf
  · rw [if_neg hc] at hf
    refine sp_iconst (v := 0) (q := 1375) hX dL_law_1374 li_0 rfl ?_
    cases hf
def LK22 (n : Nat) (σ μ : sp_St) (a1 a2 a3 a4 a5 : Int32) : Option (sp_St × sp_St) :=
  sp_bd (X11_camps n σ) fun σ2 v3 =>
  sp_bd (X12_camps n μ) fun μ5 v6 =>
  if v3 = v6 then
    some (σ2, μ5)
  else
    none
set_option maxRecDepth 100000 in
set_option maxHeartbeats 8000000 in
theorem hLK22 {X : sp_X} (hX : sp_OK shL X cL_law RL 7 room_1) {b L : Nat} {xs : Nat → Int32} (hs : lg_scr X b L xs) {n : Nat} {i a1 a2 a3 a4 a5 : Int32} (ha : lg_arg L xs i a1 a2 a3 a4 a5) {σ μ τ υ : sp_St} {kc ks : Nat} (hkc : kc + 4 ≤ 601024) (hks : ks + 24 ≤ 7293034) (hf : LK22 n σ μ a1 a2 a3 a4 a5 = some (τ, υ)) (hk : sp_GG shL X (sp_pair τ υ) 7 [some (.ref b), some (.ref (sx_ad X 0)), some (.ref (sx_ad X 69)), some (.ref (sx_ad X 68)), some (.int i), none, none] [] 2170 (kc + 4) (ks + 24)) : sp_GG shL X (sp_pair σ μ) 7 [some (.ref b), some (.ref (sx_ad X 0)), some (.ref (sx_ad X 69)), some (.ref (sx_ad X 68)), some (.int i), none, none] [] 1396 kc ks := by
  unfold LK22 at hf
  refine sp_aload_n (i := 1) (q := 1397) hX dL_law_1396 rfl rfl rfl ?_
  obtain ⟨σ2, v3, h1, hf⟩ := sp_bd_so hf
  refine lg_callVXi (As := []) (rest := []) (q := 1400) hX (cnX11_camps (sp_st hX) h1) cwL_186 rfl rfl rfl rfl (Nat.le_of_ble_eq_true rfl) (Nat.le_of_ble_eq_true rfl) (Nat.le_of_ble_eq_true rfl) (by show _ ≤ 601024; omega) (by show _ ≤ 7293034; omega) dL_law_1397 rfl ?_
  refine sp_aload_n (i := 2) (q := 1401) hX dL_law_1400 rfl rfl rfl ?_
  obtain ⟨μ5, v6, h4, hf⟩ := sp_bd_so hf
  refine lg_callVMi (As := []) (rest := [.int v3]) (q := 1404) hX (cnX12_camps (sp_st hX) h4) cwL_189 rfl rfl rfl rfl (Nat.le_of_ble_eq_true rfl) (Nat.le_of_ble_eq_true rfl) (Nat.le_of_ble_eq_true rfl) (by show _ ≤ 601024; omega) (by show _ ≤ 7293034; omega) dL_law_1401 rfl ?_
  refine sp_icmp_eq (tgt := 2170) (q := 1407) hX dL_law_1404 (by decide) rfl (fun hc => ?_) (fun hc => ?_)
  · rw [if_pos hc] at hf
    cases hf
    refine sp_wid (a := kc + 4) (b := ks + 24) (by omega) (by omega) ?_
    exact hk
  · rw [if_neg hc] at hf
    refine sp_iconst (v := 0) (q := 1408) hX dL_law_1407 li_0 rfl ?_
    cases hf
def LK23 (n : Nat) (σ μ : sp_St) (a1 a2 a3 a4 a5 : Int32) : Option (sp_St × sp_St) :=
  sp_bd (X11_couples n σ) fun σ2 v3 =>
  sp_bd (X12_couples n μ) fun μ5 v6 =>
  if v3 = v6 then
    some (σ2, μ5)
  else
    none
set_option maxRecDepth 100000 in
set_option maxHeartbeats 8000000 in
theorem hLK23 {X : sp_X} (hX : sp_OK shL X cL_law RL 7 room_1) {b L : Nat} {xs : Nat → Int32} (hs : lg_scr X b L xs) {n : Nat} {i a1 a2 a3 a4 a5 : Int32} (ha : lg_arg L xs i a1 a2 a3 a4 a5) {σ μ τ υ : sp_St} {kc ks : Nat} (hkc : kc + 4 ≤ 601024) (hks : ks + 24 ≤ 7293034) (hf : LK23 n σ μ a1 a2 a3 a4 a5 = some (τ, υ)) (hk : sp_GG shL X (sp_pair τ υ) 7 [some (.ref b), some (.ref (sx_ad X 0)), some (.ref (sx_ad X 69)), some (.ref (sx_ad X 68)), some (.int i), none, none] [] 2170 (kc + 4) (ks + 24)) : sp_GG shL X (sp_pair σ μ) 7 [some (.ref b), some (.ref (sx_ad X 0)), some (.ref (sx_ad X 69)), some (.ref (sx_ad X 68)), some (.int i), none, none] [] 1409 kc ks := by
  unfold LK23 at hf
  refine sp_aload_n (i := 1) (q := 1410) hX dL_law_1409 rfl rfl rfl ?_
  obtain ⟨σ2, v3, h1, hf⟩ := sp_bd_so hf
  refine lg_callVXi (As := []) (rest := []) (q := 1413) hX (cnX11_couples (sp_st hX) h1) cwL_190 rfl rfl rfl rfl (Nat.le_of_ble_eq_true rfl) (Nat.le_of_ble_eq_true rfl) (Nat.le_of_ble_eq_true rfl) (by show _ ≤ 601024; omega) (by show _ ≤ 7293034; omega) dL_law_1410 rfl ?_
  refine sp_aload_n (i := 2) (q := 1414) hX dL_law_1413 rfl rfl rfl ?_
  obtain ⟨μ5, v6, h4, hf⟩ := sp_bd_so hf
  refine lg_callVMi (As := []) (rest := [.int v3]) (q := 1417) hX (cnX12_couples (sp_st hX) h4) cwL_193 rfl rfl rfl rfl (Nat.le_of_ble_eq_true rfl) (Nat.le_of_ble_eq_true rfl) (Nat.le_of_ble_eq_true rfl) (by show _ ≤ 601024; omega) (by show _ ≤ 7293034; omega) dL_law_1414 rfl ?_
  refine sp_icmp_eq (tgt := 2170) (q := 1420) hX dL_law_1417 (by decide) rfl (fun hc => ?_) (fun hc => ?_)
  · rw [if_pos hc] at hf
    cases hf
    refine sp_wid (a := kc + 4) (b := ks + 24) (by omega) (by omega) ?_
    exact hk
  · rw [if_neg hc] at hf
    refine sp_iconst (v := 0) (q := 1421) hX dL_law_1420 li_0 rfl ?_
    cases hf
def LK24 (n : Nat) (σ μ : sp_St) (a1 a2 a3 a4 a5 : Int32) : Option (sp_St × sp_St) :=
  sp_bd (L_grudge n σ a1) fun σ2 v3 =>
  sp_bd (X12_grudge n μ a1) fun μ5 v6 =>
  sp_bd (X12_thrown n μ5) fun μ8 v9 =>
  if v9 = v3 then
    if v3 = 0 then
      if (lg_cmp (sp_gl σ2 68 (0 : Int32)) v6.toInt64) = 0 then
        some (σ2, μ8)
      else
        none
    else
      some (σ2, μ8)
  else
    none
set_option maxRecDepth 100000 in
set_option maxHeartbeats 8000000 in
theorem hLK24 {X : sp_X} (hX : sp_OK shL X cL_law RL 7 room_1) {b L : Nat} {xs : Nat → Int32} (hs : lg_scr X b L xs) {n : Nat} {i a1 a2 a3 a4 a5 : Int32} (ha : lg_arg L xs i a1 a2 a3 a4 a5) {σ μ τ υ : sp_St} {kc ks : Nat} (hkc : kc + 4 ≤ 601024) (hks : ks + 24 ≤ 7293034) (hf : LK24 n σ μ a1 a2 a3 a4 a5 = some (τ, υ)) (hk : sp_GG shL X (sp_pair τ υ) 7 [some (.ref b), some (.ref (sx_ad X 0)), some (.ref (sx_ad X 69)), some (.ref (sx_ad X 68)), some (.int i), none, none] [] 2170 (kc + 4) (ks + 24)) : sp_GG shL X (sp_pair σ μ) 7 [some (.ref b), some (.ref (sx_ad X 0)), some (.ref (sx_ad X 69)), some (.ref (sx_ad X 68)), some (.int i), none, none] [] 1422 kc ks := by
  unfold LK24 at hf
  refine sp_aload_n (i := 1) (q := 1423) hX dL_law_1422 rfl rfl rfl ?_
  refine sp_aload_n (i := 0) (q := 1424) hX dL_law_1423 rfl rfl rfl ?_
  refine sp_iload (i := 4) (q := 1426) hX dL_law_1424 rfl rfl ?_
  refine sp_iconst (v := 1) (q := 1427) hX dL_law_1426 li_1 rfl ?_
  refine sp_iadd (q := 1428) hX dL_law_1427 rfl ?_
  refine lg_sld (q := 1429) hX hs ha.1 dL_law_1428 rfl ?_
  refine sp_aload_n (i := 3) (q := 1430) hX dL_law_1429 rfl rfl rfl ?_
  obtain ⟨σ2, v3, h1, hf⟩ := sp_bd_so hf
  refine lg_callWX (As := [.ref (sx_ad X 0), .int a1, .ref (sx_ad X 68)]) (rest := []) (q := 1433) hX (cnL_grudge (sp_st hX) h1) cwwL_194 rfl rfl rfl rfl (Nat.le_of_ble_eq_true rfl) (Nat.le_of_ble_eq_true rfl) (Nat.le_of_ble_eq_true rfl) (by show _ ≤ 601024; omega) (by show _ ≤ 7293034; omega) dL_law_1430 rfl ?_
  refine sp_istore (i := 5) (lv' := [some (.ref b), some (.ref (sx_ad X 0)), some (.ref (sx_ad X 69)), some (.ref (sx_ad X 68)), some (.int i), some (.int v3), none]) (q := 1435) hX dL_law_1433 (Nat.le_of_ble_eq_true rfl) rfl rfl rfl ?_
  refine sp_aload_n (i := 2) (q := 1436) hX dL_law_1435 rfl rfl rfl ?_
  refine sp_aload_n (i := 0) (q := 1437) hX dL_law_1436 rfl rfl rfl ?_
  refine sp_iload (i := 4) (q := 1439) hX dL_law_1437 rfl rfl ?_
  refine sp_iconst (v := 1) (q := 1440) hX dL_law_1439 li_1 rfl ?_
  refine sp_iadd (q := 1441) hX dL_law_1440 rfl ?_
  refine lg_sld (q := 1442) hX hs ha.1 dL_law_1441 rfl ?_
  obtain ⟨μ5, v6, h4, hf⟩ := sp_bd_so hf
  refine lg_callVMi (As := [.int a1]) (rest := []) (q := 1445) hX (cnX12_grudge (sp_st hX) h4) cwL_196 rfl rfl rfl rfl (Nat.le_of_ble_eq_true rfl) (Nat.le_of_ble_eq_true rfl) (Nat.le_of_ble_eq_true rfl) (by show _ ≤ 601024; omega) (by show _ ≤ 7293034; omega) dL_law_1442 rfl ?_
  refine sp_istore (i := 6) (lv' := [some (.ref b), some (.ref (sx_ad X 0)), some (.ref (sx_ad X 69)), some (.ref (sx_ad X 68)), some (.int i), some (.int v3), some (.int v6)]) (q := 1447) hX dL_law_1445 (Nat.le_of_ble_eq_true rfl) rfl rfl rfl ?_
  refine sp_aload_n (i := 2) (q := 1448) hX dL_law_1447 rfl rfl rfl ?_
  obtain ⟨μ8, v9, h7, hf⟩ := sp_bd_so hf
  refine lg_callVMi (As := []) (rest := []) (q := 1451) hX (cnX12_thrown (sp_st hX) h7) cwL_114 rfl rfl rfl rfl (Nat.le_of_ble_eq_true rfl) (Nat.le_of_ble_eq_true rfl) (Nat.le_of_ble_eq_true rfl) (by show _ ≤ 601024; omega) (by show _ ≤ 7293034; omega) dL_law_1448 rfl ?_
  refine sp_iload (i := 5) (q := 1453) hX dL_law_1451 rfl rfl ?_
  refine sp_icmp_eq (tgt := 1458) (q := 1456) hX dL_law_1453 (by decide) rfl (fun hc => ?_) (fun hc => ?_)
  · rw [if_pos hc] at hf
    refine sp_iload (i := 5) (q := 1460) hX dL_law_1458 rfl rfl ?_
    refine sp_if_ne (tgt := 1475) (q := 1463) hX dL_law_1460 (by decide) rfl (fun hc => ?_) (fun hc => ?_)
    · rw [if_neg hc] at hf
      refine sp_goto (tgt := 2170) hX dL_law_1475 (by decide) ?_
      cases hf
      refine sp_drop (lv' := [some (.ref b), some (.ref (sx_ad X 0)), some (.ref (sx_ad X 69)), some (.ref (sx_ad X 68)), some (.int i), none, none]) (And.intro rfl (And.intro rfl (And.intro rfl (And.intro rfl (And.intro rfl trivial))))) ?_
      refine sp_wid (a := kc + 4) (b := ks + 24) (by omega) (by omega) ?_
      exact hk
    · rw [if_pos hc] at hf
      refine sp_aload_n (i := 3) (q := 1464) hX dL_law_1463 rfl rfl rfl ?_
      refine sp_iconst (v := 0) (q := 1465) hX dL_law_1464 li_0 rfl ?_
      refine sp_lald (q := 1466) hX arL_68 (by decide) dL_law_1465 rfl ?_
      refine sp_nml (x := sp_gl σ2 68 (0 : Int32)) lg_g68.symm ?_
      refine sp_iload (i := 6) (q := 1468) hX dL_law_1466 rfl rfl ?_
      refine sp_i2l (q := 1469) hX dL_law_1468 rfl ?_
      refine sp_lcmp (q := 1470) hX dL_law_1469 rfl ?_
      refine sp_if_eq (tgt := 1475) (q := 1473) hX dL_law_1470 (by decide) rfl (fun hc => ?_) (fun hc => ?_)
      · rw [if_pos hc] at hf
        refine sp_goto (tgt := 2170) hX dL_law_1475 (by decide) ?_
        cases hf
        refine sp_drop (lv' := [some (.ref b), some (.ref (sx_ad X 0)), some (.ref (sx_ad X 69)), some (.ref (sx_ad X 68)), some (.int i), none, none]) (And.intro rfl (And.intro rfl (And.intro rfl (And.intro rfl (And.intro rfl trivial))))) ?_
        refine sp_wid (a := kc + 4) (b := ks + 24) (by omega) (by omega) ?_
        exact hk
      · rw [if_neg hc] at hf
        refine sp_iconst (v := 0) (q := 1474) hX dL_law_1473 li_0 rfl ?_
        cases hf
  · rw [if_neg hc] at hf
    refine sp_iconst (v := 0) (q := 1457) hX dL_law_1456 li_0 rfl ?_
    cases hf
def LK25 (n : Nat) (σ μ : sp_St) (a1 a2 a3 a4 a5 : Int32) : Option (sp_St × sp_St) :=
  sp_bd (L_foes n σ a1 a2) fun σ2 v3 =>
  sp_bd (X12_foes n μ a1 a2) fun μ5 v6 =>
  sp_bd (X12_thrown n μ5) fun μ8 v9 =>
  if v9 = v3 then
    if v3 = 0 then
      if (lg_cmp (sp_gl σ2 68 (0 : Int32)) v6.toInt64) = 0 then
        some (σ2, μ8)
      else
        none
    else
      some (σ2, μ8)
  else
    none
set_option maxRecDepth 100000 in
set_option maxHeartbeats 8000000 in
theorem hLK25 {X : sp_X} (hX : sp_OK shL X cL_law RL 7 room_1) {b L : Nat} {xs : Nat → Int32} (hs : lg_scr X b L xs) {n : Nat} {i a1 a2 a3 a4 a5 : Int32} (ha : lg_arg L xs i a1 a2 a3 a4 a5) {σ μ τ υ : sp_St} {kc ks : Nat} (hkc : kc + 4 ≤ 601024) (hks : ks + 24 ≤ 7293034) (hf : LK25 n σ μ a1 a2 a3 a4 a5 = some (τ, υ)) (hk : sp_GG shL X (sp_pair τ υ) 7 [some (.ref b), some (.ref (sx_ad X 0)), some (.ref (sx_ad X 69)), some (.ref (sx_ad X 68)), some (.int i), none, none] [] 2170 (kc + 4) (ks + 24)) : sp_GG shL X (sp_pair σ μ) 7 [some (.ref b), some (.ref (sx_ad X 0)), some (.ref (sx_ad X 69)), some (.ref (sx_ad X 68)), some (.int i), none, none] [] 1478 kc ks := by
  unfold LK25 at hf
  refine sp_aload_n (i := 1) (q := 1479) hX dL_law_1478 rfl rfl rfl ?_
  refine sp_aload_n (i := 0) (q := 1480) hX dL_law_1479 rfl rfl rfl ?_
  refine sp_iload (i := 4) (q := 1482) hX dL_law_1480 rfl rfl ?_
  refine sp_iconst (v := 1) (q := 1483) hX dL_law_1482 li_1 rfl ?_
  refine sp_iadd (q := 1484) hX dL_law_1483 rfl ?_
  refine lg_sld (q := 1485) hX hs ha.1 dL_law_1484 rfl ?_
  refine sp_aload_n (i := 0) (q := 1486) hX dL_law_1485 rfl rfl rfl ?_
  refine sp_iload (i := 4) (q := 1488) hX dL_law_1486 rfl rfl ?_
  refine sp_iconst (v := 2) (q := 1489) hX dL_law_1488 li_2 rfl ?_
  refine sp_iadd (q := 1490) hX dL_law_1489 rfl ?_
  refine lg_sld (q := 1491) hX hs ha.2.1 dL_law_1490 rfl ?_
  refine sp_aload_n (i := 3) (q := 1492) hX dL_law_1491 rfl rfl rfl ?_
  obtain ⟨σ2, v3, h1, hf⟩ := sp_bd_so hf
  refine lg_callWX (As := [.ref (sx_ad X 0), .int a1, .int a2, .ref (sx_ad X 68)]) (rest := []) (q := 1495) hX (cnL_foes (sp_st hX) h1) cwwL_197 rfl rfl rfl rfl (Nat.le_of_ble_eq_true rfl) (Nat.le_of_ble_eq_true rfl) (Nat.le_of_ble_eq_true rfl) (by show _ ≤ 601024; omega) (by show _ ≤ 7293034; omega) dL_law_1492 rfl ?_
  refine sp_istore (i := 5) (lv' := [some (.ref b), some (.ref (sx_ad X 0)), some (.ref (sx_ad X 69)), some (.ref (sx_ad X 68)), some (.int i), some (.int v3), none]) (q := 1497) hX dL_law_1495 (Nat.le_of_ble_eq_true rfl) rfl rfl rfl ?_
  refine sp_aload_n (i := 2) (q := 1498) hX dL_law_1497 rfl rfl rfl ?_
  refine sp_aload_n (i := 0) (q := 1499) hX dL_law_1498 rfl rfl rfl ?_
  refine sp_iload (i := 4) (q := 1501) hX dL_law_1499 rfl rfl ?_
  refine sp_iconst (v := 1) (q := 1502) hX dL_law_1501 li_1 rfl ?_
  refine sp_iadd (q := 1503) hX dL_law_1502 rfl ?_
  refine lg_sld (q := 1504) hX hs ha.1 dL_law_1503 rfl ?_
  refine sp_aload_n (i := 0) (q := 1505) hX dL_law_1504 rfl rfl rfl ?_
  refine sp_iload (i := 4) (q := 1507) hX dL_law_1505 rfl rfl ?_
  refine sp_iconst (v := 2) (q := 1508) hX dL_law_1507 li_2 rfl ?_
  refine sp_iadd (q := 1509) hX dL_law_1508 rfl ?_
  refine lg_sld (q := 1510) hX hs ha.2.1 dL_law_1509 rfl ?_
  obtain ⟨μ5, v6, h4, hf⟩ := sp_bd_so hf
  refine lg_callVMi (As := [.int a1, .int a2]) (rest := []) (q := 1513) hX (cnX12_foes (sp_st hX) h4) cwL_199 rfl rfl rfl rfl (Nat.le_of_ble_eq_true rfl) (Nat.le_of_ble_eq_true rfl) (Nat.le_of_ble_eq_true rfl) (by show _ ≤ 601024; omega) (by show _ ≤ 7293034; omega) dL_law_1510 rfl ?_
  refine sp_istore (i := 6) (lv' := [some (.ref b), some (.ref (sx_ad X 0)), some (.ref (sx_ad X 69)), some (.ref (sx_ad X 68)), some (.int i), some (.int v3), some (.int v6)]) (q := 1515) hX dL_law_1513 (Nat.le_of_ble_eq_true rfl) rfl rfl rfl ?_
  refine sp_aload_n (i := 2) (q := 1516) hX dL_law_1515 rfl rfl rfl ?_
  obtain ⟨μ8, v9, h7, hf⟩ := sp_bd_so hf
  refine lg_callVMi (As := []) (rest := []) (q := 1519) hX (cnX12_thrown (sp_st hX) h7) cwL_114 rfl rfl rfl rfl (Nat.le_of_ble_eq_true rfl) (Nat.le_of_ble_eq_true rfl) (Nat.le_of_ble_eq_true rfl) (by show _ ≤ 601024; omega) (by show _ ≤ 7293034; omega) dL_law_1516 rfl ?_
  refine sp_iload (i := 5) (q := 1521) hX dL_law_1519 rfl rfl ?_
  refine sp_icmp_eq (tgt := 1526) (q := 1524) hX dL_law_1521 (by decide) rfl (fun hc => ?_) (fun hc => ?_)
  · rw [if_pos hc] at hf
    refine sp_iload (i := 5) (q := 1528) hX dL_law_1526 rfl rfl ?_
    refine sp_if_ne (tgt := 1543) (q := 1531) hX dL_law_1528 (by decide) rfl (fun hc => ?_) (fun hc => ?_)
    · rw [if_neg hc] at hf
      refine sp_goto (tgt := 2170) hX dL_law_1543 (by decide) ?_
      cases hf
      refine sp_drop (lv' := [some (.ref b), some (.ref (sx_ad X 0)), some (.ref (sx_ad X 69)), some (.ref (sx_ad X 68)), some (.int i), none, none]) (And.intro rfl (And.intro rfl (And.intro rfl (And.intro rfl (And.intro rfl trivial))))) ?_
      refine sp_wid (a := kc + 4) (b := ks + 24) (by omega) (by omega) ?_
      exact hk
    · rw [if_pos hc] at hf
      refine sp_aload_n (i := 3) (q := 1532) hX dL_law_1531 rfl rfl rfl ?_
      refine sp_iconst (v := 0) (q := 1533) hX dL_law_1532 li_0 rfl ?_
      refine sp_lald (q := 1534) hX arL_68 (by decide) dL_law_1533 rfl ?_
      refine sp_nml (x := sp_gl σ2 68 (0 : Int32)) lg_g68.symm ?_
      refine sp_iload (i := 6) (q := 1536) hX dL_law_1534 rfl rfl ?_
      refine sp_i2l (q := 1537) hX dL_law_1536 rfl ?_
      refine sp_lcmp (q := 1538) hX dL_law_1537 rfl ?_
      refine sp_if_eq (tgt := 1543) (q := 1541) hX dL_law_1538 (by decide) rfl (fun hc => ?_) (fun hc => ?_)
      · rw [if_pos hc] at hf
        refine sp_goto (tgt := 2170) hX dL_law_1543 (by decide) ?_
        cases hf
        refine sp_drop (lv' := [some (.ref b), some (.ref (sx_ad X 0)), some (.ref (sx_ad X 69)), some (.ref (sx_ad X 68)), some (.int i), none, none]) (And.intro rfl (And.intro rfl (And.intro rfl (And.intro rfl (And.intro rfl trivial))))) ?_
        refine sp_wid (a := kc + 4) (b := ks + 24) (by omega) (by omega) ?_
        exact hk
      · rw [if_neg hc] at hf
        refine sp_iconst (v := 0) (q := 1542) hX dL_law_1541 li_0 rfl ?_
        cases hf
  · rw [if_neg hc] at hf
    refine sp_iconst (v := 0) (q := 1525) hX dL_law_1524 li_0 rfl ?_
    cases hf
