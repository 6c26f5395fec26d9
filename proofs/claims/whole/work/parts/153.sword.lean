def rmX11_feedNumber : Room := { frames := 0, cells := 0, slots := 0, locals := 0 }
def X11_feedNumber_43 (n : Nat) (k3 : sp_St → Int32 → Int32 → Option (sp_St)) (σ : sp_St) (z1 : Int32) (z2 : Int32) : Option (sp_St) :=
  sp_pl (z2 + (-8)) fun x1 =>
  k3 σ z1 x1
def X11_feedNumber_3 (n : Nat) : Nat → sp_St → Int32 → Int32 → Option (sp_St)
  | 0, _, _, _ => none
  | f + 1, σ, z1, z2 =>
    if z2 < 0 then
      some σ
    else
      if ((700 : Int32)) ≤ (σ.1 0 1) then
        X11_feedNumber_43 n (X11_feedNumber_3 n f) σ z1 z2
      else
        sp_ck (sp_in (σ.1 0 1) 700) <|
        sp_pl (sp_sa σ 1 (σ.1 0 1).toNatClampNeg (((z1.toUInt32 >>> (z2.toUInt32 &&& Int32.toUInt32 31)).toInt32) &&& ((255 : Int32)))) fun σ2 =>
        sp_pl (sp_si σ2 0 1 ((σ2.1 0 1) + ((1 : Int32)))) fun σ4 =>
        X11_feedNumber_43 n (X11_feedNumber_3 n f) σ4 z1 z2
def X11_feedNumber (n : Nat)  (σ : sp_St) (a1 : Int32) : Option (sp_St) :=
  sp_pl ((24 : Int32)) fun x1 =>
  X11_feedNumber_3 n n σ a1 x1
set_option maxRecDepth 100000 in
set_option maxHeartbeats 4000000 in
theorem hX11_feedNumber_43 {X : sp_X} (hX : sp_OK shX X cX11_feedNumber RX11 3 rmX11_feedNumber) {τ : sp_St} (hR : sp_Rv shX X τ 0 0) {n : Nat}   {k3 : sp_St → Int32 → Int32 → Option (sp_St)} (hk3 : ∀ (σ : sp_St) (z1 : Int32) (z2 : Int32), k3 σ z1 z2 = some τ → sp_GG shX X σ 3 [some (.ref (sx_ad X 0)), some (.int z1), some (.int z2)] [] 3 0 0) {σ : sp_St} {z1 : Int32} {z2 : Int32} (hf : X11_feedNumber_43 n k3 σ z1 z2 = some τ) : sp_GG shX X σ 3 [some (.ref (sx_ad X 0)), some (.int z1), some (.int z2)] [] 43 0 0 := by
  unfold X11_feedNumber_43 at hf
  obtain ⟨x1, e2, hf⟩ := sp_pl_some hf
  refine sp_iinc (i := 2) (v := x1) (lv' := [some (.ref (sx_ad X 0)), some (.int z1), some (.int x1)]) (q := 46) hX dX11_feedNumber_43 rfl (by rw [e2, li_m8]) (Nat.le_of_ble_eq_true rfl) rfl rfl rfl ?_
  refine sp_goto (tgt := 3) hX dX11_feedNumber_46 (by decide) ?_
  exact hk3 σ z1 x1 hf
set_option maxRecDepth 100000 in
set_option maxHeartbeats 4000000 in
theorem hX11_feedNumber_3 {X : sp_X} (hX : sp_OK shX X cX11_feedNumber RX11 3 rmX11_feedNumber) {τ : sp_St} (hR : sp_Rv shX X τ 0 0) {n : Nat}    : ∀ (f : Nat) (σ : sp_St) (z1 : Int32) (z2 : Int32), X11_feedNumber_3 n f σ z1 z2 = some τ → sp_GG shX X σ 3 [some (.ref (sx_ad X 0)), some (.int z1), some (.int z2)] [] 3 0 0 := by
  intro f
  induction f with
  | zero =>
    intro σ z1 z2 hf
    rw [X11_feedNumber_3] at hf
    cases hf
  | succ f ih =>
    intro σ z1 z2 hf
    rw [X11_feedNumber_3] at hf
    refine sp_iload_n (i := 2) (q := 4) hX dX11_feedNumber_3 rfl rfl rfl ?_
    refine sp_if_lt (tgt := 49) (q := 7) hX dX11_feedNumber_4 (by decide) rfl (fun hc => ?_) (fun hc => ?_)
    · rw [if_pos hc] at hf
      exact sp_vret hX hR dX11_feedNumber_49 hf (Nat.le_of_ble_eq_true rfl) (Nat.le_of_ble_eq_true rfl)
    · rw [if_neg hc] at hf
      refine sp_aload_n (i := 0) (q := 8) hX dX11_feedNumber_7 rfl rfl rfl ?_
      refine sp_geti (q := 11) hX flX11_101 fkX11_1 atX_0 dX11_feedNumber_8 rfl ?_
      refine sp_sipush (v := 700) (q := 14) hX dX11_feedNumber_11 ls_700 rfl ?_
      refine sp_icmp_ge (tgt := 43) (q := 17) hX dX11_feedNumber_14 (by decide) rfl (fun hc => ?_) (fun hc => ?_)
      · rw [if_pos hc] at hf
        exact hX11_feedNumber_43 hX hR ih hf
      · rw [if_neg hc] at hf
        refine sp_aload_n (i := 0) (q := 18) hX dX11_feedNumber_17 rfl rfl rfl ?_
        refine sp_gets (t := 1) (q := 21) hX flX11_9 fkX11_0 atX_0 srX_0_0 dX11_feedNumber_18 rfl ?_
        refine sp_aload_n (i := 0) (q := 22) hX dX11_feedNumber_21 rfl rfl rfl ?_
        refine sp_geti (q := 25) hX flX11_101 fkX11_1 atX_0 dX11_feedNumber_22 rfl ?_
        refine sp_iload_n (i := 1) (q := 26) hX dX11_feedNumber_25 rfl rfl rfl ?_
        refine sp_iload_n (i := 2) (q := 27) hX dX11_feedNumber_26 rfl rfl rfl ?_
        refine sp_iushr (q := 28) hX dX11_feedNumber_27 rfl ?_
        refine sp_sipush (v := 255) (q := 31) hX dX11_feedNumber_28 ls_255 rfl ?_
        refine sp_iand (q := 32) hX dX11_feedNumber_31 rfl ?_
        obtain ⟨h1, hf⟩ := sp_ck_some hf
        obtain ⟨σ2, e3, hf⟩ := sp_pl_some hf
        refine sp_iast (q := 33) hX arX_1 h1 dX11_feedNumber_32 rfl ?_
        refine sp_nms e3 ?_
        refine sp_aload_n (i := 0) (q := 34) hX dX11_feedNumber_33 rfl rfl rfl ?_
        refine sp_dup (q := 35) hX dX11_feedNumber_34 rfl rfl ?_
        refine sp_geti (q := 38) hX flX11_101 fkX11_1 atX_0 dX11_feedNumber_35 rfl ?_
        refine sp_iconst (v := 1) (q := 39) hX dX11_feedNumber_38 li_1 rfl ?_
        refine sp_iadd (q := 40) hX dX11_feedNumber_39 rfl ?_
        obtain ⟨σ4, e5, hf⟩ := sp_pl_some hf
        refine sp_puti (q := 43) hX fpX11_101 fkX11_1 atX_0 dX11_feedNumber_40 rfl ?_
        refine sp_nms e5 ?_
        exact hX11_feedNumber_43 hX hR ih hf
set_option maxRecDepth 100000 in
set_option maxHeartbeats 4000000 in
theorem hX11_feedNumber {X : sp_X} (hX : sp_OK shX X cX11_feedNumber RX11 3 rmX11_feedNumber) {τ : sp_St} (hR : sp_Rv shX X τ 0 0) {n : Nat}  {σ : sp_St} {a1 : Int32}  (hf : X11_feedNumber n σ a1 = some τ) : sp_GG shX X σ 3 [some (.ref (sx_ad X 0)), some (.int a1), none] [] 0 0 0 := by
  unfold X11_feedNumber at hf
  refine sp_bipush (v := 24) (q := 2) hX dX11_feedNumber_0 lb_24 rfl ?_
  obtain ⟨x1, e2, hf⟩ := sp_pl_some hf
  refine sp_nmi e2 ?_
  refine sp_istore_n (i := 2) (lv' := [some (.ref (sx_ad X 0)), some (.int a1), some (.int x1)]) (q := 3) hX dX11_feedNumber_2 rfl (Nat.le_of_ble_eq_true rfl) rfl rfl rfl ?_
  exact hX11_feedNumber_3 hX hR n σ a1 x1 hf
set_option maxRecDepth 100000 in
set_option maxHeartbeats 4000000 in
theorem cnX11_feedNumber {l : Launch} (hst : l.stackTraces = false) {w : sp_Wd} {n : Nat}  {σ : sp_St} {a1 : Int32} {τ : sp_St}  (hf : X11_feedNumber n σ a1 = some τ) : sp_Cv shX l w yX11_feedNumber cX11_feedNumber 3 rmX11_feedNumber 0 0 σ [.ref (w.2.1 0), .int a1] τ :=
  sp_cv (own := RX11) (by decide) rfl hst (Nat.le_of_ble_eq_true rfl) rfl (fun X hX hw hl hR => by subst hw; subst hl; exact hX11_feedNumber hX hR   hf)
def rmX11_city : Room := { frames := 114, cells := 1, slots := 6, locals := 5288 }
def X11_city_12 (n : Nat) (σ : sp_St) : Option (sp_St × (Int32 ⊕ Nat)) :=
  some (σ, Sum.inr 2)
def X11_city (n : Nat)  (σ : sp_St) (a1 : Int32) : Option (sp_St × (Int32 ⊕ Nat)) :=
  if a1 < 0 then
    X11_city_12 n σ
  else
    if a1 ≤ (σ.1 0 1) then
      sp_pl (σ.2.1 0 4) fun c1 =>
      sp_ck (sp_isc c1) <|
      sp_bd (X7_tell n σ a1 c1) fun σ5 v6 =>
      sp_pl (sp_si σ5 0 1 ((0 : Int32))) fun σ7 =>
      if v6 = 0 then
        sp_pl (sp_si σ7 0 2 ((-1 : Int32))) fun σ9 =>
        sp_pl (σ9.2.1 0 4) fun c11 =>
        sp_ck (sp_isc c11) <|
        sp_pl (σ9.2.1 0 3) fun c14 =>
        sp_ck (sp_isc c14) <|
        sp_pl (sp_sr σ9 0 4 c14) fun σ17 =>
        sp_pl (sp_sr σ17 0 3 c11) fun σ19 =>
        sp_bv (X1_begin n σ19 22 c11) fun σ22 =>
        sp_pl (sp_si σ22 0 8 ((0 : Int32))) fun σ23 =>
        some (σ23, Sum.inl ((0 : Int32)))
      else
        sp_pl (sp_si σ7 0 2 (σ7.1 21 4)) fun σ25 =>
        sp_pl (sp_sa σ25 34 ((0 : Int32)).toNatClampNeg ((sp_g σ25 34 ((0 : Int32))) + ((1 : Int32)))) fun σ27 =>
        some (σ27, Sum.inl v6)
    else
      X11_city_12 n σ
set_option maxRecDepth 100000 in
set_option maxHeartbeats 4000000 in
theorem hX11_city_12 {X : sp_X} (hX : sp_OK shX X cX11_city RX11 4 rmX11_city) {τ : sp_St} {ρ : Int32 ⊕ Nat} (hR : sp_RXi shX X (some .int) τ ρ 1 6) {n : Nat}    {σ : sp_St} (hf : X11_city_12 n σ = some (τ, ρ)) : sp_GG shX X σ 4 [none, none, none, none] [] 12 0 0 := by
  unfold X11_city_12 at hf
  exact sp_thrI hX (by decide) hR hf thX11_110_1 thX11_110_2 thX11_110_3 thX11_110_4 thX11_110_5 thX11_110_6 dX11_city_12 dX11_city_15 dX11_city_16 dX11_city_19 (Nat.le_of_ble_eq_true rfl) (Nat.le_of_ble_eq_true rfl) (Nat.le_of_ble_eq_true rfl) (Nat.le_of_ble_eq_true rfl) (Nat.le_of_ble_eq_true rfl) (Nat.le_of_ble_eq_true rfl)
set_option maxRecDepth 100000 in
set_option maxHeartbeats 4000000 in
theorem hX11_city {X : sp_X} (hX : sp_OK shX X cX11_city RX11 4 rmX11_city) {τ : sp_St} {ρ : Int32 ⊕ Nat} (hR : sp_RXi shX X (some .int) τ ρ 1 6) {n : Nat}  {σ : sp_St} {a1 : Int32}  (hf : X11_city n σ a1 = some (τ, ρ)) : sp_GG shX X σ 4 [some (.ref (sx_ad X 0)), some (.int a1), none, none] [] 0 0 0 := by
  unfold X11_city at hf
  refine sp_iload_n (i := 1) (q := 1) hX dX11_city_0 rfl rfl rfl ?_
  refine sp_if_lt (tgt := 12) (q := 4) hX dX11_city_1 (by decide) rfl (fun hc => ?_) (fun hc => ?_)
  · rw [if_pos hc] at hf
    refine sp_drop (lv' := [none, none, none, none]) trivial ?_
    exact hX11_city_12 hX hR hf
  · rw [if_neg hc] at hf
    refine sp_iload_n (i := 1) (q := 5) hX dX11_city_4 rfl rfl rfl ?_
    refine sp_aload_n (i := 0) (q := 6) hX dX11_city_5 rfl rfl rfl ?_
    refine sp_geti (q := 9) hX flX11_101 fkX11_1 atX_0 dX11_city_6 rfl ?_
    refine sp_icmp_le (tgt := 20) (q := 12) hX dX11_city_9 (by decide) rfl (fun hc => ?_) (fun hc => ?_)
    · rw [if_pos hc] at hf
      refine sp_aload_n (i := 0) (q := 21) hX dX11_city_20 rfl rfl rfl ?_
      refine sp_gets (t := 21) (q := 24) hX flX11_37 fkX11_5 atX_0 srX_0_5 dX11_city_21 rfl ?_
      refine sp_iload_n (i := 1) (q := 25) hX dX11_city_24 rfl rfl rfl ?_
      refine sp_aload_n (i := 0) (q := 26) hX dX11_city_25 rfl rfl rfl ?_
      obtain ⟨c1, e3, hf⟩ := sp_pl_some hf
      obtain ⟨h2, hf⟩ := sp_ck_some hf
      refine sp_getr (q := 29) hX flX11_24 fkX11_4 atX_0 dX11_city_26 rfl ?_
      refine sp_nmr e3 ?_
      obtain ⟨σ5, v6, h4, hf⟩ := sp_bd_so hf
      refine sp_callVi (As := [.int a1, .ref (sx_ad X c1)]) (rest := []) (q := 32) hX (cnX7_tell (sp_st hX) (sp_isc_at h2) h4) cwX11_111 atX_21 rfl rfl rfl rfl rfl (Nat.le_of_ble_eq_true rfl) (Nat.le_of_ble_eq_true rfl) (Nat.le_of_ble_eq_true rfl) (Nat.le_of_ble_eq_true rfl) (Nat.le_of_ble_eq_true rfl) dX11_city_29 rfl ?_
      refine sp_istore_n (i := 2) (lv' := [some (.ref (sx_ad X 0)), some (.int a1), some (.int v6), none]) (q := 33) hX dX11_city_32 rfl (Nat.le_of_ble_eq_true rfl) rfl rfl rfl ?_
      refine sp_aload_n (i := 0) (q := 34) hX dX11_city_33 rfl rfl rfl ?_
      refine sp_iconst (v := 0) (q := 35) hX dX11_city_34 li_0 rfl ?_
      obtain ⟨σ7, e8, hf⟩ := sp_pl_some hf
      refine sp_puti (q := 38) hX fpX11_101 fkX11_1 atX_0 dX11_city_35 rfl ?_
      refine sp_nms e8 ?_
      refine sp_iload_n (i := 2) (q := 39) hX dX11_city_38 rfl rfl rfl ?_
      refine sp_if_eq (tgt := 68) (q := 42) hX dX11_city_39 (by decide) rfl (fun hc => ?_) (fun hc => ?_)
      · rw [if_pos hc] at hf
        refine sp_aload_n (i := 0) (q := 69) hX dX11_city_68 rfl rfl rfl ?_
        refine sp_iconst (v := -1) (q := 70) hX dX11_city_69 li_m1 rfl ?_
        obtain ⟨σ9, e10, hf⟩ := sp_pl_some hf
        refine sp_puti (q := 73) hX fpX11_13 fkX11_2 atX_0 dX11_city_70 rfl ?_
        refine sp_nms e10 ?_
        refine sp_aload_n (i := 0) (q := 74) hX dX11_city_73 rfl rfl rfl ?_
        obtain ⟨c11, e13, hf⟩ := sp_pl_some hf
        obtain ⟨h12, hf⟩ := sp_ck_some hf
        refine sp_getr (q := 77) hX flX11_24 fkX11_4 atX_0 dX11_city_74 rfl ?_
        refine sp_nmr e13 ?_
        refine sp_astore_n (i := 3) (lv' := [some (.ref (sx_ad X 0)), some (.int a1), some (.int v6), some (.ref (sx_ad X c11))]) (q := 78) hX dX11_city_77 rfl (Nat.le_of_ble_eq_true rfl) rfl rfl rfl ?_
        refine sp_aload_n (i := 0) (q := 79) hX dX11_city_78 rfl rfl rfl ?_
        refine sp_aload_n (i := 0) (q := 80) hX dX11_city_79 rfl rfl rfl ?_
        obtain ⟨c14, e16, hf⟩ := sp_pl_some hf
        obtain ⟨h15, hf⟩ := sp_ck_some hf
        refine sp_getr (q := 83) hX flX11_20 fkX11_3 atX_0 dX11_city_80 rfl ?_
        refine sp_nmr e16 ?_
        obtain ⟨σ17, e18, hf⟩ := sp_pl_some hf
        refine sp_putr (q := 86) hX fpX11_24 fkX11_4 atX_0 (fun _ => rfl) (fun _ => rfl) dX11_city_83 rfl ?_
        refine sp_nms e18 ?_
        refine sp_aload_n (i := 0) (q := 87) hX dX11_city_86 rfl rfl rfl ?_
        refine sp_aload_n (i := 3) (q := 88) hX dX11_city_87 rfl rfl rfl ?_
        obtain ⟨σ19, e20, hf⟩ := sp_pl_some hf
        refine sp_putr (q := 91) hX fpX11_20 fkX11_3 atX_0 (fun _ => rfl) (fun _ => rfl) dX11_city_88 rfl ?_
        refine sp_nms e20 ?_
        refine sp_aload_n (i := 0) (q := 92) hX dX11_city_91 rfl rfl rfl ?_
        refine sp_gets (t := 22) (q := 95) hX flX11_46 fkX11_6 atX_0 srX_0_6 dX11_city_92 rfl ?_
        refine sp_aload_n (i := 3) (q := 96) hX dX11_city_95 rfl rfl rfl ?_
        obtain ⟨σ22, h21, hf⟩ := sp_bv_so hf
        refine sp_callVv (As := [.ref (sx_ad X c11)]) (rest := []) (q := 99) hX (cnX1_begin (sp_st hX) atX_22 (sp_isc_at h12) h21) cwX11_121 atX_22 rfl rfl rfl rfl rfl (Nat.le_of_ble_eq_true rfl) (Nat.le_of_ble_eq_true rfl) (Nat.le_of_ble_eq_true rfl) (Nat.le_of_ble_eq_true rfl) (Nat.le_of_ble_eq_true rfl) dX11_city_96 rfl ?_
        refine sp_aload_n (i := 0) (q := 100) hX dX11_city_99 rfl rfl rfl ?_
        refine sp_iconst (v := 0) (q := 101) hX dX11_city_100 li_0 rfl ?_
        obtain ⟨σ23, e24, hf⟩ := sp_pl_some hf
        refine sp_putz (q := 104) hX fpX11_124 fkX11_8 atX_0 (by decide) dX11_city_101 rfl ?_
        refine sp_nms e24 ?_
        refine sp_iconst (v := 0) (q := 105) hX dX11_city_104 li_0 rfl ?_
        exact sp_iretX hX hR dX11_city_105 hf (Nat.le_of_ble_eq_true rfl) (Nat.le_of_ble_eq_true rfl)
      · rw [if_neg hc] at hf
        refine sp_aload_n (i := 0) (q := 43) hX dX11_city_42 rfl rfl rfl ?_
        refine sp_aload_n (i := 0) (q := 44) hX dX11_city_43 rfl rfl rfl ?_
        refine sp_gets (t := 21) (q := 47) hX flX11_37 fkX11_5 atX_0 srX_0_5 dX11_city_44 rfl ?_
        refine sp_geti (q := 50) hX flX11_115 fkX7_4 atX_21 dX11_city_47 rfl ?_
        obtain ⟨σ25, e26, hf⟩ := sp_pl_some hf
        refine sp_puti (q := 53) hX fpX11_13 fkX11_2 atX_0 dX11_city_50 rfl ?_
        refine sp_nms e26 ?_
        refine sp_aload_n (i := 0) (q := 54) hX dX11_city_53 rfl rfl rfl ?_
        refine sp_gets (t := 22) (q := 57) hX flX11_46 fkX11_6 atX_0 srX_0_6 dX11_city_54 rfl ?_
        refine sp_gets (t := 34) (q := 60) hX flX11_118 fkX1_2 atX_22 srX_22_2 dX11_city_57 rfl ?_
        refine sp_iconst (v := 0) (q := 61) hX dX11_city_60 li_0 rfl ?_
        refine sp_dup2 (q := 62) hX dX11_city_61 rfl rfl rfl ?_
        refine sp_iald (q := 63) hX arX_34 (by decide) dX11_city_62 rfl ?_
        refine sp_iconst (v := 1) (q := 64) hX dX11_city_63 li_1 rfl ?_
        refine sp_iadd (q := 65) hX dX11_city_64 rfl ?_
        obtain ⟨σ27, e28, hf⟩ := sp_pl_some hf
        refine sp_iast (q := 66) hX arX_34 (by decide) dX11_city_65 rfl ?_
        refine sp_nms e28 ?_
        refine sp_iload_n (i := 2) (q := 67) hX dX11_city_66 rfl rfl rfl ?_
        exact sp_iretX hX hR dX11_city_67 hf (Nat.le_of_ble_eq_true rfl) (Nat.le_of_ble_eq_true rfl)
    · rw [if_neg hc] at hf
      refine sp_drop (lv' := [none, none, none, none]) trivial ?_
      exact hX11_city_12 hX hR hf
set_option maxRecDepth 100000 in
set_option maxHeartbeats 4000000 in
theorem cnX11_city {l : Launch} (hst : l.stackTraces = false) {w : sp_Wd} {n : Nat}  {σ : sp_St} {a1 : Int32} {τ : sp_St} {ρ : Int32 ⊕ Nat}  (hf : X11_city n σ a1 = some (τ, ρ)) : sp_Xi shX l w yX11_city cX11_city 4 (some .int) rmX11_city 1 6 σ [.ref (w.2.1 0), .int a1] τ ρ :=
  sp_xi (own := RX11) (by decide) rfl hst (Nat.le_of_ble_eq_true rfl) rfl (fun X hX hw hl hR => by subst hw; subst hl; exact hX11_city hX hR   hf)
def rmX11_fault : Room := { frames := 0, cells := 0, slots := 0, locals := 0 }
def X11_fault (n : Nat)  (σ : sp_St)  : Option (sp_St × Int32) :=
  some (σ, σ.1 0 2)
set_option maxRecDepth 100000 in
set_option maxHeartbeats 4000000 in
theorem hX11_fault {X : sp_X} (hX : sp_OK shX X cX11_fault RX11 1 rmX11_fault) {τ : sp_St} {r : Int32} (hR : sp_Ri shX X (some .int) τ r 0 0) {n : Nat}  {σ : sp_St}   (hf : X11_fault n σ = some (τ, r)) : sp_GG shX X σ 1 [some (.ref (sx_ad X 0))] [] 0 0 0 := by
  unfold X11_fault at hf
  refine sp_aload_n (i := 0) (q := 1) hX dX11_fault_0 rfl rfl rfl ?_
  refine sp_geti (q := 4) hX flX11_13 fkX11_2 atX_0 dX11_fault_1 rfl ?_
  exact sp_iret hX hR dX11_fault_4 hf (Nat.le_of_ble_eq_true rfl) (Nat.le_of_ble_eq_true rfl)
set_option maxRecDepth 100000 in
set_option maxHeartbeats 4000000 in
theorem cnX11_fault {l : Launch} (hst : l.stackTraces = false) {w : sp_Wd} {n : Nat}  {σ : sp_St}  {τ : sp_St} {r : Int32}  (hf : X11_fault n σ = some (τ, r)) : sp_Ci shX l w yX11_fault cX11_fault 1 (some .int) rmX11_fault 0 0 σ [.ref (w.2.1 0)] τ r :=
  sp_ci (own := RX11) (by decide) rfl hst (Nat.le_of_ble_eq_true rfl) rfl (fun X hX hw hl hR => by subst hw; subst hl; exact hX11_fault hX hR   hf)
def rmX11_count : Room := { frames := 6, cells := 1, slots := 6, locals := 100 }
def X11_count (n : Nat)  (σ : sp_St) (a1 : Int32) : Option (sp_St × (Int32 ⊕ Nat)) :=
  if a1 = 0 then
    sp_bd (X6_howMany n σ) fun σ2 v3 =>
    some (σ2, Sum.inl v3)
  else
    if a1 = 1 then
      sp_pl (σ.2.1 0 3) fun c5 =>
      sp_ck (sp_isc c5) <|
      some (σ, Sum.inl (σ.1 c5 14))
    else
      if a1 = 2 then
        sp_pl (σ.2.1 0 3) fun c9 =>
        sp_ck (sp_isc c9) <|
        some (σ, Sum.inl (σ.1 c9 13))
      else
        if a1 = 3 then
          sp_pl (σ.2.1 0 3) fun c13 =>
          sp_ck (sp_isc c13) <|
          some (σ, Sum.inl (σ.1 c13 16))
        else
          if a1 = 4 then
            some (σ, Sum.inl (sp_g σ 24 ((47 : Int32))))
          else
            if a1 = 5 then
              sp_bd (X8_bladesOut n σ 23) fun σ19 v20 =>
              some (σ19, Sum.inl v20)
            else
              if a1 = 6 then
                sp_bd (X8_bladesIn n σ 23) fun σ23 v24 =>
                some (σ23, Sum.inl v24)
              else
                if a1 = 7 then
                  sp_bd (X8_bladesAtRest n σ 23) fun σ27 v28 =>
                  some (σ27, Sum.inl v28)
                else
                  if a1 = 8 then
                    some (σ, Sum.inl (sp_g σ 24 ((48 : Int32))))
                  else
                    if a1 = 9 then
                      some (σ, Sum.inl (σ.1 22 5))
                    else
                      if a1 = 10 then
                        some (σ, Sum.inl (σ.1 30 3))
                      else
                        if a1 = 11 then
                          some (σ, Sum.inl (σ.1 0 1))
                        else
                          if a1 = 12 then
                            some (σ, Sum.inl (sp_g σ 34 ((0 : Int32))))
                          else
                            if a1 = 13 then
                              some (σ, Sum.inl (sp_g σ 34 ((1 : Int32))))
                            else
                              if a1 = 14 then
                                some (σ, Sum.inl (sp_g σ 34 ((2 : Int32))))
                              else
                                some (σ, Sum.inr 1)
set_option maxRecDepth 100000 in
set_option maxHeartbeats 4000000 in
theorem hX11_count {X : sp_X} (hX : sp_OK shX X cX11_count RX11 2 rmX11_count) {τ : sp_St} {ρ : Int32 ⊕ Nat} (hR : sp_RXi shX X (some .int) τ ρ 1 6) {n : Nat}  {σ : sp_St} {a1 : Int32}  (hf : X11_count n σ a1 = some (τ, ρ)) : sp_GG shX X σ 2 [some (.ref (sx_ad X 0)), some (.int a1)] [] 0 0 0 := by
  unfold X11_count at hf
  refine sp_iload_n (i := 1) (q := 1) hX dX11_count_0 rfl rfl rfl ?_
  by_cases h4 : a1 = 0
  · rw [if_pos h4] at hf
    refine sp_tblIn (off := 75) (tgt := 76) hX dX11_count_1 (by rw [h4]; decide) (by rw [h4]; decide) (by rw [h4]; decide +kernel) (by decide) ?_
    refine sp_aload_n (i := 0) (q := 77) hX dX11_count_76 rfl rfl rfl ?_
    refine sp_gets (t := 66) (q := 80) hX flX11_97 fkX11_12 atX_0 srX_0_12 dX11_count_77 rfl ?_
    obtain ⟨σ2, v3, h1, hf⟩ := sp_bd_so hf
    refine sp_callVi (As := []) (rest := []) (q := 83) hX (cnX6_howMany (sp_st hX)  h1) cwX11_128 atX_66 rfl rfl rfl rfl rfl (Nat.le_of_ble_eq_true rfl) (Nat.le_of_ble_eq_true rfl) (Nat.le_of_ble_eq_true rfl) (Nat.le_of_ble_eq_true rfl) (Nat.le_of_ble_eq_true rfl) dX11_count_80 rfl ?_
    exact sp_iretX hX hR dX11_count_83 hf (Nat.le_of_ble_eq_true rfl) (Nat.le_of_ble_eq_true rfl)
  · rw [if_neg h4] at hf
    by_cases h8 : a1 = 1
    · rw [if_pos h8] at hf
      refine sp_tblIn (off := 83) (tgt := 84) hX dX11_count_1 (by rw [h8]; decide) (by rw [h8]; decide) (by rw [h8]; decide +kernel) (by decide) ?_
      refine sp_aload_n (i := 0) (q := 85) hX dX11_count_84 rfl rfl rfl ?_
      obtain ⟨c5, e7, hf⟩ := sp_pl_some hf
      obtain ⟨h6, hf⟩ := sp_ck_some hf
      refine sp_getr (q := 88) hX flX11_20 fkX11_3 atX_0 dX11_count_85 rfl ?_
      refine sp_nmr e7 ?_
      refine sp_geti (q := 91) hX flX11_132 fkX2_14 (sp_isc_at h6) dX11_count_88 rfl ?_
      exact sp_iretX hX hR dX11_count_91 hf (Nat.le_of_ble_eq_true rfl) (Nat.le_of_ble_eq_true rfl)
    · rw [if_neg h8] at hf
      by_cases h12 : a1 = 2
      · rw [if_pos h12] at hf
        refine sp_tblIn (off := 91) (tgt := 92) hX dX11_count_1 (by rw [h12]; decide) (by rw [h12]; decide) (by rw [h12]; decide +kernel) (by decide) ?_
        refine sp_aload_n (i := 0) (q := 93) hX dX11_count_92 rfl rfl rfl ?_
        obtain ⟨c9, e11, hf⟩ := sp_pl_some hf
        obtain ⟨h10, hf⟩ := sp_ck_some hf
        refine sp_getr (q := 96) hX flX11_20 fkX11_3 atX_0 dX11_count_93 rfl ?_
        refine sp_nmr e11 ?_
        refine sp_geti (q := 99) hX flX11_135 fkX2_13 (sp_isc_at h10) dX11_count_96 rfl ?_
        exact sp_iretX hX hR dX11_count_99 hf (Nat.le_of_ble_eq_true rfl) (Nat.le_of_ble_eq_true rfl)
      · rw [if_neg h12] at hf
        by_cases h16 : a1 = 3
        · rw [if_pos h16] at hf
          refine sp_tblIn (off := 99) (tgt := 100) hX dX11_count_1 (by rw [h16]; decide) (by rw [h16]; decide) (by rw [h16]; decide +kernel) (by decide) ?_
          refine sp_aload_n (i := 0) (q := 101) hX dX11_count_100 rfl rfl rfl ?_
          obtain ⟨c13, e15, hf⟩ := sp_pl_some hf
          obtain ⟨h14, hf⟩ := sp_ck_some hf
          refine sp_getr (q := 104) hX flX11_20 fkX11_3 atX_0 dX11_count_101 rfl ?_
          refine sp_nmr e15 ?_
          refine sp_geti (q := 107) hX flX11_138 fkX2_16 (sp_isc_at h14) dX11_count_104 rfl ?_
          exact sp_iretX hX hR dX11_count_107 hf (Nat.le_of_ble_eq_true rfl) (Nat.le_of_ble_eq_true rfl)
        · rw [if_neg h16] at hf
          by_cases h17 : a1 = 4
          · rw [if_pos h17] at hf
            refine sp_tblIn (off := 107) (tgt := 108) hX dX11_count_1 (by rw [h17]; decide) (by rw [h17]; decide) (by rw [h17]; decide +kernel) (by decide) ?_
            refine sp_aload_n (i := 0) (q := 109) hX dX11_count_108 rfl rfl rfl ?_
            refine sp_gets (t := 22) (q := 112) hX flX11_46 fkX11_6 atX_0 srX_0_6 dX11_count_109 rfl ?_
            refine sp_gets (t := 23) (q := 115) hX flX11_58 fkX1_0 atX_22 srX_22_0 dX11_count_112 rfl ?_
            refine sp_gets (t := 24) (q := 118) hX flX11_93 fkX8_1 atX_23 srX_23_1 dX11_count_115 rfl ?_
            refine sp_bipush (v := 47) (q := 120) hX dX11_count_118 lb_47 rfl ?_
            refine sp_iald (q := 121) hX arX_24 (by decide) dX11_count_120 rfl ?_
            exact sp_iretX hX hR dX11_count_121 hf (Nat.le_of_ble_eq_true rfl) (Nat.le_of_ble_eq_true rfl)
          · rw [if_neg h17] at hf
            by_cases h21 : a1 = 5
            · rw [if_pos h21] at hf
              refine sp_tblIn (off := 121) (tgt := 122) hX dX11_count_1 (by rw [h21]; decide) (by rw [h21]; decide) (by rw [h21]; decide +kernel) (by decide) ?_
              refine sp_aload_n (i := 0) (q := 123) hX dX11_count_122 rfl rfl rfl ?_
              refine sp_gets (t := 22) (q := 126) hX flX11_46 fkX11_6 atX_0 srX_0_6 dX11_count_123 rfl ?_
              refine sp_gets (t := 23) (q := 129) hX flX11_58 fkX1_0 atX_22 srX_22_0 dX11_count_126 rfl ?_
              obtain ⟨σ19, v20, h18, hf⟩ := sp_bd_so hf
              refine sp_callVi (As := []) (rest := []) (q := 132) hX (cnX8_bladesOut (sp_st hX) atX_23 h18) cwX11_141 atX_23 rfl rfl rfl rfl rfl (Nat.le_of_ble_eq_true rfl) (Nat.le_of_ble_eq_true rfl) (Nat.le_of_ble_eq_true rfl) (Nat.le_of_ble_eq_true rfl) (Nat.le_of_ble_eq_true rfl) dX11_count_129 rfl ?_
              exact sp_iretX hX hR dX11_count_132 hf (Nat.le_of_ble_eq_true rfl) (Nat.le_of_ble_eq_true rfl)
            · rw [if_neg h21] at hf
              by_cases h25 : a1 = 6
              · rw [if_pos h25] at hf
                refine sp_tblIn (off := 132) (tgt := 133) hX dX11_count_1 (by rw [h25]; decide) (by rw [h25]; decide) (by rw [h25]; decide +kernel) (by decide) ?_
                refine sp_aload_n (i := 0) (q := 134) hX dX11_count_133 rfl rfl rfl ?_
                refine sp_gets (t := 22) (q := 137) hX flX11_46 fkX11_6 atX_0 srX_0_6 dX11_count_134 rfl ?_
                refine sp_gets (t := 23) (q := 140) hX flX11_58 fkX1_0 atX_22 srX_22_0 dX11_count_137 rfl ?_
                obtain ⟨σ23, v24, h22, hf⟩ := sp_bd_so hf
                refine sp_callVi (As := []) (rest := []) (q := 143) hX (cnX8_bladesIn (sp_st hX) atX_23 h22) cwX11_144 atX_23 rfl rfl rfl rfl rfl (Nat.le_of_ble_eq_true rfl) (Nat.le_of_ble_eq_true rfl) (Nat.le_of_ble_eq_true rfl) (Nat.le_of_ble_eq_true rfl) (Nat.le_of_ble_eq_true rfl) dX11_count_140 rfl ?_
                exact sp_iretX hX hR dX11_count_143 hf (Nat.le_of_ble_eq_true rfl) (Nat.le_of_ble_eq_true rfl)
              · rw [if_neg h25] at hf
                by_cases h29 : a1 = 7
                · rw [if_pos h29] at hf
                  refine sp_tblIn (off := 143) (tgt := 144) hX dX11_count_1 (by rw [h29]; decide) (by rw [h29]; decide) (by rw [h29]; decide +kernel) (by decide) ?_
                  refine sp_aload_n (i := 0) (q := 145) hX dX11_count_144 rfl rfl rfl ?_
                  refine sp_gets (t := 22) (q := 148) hX flX11_46 fkX11_6 atX_0 srX_0_6 dX11_count_145 rfl ?_
                  refine sp_gets (t := 23) (q := 151) hX flX11_58 fkX1_0 atX_22 srX_22_0 dX11_count_148 rfl ?_
                  obtain ⟨σ27, v28, h26, hf⟩ := sp_bd_so hf
                  refine sp_callVi (As := []) (rest := []) (q := 154) hX (cnX8_bladesAtRest (sp_st hX) atX_23 h26) cwX11_147 atX_23 rfl rfl rfl rfl rfl (Nat.le_of_ble_eq_true rfl) (Nat.le_of_ble_eq_true rfl) (Nat.le_of_ble_eq_true rfl) (Nat.le_of_ble_eq_true rfl) (Nat.le_of_ble_eq_true rfl) dX11_count_151 rfl ?_
                  exact sp_iretX hX hR dX11_count_154 hf (Nat.le_of_ble_eq_true rfl) (Nat.le_of_ble_eq_true rfl)
                · rw [if_neg h29] at hf
                  by_cases h30 : a1 = 8
                  · rw [if_pos h30] at hf
                    refine sp_tblIn (off := 154) (tgt := 155) hX dX11_count_1 (by rw [h30]; decide) (by rw [h30]; decide) (by rw [h30]; decide +kernel) (by decide) ?_
                    refine sp_aload_n (i := 0) (q := 156) hX dX11_count_155 rfl rfl rfl ?_
                    refine sp_gets (t := 22) (q := 159) hX flX11_46 fkX11_6 atX_0 srX_0_6 dX11_count_156 rfl ?_
                    refine sp_gets (t := 23) (q := 162) hX flX11_58 fkX1_0 atX_22 srX_22_0 dX11_count_159 rfl ?_
                    refine sp_gets (t := 24) (q := 165) hX flX11_93 fkX8_1 atX_23 srX_23_1 dX11_count_162 rfl ?_
                    refine sp_bipush (v := 48) (q := 167) hX dX11_count_165 lb_48 rfl ?_
                    refine sp_iald (q := 168) hX arX_24 (by decide) dX11_count_167 rfl ?_
                    exact sp_iretX hX hR dX11_count_168 hf (Nat.le_of_ble_eq_true rfl) (Nat.le_of_ble_eq_true rfl)
                  · rw [if_neg h30] at hf
                    by_cases h31 : a1 = 9
                    · rw [if_pos h31] at hf
                      refine sp_tblIn (off := 168) (tgt := 169) hX dX11_count_1 (by rw [h31]; decide) (by rw [h31]; decide) (by rw [h31]; decide +kernel) (by decide) ?_
                      refine sp_aload_n (i := 0) (q := 170) hX dX11_count_169 rfl rfl rfl ?_
                      refine sp_gets (t := 22) (q := 173) hX flX11_46 fkX11_6 atX_0 srX_0_6 dX11_count_170 rfl ?_
                      refine sp_geti (q := 176) hX flX11_150 fkX1_5 atX_22 dX11_count_173 rfl ?_
                      exact sp_iretX hX hR dX11_count_176 hf (Nat.le_of_ble_eq_true rfl) (Nat.le_of_ble_eq_true rfl)
                    · rw [if_neg h31] at hf
                      by_cases h32 : a1 = 10
                      · rw [if_pos h32] at hf
                        refine sp_tblIn (off := 176) (tgt := 177) hX dX11_count_1 (by rw [h32]; decide) (by rw [h32]; decide) (by rw [h32]; decide +kernel) (by decide) ?_
                        refine sp_aload_n (i := 0) (q := 178) hX dX11_count_177 rfl rfl rfl ?_
                        refine sp_gets (t := 22) (q := 181) hX flX11_46 fkX11_6 atX_0 srX_0_6 dX11_count_178 rfl ?_
                        refine sp_gets (t := 30) (q := 184) hX flX11_80 fkX1_1 atX_22 srX_22_1 dX11_count_181 rfl ?_
                        refine sp_geti (q := 187) hX flX11_153 fkX9_3 atX_30 dX11_count_184 rfl ?_
                        exact sp_iretX hX hR dX11_count_187 hf (Nat.le_of_ble_eq_true rfl) (Nat.le_of_ble_eq_true rfl)
                      · rw [if_neg h32] at hf
                        by_cases h33 : a1 = 11
                        · rw [if_pos h33] at hf
                          refine sp_tblIn (off := 187) (tgt := 188) hX dX11_count_1 (by rw [h33]; decide) (by rw [h33]; decide) (by rw [h33]; decide +kernel) (by decide) ?_
                          refine sp_aload_n (i := 0) (q := 189) hX dX11_count_188 rfl rfl rfl ?_
                          refine sp_geti (q := 192) hX flX11_101 fkX11_1 atX_0 dX11_count_189 rfl ?_
                          exact sp_iretX hX hR dX11_count_192 hf (Nat.le_of_ble_eq_true rfl) (Nat.le_of_ble_eq_true rfl)
                        · rw [if_neg h33] at hf
                          by_cases h34 : a1 = 12
                          · rw [if_pos h34] at hf
                            refine sp_tblIn (off := 192) (tgt := 193) hX dX11_count_1 (by rw [h34]; decide) (by rw [h34]; decide) (by rw [h34]; decide +kernel) (by decide) ?_
                            refine sp_aload_n (i := 0) (q := 194) hX dX11_count_193 rfl rfl rfl ?_
                            refine sp_gets (t := 22) (q := 197) hX flX11_46 fkX11_6 atX_0 srX_0_6 dX11_count_194 rfl ?_
                            refine sp_gets (t := 34) (q := 200) hX flX11_118 fkX1_2 atX_22 srX_22_2 dX11_count_197 rfl ?_
                            refine sp_iconst (v := 0) (q := 201) hX dX11_count_200 li_0 rfl ?_
                            refine sp_iald (q := 202) hX arX_34 (by decide) dX11_count_201 rfl ?_
                            exact sp_iretX hX hR dX11_count_202 hf (Nat.le_of_ble_eq_true rfl) (Nat.le_of_ble_eq_true rfl)
                          · rw [if_neg h34] at hf
                            by_cases h35 : a1 = 13
                            · rw [if_pos h35] at hf
                              refine sp_tblIn (off := 202) (tgt := 203) hX dX11_count_1 (by rw [h35]; decide) (by rw [h35]; decide) (by rw [h35]; decide +kernel) (by decide) ?_
                              refine sp_aload_n (i := 0) (q := 204) hX dX11_count_203 rfl rfl rfl ?_
                              refine sp_gets (t := 22) (q := 207) hX flX11_46 fkX11_6 atX_0 srX_0_6 dX11_count_204 rfl ?_
                              refine sp_gets (t := 34) (q := 210) hX flX11_118 fkX1_2 atX_22 srX_22_2 dX11_count_207 rfl ?_
                              refine sp_iconst (v := 1) (q := 211) hX dX11_count_210 li_1 rfl ?_
                              refine sp_iald (q := 212) hX arX_34 (by decide) dX11_count_211 rfl ?_
                              exact sp_iretX hX hR dX11_count_212 hf (Nat.le_of_ble_eq_true rfl) (Nat.le_of_ble_eq_true rfl)
                            · rw [if_neg h35] at hf
                              by_cases h36 : a1 = 14
                              · rw [if_pos h36] at hf
                                refine sp_tblIn (off := 212) (tgt := 213) hX dX11_count_1 (by rw [h36]; decide) (by rw [h36]; decide) (by rw [h36]; decide +kernel) (by decide) ?_
                                refine sp_aload_n (i := 0) (q := 214) hX dX11_count_213 rfl rfl rfl ?_
                                refine sp_gets (t := 22) (q := 217) hX flX11_46 fkX11_6 atX_0 srX_0_6 dX11_count_214 rfl ?_
                                refine sp_gets (t := 34) (q := 220) hX flX11_118 fkX1_2 atX_22 srX_22_2 dX11_count_217 rfl ?_
                                refine sp_iconst (v := 2) (q := 221) hX dX11_count_220 li_2 rfl ?_
                                refine sp_iald (q := 222) hX arX_34 (by decide) dX11_count_221 rfl ?_
                                exact sp_iretX hX hR dX11_count_222 hf (Nat.le_of_ble_eq_true rfl) (Nat.le_of_ble_eq_true rfl)
                              · rw [if_neg h36] at hf
                                refine sp_tblOut (tgt := 223) hX dX11_count_1 (sp_swo (0) (14) (by decide) (fun kk hka hkb hke => by
                                  rcases (show kk = 0 ∨ kk = 1 ∨ kk = 2 ∨ kk = 3 ∨ kk = 4 ∨ kk = 5 ∨ kk = 6 ∨ kk = 7 ∨ kk = 8 ∨ kk = 9 ∨ kk = 10 ∨ kk = 11 ∨ kk = 12 ∨ kk = 13 ∨ kk = 14 by omega) with rfl | rfl | rfl | rfl | rfl | rfl | rfl | rfl | rfl | rfl | rfl | rfl | rfl | rfl | rfl
                                  · exact h4 (sp_i32 hke (by decide))
                                  · exact h8 (sp_i32 hke (by decide))
                                  · exact h12 (sp_i32 hke (by decide))
                                  · exact h16 (sp_i32 hke (by decide))
                                  · exact h17 (sp_i32 hke (by decide))
                                  · exact h21 (sp_i32 hke (by decide))
                                  · exact h25 (sp_i32 hke (by decide))
                                  · exact h29 (sp_i32 hke (by decide))
                                  · exact h30 (sp_i32 hke (by decide))
                                  · exact h31 (sp_i32 hke (by decide))
                                  · exact h32 (sp_i32 hke (by decide))
                                  · exact h33 (sp_i32 hke (by decide))
                                  · exact h34 (sp_i32 hke (by decide))
                                  · exact h35 (sp_i32 hke (by decide))
                                  · exact h36 (sp_i32 hke (by decide)))) (by decide) ?_
                                exact sp_thrI hX (by decide) hR hf thX11_160_1 thX11_160_2 thX11_160_3 thX11_160_4 thX11_160_5 thX11_160_6 dX11_count_223 dX11_count_226 dX11_count_227 dX11_count_230 (Nat.le_of_ble_eq_true rfl) (Nat.le_of_ble_eq_true rfl) (Nat.le_of_ble_eq_true rfl) (Nat.le_of_ble_eq_true rfl) (Nat.le_of_ble_eq_true rfl) (Nat.le_of_ble_eq_true rfl)
set_option maxRecDepth 100000 in
set_option maxHeartbeats 4000000 in
theorem cnX11_count {l : Launch} (hst : l.stackTraces = false) {w : sp_Wd} {n : Nat}  {σ : sp_St} {a1 : Int32} {τ : sp_St} {ρ : Int32 ⊕ Nat}  (hf : X11_count n σ a1 = some (τ, ρ)) : sp_Xi shX l w yX11_count cX11_count 2 (some .int) rmX11_count 1 6 σ [.ref (w.2.1 0), .int a1] τ ρ :=
  sp_xi (own := RX11) (by decide) rfl hst (Nat.le_of_ble_eq_true rfl) rfl (fun X hX hw hl hR => by subst hw; subst hl; exact hX11_count hX hR   hf)
def rmX11_undo : Room := { frames := 2, cells := 0, slots := 0, locals := 120 }
def X11_undo (n : Nat)  (σ : sp_St)  : Option (sp_St × Int32) :=
  if (σ.1 22 5) = 0 then
    some (σ, (-1 : Int32))
  else
    sp_bv (X1_takeActBack n σ 22) fun σ2 =>
    some (σ2, σ2.1 22 5)
set_option maxRecDepth 100000 in
set_option maxHeartbeats 4000000 in
theorem hX11_undo {X : sp_X} (hX : sp_OK shX X cX11_undo RX11 1 rmX11_undo) {τ : sp_St} {r : Int32} (hR : sp_Ri shX X (some .int) τ r 0 0) {n : Nat}  {σ : sp_St}   (hf : X11_undo n σ = some (τ, r)) : sp_GG shX X σ 1 [some (.ref (sx_ad X 0))] [] 0 0 0 := by
  unfold X11_undo at hf
  refine sp_aload_n (i := 0) (q := 1) hX dX11_undo_0 rfl rfl rfl ?_
  refine sp_gets (t := 22) (q := 4) hX flX11_46 fkX11_6 atX_0 srX_0_6 dX11_undo_1 rfl ?_
  refine sp_geti (q := 7) hX flX11_150 fkX1_5 atX_22 dX11_undo_4 rfl ?_
  refine sp_if_ne (tgt := 12) (q := 10) hX dX11_undo_7 (by decide) rfl (fun hc => ?_) (fun hc => ?_)
  · rw [if_neg hc] at hf
    refine sp_aload_n (i := 0) (q := 13) hX dX11_undo_12 rfl rfl rfl ?_
    refine sp_gets (t := 22) (q := 16) hX flX11_46 fkX11_6 atX_0 srX_0_6 dX11_undo_13 rfl ?_
    obtain ⟨σ2, h1, hf⟩ := sp_bv_so hf
    refine sp_callVv (As := []) (rest := []) (q := 19) hX (cnX1_takeActBack (sp_st hX) atX_22 h1) cwX11_242 atX_22 rfl rfl rfl rfl rfl (Nat.le_of_ble_eq_true rfl) (Nat.le_of_ble_eq_true rfl) (Nat.le_of_ble_eq_true rfl) (Nat.le_of_ble_eq_true rfl) (Nat.le_of_ble_eq_true rfl) dX11_undo_16 rfl ?_
    refine sp_aload_n (i := 0) (q := 20) hX dX11_undo_19 rfl rfl rfl ?_
    refine sp_gets (t := 22) (q := 23) hX flX11_46 fkX11_6 atX_0 srX_0_6 dX11_undo_20 rfl ?_
    refine sp_geti (q := 26) hX flX11_150 fkX1_5 atX_22 dX11_undo_23 rfl ?_
    exact sp_iret hX hR dX11_undo_26 hf (Nat.le_of_ble_eq_true rfl) (Nat.le_of_ble_eq_true rfl)
  · rw [if_pos hc] at hf
    refine sp_iconst (v := -1) (q := 11) hX dX11_undo_10 li_m1 rfl ?_
    exact sp_iret hX hR dX11_undo_11 hf (Nat.le_of_ble_eq_true rfl) (Nat.le_of_ble_eq_true rfl)
set_option maxRecDepth 100000 in
set_option maxHeartbeats 4000000 in
theorem cnX11_undo {l : Launch} (hst : l.stackTraces = false) {w : sp_Wd} {n : Nat}  {σ : sp_St}  {τ : sp_St} {r : Int32}  (hf : X11_undo n σ = some (τ, r)) : sp_Ci shX l w yX11_undo cX11_undo 1 (some .int) rmX11_undo 0 0 σ [.ref (w.2.1 0)] τ r :=
  sp_ci (own := RX11) (by decide) rfl hst (Nat.le_of_ble_eq_true rfl) rfl (fun X hX hw hl hR => by subst hw; subst hl; exact hX11_undo hX hR   hf)
def rmX11_peace : Room := { frames := 7, cells := 0, slots := 0, locals := 158 }
def X11_peace (n : Nat)  (σ : sp_St)  : Option (sp_St × Int32) :=
  sp_bd (X4_firstFight n σ) fun σ2 v3 =>
  some (σ2, v3)
set_option maxRecDepth 100000 in
set_option maxHeartbeats 4000000 in
theorem hX11_peace {X : sp_X} (hX : sp_OK shX X cX11_peace RX11 1 rmX11_peace) {τ : sp_St} {r : Int32} (hR : sp_Ri shX X (some .int) τ r 0 0) {n : Nat}  {σ : sp_St}   (hf : X11_peace n σ = some (τ, r)) : sp_GG shX X σ 1 [some (.ref (sx_ad X 0))] [] 0 0 0 := by
  unfold X11_peace at hf
  refine sp_aload_n (i := 0) (q := 1) hX dX11_peace_0 rfl rfl rfl ?_
  refine sp_gets (t := 57) (q := 4) hX flX11_65 fkX11_9 atX_0 srX_0_9 dX11_peace_1 rfl ?_
  obtain ⟨σ2, v3, h1, hf⟩ := sp_bd_so hf
  refine sp_callVi (As := []) (rest := []) (q := 7) hX (cnX4_firstFight (sp_st hX)  h1) cwX11_255 atX_57 rfl rfl rfl rfl rfl (Nat.le_of_ble_eq_true rfl) (Nat.le_of_ble_eq_true rfl) (Nat.le_of_ble_eq_true rfl) (Nat.le_of_ble_eq_true rfl) (Nat.le_of_ble_eq_true rfl) dX11_peace_4 rfl ?_
  exact sp_iret hX hR dX11_peace_7 hf (Nat.le_of_ble_eq_true rfl) (Nat.le_of_ble_eq_true rfl)
set_option maxRecDepth 100000 in
set_option maxHeartbeats 4000000 in
theorem cnX11_peace {l : Launch} (hst : l.stackTraces = false) {w : sp_Wd} {n : Nat}  {σ : sp_St}  {τ : sp_St} {r : Int32}  (hf : X11_peace n σ = some (τ, r)) : sp_Ci shX l w yX11_peace cX11_peace 1 (some .int) rmX11_peace 0 0 σ [.ref (w.2.1 0)] τ r :=
  sp_ci (own := RX11) (by decide) rfl hst (Nat.le_of_ble_eq_true rfl) rfl (fun X hX hw hl hR => by subst hw; subst hl; exact hX11_peace hX hR   hf)
def rmX11_throats : Room := { frames := 5, cells := 0, slots := 0, locals := 115 }
def X11_throats (n : Nat)  (σ : sp_St)  : Option (sp_St × Int32) :=
  sp_bd (X5_fewestSwallowers n σ) fun σ2 v3 =>
  some (σ2, v3)
set_option maxRecDepth 100000 in
set_option maxHeartbeats 4000000 in
theorem hX11_throats {X : sp_X} (hX : sp_OK shX X cX11_throats RX11 1 rmX11_throats) {τ : sp_St} {r : Int32} (hR : sp_Ri shX X (some .int) τ r 0 0) {n : Nat}  {σ : sp_St}   (hf : X11_throats n σ = some (τ, r)) : sp_GG shX X σ 1 [some (.ref (sx_ad X 0))] [] 0 0 0 := by
  unfold X11_throats at hf
  refine sp_aload_n (i := 0) (q := 1) hX dX11_throats_0 rfl rfl rfl ?_
  refine sp_gets (t := 60) (q := 4) hX flX11_74 fkX11_10 atX_0 srX_0_10 dX11_throats_1 rfl ?_
  obtain ⟨σ2, v3, h1, hf⟩ := sp_bd_so hf
  refine sp_callVi (As := []) (rest := []) (q := 7) hX (cnX5_fewestSwallowers (sp_st hX)  h1) cwX11_273 atX_60 rfl rfl rfl rfl rfl (Nat.le_of_ble_eq_true rfl) (Nat.le_of_ble_eq_true rfl) (Nat.le_of_ble_eq_true rfl) (Nat.le_of_ble_eq_true rfl) (Nat.le_of_ble_eq_true rfl) dX11_throats_4 rfl ?_
  exact sp_iret hX hR dX11_throats_7 hf (Nat.le_of_ble_eq_true rfl) (Nat.le_of_ble_eq_true rfl)
set_option maxRecDepth 100000 in
set_option maxHeartbeats 4000000 in
theorem cnX11_throats {l : Launch} (hst : l.stackTraces = false) {w : sp_Wd} {n : Nat}  {σ : sp_St}  {τ : sp_St} {r : Int32}  (hf : X11_throats n σ = some (τ, r)) : sp_Ci shX l w yX11_throats cX11_throats 1 (some .int) rmX11_throats 0 0 σ [.ref (w.2.1 0)] τ r :=
  sp_ci (own := RX11) (by decide) rfl hst (Nat.le_of_ble_eq_true rfl) rfl (fun X hX hw hl hR => by subst hw; subst hl; exact hX11_throats hX hR   hf)
def rmX11_camps : Room := { frames := 3, cells := 0, slots := 0, locals := 71 }
def X11_camps (n : Nat)  (σ : sp_St)  : Option (sp_St × Int32) :=
  sp_bd (X6_firstCamp n σ) fun σ2 v3 =>
  some (σ2, v3)
set_option maxRecDepth 100000 in
set_option maxHeartbeats 4000000 in
theorem hX11_camps {X : sp_X} (hX : sp_OK shX X cX11_camps RX11 1 rmX11_camps) {τ : sp_St} {r : Int32} (hR : sp_Ri shX X (some .int) τ r 0 0) {n : Nat}  {σ : sp_St}   (hf : X11_camps n σ = some (τ, r)) : sp_GG shX X σ 1 [some (.ref (sx_ad X 0))] [] 0 0 0 := by
  unfold X11_camps at hf
  refine sp_aload_n (i := 0) (q := 1) hX dX11_camps_0 rfl rfl rfl ?_
  refine sp_gets (t := 66) (q := 4) hX flX11_97 fkX11_12 atX_0 srX_0_12 dX11_camps_1 rfl ?_
  obtain ⟨σ2, v3, h1, hf⟩ := sp_bd_so hf
  refine sp_callVi (As := []) (rest := []) (q := 7) hX (cnX6_firstCamp (sp_st hX)  h1) cwX11_291 atX_66 rfl rfl rfl rfl rfl (Nat.le_of_ble_eq_true rfl) (Nat.le_of_ble_eq_true rfl) (Nat.le_of_ble_eq_true rfl) (Nat.le_of_ble_eq_true rfl) (Nat.le_of_ble_eq_true rfl) dX11_camps_4 rfl ?_
  exact sp_iret hX hR dX11_camps_7 hf (Nat.le_of_ble_eq_true rfl) (Nat.le_of_ble_eq_true rfl)
set_option maxRecDepth 100000 in
set_option maxHeartbeats 4000000 in
theorem cnX11_camps {l : Launch} (hst : l.stackTraces = false) {w : sp_Wd} {n : Nat}  {σ : sp_St}  {τ : sp_St} {r : Int32}  (hf : X11_camps n σ = some (τ, r)) : sp_Ci shX l w yX11_camps cX11_camps 1 (some .int) rmX11_camps 0 0 σ [.ref (w.2.1 0)] τ r :=
  sp_ci (own := RX11) (by decide) rfl hst (Nat.le_of_ble_eq_true rfl) rfl (fun X hX hw hl hR => by subst hw; subst hl; exact hX11_camps hX hR   hf)
def rmX11_couples : Room := { frames := 3, cells := 0, slots := 0, locals := 70 }
def X11_couples (n : Nat)  (σ : sp_St)  : Option (sp_St × Int32) :=
  sp_bd (X6_mostCouples n σ) fun σ2 v3 =>
  some (σ2, v3)
set_option maxRecDepth 100000 in
set_option maxHeartbeats 4000000 in
theorem hX11_couples {X : sp_X} (hX : sp_OK shX X cX11_couples RX11 1 rmX11_couples) {τ : sp_St} {r : Int32} (hR : sp_Ri shX X (some .int) τ r 0 0) {n : Nat}  {σ : sp_St}   (hf : X11_couples n σ = some (τ, r)) : sp_GG shX X σ 1 [some (.ref (sx_ad X 0))] [] 0 0 0 := by
  unfold X11_couples at hf
  refine sp_aload_n (i := 0) (q := 1) hX dX11_couples_0 rfl rfl rfl ?_
  refine sp_gets (t := 66) (q := 4) hX flX11_97 fkX11_12 atX_0 srX_0_12 dX11_couples_1 rfl ?_
  obtain ⟨σ2, v3, h1, hf⟩ := sp_bd_so hf
  refine sp_callVi (As := []) (rest := []) (q := 7) hX (cnX6_mostCouples (sp_st hX)  h1) cwX11_294 atX_66 rfl rfl rfl rfl rfl (Nat.le_of_ble_eq_true rfl) (Nat.le_of_ble_eq_true rfl) (Nat.le_of_ble_eq_true rfl) (Nat.le_of_ble_eq_true rfl) (Nat.le_of_ble_eq_true rfl) dX11_couples_4 rfl ?_
  exact sp_iret hX hR dX11_couples_7 hf (Nat.le_of_ble_eq_true rfl) (Nat.le_of_ble_eq_true rfl)
set_option maxRecDepth 100000 in
set_option maxHeartbeats 4000000 in
theorem cnX11_couples {l : Launch} (hst : l.stackTraces = false) {w : sp_Wd} {n : Nat}  {σ : sp_St}  {τ : sp_St} {r : Int32}  (hf : X11_couples n σ = some (τ, r)) : sp_Ci shX l w yX11_couples cX11_couples 1 (some .int) rmX11_couples 0 0 σ [.ref (w.2.1 0)] τ r :=
  sp_ci (own := RX11) (by decide) rfl hst (Nat.le_of_ble_eq_true rfl) rfl (fun X hX hw hl hR => by subst hw; subst hl; exact hX11_couples hX hR   hf)
def rmX11_parts : Room := { frames := 3, cells := 0, slots := 0, locals := 70 }
def X11_parts (n : Nat)  (σ : sp_St)  : Option (sp_St × Int32) :=
  sp_bd (X6_parties n σ) fun σ2 v3 =>
  some (σ2, v3)
set_option maxRecDepth 100000 in
set_option maxHeartbeats 4000000 in
theorem hX11_parts {X : sp_X} (hX : sp_OK shX X cX11_parts RX11 1 rmX11_parts) {τ : sp_St} {r : Int32} (hR : sp_Ri shX X (some .int) τ r 0 0) {n : Nat}  {σ : sp_St}   (hf : X11_parts n σ = some (τ, r)) : sp_GG shX X σ 1 [some (.ref (sx_ad X 0))] [] 0 0 0 := by
  unfold X11_parts at hf
  refine sp_aload_n (i := 0) (q := 1) hX dX11_parts_0 rfl rfl rfl ?_
  refine sp_gets (t := 66) (q := 4) hX flX11_97 fkX11_12 atX_0 srX_0_12 dX11_parts_1 rfl ?_
  obtain ⟨σ2, v3, h1, hf⟩ := sp_bd_so hf
  refine sp_callVi (As := []) (rest := []) (q := 7) hX (cnX6_parties (sp_st hX)  h1) cwX11_297 atX_66 rfl rfl rfl rfl rfl (Nat.le_of_ble_eq_true rfl) (Nat.le_of_ble_eq_true rfl) (Nat.le_of_ble_eq_true rfl) (Nat.le_of_ble_eq_true rfl) (Nat.le_of_ble_eq_true rfl) dX11_parts_4 rfl ?_
  exact sp_iret hX hR dX11_parts_7 hf (Nat.le_of_ble_eq_true rfl) (Nat.le_of_ble_eq_true rfl)
set_option maxRecDepth 100000 in
set_option maxHeartbeats 4000000 in
theorem cnX11_parts {l : Launch} (hst : l.stackTraces = false) {w : sp_Wd} {n : Nat}  {σ : sp_St}  {τ : sp_St} {r : Int32}  (hf : X11_parts n σ = some (τ, r)) : sp_Ci shX l w yX11_parts cX11_parts 1 (some .int) rmX11_parts 0 0 σ [.ref (w.2.1 0)] τ r :=
  sp_ci (own := RX11) (by decide) rfl hst (Nat.le_of_ble_eq_true rfl) rfl (fun X hX hw hl hR => by subst hw; subst hl; exact hX11_parts hX hR   hf)
def rmX11_forget : Room := { frames := 0, cells := 0, slots := 0, locals := 0 }
def X11_forget (n : Nat)  (σ : sp_St)  : Option (sp_St) :=
  sp_pl (sp_si σ 30 3 ((0 : Int32))) fun σ1 =>
  some σ1
set_option maxRecDepth 100000 in
set_option maxHeartbeats 4000000 in
theorem hX11_forget {X : sp_X} (hX : sp_OK shX X cX11_forget RX11 1 rmX11_forget) {τ : sp_St} (hR : sp_Rv shX X τ 0 0) {n : Nat}  {σ : sp_St}   (hf : X11_forget n σ = some τ) : sp_GG shX X σ 1 [some (.ref (sx_ad X 0))] [] 0 0 0 := by
  unfold X11_forget at hf
  refine sp_aload_n (i := 0) (q := 1) hX dX11_forget_0 rfl rfl rfl ?_
  refine sp_gets (t := 22) (q := 4) hX flX11_46 fkX11_6 atX_0 srX_0_6 dX11_forget_1 rfl ?_
  refine sp_gets (t := 30) (q := 7) hX flX11_80 fkX1_1 atX_22 srX_22_1 dX11_forget_4 rfl ?_
  refine sp_iconst (v := 0) (q := 8) hX dX11_forget_7 li_0 rfl ?_
  obtain ⟨σ1, e2, hf⟩ := sp_pl_some hf
  refine sp_puti (q := 11) hX fpX11_153 fkX9_3 atX_30 dX11_forget_8 rfl ?_
  refine sp_nms e2 ?_
  exact sp_vret hX hR dX11_forget_11 hf (Nat.le_of_ble_eq_true rfl) (Nat.le_of_ble_eq_true rfl)
set_option maxRecDepth 100000 in
set_option maxHeartbeats 4000000 in
theorem cnX11_forget {l : Launch} (hst : l.stackTraces = false) {w : sp_Wd} {n : Nat}  {σ : sp_St}  {τ : sp_St}  (hf : X11_forget n σ = some τ) : sp_Cv shX l w yX11_forget cX11_forget 1 rmX11_forget 0 0 σ [.ref (w.2.1 0)] τ :=
  sp_cv (own := RX11) (by decide) rfl hst (Nat.le_of_ble_eq_true rfl) rfl (fun X hX hw hl hR => by subst hw; subst hl; exact hX11_forget hX hR   hf)
def rmX11_image : Room := { frames := 3, cells := 0, slots := 0, locals := 143 }
def X11_image (n : Nat)  (σ : sp_St)  : Option (sp_St) :=
  sp_bv (X1_copy n σ 36 22) fun σ2 =>
  sp_pl (sp_si σ2 0 8 ((1 : Int32))) fun σ3 =>
  some σ3
set_option maxRecDepth 100000 in
set_option maxHeartbeats 4000000 in
theorem hX11_image {X : sp_X} (hX : sp_OK shX X cX11_image RX11 1 rmX11_image) {τ : sp_St} (hR : sp_Rv shX X τ 0 0) {n : Nat}  {σ : sp_St}   (hf : X11_image n σ = some τ) : sp_GG shX X σ 1 [some (.ref (sx_ad X 0))] [] 0 0 0 := by
  unfold X11_image at hf
  refine sp_aload_n (i := 0) (q := 1) hX dX11_image_0 rfl rfl rfl ?_
  refine sp_gets (t := 36) (q := 4) hX flX11_50 fkX11_7 atX_0 srX_0_7 dX11_image_1 rfl ?_
  refine sp_aload_n (i := 0) (q := 5) hX dX11_image_4 rfl rfl rfl ?_
  refine sp_gets (t := 22) (q := 8) hX flX11_46 fkX11_6 atX_0 srX_0_6 dX11_image_5 rfl ?_
  obtain ⟨σ2, h1, hf⟩ := sp_bv_so hf
  refine sp_callVv (As := [.ref (sx_ad X 22)]) (rest := []) (q := 11) hX (cnX1_copy (sp_st hX) atX_36 atX_22 h1) cwX11_340 atX_36 rfl rfl rfl rfl rfl (Nat.le_of_ble_eq_true rfl) (Nat.le_of_ble_eq_true rfl) (Nat.le_of_ble_eq_true rfl) (Nat.le_of_ble_eq_true rfl) (Nat.le_of_ble_eq_true rfl) dX11_image_8 rfl ?_
  refine sp_aload_n (i := 0) (q := 12) hX dX11_image_11 rfl rfl rfl ?_
  refine sp_iconst (v := 1) (q := 13) hX dX11_image_12 li_1 rfl ?_
  obtain ⟨σ3, e4, hf⟩ := sp_pl_some hf
  refine sp_putz (q := 16) hX fpX11_124 fkX11_8 atX_0 (by decide) dX11_image_13 rfl ?_
  refine sp_nms e4 ?_
  exact sp_vret hX hR dX11_image_16 hf (Nat.le_of_ble_eq_true rfl) (Nat.le_of_ble_eq_true rfl)
set_option maxRecDepth 100000 in
set_option maxHeartbeats 4000000 in
theorem cnX11_image {l : Launch} (hst : l.stackTraces = false) {w : sp_Wd} {n : Nat}  {σ : sp_St}  {τ : sp_St}  (hf : X11_image n σ = some τ) : sp_Cv shX l w yX11_image cX11_image 1 rmX11_image 0 0 σ [.ref (w.2.1 0)] τ :=
  sp_cv (own := RX11) (by decide) rfl hst (Nat.le_of_ble_eq_true rfl) rfl (fun X hX hw hl hR => by subst hw; subst hl; exact hX11_image hX hR   hf)
def rmX11_restore : Room := { frames := 3, cells := 0, slots := 0, locals := 143 }
def X11_restore_18 (n : Nat) (σ : sp_St) : Option (sp_St × Int32) :=
  sp_ck (sp_zb (σ.1 0 8)) <|
  some (σ, σ.1 0 8)
def X11_restore (n : Nat)  (σ : sp_St)  : Option (sp_St × Int32) :=
  if (σ.1 0 8) = 0 then
    X11_restore_18 n σ
  else
    sp_bv (X1_copy n σ 22 36) fun σ2 =>
    X11_restore_18 n σ2
set_option maxRecDepth 100000 in
set_option maxHeartbeats 4000000 in
theorem hX11_restore_18 {X : sp_X} (hX : sp_OK shX X cX11_restore RX11 1 rmX11_restore) {τ : sp_St} {r : Int32} (hR : sp_Ri shX X (some .boolean) τ r 0 0) {n : Nat}    {σ : sp_St} (hf : X11_restore_18 n σ = some (τ, r)) : sp_GG shX X σ 1 [some (.ref (sx_ad X 0))] [] 18 0 0 := by
  unfold X11_restore_18 at hf
  refine sp_aload_n (i := 0) (q := 19) hX dX11_restore_18 rfl rfl rfl ?_
  refine sp_geti (q := 22) hX flX11_124 fkX11_8 atX_0 dX11_restore_19 rfl ?_
  obtain ⟨h1, hf⟩ := sp_ck_some hf
  exact sp_zret hX hR h1 dX11_restore_22 hf (Nat.le_of_ble_eq_true rfl) (Nat.le_of_ble_eq_true rfl)
set_option maxRecDepth 100000 in
set_option maxHeartbeats 4000000 in
theorem hX11_restore {X : sp_X} (hX : sp_OK shX X cX11_restore RX11 1 rmX11_restore) {τ : sp_St} {r : Int32} (hR : sp_Ri shX X (some .boolean) τ r 0 0) {n : Nat}  {σ : sp_St}   (hf : X11_restore n σ = some (τ, r)) : sp_GG shX X σ 1 [some (.ref (sx_ad X 0))] [] 0 0 0 := by
  unfold X11_restore at hf
  refine sp_aload_n (i := 0) (q := 1) hX dX11_restore_0 rfl rfl rfl ?_
  refine sp_geti (q := 4) hX flX11_124 fkX11_8 atX_0 dX11_restore_1 rfl ?_
  refine sp_if_eq (tgt := 18) (q := 7) hX dX11_restore_4 (by decide) rfl (fun hc => ?_) (fun hc => ?_)
  · rw [if_pos hc] at hf
    exact hX11_restore_18 hX hR hf
  · rw [if_neg hc] at hf
    refine sp_aload_n (i := 0) (q := 8) hX dX11_restore_7 rfl rfl rfl ?_
    refine sp_gets (t := 22) (q := 11) hX flX11_46 fkX11_6 atX_0 srX_0_6 dX11_restore_8 rfl ?_
    refine sp_aload_n (i := 0) (q := 12) hX dX11_restore_11 rfl rfl rfl ?_
    refine sp_gets (t := 36) (q := 15) hX flX11_50 fkX11_7 atX_0 srX_0_7 dX11_restore_12 rfl ?_
    obtain ⟨σ2, h1, hf⟩ := sp_bv_so hf
    refine sp_callVv (As := [.ref (sx_ad X 36)]) (rest := []) (q := 18) hX (cnX1_copy (sp_st hX) atX_22 atX_36 h1) cwX11_340 atX_22 rfl rfl rfl rfl rfl (Nat.le_of_ble_eq_true rfl) (Nat.le_of_ble_eq_true rfl) (Nat.le_of_ble_eq_true rfl) (Nat.le_of_ble_eq_true rfl) (Nat.le_of_ble_eq_true rfl) dX11_restore_15 rfl ?_
    exact hX11_restore_18 hX hR hf
set_option maxRecDepth 100000 in
set_option maxHeartbeats 4000000 in
theorem cnX11_restore {l : Launch} (hst : l.stackTraces = false) {w : sp_Wd} {n : Nat}  {σ : sp_St}  {τ : sp_St} {r : Int32}  (hf : X11_restore n σ = some (τ, r)) : sp_Ci shX l w yX11_restore cX11_restore 1 (some .boolean) rmX11_restore 0 0 σ [.ref (w.2.1 0)] τ r :=
  sp_ci (own := RX11) (by decide) rfl hst (Nat.le_of_ble_eq_true rfl) rfl (fun X hX hw hl hR => by subst hw; subst hl; exact hX11_restore hX hR   hf)
def rmX11_refuse : Room := { frames := 0, cells := 0, slots := 0, locals := 0 }
def X11_refuse_29 (n : Nat) (σ : sp_St) : Option (sp_St × Int32) :=
  some (σ, (-1 : Int32))
def X11_refuse (n : Nat)  (σ : sp_St) (a1 : Int32) : Option (sp_St × Int32) :=
  if a1 < 0 then
    X11_refuse_29 n σ
  else
    if ((3 : Int32)) ≤ a1 then
      X11_refuse_29 n σ
    else
      sp_ck (sp_in a1 3) <|
      sp_ck (sp_in a1 3) <|
      sp_pl (sp_sa σ 34 a1.toNatClampNeg ((sp_g σ 34 a1) + ((1 : Int32)))) fun σ3 =>
      X11_refuse_29 n σ3
set_option maxRecDepth 100000 in
set_option maxHeartbeats 4000000 in
theorem hX11_refuse_29 {X : sp_X} (hX : sp_OK shX X cX11_refuse RX11 2 rmX11_refuse) {τ : sp_St} {r : Int32} (hR : sp_Ri shX X (some .int) τ r 0 0) {n : Nat}    {σ : sp_St} (hf : X11_refuse_29 n σ = some (τ, r)) : sp_GG shX X σ 2 [none, none] [] 29 0 0 := by
  unfold X11_refuse_29 at hf
  refine sp_iconst (v := -1) (q := 30) hX dX11_refuse_29 li_m1 rfl ?_
  exact sp_iret hX hR dX11_refuse_30 hf (Nat.le_of_ble_eq_true rfl) (Nat.le_of_ble_eq_true rfl)
set_option maxRecDepth 100000 in
set_option maxHeartbeats 4000000 in
theorem hX11_refuse {X : sp_X} (hX : sp_OK shX X cX11_refuse RX11 2 rmX11_refuse) {τ : sp_St} {r : Int32} (hR : sp_Ri shX X (some .int) τ r 0 0) {n : Nat}  {σ : sp_St} {a1 : Int32}  (hf : X11_refuse n σ a1 = some (τ, r)) : sp_GG shX X σ 2 [some (.ref (sx_ad X 0)), some (.int a1)] [] 0 0 0 := by
  unfold X11_refuse at hf
  refine sp_iload_n (i := 1) (q := 1) hX dX11_refuse_0 rfl rfl rfl ?_
  refine sp_if_lt (tgt := 29) (q := 4) hX dX11_refuse_1 (by decide) rfl (fun hc => ?_) (fun hc => ?_)
  · rw [if_pos hc] at hf
    refine sp_drop (lv' := [none, none]) trivial ?_
    exact hX11_refuse_29 hX hR hf
  · rw [if_neg hc] at hf
    refine sp_iload_n (i := 1) (q := 5) hX dX11_refuse_4 rfl rfl rfl ?_
    refine sp_aload_n (i := 0) (q := 6) hX dX11_refuse_5 rfl rfl rfl ?_
    refine sp_gets (t := 22) (q := 9) hX flX11_46 fkX11_6 atX_0 srX_0_6 dX11_refuse_6 rfl ?_
    refine sp_gets (t := 34) (q := 12) hX flX11_118 fkX1_2 atX_22 srX_22_2 dX11_refuse_9 rfl ?_
    refine sp_aleni (v := (3 : Int32)) (q := 13) hX arX_34 (by decide) dX11_refuse_12 rfl ?_
    refine sp_icmp_ge (tgt := 29) (q := 16) hX dX11_refuse_13 (by decide) rfl (fun hc => ?_) (fun hc => ?_)
    · rw [if_pos hc] at hf
      refine sp_drop (lv' := [none, none]) trivial ?_
      exact hX11_refuse_29 hX hR hf
    · rw [if_neg hc] at hf
      refine sp_aload_n (i := 0) (q := 17) hX dX11_refuse_16 rfl rfl rfl ?_
      refine sp_gets (t := 22) (q := 20) hX flX11_46 fkX11_6 atX_0 srX_0_6 dX11_refuse_17 rfl ?_
      refine sp_gets (t := 34) (q := 23) hX flX11_118 fkX1_2 atX_22 srX_22_2 dX11_refuse_20 rfl ?_
      refine sp_iload_n (i := 1) (q := 24) hX dX11_refuse_23 rfl rfl rfl ?_
      refine sp_dup2 (q := 25) hX dX11_refuse_24 rfl rfl rfl ?_
      obtain ⟨h1, hf⟩ := sp_ck_some hf
      refine sp_iald (q := 26) hX arX_34 h1 dX11_refuse_25 rfl ?_
      refine sp_iconst (v := 1) (q := 27) hX dX11_refuse_26 li_1 rfl ?_
      refine sp_iadd (q := 28) hX dX11_refuse_27 rfl ?_
      obtain ⟨h2, hf⟩ := sp_ck_some hf
      obtain ⟨σ3, e4, hf⟩ := sp_pl_some hf
      refine sp_iast (q := 29) hX arX_34 h2 dX11_refuse_28 rfl ?_
      refine sp_nms e4 ?_
      refine sp_drop (lv' := [none, none]) trivial ?_
      exact hX11_refuse_29 hX hR hf
set_option maxRecDepth 100000 in
set_option maxHeartbeats 4000000 in
theorem cnX11_refuse {l : Launch} (hst : l.stackTraces = false) {w : sp_Wd} {n : Nat}  {σ : sp_St} {a1 : Int32} {τ : sp_St} {r : Int32}  (hf : X11_refuse n σ a1 = some (τ, r)) : sp_Ci shX l w yX11_refuse cX11_refuse 2 (some .int) rmX11_refuse 0 0 σ [.ref (w.2.1 0), .int a1] τ r :=
  sp_ci (own := RX11) (by decide) rfl hst (Nat.le_of_ble_eq_true rfl) rfl (fun X hX hw hl hR => by subst hw; subst hl; exact hX11_refuse hX hR   hf)
def rmX11_needBlade : Room := { frames := 6, cells := 1, slots := 6, locals := 100 }
def X11_needBlade_15 (n : Nat) (σ : sp_St) : Option (sp_St × Option Nat) :=
  some (σ, some 1)
def X11_needBlade (n : Nat)  (σ : sp_St) (a1 : Int32) : Option (sp_St × Option Nat) :=
  if a1 < 0 then
    X11_needBlade_15 n σ
  else
    sp_pl (σ.2.1 0 3) fun c1 =>
    sp_ck (sp_isc c1) <|
    if a1 < (σ.1 c1 13) then
      some (σ, none)
    else
      X11_needBlade_15 n σ
set_option maxRecDepth 100000 in
set_option maxHeartbeats 4000000 in
theorem hX11_needBlade_15 {X : sp_X} (hX : sp_OK shX X cX11_needBlade RX11 2 rmX11_needBlade) {τ : sp_St} {ρ : Option Nat} (hR : sp_RXv shX X τ ρ 1 6) {n : Nat}    {σ : sp_St} (hf : X11_needBlade_15 n σ = some (τ, ρ)) : sp_GG shX X σ 2 [none, none] [] 15 0 0 := by
  unfold X11_needBlade_15 at hf
  exact sp_thrV hX (by decide) hR hf thX11_160_1 thX11_160_2 thX11_160_3 thX11_160_4 thX11_160_5 thX11_160_6 dX11_needBlade_15 dX11_needBlade_18 dX11_needBlade_19 dX11_needBlade_22 (Nat.le_of_ble_eq_true rfl) (Nat.le_of_ble_eq_true rfl) (Nat.le_of_ble_eq_true rfl) (Nat.le_of_ble_eq_true rfl) (Nat.le_of_ble_eq_true rfl) (Nat.le_of_ble_eq_true rfl)
set_option maxRecDepth 100000 in
set_option maxHeartbeats 4000000 in
theorem hX11_needBlade {X : sp_X} (hX : sp_OK shX X cX11_needBlade RX11 2 rmX11_needBlade) {τ : sp_St} {ρ : Option Nat} (hR : sp_RXv shX X τ ρ 1 6) {n : Nat}  {σ : sp_St} {a1 : Int32}  (hf : X11_needBlade n σ a1 = some (τ, ρ)) : sp_GG shX X σ 2 [some (.ref (sx_ad X 0)), some (.int a1)] [] 0 0 0 := by
  unfold X11_needBlade at hf
  refine sp_iload_n (i := 1) (q := 1) hX dX11_needBlade_0 rfl rfl rfl ?_
  refine sp_if_lt (tgt := 15) (q := 4) hX dX11_needBlade_1 (by decide) rfl (fun hc => ?_) (fun hc => ?_)
  · rw [if_pos hc] at hf
    refine sp_drop (lv' := [none, none]) trivial ?_
    exact hX11_needBlade_15 hX hR hf
  · rw [if_neg hc] at hf
    refine sp_iload_n (i := 1) (q := 5) hX dX11_needBlade_4 rfl rfl rfl ?_
    refine sp_aload_n (i := 0) (q := 6) hX dX11_needBlade_5 rfl rfl rfl ?_
    obtain ⟨c1, e3, hf⟩ := sp_pl_some hf
    obtain ⟨h2, hf⟩ := sp_ck_some hf
    refine sp_getr (q := 9) hX flX11_20 fkX11_3 atX_0 dX11_needBlade_6 rfl ?_
    refine sp_nmr e3 ?_
    refine sp_geti (q := 12) hX flX11_135 fkX2_13 (sp_isc_at h2) dX11_needBlade_9 rfl ?_
    refine sp_icmp_lt (tgt := 23) (q := 15) hX dX11_needBlade_12 (by decide) rfl (fun hc => ?_) (fun hc => ?_)
    · rw [if_pos hc] at hf
      exact sp_vretX hX hR dX11_needBlade_23 hf (Nat.le_of_ble_eq_true rfl) (Nat.le_of_ble_eq_true rfl)
    · rw [if_neg hc] at hf
      refine sp_drop (lv' := [none, none]) trivial ?_
      exact hX11_needBlade_15 hX hR hf
set_option maxRecDepth 100000 in
set_option maxHeartbeats 4000000 in
theorem cnX11_needBlade {l : Launch} (hst : l.stackTraces = false) {w : sp_Wd} {n : Nat}  {σ : sp_St} {a1 : Int32} {τ : sp_St} {ρ : Option Nat}  (hf : X11_needBlade n σ a1 = some (τ, ρ)) : sp_Xv shX l w yX11_needBlade cX11_needBlade 2 rmX11_needBlade 1 6 σ [.ref (w.2.1 0), .int a1] τ ρ :=
  sp_xv (own := RX11) (by decide) rfl hst (Nat.le_of_ble_eq_true rfl) rfl (fun X hX hw hl hR => by subst hw; subst hl; exact hX11_needBlade hX hR   hf)
def rmX11_needSwallower : Room := { frames := 6, cells := 1, slots := 6, locals := 100 }
def X11_needSwallower_15 (n : Nat) (σ : sp_St) : Option (sp_St × Option Nat) :=
  some (σ, some 1)
def X11_needSwallower (n : Nat)  (σ : sp_St) (a1 : Int32) : Option (sp_St × Option Nat) :=
  if a1 < 0 then
    X11_needSwallower_15 n σ
  else
    sp_pl (σ.2.1 0 3) fun c1 =>
    sp_ck (sp_isc c1) <|
    if a1 < (σ.1 c1 14) then
      some (σ, none)
    else
      X11_needSwallower_15 n σ
set_option maxRecDepth 100000 in
set_option maxHeartbeats 4000000 in
theorem hX11_needSwallower_15 {X : sp_X} (hX : sp_OK shX X cX11_needSwallower RX11 2 rmX11_needSwallower) {τ : sp_St} {ρ : Option Nat} (hR : sp_RXv shX X τ ρ 1 6) {n : Nat}    {σ : sp_St} (hf : X11_needSwallower_15 n σ = some (τ, ρ)) : sp_GG shX X σ 2 [none, none] [] 15 0 0 := by
  unfold X11_needSwallower_15 at hf
  exact sp_thrV hX (by decide) hR hf thX11_160_1 thX11_160_2 thX11_160_3 thX11_160_4 thX11_160_5 thX11_160_6 dX11_needSwallower_15 dX11_needSwallower_18 dX11_needSwallower_19 dX11_needSwallower_22 (Nat.le_of_ble_eq_true rfl) (Nat.le_of_ble_eq_true rfl) (Nat.le_of_ble_eq_true rfl) (Nat.le_of_ble_eq_true rfl) (Nat.le_of_ble_eq_true rfl) (Nat.le_of_ble_eq_true rfl)
set_option maxRecDepth 100000 in
set_option maxHeartbeats 4000000 in
theorem hX11_needSwallower {X : sp_X} (hX : sp_OK shX X cX11_needSwallower RX11 2 rmX11_needSwallower) {τ : sp_St} {ρ : Option Nat} (hR : sp_RXv shX X τ ρ 1 6) {n : Nat}  {σ : sp_St} {a1 : Int32}  (hf : X11_needSwallower n σ a1 = some (τ, ρ)) : sp_GG shX X σ 2 [some (.ref (sx_ad X 0)), some (.int a1)] [] 0 0 0 := by
  unfold X11_needSwallower at hf
  refine sp_iload_n (i := 1) (q := 1) hX dX11_needSwallower_0 rfl rfl rfl ?_
  refine sp_if_lt (tgt := 15) (q := 4) hX dX11_needSwallower_1 (by decide) rfl (fun hc => ?_) (fun hc => ?_)
  · rw [if_pos hc] at hf
    refine sp_drop (lv' := [none, none]) trivial ?_
    exact hX11_needSwallower_15 hX hR hf
  · rw [if_neg hc] at hf
    refine sp_iload_n (i := 1) (q := 5) hX dX11_needSwallower_4 rfl rfl rfl ?_
    refine sp_aload_n (i := 0) (q := 6) hX dX11_needSwallower_5 rfl rfl rfl ?_
    obtain ⟨c1, e3, hf⟩ := sp_pl_some hf
    obtain ⟨h2, hf⟩ := sp_ck_some hf
    refine sp_getr (q := 9) hX flX11_20 fkX11_3 atX_0 dX11_needSwallower_6 rfl ?_
    refine sp_nmr e3 ?_
    refine sp_geti (q := 12) hX flX11_132 fkX2_14 (sp_isc_at h2) dX11_needSwallower_9 rfl ?_
    refine sp_icmp_lt (tgt := 23) (q := 15) hX dX11_needSwallower_12 (by decide) rfl (fun hc => ?_) (fun hc => ?_)
    · rw [if_pos hc] at hf
      exact sp_vretX hX hR dX11_needSwallower_23 hf (Nat.le_of_ble_eq_true rfl) (Nat.le_of_ble_eq_true rfl)
    · rw [if_neg hc] at hf
      refine sp_drop (lv' := [none, none]) trivial ?_
      exact hX11_needSwallower_15 hX hR hf
set_option maxRecDepth 100000 in
set_option maxHeartbeats 4000000 in
theorem cnX11_needSwallower {l : Launch} (hst : l.stackTraces = false) {w : sp_Wd} {n : Nat}  {σ : sp_St} {a1 : Int32} {τ : sp_St} {ρ : Option Nat}  (hf : X11_needSwallower n σ a1 = some (τ, ρ)) : sp_Xv shX l w yX11_needSwallower cX11_needSwallower 2 rmX11_needSwallower 1 6 σ [.ref (w.2.1 0), .int a1] τ ρ :=
  sp_xv (own := RX11) (by decide) rfl hst (Nat.le_of_ble_eq_true rfl) rfl (fun X hX hw hl hR => by subst hw; subst hl; exact hX11_needSwallower hX hR   hf)
def rmX11_needHouse : Room := { frames := 6, cells := 1, slots := 6, locals := 100 }
def X11_needHouse_10 (n : Nat) (σ : sp_St) : Option (sp_St × Option Nat) :=
  some (σ, some 1)
def X11_needHouse (n : Nat)  (σ : sp_St) (a1 : Int32) : Option (sp_St × Option Nat) :=
  if a1 < 0 then
    X11_needHouse_10 n σ
  else
    if a1 < ((6 : Int32)) then
      some (σ, none)
    else
      X11_needHouse_10 n σ
set_option maxRecDepth 100000 in
set_option maxHeartbeats 4000000 in
theorem hX11_needHouse_10 {X : sp_X} (hX : sp_OK shX X cX11_needHouse RX11 2 rmX11_needHouse) {τ : sp_St} {ρ : Option Nat} (hR : sp_RXv shX X τ ρ 1 6) {n : Nat}    {σ : sp_St} (hf : X11_needHouse_10 n σ = some (τ, ρ)) : sp_GG shX X σ 2 [none, none] [] 10 0 0 := by
  unfold X11_needHouse_10 at hf
  exact sp_thrV hX (by decide) hR hf thX11_160_1 thX11_160_2 thX11_160_3 thX11_160_4 thX11_160_5 thX11_160_6 dX11_needHouse_10 dX11_needHouse_13 dX11_needHouse_14 dX11_needHouse_17 (Nat.le_of_ble_eq_true rfl) (Nat.le_of_ble_eq_true rfl) (Nat.le_of_ble_eq_true rfl) (Nat.le_of_ble_eq_true rfl) (Nat.le_of_ble_eq_true rfl) (Nat.le_of_ble_eq_true rfl)
set_option maxRecDepth 100000 in
set_option maxHeartbeats 4000000 in
theorem hX11_needHouse {X : sp_X} (hX : sp_OK shX X cX11_needHouse RX11 2 rmX11_needHouse) {τ : sp_St} {ρ : Option Nat} (hR : sp_RXv shX X τ ρ 1 6) {n : Nat}  {σ : sp_St} {a1 : Int32}  (hf : X11_needHouse n σ a1 = some (τ, ρ)) : sp_GG shX X σ 2 [some (.ref (sx_ad X 0)), some (.int a1)] [] 0 0 0 := by
  unfold X11_needHouse at hf
  refine sp_iload_n (i := 1) (q := 1) hX dX11_needHouse_0 rfl rfl rfl ?_
  refine sp_if_lt (tgt := 10) (q := 4) hX dX11_needHouse_1 (by decide) rfl (fun hc => ?_) (fun hc => ?_)
  · rw [if_pos hc] at hf
    refine sp_drop (lv' := [none, none]) trivial ?_
    exact hX11_needHouse_10 hX hR hf
  · rw [if_neg hc] at hf
    refine sp_iload_n (i := 1) (q := 5) hX dX11_needHouse_4 rfl rfl rfl ?_
    refine sp_bipush (v := 6) (q := 7) hX dX11_needHouse_5 lb_6 rfl ?_
    refine sp_icmp_lt (tgt := 18) (q := 10) hX dX11_needHouse_7 (by decide) rfl (fun hc => ?_) (fun hc => ?_)
    · rw [if_pos hc] at hf
      exact sp_vretX hX hR dX11_needHouse_18 hf (Nat.le_of_ble_eq_true rfl) (Nat.le_of_ble_eq_true rfl)
    · rw [if_neg hc] at hf
      refine sp_drop (lv' := [none, none]) trivial ?_
      exact hX11_needHouse_10 hX hR hf
set_option maxRecDepth 100000 in
set_option maxHeartbeats 4000000 in
theorem cnX11_needHouse {l : Launch} (hst : l.stackTraces = false) {w : sp_Wd} {n : Nat}  {σ : sp_St} {a1 : Int32} {τ : sp_St} {ρ : Option Nat}  (hf : X11_needHouse n σ a1 = some (τ, ρ)) : sp_Xv shX l w yX11_needHouse cX11_needHouse 2 rmX11_needHouse 1 6 σ [.ref (w.2.1 0), .int a1] τ ρ :=
  sp_xv (own := RX11) (by decide) rfl hst (Nat.le_of_ble_eq_true rfl) rfl (fun X hX hw hl hR => by subst hw; subst hl; exact hX11_needHouse hX hR   hf)
def rmX11_needWhat : Room := { frames := 6, cells := 1, slots := 6, locals := 100 }
def X11_needWhat_9 (n : Nat) (σ : sp_St) : Option (sp_St × Option Nat) :=
  some (σ, some 1)
def X11_needWhat (n : Nat)  (σ : sp_St) (a1 : Int32) (a2 : Int32) : Option (sp_St × Option Nat) :=
  if a1 < 0 then
    X11_needWhat_9 n σ
  else
    if a1 ≤ a2 then
      some (σ, none)
    else
      X11_needWhat_9 n σ
set_option maxRecDepth 100000 in
set_option maxHeartbeats 4000000 in
theorem hX11_needWhat_9 {X : sp_X} (hX : sp_OK shX X cX11_needWhat RX11 3 rmX11_needWhat) {τ : sp_St} {ρ : Option Nat} (hR : sp_RXv shX X τ ρ 1 6) {n : Nat}    {σ : sp_St} (hf : X11_needWhat_9 n σ = some (τ, ρ)) : sp_GG shX X σ 3 [none, none, none] [] 9 0 0 := by
  unfold X11_needWhat_9 at hf
  exact sp_thrV hX (by decide) hR hf thX11_160_1 thX11_160_2 thX11_160_3 thX11_160_4 thX11_160_5 thX11_160_6 dX11_needWhat_9 dX11_needWhat_12 dX11_needWhat_13 dX11_needWhat_16 (Nat.le_of_ble_eq_true rfl) (Nat.le_of_ble_eq_true rfl) (Nat.le_of_ble_eq_true rfl) (Nat.le_of_ble_eq_true rfl) (Nat.le_of_ble_eq_true rfl) (Nat.le_of_ble_eq_true rfl)
set_option maxRecDepth 100000 in
set_option maxHeartbeats 4000000 in
theorem hX11_needWhat {X : sp_X} (hX : sp_OK shX X cX11_needWhat RX11 3 rmX11_needWhat) {τ : sp_St} {ρ : Option Nat} (hR : sp_RXv shX X τ ρ 1 6) {n : Nat}  {σ : sp_St} {a1 : Int32} {a2 : Int32}  (hf : X11_needWhat n σ a1 a2 = some (τ, ρ)) : sp_GG shX X σ 3 [some (.ref (sx_ad X 0)), some (.int a1), some (.int a2)] [] 0 0 0 := by
  unfold X11_needWhat at hf
  refine sp_iload_n (i := 1) (q := 1) hX dX11_needWhat_0 rfl rfl rfl ?_
  refine sp_if_lt (tgt := 9) (q := 4) hX dX11_needWhat_1 (by decide) rfl (fun hc => ?_) (fun hc => ?_)
  · rw [if_pos hc] at hf
    refine sp_drop (lv' := [none, none, none]) trivial ?_
    exact hX11_needWhat_9 hX hR hf
  · rw [if_neg hc] at hf
    refine sp_iload_n (i := 1) (q := 5) hX dX11_needWhat_4 rfl rfl rfl ?_
    refine sp_iload_n (i := 2) (q := 6) hX dX11_needWhat_5 rfl rfl rfl ?_
    refine sp_icmp_le (tgt := 17) (q := 9) hX dX11_needWhat_6 (by decide) rfl (fun hc => ?_) (fun hc => ?_)
    · rw [if_pos hc] at hf
      exact sp_vretX hX hR dX11_needWhat_17 hf (Nat.le_of_ble_eq_true rfl) (Nat.le_of_ble_eq_true rfl)
    · rw [if_neg hc] at hf
      refine sp_drop (lv' := [none, none, none]) trivial ?_
      exact hX11_needWhat_9 hX hR hf
set_option maxRecDepth 100000 in
set_option maxHeartbeats 4000000 in
theorem cnX11_needWhat {l : Launch} (hst : l.stackTraces = false) {w : sp_Wd} {n : Nat}  {σ : sp_St} {a1 : Int32} {a2 : Int32} {τ : sp_St} {ρ : Option Nat}  (hf : X11_needWhat n σ a1 a2 = some (τ, ρ)) : sp_Xv shX l w yX11_needWhat cX11_needWhat 3 rmX11_needWhat 1 6 σ [.ref (w.2.1 0), .int a1, .int a2] τ ρ :=
  sp_xv (own := RX11) (by decide) rfl hst (Nat.le_of_ble_eq_true rfl) rfl (fun X hX hw hl hR => by subst hw; subst hl; exact hX11_needWhat hX hR   hf)
def rmX11_needAhead : Room := { frames := 6, cells := 1, slots := 6, locals := 100 }
def X11_needAhead_10 (n : Nat) (σ : sp_St) : Option (sp_St × Option Nat) :=
  some (σ, some 2)
def X11_needAhead (n : Nat)  (σ : sp_St) (a1 : Int32) : Option (sp_St × Option Nat) :=
  if a1 < 0 then
    X11_needAhead_10 n σ
  else
    if a1 ≤ ((60 : Int32)) then
      some (σ, none)
    else
      X11_needAhead_10 n σ
set_option maxRecDepth 100000 in
set_option maxHeartbeats 4000000 in
theorem hX11_needAhead_10 {X : sp_X} (hX : sp_OK shX X cX11_needAhead RX11 2 rmX11_needAhead) {τ : sp_St} {ρ : Option Nat} (hR : sp_RXv shX X τ ρ 1 6) {n : Nat}    {σ : sp_St} (hf : X11_needAhead_10 n σ = some (τ, ρ)) : sp_GG shX X σ 2 [none, none] [] 10 0 0 := by
  unfold X11_needAhead_10 at hf
  exact sp_thrV hX (by decide) hR hf thX11_110_1 thX11_110_2 thX11_110_3 thX11_110_4 thX11_110_5 thX11_110_6 dX11_needAhead_10 dX11_needAhead_13 dX11_needAhead_14 dX11_needAhead_17 (Nat.le_of_ble_eq_true rfl) (Nat.le_of_ble_eq_true rfl) (Nat.le_of_ble_eq_true rfl) (Nat.le_of_ble_eq_true rfl) (Nat.le_of_ble_eq_true rfl) (Nat.le_of_ble_eq_true rfl)
set_option maxRecDepth 100000 in
set_option maxHeartbeats 4000000 in
theorem hX11_needAhead {X : sp_X} (hX : sp_OK shX X cX11_needAhead RX11 2 rmX11_needAhead) {τ : sp_St} {ρ : Option Nat} (hR : sp_RXv shX X τ ρ 1 6) {n : Nat}  {σ : sp_St} {a1 : Int32}  (hf : X11_needAhead n σ a1 = some (τ, ρ)) : sp_GG shX X σ 2 [some (.ref (sx_ad X 0)), some (.int a1)] [] 0 0 0 := by
  unfold X11_needAhead at hf
  refine sp_iload_n (i := 1) (q := 1) hX dX11_needAhead_0 rfl rfl rfl ?_
  refine sp_if_lt (tgt := 10) (q := 4) hX dX11_needAhead_1 (by decide) rfl (fun hc => ?_) (fun hc => ?_)
  · rw [if_pos hc] at hf
    refine sp_drop (lv' := [none, none]) trivial ?_
    exact hX11_needAhead_10 hX hR hf
  · rw [if_neg hc] at hf
    refine sp_iload_n (i := 1) (q := 5) hX dX11_needAhead_4 rfl rfl rfl ?_
    refine sp_bipush (v := 60) (q := 7) hX dX11_needAhead_5 lb_60 rfl ?_
    refine sp_icmp_le (tgt := 18) (q := 10) hX dX11_needAhead_7 (by decide) rfl (fun hc => ?_) (fun hc => ?_)
    · rw [if_pos hc] at hf
      exact sp_vretX hX hR dX11_needAhead_18 hf (Nat.le_of_ble_eq_true rfl) (Nat.le_of_ble_eq_true rfl)
    · rw [if_neg hc] at hf
      refine sp_drop (lv' := [none, none]) trivial ?_
      exact hX11_needAhead_10 hX hR hf
set_option maxRecDepth 100000 in
set_option maxHeartbeats 4000000 in
theorem cnX11_needAhead {l : Launch} (hst : l.stackTraces = false) {w : sp_Wd} {n : Nat}  {σ : sp_St} {a1 : Int32} {τ : sp_St} {ρ : Option Nat}  (hf : X11_needAhead n σ a1 = some (τ, ρ)) : sp_Xv shX l w yX11_needAhead cX11_needAhead 2 rmX11_needAhead 1 6 σ [.ref (w.2.1 0), .int a1] τ ρ :=
  sp_xv (own := RX11) (by decide) rfl hst (Nat.le_of_ble_eq_true rfl) rfl (fun X hX hw hl hR => by subst hw; subst hl; exact hX11_needAhead hX hR   hf)
def rmX11_feed : Room := { frames := 1, cells := 0, slots := 0, locals := 22 }
def X11_feed (n : Nat)  (σ : sp_St) (a1 : Int32) (a2 : Int32) (a3 : Int32) (a4 : Int32) (a5 : Int32) : Option (sp_St × Int32) :=
  if (σ.1 0 1) ≤ ((680 : Int32)) then
    sp_bv (X11_feedNumber n σ a1) fun σ2 =>
    sp_bv (X11_feedNumber n σ2 a2) fun σ4 =>
    sp_bv (X11_feedNumber n σ4 a3) fun σ6 =>
    sp_bv (X11_feedNumber n σ6 a4) fun σ8 =>
    sp_bv (X11_feedNumber n σ8 a5) fun σ10 =>
    some (σ10, σ10.1 0 1)
  else
    some (σ, (-1 : Int32))
set_option maxRecDepth 100000 in
set_option maxHeartbeats 4000000 in
theorem hX11_feed {X : sp_X} (hX : sp_OK shX X cX11_feed RX11 6 rmX11_feed) {τ : sp_St} {r : Int32} (hR : sp_Ri shX X (some .int) τ r 0 0) {n : Nat}  {σ : sp_St} {a1 : Int32} {a2 : Int32} {a3 : Int32} {a4 : Int32} {a5 : Int32}  (hf : X11_feed n σ a1 a2 a3 a4 a5 = some (τ, r)) : sp_GG shX X σ 6 [some (.ref (sx_ad X 0)), some (.int a1), some (.int a2), some (.int a3), some (.int a4), some (.int a5)] [] 0 0 0 := by
  unfold X11_feed at hf
  refine sp_aload_n (i := 0) (q := 1) hX dX11_feed_0 rfl rfl rfl ?_
  refine sp_geti (q := 4) hX flX11_101 fkX11_1 atX_0 dX11_feed_1 rfl ?_
  refine sp_sipush (v := 680) (q := 7) hX dX11_feed_4 ls_680 rfl ?_
  refine sp_icmp_le (tgt := 12) (q := 10) hX dX11_feed_7 (by decide) rfl (fun hc => ?_) (fun hc => ?_)
  · rw [if_pos hc] at hf
    refine sp_aload_n (i := 0) (q := 13) hX dX11_feed_12 rfl rfl rfl ?_
    refine sp_iload_n (i := 1) (q := 14) hX dX11_feed_13 rfl rfl rfl ?_
    obtain ⟨σ2, h1, hf⟩ := sp_bv_so hf
    refine sp_callVv (As := [.int a1]) (rest := []) (q := 17) hX (cnX11_feedNumber (sp_st hX)  h1) cwX11_104 atX_0 rfl rfl rfl rfl rfl (Nat.le_of_ble_eq_true rfl) (Nat.le_of_ble_eq_true rfl) (Nat.le_of_ble_eq_true rfl) (Nat.le_of_ble_eq_true rfl) (Nat.le_of_ble_eq_true rfl) dX11_feed_14 rfl ?_
    refine sp_aload_n (i := 0) (q := 18) hX dX11_feed_17 rfl rfl rfl ?_
    refine sp_iload_n (i := 2) (q := 19) hX dX11_feed_18 rfl rfl rfl ?_
    obtain ⟨σ4, h3, hf⟩ := sp_bv_so hf
    refine sp_callVv (As := [.int a2]) (rest := []) (q := 22) hX (cnX11_feedNumber (sp_st hX)  h3) cwX11_104 atX_0 rfl rfl rfl rfl rfl (Nat.le_of_ble_eq_true rfl) (Nat.le_of_ble_eq_true rfl) (Nat.le_of_ble_eq_true rfl) (Nat.le_of_ble_eq_true rfl) (Nat.le_of_ble_eq_true rfl) dX11_feed_19 rfl ?_
    refine sp_aload_n (i := 0) (q := 23) hX dX11_feed_22 rfl rfl rfl ?_
    refine sp_iload_n (i := 3) (q := 24) hX dX11_feed_23 rfl rfl rfl ?_
    obtain ⟨σ6, h5, hf⟩ := sp_bv_so hf
    refine sp_callVv (As := [.int a3]) (rest := []) (q := 27) hX (cnX11_feedNumber (sp_st hX)  h5) cwX11_104 atX_0 rfl rfl rfl rfl rfl (Nat.le_of_ble_eq_true rfl) (Nat.le_of_ble_eq_true rfl) (Nat.le_of_ble_eq_true rfl) (Nat.le_of_ble_eq_true rfl) (Nat.le_of_ble_eq_true rfl) dX11_feed_24 rfl ?_
    refine sp_aload_n (i := 0) (q := 28) hX dX11_feed_27 rfl rfl rfl ?_
    refine sp_iload (i := 4) (q := 30) hX dX11_feed_28 rfl rfl ?_
    obtain ⟨σ8, h7, hf⟩ := sp_bv_so hf
    refine sp_callVv (As := [.int a4]) (rest := []) (q := 33) hX (cnX11_feedNumber (sp_st hX)  h7) cwX11_104 atX_0 rfl rfl rfl rfl rfl (Nat.le_of_ble_eq_true rfl) (Nat.le_of_ble_eq_true rfl) (Nat.le_of_ble_eq_true rfl) (Nat.le_of_ble_eq_true rfl) (Nat.le_of_ble_eq_true rfl) dX11_feed_30 rfl ?_
    refine sp_aload_n (i := 0) (q := 34) hX dX11_feed_33 rfl rfl rfl ?_
    refine sp_iload (i := 5) (q := 36) hX dX11_feed_34 rfl rfl ?_
    obtain ⟨σ10, h9, hf⟩ := sp_bv_so hf
    refine sp_callVv (As := [.int a5]) (rest := []) (q := 39) hX (cnX11_feedNumber (sp_st hX)  h9) cwX11_104 atX_0 rfl rfl rfl rfl rfl (Nat.le_of_ble_eq_true rfl) (Nat.le_of_ble_eq_true rfl) (Nat.le_of_ble_eq_true rfl) (Nat.le_of_ble_eq_true rfl) (Nat.le_of_ble_eq_true rfl) dX11_feed_36 rfl ?_
    refine sp_aload_n (i := 0) (q := 40) hX dX11_feed_39 rfl rfl rfl ?_
    refine sp_geti (q := 43) hX flX11_101 fkX11_1 atX_0 dX11_feed_40 rfl ?_
    exact sp_iret hX hR dX11_feed_43 hf (Nat.le_of_ble_eq_true rfl) (Nat.le_of_ble_eq_true rfl)
  · rw [if_neg hc] at hf
    refine sp_iconst (v := -1) (q := 11) hX dX11_feed_10 li_m1 rfl ?_
    exact sp_iret hX hR dX11_feed_11 hf (Nat.le_of_ble_eq_true rfl) (Nat.le_of_ble_eq_true rfl)
set_option maxRecDepth 100000 in
set_option maxHeartbeats 4000000 in
theorem cnX11_feed {l : Launch} (hst : l.stackTraces = false) {w : sp_Wd} {n : Nat}  {σ : sp_St} {a1 : Int32} {a2 : Int32} {a3 : Int32} {a4 : Int32} {a5 : Int32} {τ : sp_St} {r : Int32}  (hf : X11_feed n σ a1 a2 a3 a4 a5 = some (τ, r)) : sp_Ci shX l w yX11_feed cX11_feed 6 (some .int) rmX11_feed 0 0 σ [.ref (w.2.1 0), .int a1, .int a2, .int a3, .int a4, .int a5] τ r :=
  sp_ci (own := RX11) (by decide) rfl hst (Nat.le_of_ble_eq_true rfl) rfl (fun X hX hw hl hR => by subst hw; subst hl; exact hX11_feed hX hR   hf)
def rmX11_blade : Room := { frames := 7, cells := 2, slots := 12, locals := 121 }
def X11_blade (n : Nat)  (σ : sp_St) (a1 : Int32) (a2 : Int32) : Option (sp_St × (Int32 ⊕ Nat)) :=
  sp_bx (X11_needBlade n σ a1) fun σ2 =>
  if a2 = 0 then
    sp_pl (σ2.2.1 0 3) fun c4 =>
    sp_ck (sp_isc c4) <|
    sp_ck (sp_in a1 10) <|
    some (σ2, Sum.inl (sp_g σ2 (c4 + 1) a1))
  else
    if a2 = 1 then
      sp_pl (σ2.2.1 0 3) fun c9 =>
      sp_ck (sp_isc c9) <|
      sp_ck (sp_in a1 10) <|
      some (σ2, Sum.inl (sp_g σ2 (c9 + 2) a1))
    else
      if a2 = 2 then
        sp_ck (sp_in a1 50) <|
        some (σ2, Sum.inl (sp_g σ2 24 a1))
      else
        if a2 = 3 then
          sp_bd (X8_state n σ2 23 a1) fun σ17 v18 =>
          some (σ17, Sum.inl v18)
        else
          if a2 = 4 then
            sp_bd (X8_swallowerOf n σ2 23 a1) fun σ21 v22 =>
            some (σ21, Sum.inl v22)
          else
            if a2 = 5 then
              sp_bd (X8_foesNow n σ2 23 a1) fun σ25 v26 =>
              some (σ25, Sum.inl v26)
            else
              if a2 = 6 then
                sp_bd (X8_changeNow n σ2 23 a1) fun σ29 v30 =>
                some (σ29, Sum.inl v30)
              else
                some (σ2, Sum.inr 1)
set_option maxRecDepth 100000 in
set_option maxHeartbeats 4000000 in
theorem hX11_blade {X : sp_X} (hX : sp_OK shX X cX11_blade RX11 4 rmX11_blade) {τ : sp_St} {ρ : Int32 ⊕ Nat} (hR : sp_RXi shX X (some .int) τ ρ 2 12) {n : Nat}  {σ : sp_St} {a1 : Int32} {a2 : Int32}  (hf : X11_blade n σ a1 a2 = some (τ, ρ)) : sp_GG shX X σ 4 [some (.ref (sx_ad X 0)), some (.int a1), some (.int a2), none] [] 0 0 0 := by
  unfold X11_blade at hf
  refine sp_aload_n (i := 0) (q := 1) hX dX11_blade_0 rfl rfl rfl ?_
  refine sp_iload_n (i := 1) (q := 2) hX dX11_blade_1 rfl rfl rfl ?_
  obtain ⟨σ2, o3, h1, hf⟩ := sp_bx_so hf
  refine sp_callXv (As := [.int a1]) (rest := []) (q := 5) hX (by decide) hR (cnX11_needBlade (sp_st hX) h1) cwX11_161 atX_0 rfl rfl rfl rfl rfl (Nat.le_of_ble_eq_true rfl) (Nat.le_of_ble_eq_true rfl) (Nat.le_of_ble_eq_true rfl) (Nat.le_of_ble_eq_true rfl) (Nat.le_of_ble_eq_true rfl) (Nat.le_of_ble_eq_true rfl) (Nat.le_of_ble_eq_true rfl) dX11_blade_2 rfl hf (fun hf => ?_)
  refine sp_aload_n (i := 0) (q := 6) hX dX11_blade_5 rfl rfl rfl ?_
  refine sp_gets (t := 22) (q := 9) hX flX11_46 fkX11_6 atX_0 srX_0_6 dX11_blade_6 rfl ?_
  refine sp_gets (t := 23) (q := 12) hX flX11_58 fkX1_0 atX_22 srX_22_0 dX11_blade_9 rfl ?_
  refine sp_astore_n (i := 3) (lv' := [some (.ref (sx_ad X 0)), some (.int a1), some (.int a2), some (.ref (sx_ad X 23))]) (q := 13) hX dX11_blade_12 rfl (Nat.le_of_ble_eq_true rfl) rfl rfl rfl ?_
  refine sp_iload_n (i := 2) (q := 14) hX dX11_blade_13 rfl rfl rfl ?_
  by_cases h8 : a2 = 0
  · rw [if_pos h8] at hf
    refine sp_tblIn (off := 42) (tgt := 56) hX dX11_blade_14 (by rw [h8]; decide) (by rw [h8]; decide) (by rw [h8]; decide +kernel) (by decide) ?_
    refine sp_aload_n (i := 0) (q := 57) hX dX11_blade_56 rfl rfl rfl ?_
    obtain ⟨c4, e6, hf⟩ := sp_pl_some hf
    obtain ⟨h5, hf⟩ := sp_ck_some hf
    refine sp_getr (q := 60) hX flX11_20 fkX11_3 atX_0 dX11_blade_57 rfl ?_
    refine sp_nmr e6 ?_
    refine sp_gets (t := c4 + 1) (q := 63) hX flX11_164 fkX2_0 (sp_isc_at h5) (msX2_0 (sp_isc_at h5)) dX11_blade_60 rfl ?_
    refine sp_iload_n (i := 1) (q := 64) hX dX11_blade_63 rfl rfl rfl ?_
    obtain ⟨h7, hf⟩ := sp_ck_some hf
    refine sp_iald (q := 65) hX (mfX2_0 (sp_isc_at h5)) h7 dX11_blade_64 rfl ?_
    exact sp_iretX hX hR dX11_blade_65 hf (Nat.le_of_ble_eq_true rfl) (Nat.le_of_ble_eq_true rfl)
  · rw [if_neg h8] at hf
    by_cases h13 : a2 = 1
    · rw [if_pos h13] at hf
      refine sp_tblIn (off := 52) (tgt := 66) hX dX11_blade_14 (by rw [h13]; decide) (by rw [h13]; decide) (by rw [h13]; decide +kernel) (by decide) ?_
      refine sp_aload_n (i := 0) (q := 67) hX dX11_blade_66 rfl rfl rfl ?_
      obtain ⟨c9, e11, hf⟩ := sp_pl_some hf
      obtain ⟨h10, hf⟩ := sp_ck_some hf
      refine sp_getr (q := 70) hX flX11_20 fkX11_3 atX_0 dX11_blade_67 rfl ?_
      refine sp_nmr e11 ?_
      refine sp_gets (t := c9 + 2) (q := 73) hX flX11_167 fkX2_1 (sp_isc_at h10) (msX2_1 (sp_isc_at h10)) dX11_blade_70 rfl ?_
      refine sp_iload_n (i := 1) (q := 74) hX dX11_blade_73 rfl rfl rfl ?_
      obtain ⟨h12, hf⟩ := sp_ck_some hf
      refine sp_iald (q := 75) hX (mfX2_1 (sp_isc_at h10)) h12 dX11_blade_74 rfl ?_
      exact sp_iretX hX hR dX11_blade_75 hf (Nat.le_of_ble_eq_true rfl) (Nat.le_of_ble_eq_true rfl)
    · rw [if_neg h13] at hf
      by_cases h15 : a2 = 2
      · rw [if_pos h15] at hf
        refine sp_tblIn (off := 62) (tgt := 76) hX dX11_blade_14 (by rw [h15]; decide) (by rw [h15]; decide) (by rw [h15]; decide +kernel) (by decide) ?_
        refine sp_aload_n (i := 3) (q := 77) hX dX11_blade_76 rfl rfl rfl ?_
        refine sp_gets (t := 24) (q := 80) hX flX11_93 fkX8_1 atX_23 srX_23_1 dX11_blade_77 rfl ?_
        refine sp_iload_n (i := 1) (q := 81) hX dX11_blade_80 rfl rfl rfl ?_
        obtain ⟨h14, hf⟩ := sp_ck_some hf
        refine sp_iald (q := 82) hX arX_24 h14 dX11_blade_81 rfl ?_
        exact sp_iretX hX hR dX11_blade_82 hf (Nat.le_of_ble_eq_true rfl) (Nat.le_of_ble_eq_true rfl)
      · rw [if_neg h15] at hf
        by_cases h19 : a2 = 3
        · rw [if_pos h19] at hf
          refine sp_tblIn (off := 69) (tgt := 83) hX dX11_blade_14 (by rw [h19]; decide) (by rw [h19]; decide) (by rw [h19]; decide +kernel) (by decide) ?_
          refine sp_aload_n (i := 3) (q := 84) hX dX11_blade_83 rfl rfl rfl ?_
          refine sp_iload_n (i := 1) (q := 85) hX dX11_blade_84 rfl rfl rfl ?_
          obtain ⟨σ17, v18, h16, hf⟩ := sp_bd_so hf
          refine sp_callVi (As := [.int a1]) (rest := []) (q := 88) hX (cnX8_state (sp_st hX) atX_23 h16) cwX11_170 atX_23 rfl rfl rfl rfl rfl (Nat.le_of_ble_eq_true rfl) (Nat.le_of_ble_eq_true rfl) (Nat.le_of_ble_eq_true rfl) (Nat.le_of_ble_eq_true rfl) (Nat.le_of_ble_eq_true rfl) dX11_blade_85 rfl ?_
          exact sp_iretX hX hR dX11_blade_88 hf (Nat.le_of_ble_eq_true rfl) (Nat.le_of_ble_eq_true rfl)
        · rw [if_neg h19] at hf
          by_cases h23 : a2 = 4
          · rw [if_pos h23] at hf
            refine sp_tblIn (off := 75) (tgt := 89) hX dX11_blade_14 (by rw [h23]; decide) (by rw [h23]; decide) (by rw [h23]; decide +kernel) (by decide) ?_
            refine sp_aload_n (i := 3) (q := 90) hX dX11_blade_89 rfl rfl rfl ?_
            refine sp_iload_n (i := 1) (q := 91) hX dX11_blade_90 rfl rfl rfl ?_
            obtain ⟨σ21, v22, h20, hf⟩ := sp_bd_so hf
            refine sp_callVi (As := [.int a1]) (rest := []) (q := 94) hX (cnX8_swallowerOf (sp_st hX) atX_23 h20) cwX11_174 atX_23 rfl rfl rfl rfl rfl (Nat.le_of_ble_eq_true rfl) (Nat.le_of_ble_eq_true rfl) (Nat.le_of_ble_eq_true rfl) (Nat.le_of_ble_eq_true rfl) (Nat.le_of_ble_eq_true rfl) dX11_blade_91 rfl ?_
            exact sp_iretX hX hR dX11_blade_94 hf (Nat.le_of_ble_eq_true rfl) (Nat.le_of_ble_eq_true rfl)
          · rw [if_neg h23] at hf
            by_cases h27 : a2 = 5
            · rw [if_pos h27] at hf
              refine sp_tblIn (off := 81) (tgt := 95) hX dX11_blade_14 (by rw [h27]; decide) (by rw [h27]; decide) (by rw [h27]; decide +kernel) (by decide) ?_
              refine sp_aload_n (i := 3) (q := 96) hX dX11_blade_95 rfl rfl rfl ?_
              refine sp_iload_n (i := 1) (q := 97) hX dX11_blade_96 rfl rfl rfl ?_
              obtain ⟨σ25, v26, h24, hf⟩ := sp_bd_so hf
              refine sp_callVi (As := [.int a1]) (rest := []) (q := 100) hX (cnX8_foesNow (sp_st hX) atX_23 h24) cwX11_177 atX_23 rfl rfl rfl rfl rfl (Nat.le_of_ble_eq_true rfl) (Nat.le_of_ble_eq_true rfl) (Nat.le_of_ble_eq_true rfl) (Nat.le_of_ble_eq_true rfl) (Nat.le_of_ble_eq_true rfl) dX11_blade_97 rfl ?_
              exact sp_iretX hX hR dX11_blade_100 hf (Nat.le_of_ble_eq_true rfl) (Nat.le_of_ble_eq_true rfl)
            · rw [if_neg h27] at hf
              by_cases h31 : a2 = 6
              · rw [if_pos h31] at hf
                refine sp_tblIn (off := 87) (tgt := 101) hX dX11_blade_14 (by rw [h31]; decide) (by rw [h31]; decide) (by rw [h31]; decide +kernel) (by decide) ?_
                refine sp_aload_n (i := 3) (q := 102) hX dX11_blade_101 rfl rfl rfl ?_
                refine sp_iload_n (i := 1) (q := 103) hX dX11_blade_102 rfl rfl rfl ?_
                obtain ⟨σ29, v30, h28, hf⟩ := sp_bd_so hf
                refine sp_callVi (As := [.int a1]) (rest := []) (q := 106) hX (cnX8_changeNow (sp_st hX) atX_23 h28) cwX11_180 atX_23 rfl rfl rfl rfl rfl (Nat.le_of_ble_eq_true rfl) (Nat.le_of_ble_eq_true rfl) (Nat.le_of_ble_eq_true rfl) (Nat.le_of_ble_eq_true rfl) (Nat.le_of_ble_eq_true rfl) dX11_blade_103 rfl ?_
                exact sp_iretX hX hR dX11_blade_106 hf (Nat.le_of_ble_eq_true rfl) (Nat.le_of_ble_eq_true rfl)
              · rw [if_neg h31] at hf
                refine sp_tblOut (tgt := 107) hX dX11_blade_14 (sp_swo (0) (6) (by decide) (fun kk hka hkb hke => by
                  rcases (show kk = 0 ∨ kk = 1 ∨ kk = 2 ∨ kk = 3 ∨ kk = 4 ∨ kk = 5 ∨ kk = 6 by omega) with rfl | rfl | rfl | rfl | rfl | rfl | rfl
                  · exact h8 (sp_i32 hke (by decide))
                  · exact h13 (sp_i32 hke (by decide))
                  · exact h15 (sp_i32 hke (by decide))
                  · exact h19 (sp_i32 hke (by decide))
                  · exact h23 (sp_i32 hke (by decide))
                  · exact h27 (sp_i32 hke (by decide))
                  · exact h31 (sp_i32 hke (by decide)))) (by decide) ?_
                exact sp_thrI hX (by decide) hR hf thX11_160_1 thX11_160_2 thX11_160_3 thX11_160_4 thX11_160_5 thX11_160_6 dX11_blade_107 dX11_blade_110 dX11_blade_111 dX11_blade_114 (Nat.le_of_ble_eq_true rfl) (Nat.le_of_ble_eq_true rfl) (Nat.le_of_ble_eq_true rfl) (Nat.le_of_ble_eq_true rfl) (Nat.le_of_ble_eq_true rfl) (Nat.le_of_ble_eq_true rfl)
set_option maxRecDepth 100000 in
set_option maxHeartbeats 4000000 in
theorem cnX11_blade {l : Launch} (hst : l.stackTraces = false) {w : sp_Wd} {n : Nat}  {σ : sp_St} {a1 : Int32} {a2 : Int32} {τ : sp_St} {ρ : Int32 ⊕ Nat}  (hf : X11_blade n σ a1 a2 = some (τ, ρ)) : sp_Xi shX l w yX11_blade cX11_blade 4 (some .int) rmX11_blade 2 12 σ [.ref (w.2.1 0), .int a1, .int a2] τ ρ :=
  sp_xi (own := RX11) (by decide) rfl hst (Nat.le_of_ble_eq_true rfl) rfl (fun X hX hw hl hR => by subst hw; subst hl; exact hX11_blade hX hR   hf)
def rmX11_throat : Room := { frames := 7, cells := 2, slots := 12, locals := 121 }
def X11_throat (n : Nat)  (σ : sp_St) (a1 : Int32) (a2 : Int32) : Option (sp_St × (Int32 ⊕ Nat)) :=
  sp_bx (X11_needSwallower n σ a1) fun σ2 =>
  if a2 = 0 then
    sp_ck (sp_in (((30 : Int32)) + a1) 50) <|
    some (σ2, Sum.inl (sp_g σ2 24 (((30 : Int32)) + a1)))
  else
    if a2 = 1 then
      sp_pl (σ2.2.1 0 3) fun c6 =>
      sp_ck (sp_isc c6) <|
      sp_ck (sp_in a1 5) <|
      some (σ2, Sum.inl (sp_g σ2 (c6 + 6) a1))
    else
      if a2 = 2 then
        sp_bd (X8_left n σ2 23 a1) fun σ12 v13 =>
        some (σ12, Sum.inl v13)
      else
        if a2 = 3 then
          sp_bd (X8_bladesAt n σ2 23 (a1 + ((1 : Int32)))) fun σ16 v17 =>
          sp_bd (J6_bitCount_0f7a4 n σ16 v17) fun σ19 v20 =>
          some (σ19, Sum.inl v20)
        else
          if a2 = 4 then
            sp_bd (X8_top n σ2 23 a1) fun σ23 v24 =>
            some (σ23, Sum.inl v24)
          else
            some (σ2, Sum.inr 1)
set_option maxRecDepth 100000 in
set_option maxHeartbeats 4000000 in
theorem hX11_throat {X : sp_X} (hX : sp_OK shX X cX11_throat RX11 4 rmX11_throat) {τ : sp_St} {ρ : Int32 ⊕ Nat} (hR : sp_RXi shX X (some .int) τ ρ 2 12) {n : Nat}  {σ : sp_St} {a1 : Int32} {a2 : Int32}  (hf : X11_throat n σ a1 a2 = some (τ, ρ)) : sp_GG shX X σ 4 [some (.ref (sx_ad X 0)), some (.int a1), some (.int a2), none] [] 0 0 0 := by
  unfold X11_throat at hf
  refine sp_aload_n (i := 0) (q := 1) hX dX11_throat_0 rfl rfl rfl ?_
  refine sp_iload_n (i := 1) (q := 2) hX dX11_throat_1 rfl rfl rfl ?_
  obtain ⟨σ2, o3, h1, hf⟩ := sp_bx_so hf
  refine sp_callXv (As := [.int a1]) (rest := []) (q := 5) hX (by decide) hR (cnX11_needSwallower (sp_st hX) h1) cwX11_183 atX_0 rfl rfl rfl rfl rfl (Nat.le_of_ble_eq_true rfl) (Nat.le_of_ble_eq_true rfl) (Nat.le_of_ble_eq_true rfl) (Nat.le_of_ble_eq_true rfl) (Nat.le_of_ble_eq_true rfl) (Nat.le_of_ble_eq_true rfl) (Nat.le_of_ble_eq_true rfl) dX11_throat_2 rfl hf (fun hf => ?_)
  refine sp_aload_n (i := 0) (q := 6) hX dX11_throat_5 rfl rfl rfl ?_
  refine sp_gets (t := 22) (q := 9) hX flX11_46 fkX11_6 atX_0 srX_0_6 dX11_throat_6 rfl ?_
  refine sp_gets (t := 23) (q := 12) hX flX11_58 fkX1_0 atX_22 srX_22_0 dX11_throat_9 rfl ?_
  refine sp_astore_n (i := 3) (lv' := [some (.ref (sx_ad X 0)), some (.int a1), some (.int a2), some (.ref (sx_ad X 23))]) (q := 13) hX dX11_throat_12 rfl (Nat.le_of_ble_eq_true rfl) rfl rfl rfl ?_
  refine sp_iload_n (i := 2) (q := 14) hX dX11_throat_13 rfl rfl rfl ?_
  by_cases h5 : a2 = 0
  · rw [if_pos h5] at hf
    refine sp_tblIn (off := 34) (tgt := 48) hX dX11_throat_14 (by rw [h5]; decide) (by rw [h5]; decide) (by rw [h5]; decide +kernel) (by decide) ?_
    refine sp_aload_n (i := 3) (q := 49) hX dX11_throat_48 rfl rfl rfl ?_
    refine sp_gets (t := 24) (q := 52) hX flX11_93 fkX8_1 atX_23 srX_23_1 dX11_throat_49 rfl ?_
    refine sp_bipush (v := 30) (q := 54) hX dX11_throat_52 lb_30 rfl ?_
    refine sp_iload_n (i := 1) (q := 55) hX dX11_throat_54 rfl rfl rfl ?_
    refine sp_iadd (q := 56) hX dX11_throat_55 rfl ?_
    obtain ⟨h4, hf⟩ := sp_ck_some hf
    refine sp_iald (q := 57) hX arX_24 h4 dX11_throat_56 rfl ?_
    exact sp_iretX hX hR dX11_throat_57 hf (Nat.le_of_ble_eq_true rfl) (Nat.le_of_ble_eq_true rfl)
  · rw [if_neg h5] at hf
    by_cases h10 : a2 = 1
    · rw [if_pos h10] at hf
      refine sp_tblIn (off := 44) (tgt := 58) hX dX11_throat_14 (by rw [h10]; decide) (by rw [h10]; decide) (by rw [h10]; decide +kernel) (by decide) ?_
      refine sp_aload_n (i := 0) (q := 59) hX dX11_throat_58 rfl rfl rfl ?_
      obtain ⟨c6, e8, hf⟩ := sp_pl_some hf
      obtain ⟨h7, hf⟩ := sp_ck_some hf
      refine sp_getr (q := 62) hX flX11_20 fkX11_3 atX_0 dX11_throat_59 rfl ?_
      refine sp_nmr e8 ?_
      refine sp_gets (t := c6 + 6) (q := 65) hX flX11_186 fkX2_5 (sp_isc_at h7) (msX2_5 (sp_isc_at h7)) dX11_throat_62 rfl ?_
      refine sp_iload_n (i := 1) (q := 66) hX dX11_throat_65 rfl rfl rfl ?_
      obtain ⟨h9, hf⟩ := sp_ck_some hf
      refine sp_iald (q := 67) hX (mfX2_5 (sp_isc_at h7)) h9 dX11_throat_66 rfl ?_
      exact sp_iretX hX hR dX11_throat_67 hf (Nat.le_of_ble_eq_true rfl) (Nat.le_of_ble_eq_true rfl)
    · rw [if_neg h10] at hf
      by_cases h14 : a2 = 2
      · rw [if_pos h14] at hf
        refine sp_tblIn (off := 54) (tgt := 68) hX dX11_throat_14 (by rw [h14]; decide) (by rw [h14]; decide) (by rw [h14]; decide +kernel) (by decide) ?_
        refine sp_aload_n (i := 3) (q := 69) hX dX11_throat_68 rfl rfl rfl ?_
        refine sp_iload_n (i := 1) (q := 70) hX dX11_throat_69 rfl rfl rfl ?_
        obtain ⟨σ12, v13, h11, hf⟩ := sp_bd_so hf
        refine sp_callVi (As := [.int a1]) (rest := []) (q := 73) hX (cnX8_left (sp_st hX) atX_23 h11) cwX11_189 atX_23 rfl rfl rfl rfl rfl (Nat.le_of_ble_eq_true rfl) (Nat.le_of_ble_eq_true rfl) (Nat.le_of_ble_eq_true rfl) (Nat.le_of_ble_eq_true rfl) (Nat.le_of_ble_eq_true rfl) dX11_throat_70 rfl ?_
        exact sp_iretX hX hR dX11_throat_73 hf (Nat.le_of_ble_eq_true rfl) (Nat.le_of_ble_eq_true rfl)
      · rw [if_neg h14] at hf
        by_cases h21 : a2 = 3
        · rw [if_pos h21] at hf
          refine sp_tblIn (off := 60) (tgt := 74) hX dX11_throat_14 (by rw [h21]; decide) (by rw [h21]; decide) (by rw [h21]; decide +kernel) (by decide) ?_
          refine sp_aload_n (i := 3) (q := 75) hX dX11_throat_74 rfl rfl rfl ?_
          refine sp_iload_n (i := 1) (q := 76) hX dX11_throat_75 rfl rfl rfl ?_
          refine sp_iconst (v := 1) (q := 77) hX dX11_throat_76 li_1 rfl ?_
          refine sp_iadd (q := 78) hX dX11_throat_77 rfl ?_
          obtain ⟨σ16, v17, h15, hf⟩ := sp_bd_so hf
          refine sp_callVi (As := [.int (a1 + ((1 : Int32)))]) (rest := []) (q := 81) hX (cnX8_bladesAt (sp_st hX) atX_23 h15) cwX11_192 atX_23 rfl rfl rfl rfl rfl (Nat.le_of_ble_eq_true rfl) (Nat.le_of_ble_eq_true rfl) (Nat.le_of_ble_eq_true rfl) (Nat.le_of_ble_eq_true rfl) (Nat.le_of_ble_eq_true rfl) dX11_throat_78 rfl ?_
          obtain ⟨σ19, v20, h18, hf⟩ := sp_bd_so hf
          refine sp_callSi (As := [.int v17]) (rest := []) (q := 84) hX (cnJ6_bitCount_0f7a4 (sp_st hX)  h18) cwX11_195 rfl rfl rfl rfl (Nat.le_of_ble_eq_true rfl) (Nat.le_of_ble_eq_true rfl) (Nat.le_of_ble_eq_true rfl) (Nat.le_of_ble_eq_true rfl) (Nat.le_of_ble_eq_true rfl) dX11_throat_81 rfl ?_
          exact sp_iretX hX hR dX11_throat_84 hf (Nat.le_of_ble_eq_true rfl) (Nat.le_of_ble_eq_true rfl)
        · rw [if_neg h21] at hf
          by_cases h25 : a2 = 4
          · rw [if_pos h25] at hf
            refine sp_tblIn (off := 71) (tgt := 85) hX dX11_throat_14 (by rw [h25]; decide) (by rw [h25]; decide) (by rw [h25]; decide +kernel) (by decide) ?_
            refine sp_aload_n (i := 3) (q := 86) hX dX11_throat_85 rfl rfl rfl ?_
            refine sp_iload_n (i := 1) (q := 87) hX dX11_throat_86 rfl rfl rfl ?_
            obtain ⟨σ23, v24, h22, hf⟩ := sp_bd_so hf
            refine sp_callVi (As := [.int a1]) (rest := []) (q := 90) hX (cnX8_top (sp_st hX) atX_23 h22) cwX11_200 atX_23 rfl rfl rfl rfl rfl (Nat.le_of_ble_eq_true rfl) (Nat.le_of_ble_eq_true rfl) (Nat.le_of_ble_eq_true rfl) (Nat.le_of_ble_eq_true rfl) (Nat.le_of_ble_eq_true rfl) dX11_throat_87 rfl ?_
            exact sp_iretX hX hR dX11_throat_90 hf (Nat.le_of_ble_eq_true rfl) (Nat.le_of_ble_eq_true rfl)
          · rw [if_neg h25] at hf
            refine sp_tblOut (tgt := 91) hX dX11_throat_14 (sp_swo (0) (4) (by decide) (fun kk hka hkb hke => by
              rcases (show kk = 0 ∨ kk = 1 ∨ kk = 2 ∨ kk = 3 ∨ kk = 4 by omega) with rfl | rfl | rfl | rfl | rfl
              · exact h5 (sp_i32 hke (by decide))
              · exact h10 (sp_i32 hke (by decide))
              · exact h14 (sp_i32 hke (by decide))
              · exact h21 (sp_i32 hke (by decide))
              · exact h25 (sp_i32 hke (by decide)))) (by decide) ?_
            exact sp_thrI hX (by decide) hR hf thX11_160_1 thX11_160_2 thX11_160_3 thX11_160_4 thX11_160_5 thX11_160_6 dX11_throat_91 dX11_throat_94 dX11_throat_95 dX11_throat_98 (Nat.le_of_ble_eq_true rfl) (Nat.le_of_ble_eq_true rfl) (Nat.le_of_ble_eq_true rfl) (Nat.le_of_ble_eq_true rfl) (Nat.le_of_ble_eq_true rfl) (Nat.le_of_ble_eq_true rfl)
set_option maxRecDepth 100000 in
set_option maxHeartbeats 4000000 in
theorem cnX11_throat {l : Launch} (hst : l.stackTraces = false) {w : sp_Wd} {n : Nat}  {σ : sp_St} {a1 : Int32} {a2 : Int32} {τ : sp_St} {ρ : Int32 ⊕ Nat}  (hf : X11_throat n σ a1 a2 = some (τ, ρ)) : sp_Xi shX l w yX11_throat cX11_throat 4 (some .int) rmX11_throat 2 12 σ [.ref (w.2.1 0), .int a1, .int a2] τ ρ :=
  sp_xi (own := RX11) (by decide) rfl hst (Nat.le_of_ble_eq_true rfl) rfl (fun X hX hw hl hR => by subst hw; subst hl; exact hX11_throat hX hR   hf)
def rmX11_feud : Room := { frames := 7, cells := 2, slots := 12, locals := 121 }
def X11_feud (n : Nat)  (σ : sp_St) (a1 : Int32) (a2 : Int32) : Option (sp_St × (Int32 ⊕ Nat)) :=
  sp_bx (X11_needHouse n σ a1) fun σ2 =>
  sp_bx (X11_needHouse n σ2 a2) fun σ5 =>
  sp_bd (X6_between n σ5 a1 a2) fun σ8 v9 =>
  sp_ck (sp_zb v9) <|
  some (σ8, Sum.inl v9)
set_option maxRecDepth 100000 in
set_option maxHeartbeats 4000000 in
theorem hX11_feud {X : sp_X} (hX : sp_OK shX X cX11_feud RX11 3 rmX11_feud) {τ : sp_St} {ρ : Int32 ⊕ Nat} (hR : sp_RXi shX X (some .boolean) τ ρ 2 12) {n : Nat}  {σ : sp_St} {a1 : Int32} {a2 : Int32}  (hf : X11_feud n σ a1 a2 = some (τ, ρ)) : sp_GG shX X σ 3 [some (.ref (sx_ad X 0)), some (.int a1), some (.int a2)] [] 0 0 0 := by
  unfold X11_feud at hf
  refine sp_aload_n (i := 0) (q := 1) hX dX11_feud_0 rfl rfl rfl ?_
  refine sp_iload_n (i := 1) (q := 2) hX dX11_feud_1 rfl rfl rfl ?_
  obtain ⟨σ2, o3, h1, hf⟩ := sp_bx_so hf
  refine sp_callXv (As := [.int a1]) (rest := []) (q := 5) hX (by decide) hR (cnX11_needHouse (sp_st hX) h1) cwX11_203 atX_0 rfl rfl rfl rfl rfl (Nat.le_of_ble_eq_true rfl) (Nat.le_of_ble_eq_true rfl) (Nat.le_of_ble_eq_true rfl) (Nat.le_of_ble_eq_true rfl) (Nat.le_of_ble_eq_true rfl) (Nat.le_of_ble_eq_true rfl) (Nat.le_of_ble_eq_true rfl) dX11_feud_2 rfl hf (fun hf => ?_)
  refine sp_aload_n (i := 0) (q := 6) hX dX11_feud_5 rfl rfl rfl ?_
  refine sp_iload_n (i := 2) (q := 7) hX dX11_feud_6 rfl rfl rfl ?_
  obtain ⟨σ5, o6, h4, hf⟩ := sp_bx_so hf
  refine sp_callXv (As := [.int a2]) (rest := []) (q := 10) hX (by decide) hR (cnX11_needHouse (sp_st hX) h4) cwX11_203 atX_0 rfl rfl rfl rfl rfl (Nat.le_of_ble_eq_true rfl) (Nat.le_of_ble_eq_true rfl) (Nat.le_of_ble_eq_true rfl) (Nat.le_of_ble_eq_true rfl) (Nat.le_of_ble_eq_true rfl) (Nat.le_of_ble_eq_true rfl) (Nat.le_of_ble_eq_true rfl) dX11_feud_7 rfl hf (fun hf => ?_)
  refine sp_aload_n (i := 0) (q := 11) hX dX11_feud_10 rfl rfl rfl ?_
  refine sp_gets (t := 66) (q := 14) hX flX11_97 fkX11_12 atX_0 srX_0_12 dX11_feud_11 rfl ?_
  refine sp_iload_n (i := 1) (q := 15) hX dX11_feud_14 rfl rfl rfl ?_
  refine sp_iload_n (i := 2) (q := 16) hX dX11_feud_15 rfl rfl rfl ?_
  obtain ⟨σ8, v9, h7, hf⟩ := sp_bd_so hf
  refine sp_callVi (As := [.int a1, .int a2]) (rest := []) (q := 19) hX (cnX6_between (sp_st hX)  h7) cwX11_206 atX_66 rfl rfl rfl rfl rfl (Nat.le_of_ble_eq_true rfl) (Nat.le_of_ble_eq_true rfl) (Nat.le_of_ble_eq_true rfl) (Nat.le_of_ble_eq_true rfl) (Nat.le_of_ble_eq_true rfl) dX11_feud_16 rfl ?_
  obtain ⟨h10, hf⟩ := sp_ck_some hf
  exact sp_zretX hX hR h10 dX11_feud_19 hf (Nat.le_of_ble_eq_true rfl) (Nat.le_of_ble_eq_true rfl)
set_option maxRecDepth 100000 in
set_option maxHeartbeats 4000000 in
theorem cnX11_feud {l : Launch} (hst : l.stackTraces = false) {w : sp_Wd} {n : Nat}  {σ : sp_St} {a1 : Int32} {a2 : Int32} {τ : sp_St} {ρ : Int32 ⊕ Nat}  (hf : X11_feud n σ a1 a2 = some (τ, ρ)) : sp_Xi shX l w yX11_feud cX11_feud 3 (some .boolean) rmX11_feud 2 12 σ [.ref (w.2.1 0), .int a1, .int a2] τ ρ :=
  sp_xi (own := RX11) (by decide) rfl hst (Nat.le_of_ble_eq_true rfl) rfl (fun X hX hw hl hR => by subst hw; subst hl; exact hX11_feud hX hR   hf)
def rmX11_days : Room := { frames := 6, cells := 0, slots := 0, locals := 138 }
def X11_days_34 (n : Nat) (σ : sp_St) : Option (sp_St × Int32) :=
  sp_bd (X11_refuse n σ ((1 : Int32))) fun σ2 v3 =>
  some (σ2, v3)
def X11_days (n : Nat)  (σ : sp_St) (a1 : Int32) : Option (sp_St × Int32) :=
  if a1 < ((1 : Int32)) then
    X11_days_34 n σ
  else
    if ((20 : Int32)) < a1 then
      X11_days_34 n σ
    else
      if ((sp_g σ 24 ((47 : Int32))) + a1) ≤ ((999 : Int32)) then
        sp_bv (X1_keepAct n σ 22) fun σ2 =>
        sp_bv (X8_passDays n σ2 23 a1) fun σ4 =>
        some (σ4, sp_g σ4 24 ((47 : Int32)))
      else
        X11_days_34 n σ
set_option maxRecDepth 100000 in
set_option maxHeartbeats 4000000 in
theorem hX11_days_34 {X : sp_X} (hX : sp_OK shX X cX11_days RX11 3 rmX11_days) {τ : sp_St} {r : Int32} (hR : sp_Ri shX X (some .int) τ r 0 0) {n : Nat}    {σ : sp_St} (hf : X11_days_34 n σ = some (τ, r)) : sp_GG shX X σ 3 [some (.ref (sx_ad X 0)), none, none] [] 34 0 0 := by
  unfold X11_days_34 at hf
  refine sp_aload_n (i := 0) (q := 35) hX dX11_days_34 rfl rfl rfl ?_
  refine sp_iconst (v := 1) (q := 36) hX dX11_days_35 li_1 rfl ?_
  obtain ⟨σ2, v3, h1, hf⟩ := sp_bd_so hf
  refine sp_callVi (As := [.int ((1 : Int32))]) (rest := []) (q := 39) hX (cnX11_refuse (sp_st hX)  h1) cwX11_210 atX_0 rfl rfl rfl rfl rfl (Nat.le_of_ble_eq_true rfl) (Nat.le_of_ble_eq_true rfl) (Nat.le_of_ble_eq_true rfl) (Nat.le_of_ble_eq_true rfl) (Nat.le_of_ble_eq_true rfl) dX11_days_36 rfl ?_
  exact sp_iret hX hR dX11_days_39 hf (Nat.le_of_ble_eq_true rfl) (Nat.le_of_ble_eq_true rfl)
set_option maxRecDepth 100000 in
set_option maxHeartbeats 4000000 in
theorem hX11_days {X : sp_X} (hX : sp_OK shX X cX11_days RX11 3 rmX11_days) {τ : sp_St} {r : Int32} (hR : sp_Ri shX X (some .int) τ r 0 0) {n : Nat}  {σ : sp_St} {a1 : Int32}  (hf : X11_days n σ a1 = some (τ, r)) : sp_GG shX X σ 3 [some (.ref (sx_ad X 0)), some (.int a1), none] [] 0 0 0 := by
  unfold X11_days at hf
  refine sp_aload_n (i := 0) (q := 1) hX dX11_days_0 rfl rfl rfl ?_
  refine sp_gets (t := 22) (q := 4) hX flX11_46 fkX11_6 atX_0 srX_0_6 dX11_days_1 rfl ?_
  refine sp_gets (t := 23) (q := 7) hX flX11_58 fkX1_0 atX_22 srX_22_0 dX11_days_4 rfl ?_
  refine sp_astore_n (i := 2) (lv' := [some (.ref (sx_ad X 0)), some (.int a1), some (.ref (sx_ad X 23))]) (q := 8) hX dX11_days_7 rfl (Nat.le_of_ble_eq_true rfl) rfl rfl rfl ?_
  refine sp_iload_n (i := 1) (q := 9) hX dX11_days_8 rfl rfl rfl ?_
  refine sp_iconst (v := 1) (q := 10) hX dX11_days_9 li_1 rfl ?_
  refine sp_icmp_lt (tgt := 34) (q := 13) hX dX11_days_10 (by decide) rfl (fun hc => ?_) (fun hc => ?_)
  · rw [if_pos hc] at hf
    refine sp_drop (lv' := [some (.ref (sx_ad X 0)), none, none]) (And.intro rfl trivial) ?_
    exact hX11_days_34 hX hR hf
  · rw [if_neg hc] at hf
    refine sp_iload_n (i := 1) (q := 14) hX dX11_days_13 rfl rfl rfl ?_
    refine sp_bipush (v := 20) (q := 16) hX dX11_days_14 lb_20 rfl ?_
    refine sp_icmp_gt (tgt := 34) (q := 19) hX dX11_days_16 (by decide) rfl (fun hc => ?_) (fun hc => ?_)
    · rw [if_pos hc] at hf
      refine sp_drop (lv' := [some (.ref (sx_ad X 0)), none, none]) (And.intro rfl trivial) ?_
      exact hX11_days_34 hX hR hf
    · rw [if_neg hc] at hf
      refine sp_aload_n (i := 2) (q := 20) hX dX11_days_19 rfl rfl rfl ?_
      refine sp_gets (t := 24) (q := 23) hX flX11_93 fkX8_1 atX_23 srX_23_1 dX11_days_20 rfl ?_
      refine sp_bipush (v := 47) (q := 25) hX dX11_days_23 lb_47 rfl ?_
      refine sp_iald (q := 26) hX arX_24 (by decide) dX11_days_25 rfl ?_
      refine sp_iload_n (i := 1) (q := 27) hX dX11_days_26 rfl rfl rfl ?_
      refine sp_iadd (q := 28) hX dX11_days_27 rfl ?_
      refine sp_sipush (v := 999) (q := 31) hX dX11_days_28 ls_999 rfl ?_
      refine sp_icmp_le (tgt := 40) (q := 34) hX dX11_days_31 (by decide) rfl (fun hc => ?_) (fun hc => ?_)
      · rw [if_pos hc] at hf
        refine sp_aload_n (i := 0) (q := 41) hX dX11_days_40 rfl rfl rfl ?_
        refine sp_gets (t := 22) (q := 44) hX flX11_46 fkX11_6 atX_0 srX_0_6 dX11_days_41 rfl ?_
        obtain ⟨σ2, h1, hf⟩ := sp_bv_so hf
        refine sp_callVv (As := []) (rest := []) (q := 47) hX (cnX1_keepAct (sp_st hX) atX_22 h1) cwX11_213 atX_22 rfl rfl rfl rfl rfl (Nat.le_of_ble_eq_true rfl) (Nat.le_of_ble_eq_true rfl) (Nat.le_of_ble_eq_true rfl) (Nat.le_of_ble_eq_true rfl) (Nat.le_of_ble_eq_true rfl) dX11_days_44 rfl ?_
        refine sp_aload_n (i := 2) (q := 48) hX dX11_days_47 rfl rfl rfl ?_
        refine sp_iload_n (i := 1) (q := 49) hX dX11_days_48 rfl rfl rfl ?_
        obtain ⟨σ4, h3, hf⟩ := sp_bv_so hf
        refine sp_callVv (As := [.int a1]) (rest := []) (q := 52) hX (cnX8_passDays (sp_st hX) atX_23 h3) cwX11_216 atX_23 rfl rfl rfl rfl rfl (Nat.le_of_ble_eq_true rfl) (Nat.le_of_ble_eq_true rfl) (Nat.le_of_ble_eq_true rfl) (Nat.le_of_ble_eq_true rfl) (Nat.le_of_ble_eq_true rfl) dX11_days_49 rfl ?_
        refine sp_aload_n (i := 2) (q := 53) hX dX11_days_52 rfl rfl rfl ?_
        refine sp_gets (t := 24) (q := 56) hX flX11_93 fkX8_1 atX_23 srX_23_1 dX11_days_53 rfl ?_
        refine sp_bipush (v := 47) (q := 58) hX dX11_days_56 lb_47 rfl ?_
        refine sp_iald (q := 59) hX arX_24 (by decide) dX11_days_58 rfl ?_
        exact sp_iret hX hR dX11_days_59 hf (Nat.le_of_ble_eq_true rfl) (Nat.le_of_ble_eq_true rfl)
      · rw [if_neg hc] at hf
        refine sp_drop (lv' := [some (.ref (sx_ad X 0)), none, none]) (And.intro rfl trivial) ?_
        exact hX11_days_34 hX hR hf
set_option maxRecDepth 100000 in
set_option maxHeartbeats 4000000 in
theorem cnX11_days {l : Launch} (hst : l.stackTraces = false) {w : sp_Wd} {n : Nat}  {σ : sp_St} {a1 : Int32} {τ : sp_St} {r : Int32}  (hf : X11_days n σ a1 = some (τ, r)) : sp_Ci shX l w yX11_days cX11_days 3 (some .int) rmX11_days 0 0 σ [.ref (w.2.1 0), .int a1] τ r :=
  sp_ci (own := RX11) (by decide) rfl hst (Nat.le_of_ble_eq_true rfl) rfl (fun X hX hw hl hR => by subst hw; subst hl; exact hX11_days hX hR   hf)
def rmX11_swallow : Room := { frames := 7, cells := 2, slots := 12, locals := 121 }
def X11_swallow_35 (n : Nat) (σ : sp_St) : Option (sp_St × (Int32 ⊕ Nat)) :=
  sp_bd (X11_refuse n σ ((1 : Int32))) fun σ2 v3 =>
  some (σ2, Sum.inl v3)
def X11_swallow (n : Nat)  (σ : sp_St) (a1 : Int32) (a2 : Int32) : Option (sp_St × (Int32 ⊕ Nat)) :=
  sp_bx (X11_needBlade n σ a1) fun σ2 =>
  sp_bx (X11_needSwallower n σ2 a2) fun σ5 =>
  sp_bd (X8_isOut n σ5 23 a1) fun σ8 v9 =>
  if v9 = 0 then
    X11_swallow_35 n σ8
  else
    sp_bd (X8_hasRoom n σ8 23 a2 a1) fun σ11 v12 =>
    if v12 = 0 then
      X11_swallow_35 n σ11
    else
      sp_bv (X1_keepAct n σ11 22) fun σ14 =>
      sp_bv (X8_putInto n σ14 23 a1 a2) fun σ16 =>
      sp_bd (X8_left n σ16 23 a2) fun σ18 v19 =>
      some (σ18, Sum.inl v19)
set_option maxRecDepth 100000 in
set_option maxHeartbeats 4000000 in
theorem hX11_swallow_35 {X : sp_X} (hX : sp_OK shX X cX11_swallow RX11 4 rmX11_swallow) {τ : sp_St} {ρ : Int32 ⊕ Nat} (hR : sp_RXi shX X (some .int) τ ρ 2 12) {n : Nat}    {σ : sp_St} (hf : X11_swallow_35 n σ = some (τ, ρ)) : sp_GG shX X σ 4 [some (.ref (sx_ad X 0)), none, none, none] [] 35 2 12 := by
  unfold X11_swallow_35 at hf
  refine sp_aload_n (i := 0) (q := 36) hX dX11_swallow_35 rfl rfl rfl ?_
  refine sp_iconst (v := 1) (q := 37) hX dX11_swallow_36 li_1 rfl ?_
  obtain ⟨σ2, v3, h1, hf⟩ := sp_bd_so hf
  refine sp_callVi (As := [.int ((1 : Int32))]) (rest := []) (q := 40) hX (cnX11_refuse (sp_st hX)  h1) cwX11_210 atX_0 rfl rfl rfl rfl rfl (Nat.le_of_ble_eq_true rfl) (Nat.le_of_ble_eq_true rfl) (Nat.le_of_ble_eq_true rfl) (Nat.le_of_ble_eq_true rfl) (Nat.le_of_ble_eq_true rfl) dX11_swallow_37 rfl ?_
  exact sp_iretX hX hR dX11_swallow_40 hf (Nat.le_of_ble_eq_true rfl) (Nat.le_of_ble_eq_true rfl)
set_option maxRecDepth 100000 in
set_option maxHeartbeats 4000000 in
theorem hX11_swallow {X : sp_X} (hX : sp_OK shX X cX11_swallow RX11 4 rmX11_swallow) {τ : sp_St} {ρ : Int32 ⊕ Nat} (hR : sp_RXi shX X (some .int) τ ρ 2 12) {n : Nat}  {σ : sp_St} {a1 : Int32} {a2 : Int32}  (hf : X11_swallow n σ a1 a2 = some (τ, ρ)) : sp_GG shX X σ 4 [some (.ref (sx_ad X 0)), some (.int a1), some (.int a2), none] [] 0 0 0 := by
  unfold X11_swallow at hf
  refine sp_aload_n (i := 0) (q := 1) hX dX11_swallow_0 rfl rfl rfl ?_
  refine sp_iload_n (i := 1) (q := 2) hX dX11_swallow_1 rfl rfl rfl ?_
  obtain ⟨σ2, o3, h1, hf⟩ := sp_bx_so hf
  refine sp_callXv (As := [.int a1]) (rest := []) (q := 5) hX (by decide) hR (cnX11_needBlade (sp_st hX) h1) cwX11_161 atX_0 rfl rfl rfl rfl rfl (Nat.le_of_ble_eq_true rfl) (Nat.le_of_ble_eq_true rfl) (Nat.le_of_ble_eq_true rfl) (Nat.le_of_ble_eq_true rfl) (Nat.le_of_ble_eq_true rfl) (Nat.le_of_ble_eq_true rfl) (Nat.le_of_ble_eq_true rfl) dX11_swallow_2 rfl hf (fun hf => ?_)
  refine sp_aload_n (i := 0) (q := 6) hX dX11_swallow_5 rfl rfl rfl ?_
  refine sp_iload_n (i := 2) (q := 7) hX dX11_swallow_6 rfl rfl rfl ?_
  obtain ⟨σ5, o6, h4, hf⟩ := sp_bx_so hf
  refine sp_callXv (As := [.int a2]) (rest := []) (q := 10) hX (by decide) hR (cnX11_needSwallower (sp_st hX) h4) cwX11_183 atX_0 rfl rfl rfl rfl rfl (Nat.le_of_ble_eq_true rfl) (Nat.le_of_ble_eq_true rfl) (Nat.le_of_ble_eq_true rfl) (Nat.le_of_ble_eq_true rfl) (Nat.le_of_ble_eq_true rfl) (Nat.le_of_ble_eq_true rfl) (Nat.le_of_ble_eq_true rfl) dX11_swallow_7 rfl hf (fun hf => ?_)
  refine sp_aload_n (i := 0) (q := 11) hX dX11_swallow_10 rfl rfl rfl ?_
  refine sp_gets (t := 22) (q := 14) hX flX11_46 fkX11_6 atX_0 srX_0_6 dX11_swallow_11 rfl ?_
  refine sp_gets (t := 23) (q := 17) hX flX11_58 fkX1_0 atX_22 srX_22_0 dX11_swallow_14 rfl ?_
  refine sp_astore_n (i := 3) (lv' := [some (.ref (sx_ad X 0)), some (.int a1), some (.int a2), some (.ref (sx_ad X 23))]) (q := 18) hX dX11_swallow_17 rfl (Nat.le_of_ble_eq_true rfl) rfl rfl rfl ?_
  refine sp_aload_n (i := 3) (q := 19) hX dX11_swallow_18 rfl rfl rfl ?_
  refine sp_iload_n (i := 1) (q := 20) hX dX11_swallow_19 rfl rfl rfl ?_
  obtain ⟨σ8, v9, h7, hf⟩ := sp_bd_so hf
  refine sp_callVi (As := [.int a1]) (rest := []) (q := 23) hX (cnX8_isOut (sp_st hX) atX_23 h7) cwX11_219 atX_23 rfl rfl rfl rfl rfl (Nat.le_of_ble_eq_true rfl) (Nat.le_of_ble_eq_true rfl) (Nat.le_of_ble_eq_true rfl) (Nat.le_of_ble_eq_true rfl) (Nat.le_of_ble_eq_true rfl) dX11_swallow_20 rfl ?_
  refine sp_if_eq (tgt := 35) (q := 26) hX dX11_swallow_23 (by decide) rfl (fun hc => ?_) (fun hc => ?_)
  · rw [if_pos hc] at hf
    refine sp_drop (lv' := [some (.ref (sx_ad X 0)), none, none, none]) (And.intro rfl trivial) ?_
    exact hX11_swallow_35 hX hR hf
  · rw [if_neg hc] at hf
    refine sp_aload_n (i := 3) (q := 27) hX dX11_swallow_26 rfl rfl rfl ?_
    refine sp_iload_n (i := 2) (q := 28) hX dX11_swallow_27 rfl rfl rfl ?_
    refine sp_iload_n (i := 1) (q := 29) hX dX11_swallow_28 rfl rfl rfl ?_
    obtain ⟨σ11, v12, h10, hf⟩ := sp_bd_so hf
    refine sp_callVi (As := [.int a2, .int a1]) (rest := []) (q := 32) hX (cnX8_hasRoom (sp_st hX) atX_23 h10) cwX11_223 atX_23 rfl rfl rfl rfl rfl (Nat.le_of_ble_eq_true rfl) (Nat.le_of_ble_eq_true rfl) (Nat.le_of_ble_eq_true rfl) (Nat.le_of_ble_eq_true rfl) (Nat.le_of_ble_eq_true rfl) dX11_swallow_29 rfl ?_
    refine sp_if_ne (tgt := 41) (q := 35) hX dX11_swallow_32 (by decide) rfl (fun hc => ?_) (fun hc => ?_)
    · rw [if_neg hc] at hf
      refine sp_aload_n (i := 0) (q := 42) hX dX11_swallow_41 rfl rfl rfl ?_
      refine sp_gets (t := 22) (q := 45) hX flX11_46 fkX11_6 atX_0 srX_0_6 dX11_swallow_42 rfl ?_
      obtain ⟨σ14, h13, hf⟩ := sp_bv_so hf
      refine sp_callVv (As := []) (rest := []) (q := 48) hX (cnX1_keepAct (sp_st hX) atX_22 h13) cwX11_213 atX_22 rfl rfl rfl rfl rfl (Nat.le_of_ble_eq_true rfl) (Nat.le_of_ble_eq_true rfl) (Nat.le_of_ble_eq_true rfl) (Nat.le_of_ble_eq_true rfl) (Nat.le_of_ble_eq_true rfl) dX11_swallow_45 rfl ?_
      refine sp_aload_n (i := 3) (q := 49) hX dX11_swallow_48 rfl rfl rfl ?_
      refine sp_iload_n (i := 1) (q := 50) hX dX11_swallow_49 rfl rfl rfl ?_
      refine sp_iload_n (i := 2) (q := 51) hX dX11_swallow_50 rfl rfl rfl ?_
      obtain ⟨σ16, h15, hf⟩ := sp_bv_so hf
      refine sp_callVv (As := [.int a1, .int a2]) (rest := []) (q := 54) hX (cnX8_putInto (sp_st hX) atX_23 h15) cwX11_226 atX_23 rfl rfl rfl rfl rfl (Nat.le_of_ble_eq_true rfl) (Nat.le_of_ble_eq_true rfl) (Nat.le_of_ble_eq_true rfl) (Nat.le_of_ble_eq_true rfl) (Nat.le_of_ble_eq_true rfl) dX11_swallow_51 rfl ?_
      refine sp_aload_n (i := 3) (q := 55) hX dX11_swallow_54 rfl rfl rfl ?_
      refine sp_iload_n (i := 2) (q := 56) hX dX11_swallow_55 rfl rfl rfl ?_
      obtain ⟨σ18, v19, h17, hf⟩ := sp_bd_so hf
      refine sp_callVi (As := [.int a2]) (rest := []) (q := 59) hX (cnX8_left (sp_st hX) atX_23 h17) cwX11_189 atX_23 rfl rfl rfl rfl rfl (Nat.le_of_ble_eq_true rfl) (Nat.le_of_ble_eq_true rfl) (Nat.le_of_ble_eq_true rfl) (Nat.le_of_ble_eq_true rfl) (Nat.le_of_ble_eq_true rfl) dX11_swallow_56 rfl ?_
      exact sp_iretX hX hR dX11_swallow_59 hf (Nat.le_of_ble_eq_true rfl) (Nat.le_of_ble_eq_true rfl)
    · rw [if_pos hc] at hf
      refine sp_drop (lv' := [some (.ref (sx_ad X 0)), none, none, none]) (And.intro rfl trivial) ?_
      exact hX11_swallow_35 hX hR hf
set_option maxRecDepth 100000 in
set_option maxHeartbeats 4000000 in
theorem cnX11_swallow {l : Launch} (hst : l.stackTraces = false) {w : sp_Wd} {n : Nat}  {σ : sp_St} {a1 : Int32} {a2 : Int32} {τ : sp_St} {ρ : Int32 ⊕ Nat}  (hf : X11_swallow n σ a1 a2 = some (τ, ρ)) : sp_Xi shX l w yX11_swallow cX11_swallow 4 (some .int) rmX11_swallow 2 12 σ [.ref (w.2.1 0), .int a1, .int a2] τ ρ :=
  sp_xi (own := RX11) (by decide) rfl hst (Nat.le_of_ble_eq_true rfl) rfl (fun X hX hw hl hR => by subst hw; subst hl; exact hX11_swallow hX hR   hf)
def rmX11_draw : Room := { frames := 7, cells := 1, slots := 6, locals := 121 }
def X11_draw (n : Nat)  (σ : sp_St) (a1 : Int32) : Option (sp_St × (Int32 ⊕ Nat)) :=
  sp_bx (X11_needSwallower n σ a1) fun σ2 =>
  sp_bd (X8_top n σ2 23 a1) fun σ5 v6 =>
  if v6 = ((-1 : Int32)) then
    sp_bd (X11_refuse n σ5 ((1 : Int32))) fun σ12 v13 =>
    some (σ12, Sum.inl v13)
  else
    sp_bv (X1_keepAct n σ5 22) fun σ8 =>
    sp_bv (X8_letTopOut n σ8 23 a1) fun σ10 =>
    some (σ10, Sum.inl v6)
set_option maxRecDepth 100000 in
set_option maxHeartbeats 4000000 in
theorem hX11_draw {X : sp_X} (hX : sp_OK shX X cX11_draw RX11 3 rmX11_draw) {τ : sp_St} {ρ : Int32 ⊕ Nat} (hR : sp_RXi shX X (some .int) τ ρ 1 6) {n : Nat}  {σ : sp_St} {a1 : Int32}  (hf : X11_draw n σ a1 = some (τ, ρ)) : sp_GG shX X σ 3 [some (.ref (sx_ad X 0)), some (.int a1), none] [] 0 0 0 := by
  unfold X11_draw at hf
  refine sp_aload_n (i := 0) (q := 1) hX dX11_draw_0 rfl rfl rfl ?_
  refine sp_iload_n (i := 1) (q := 2) hX dX11_draw_1 rfl rfl rfl ?_
  obtain ⟨σ2, o3, h1, hf⟩ := sp_bx_so hf
  refine sp_callXv (As := [.int a1]) (rest := []) (q := 5) hX (by decide) hR (cnX11_needSwallower (sp_st hX) h1) cwX11_183 atX_0 rfl rfl rfl rfl rfl (Nat.le_of_ble_eq_true rfl) (Nat.le_of_ble_eq_true rfl) (Nat.le_of_ble_eq_true rfl) (Nat.le_of_ble_eq_true rfl) (Nat.le_of_ble_eq_true rfl) (Nat.le_of_ble_eq_true rfl) (Nat.le_of_ble_eq_true rfl) dX11_draw_2 rfl hf (fun hf => ?_)
  refine sp_aload_n (i := 0) (q := 6) hX dX11_draw_5 rfl rfl rfl ?_
  refine sp_gets (t := 22) (q := 9) hX flX11_46 fkX11_6 atX_0 srX_0_6 dX11_draw_6 rfl ?_
  refine sp_gets (t := 23) (q := 12) hX flX11_58 fkX1_0 atX_22 srX_22_0 dX11_draw_9 rfl ?_
  refine sp_iload_n (i := 1) (q := 13) hX dX11_draw_12 rfl rfl rfl ?_
  obtain ⟨σ5, v6, h4, hf⟩ := sp_bd_so hf
  refine sp_callVi (As := [.int a1]) (rest := []) (q := 16) hX (cnX8_top (sp_st hX) atX_23 h4) cwX11_200 atX_23 rfl rfl rfl rfl rfl (Nat.le_of_ble_eq_true rfl) (Nat.le_of_ble_eq_true rfl) (Nat.le_of_ble_eq_true rfl) (Nat.le_of_ble_eq_true rfl) (Nat.le_of_ble_eq_true rfl) dX11_draw_13 rfl ?_
  refine sp_istore_n (i := 2) (lv' := [some (.ref (sx_ad X 0)), some (.int a1), some (.int v6)]) (q := 17) hX dX11_draw_16 rfl (Nat.le_of_ble_eq_true rfl) rfl rfl rfl ?_
  refine sp_iload_n (i := 2) (q := 18) hX dX11_draw_17 rfl rfl rfl ?_
  refine sp_iconst (v := -1) (q := 19) hX dX11_draw_18 li_m1 rfl ?_
  refine sp_icmp_ne (tgt := 28) (q := 22) hX dX11_draw_19 (by decide) rfl (fun hc => ?_) (fun hc => ?_)
  · rw [if_neg hc] at hf
    refine sp_aload_n (i := 0) (q := 29) hX dX11_draw_28 rfl rfl rfl ?_
    refine sp_gets (t := 22) (q := 32) hX flX11_46 fkX11_6 atX_0 srX_0_6 dX11_draw_29 rfl ?_
    obtain ⟨σ8, h7, hf⟩ := sp_bv_so hf
    refine sp_callVv (As := []) (rest := []) (q := 35) hX (cnX1_keepAct (sp_st hX) atX_22 h7) cwX11_213 atX_22 rfl rfl rfl rfl rfl (Nat.le_of_ble_eq_true rfl) (Nat.le_of_ble_eq_true rfl) (Nat.le_of_ble_eq_true rfl) (Nat.le_of_ble_eq_true rfl) (Nat.le_of_ble_eq_true rfl) dX11_draw_32 rfl ?_
    refine sp_aload_n (i := 0) (q := 36) hX dX11_draw_35 rfl rfl rfl ?_
    refine sp_gets (t := 22) (q := 39) hX flX11_46 fkX11_6 atX_0 srX_0_6 dX11_draw_36 rfl ?_
    refine sp_gets (t := 23) (q := 42) hX flX11_58 fkX1_0 atX_22 srX_22_0 dX11_draw_39 rfl ?_
    refine sp_iload_n (i := 1) (q := 43) hX dX11_draw_42 rfl rfl rfl ?_
    obtain ⟨σ10, h9, hf⟩ := sp_bv_so hf
    refine sp_callVv (As := [.int a1]) (rest := []) (q := 46) hX (cnX8_letTopOut (sp_st hX) atX_23 h9) cwX11_230 atX_23 rfl rfl rfl rfl rfl (Nat.le_of_ble_eq_true rfl) (Nat.le_of_ble_eq_true rfl) (Nat.le_of_ble_eq_true rfl) (Nat.le_of_ble_eq_true rfl) (Nat.le_of_ble_eq_true rfl) dX11_draw_43 rfl ?_
    refine sp_iload_n (i := 2) (q := 47) hX dX11_draw_46 rfl rfl rfl ?_
    exact sp_iretX hX hR dX11_draw_47 hf (Nat.le_of_ble_eq_true rfl) (Nat.le_of_ble_eq_true rfl)
  · rw [if_pos hc] at hf
    refine sp_aload_n (i := 0) (q := 23) hX dX11_draw_22 rfl rfl rfl ?_
    refine sp_iconst (v := 1) (q := 24) hX dX11_draw_23 li_1 rfl ?_
    obtain ⟨σ12, v13, h11, hf⟩ := sp_bd_so hf
    refine sp_callVi (As := [.int ((1 : Int32))]) (rest := []) (q := 27) hX (cnX11_refuse (sp_st hX)  h11) cwX11_210 atX_0 rfl rfl rfl rfl rfl (Nat.le_of_ble_eq_true rfl) (Nat.le_of_ble_eq_true rfl) (Nat.le_of_ble_eq_true rfl) (Nat.le_of_ble_eq_true rfl) (Nat.le_of_ble_eq_true rfl) dX11_draw_24 rfl ?_
    exact sp_iretX hX hR dX11_draw_27 hf (Nat.le_of_ble_eq_true rfl) (Nat.le_of_ble_eq_true rfl)
set_option maxRecDepth 100000 in
set_option maxHeartbeats 4000000 in
theorem cnX11_draw {l : Launch} (hst : l.stackTraces = false) {w : sp_Wd} {n : Nat}  {σ : sp_St} {a1 : Int32} {τ : sp_St} {ρ : Int32 ⊕ Nat}  (hf : X11_draw n σ a1 = some (τ, ρ)) : sp_Xi shX l w yX11_draw cX11_draw 3 (some .int) rmX11_draw 1 6 σ [.ref (w.2.1 0), .int a1] τ ρ :=
  sp_xi (own := RX11) (by decide) rfl hst (Nat.le_of_ble_eq_true rfl) rfl (fun X hX hw hl hR => by subst hw; subst hl; exact hX11_draw hX hR   hf)
