def rmX11_broth : Room := { frames := 7, cells := 1, slots := 6, locals := 121 }
def X11_broth_16 (n : Nat) (σ : sp_St) : Option (sp_St × (Int32 ⊕ Nat)) :=
  sp_bd (X11_refuse n σ ((1 : Int32))) fun σ2 v3 =>
  some (σ2, Sum.inl v3)
def X11_broth (n : Nat)  (σ : sp_St) (a1 : Int32) (a2 : Int32) : Option (sp_St × (Int32 ⊕ Nat)) :=
  sp_bx (X11_needSwallower n σ a1) fun σ2 =>
  if a2 < ((1 : Int32)) then
    X11_broth_16 n σ2
  else
    if a2 ≤ ((20 : Int32)) then
      sp_bv (X1_keepAct n σ2 22) fun σ5 =>
      sp_ck (sp_in (((30 : Int32)) + a1) 50) <|
      sp_pl (sp_min ((99 : Int32)) ((sp_g σ5 24 (((30 : Int32)) + a1)) + a2)) fun v7 =>
      sp_ck (sp_in (((30 : Int32)) + a1) 50) <|
      sp_pl (sp_sa σ5 24 (((30 : Int32)) + a1).toNatClampNeg v7) fun σ10 =>
      some (σ10, Sum.inl v7)
    else
      X11_broth_16 n σ2
set_option maxRecDepth 100000 in
set_option maxHeartbeats 4000000 in
theorem hX11_broth_16 {X : sp_X} (hX : sp_OK shX X cX11_broth RX11 5 rmX11_broth) {τ : sp_St} {ρ : Int32 ⊕ Nat} (hR : sp_RXi shX X (some .int) τ ρ 1 6) {n : Nat}    {σ : sp_St} (hf : X11_broth_16 n σ = some (τ, ρ)) : sp_GG shX X σ 5 [some (.ref (sx_ad X 0)), none, none, none, none] [] 16 1 6 := by
  unfold X11_broth_16 at hf
  refine sp_aload_n (i := 0) (q := 17) hX dX11_broth_16 rfl rfl rfl ?_
  refine sp_iconst (v := 1) (q := 18) hX dX11_broth_17 li_1 rfl ?_
  obtain ⟨σ2, v3, h1, hf⟩ := sp_bd_so hf
  refine sp_callVi (As := [.int ((1 : Int32))]) (rest := []) (q := 21) hX (cnX11_refuse (sp_st hX)  h1) cwX11_210 atX_0 rfl rfl rfl rfl rfl (Nat.le_of_ble_eq_true rfl) (Nat.le_of_ble_eq_true rfl) (Nat.le_of_ble_eq_true rfl) (Nat.le_of_ble_eq_true rfl) (Nat.le_of_ble_eq_true rfl) dX11_broth_18 rfl ?_
  exact sp_iretX hX hR dX11_broth_21 hf (Nat.le_of_ble_eq_true rfl) (Nat.le_of_ble_eq_true rfl)
set_option maxRecDepth 100000 in
set_option maxHeartbeats 4000000 in
theorem hX11_broth {X : sp_X} (hX : sp_OK shX X cX11_broth RX11 5 rmX11_broth) {τ : sp_St} {ρ : Int32 ⊕ Nat} (hR : sp_RXi shX X (some .int) τ ρ 1 6) {n : Nat}  {σ : sp_St} {a1 : Int32} {a2 : Int32}  (hf : X11_broth n σ a1 a2 = some (τ, ρ)) : sp_GG shX X σ 5 [some (.ref (sx_ad X 0)), some (.int a1), some (.int a2), none, none] [] 0 0 0 := by
  unfold X11_broth at hf
  refine sp_aload_n (i := 0) (q := 1) hX dX11_broth_0 rfl rfl rfl ?_
  refine sp_iload_n (i := 1) (q := 2) hX dX11_broth_1 rfl rfl rfl ?_
  obtain ⟨σ2, o3, h1, hf⟩ := sp_bx_so hf
  refine sp_callXv (As := [.int a1]) (rest := []) (q := 5) hX (by decide) hR (cnX11_needSwallower (sp_st hX) h1) cwX11_183 atX_0 rfl rfl rfl rfl rfl (Nat.le_of_ble_eq_true rfl) (Nat.le_of_ble_eq_true rfl) (Nat.le_of_ble_eq_true rfl) (Nat.le_of_ble_eq_true rfl) (Nat.le_of_ble_eq_true rfl) (Nat.le_of_ble_eq_true rfl) (Nat.le_of_ble_eq_true rfl) dX11_broth_2 rfl hf (fun hf => ?_)
  refine sp_iload_n (i := 2) (q := 6) hX dX11_broth_5 rfl rfl rfl ?_
  refine sp_iconst (v := 1) (q := 7) hX dX11_broth_6 li_1 rfl ?_
  refine sp_icmp_lt (tgt := 16) (q := 10) hX dX11_broth_7 (by decide) rfl (fun hc => ?_) (fun hc => ?_)
  · rw [if_pos hc] at hf
    refine sp_drop (lv' := [some (.ref (sx_ad X 0)), none, none, none, none]) (And.intro rfl trivial) ?_
    exact hX11_broth_16 hX hR hf
  · rw [if_neg hc] at hf
    refine sp_iload_n (i := 2) (q := 11) hX dX11_broth_10 rfl rfl rfl ?_
    refine sp_bipush (v := 20) (q := 13) hX dX11_broth_11 lb_20 rfl ?_
    refine sp_icmp_le (tgt := 22) (q := 16) hX dX11_broth_13 (by decide) rfl (fun hc => ?_) (fun hc => ?_)
    · rw [if_pos hc] at hf
      refine sp_aload_n (i := 0) (q := 23) hX dX11_broth_22 rfl rfl rfl ?_
      refine sp_gets (t := 22) (q := 26) hX flX11_46 fkX11_6 atX_0 srX_0_6 dX11_broth_23 rfl ?_
      obtain ⟨σ5, h4, hf⟩ := sp_bv_so hf
      refine sp_callVv (As := []) (rest := []) (q := 29) hX (cnX1_keepAct (sp_st hX) atX_22 h4) cwX11_213 atX_22 rfl rfl rfl rfl rfl (Nat.le_of_ble_eq_true rfl) (Nat.le_of_ble_eq_true rfl) (Nat.le_of_ble_eq_true rfl) (Nat.le_of_ble_eq_true rfl) (Nat.le_of_ble_eq_true rfl) dX11_broth_26 rfl ?_
      refine sp_aload_n (i := 0) (q := 30) hX dX11_broth_29 rfl rfl rfl ?_
      refine sp_gets (t := 22) (q := 33) hX flX11_46 fkX11_6 atX_0 srX_0_6 dX11_broth_30 rfl ?_
      refine sp_gets (t := 23) (q := 36) hX flX11_58 fkX1_0 atX_22 srX_22_0 dX11_broth_33 rfl ?_
      refine sp_gets (t := 24) (q := 39) hX flX11_93 fkX8_1 atX_23 srX_23_1 dX11_broth_36 rfl ?_
      refine sp_astore_n (i := 3) (lv' := [some (.ref (sx_ad X 0)), some (.int a1), some (.int a2), some (.ref (sx_ad X 24)), none]) (q := 40) hX dX11_broth_39 rfl (Nat.le_of_ble_eq_true rfl) rfl rfl rfl ?_
      refine sp_bipush (v := 99) (q := 42) hX dX11_broth_40 lb_99 rfl ?_
      refine sp_aload_n (i := 3) (q := 43) hX dX11_broth_42 rfl rfl rfl ?_
      refine sp_bipush (v := 30) (q := 45) hX dX11_broth_43 lb_30 rfl ?_
      refine sp_iload_n (i := 1) (q := 46) hX dX11_broth_45 rfl rfl rfl ?_
      refine sp_iadd (q := 47) hX dX11_broth_46 rfl ?_
      obtain ⟨h6, hf⟩ := sp_ck_some hf
      refine sp_iald (q := 48) hX arX_24 h6 dX11_broth_47 rfl ?_
      refine sp_iload_n (i := 2) (q := 49) hX dX11_broth_48 rfl rfl rfl ?_
      refine sp_iadd (q := 50) hX dX11_broth_49 rfl ?_
      obtain ⟨v7, e8, hf⟩ := sp_pl_some hf
      refine sp_mmin (q := 53) hX wd_1306 wd_607 wd_144 wd_608 (Nat.le_of_ble_eq_true rfl) (Nat.le_of_ble_eq_true rfl) (Nat.le_of_ble_eq_true rfl) (Nat.le_of_ble_eq_true rfl) dX11_broth_50 rfl ?_
      refine sp_nmi e8 ?_
      refine sp_istore (i := 4) (lv' := [some (.ref (sx_ad X 0)), some (.int a1), some (.int a2), some (.ref (sx_ad X 24)), some (.int v7)]) (q := 55) hX dX11_broth_53 (Nat.le_of_ble_eq_true rfl) rfl rfl rfl ?_
      refine sp_aload_n (i := 3) (q := 56) hX dX11_broth_55 rfl rfl rfl ?_
      refine sp_bipush (v := 30) (q := 58) hX dX11_broth_56 lb_30 rfl ?_
      refine sp_iload_n (i := 1) (q := 59) hX dX11_broth_58 rfl rfl rfl ?_
      refine sp_iadd (q := 60) hX dX11_broth_59 rfl ?_
      refine sp_iload (i := 4) (q := 62) hX dX11_broth_60 rfl rfl ?_
      obtain ⟨h9, hf⟩ := sp_ck_some hf
      obtain ⟨σ10, e11, hf⟩ := sp_pl_some hf
      refine sp_iast (q := 63) hX arX_24 h9 dX11_broth_62 rfl ?_
      refine sp_nms e11 ?_
      refine sp_iload (i := 4) (q := 65) hX dX11_broth_63 rfl rfl ?_
      exact sp_iretX hX hR dX11_broth_65 hf (Nat.le_of_ble_eq_true rfl) (Nat.le_of_ble_eq_true rfl)
    · rw [if_neg hc] at hf
      refine sp_drop (lv' := [some (.ref (sx_ad X 0)), none, none, none, none]) (And.intro rfl trivial) ?_
      exact hX11_broth_16 hX hR hf
set_option maxRecDepth 100000 in
set_option maxHeartbeats 4000000 in
theorem cnX11_broth {l : Launch} (hst : l.stackTraces = false) {w : sp_Wd} {n : Nat}  {σ : sp_St} {a1 : Int32} {a2 : Int32} {τ : sp_St} {ρ : Int32 ⊕ Nat}  (hf : X11_broth n σ a1 a2 = some (τ, ρ)) : sp_Xi shX l w yX11_broth cX11_broth 5 (some .int) rmX11_broth 1 6 σ [.ref (w.2.1 0), .int a1, .int a2] τ ρ :=
  sp_xi (own := RX11) (by decide) rfl hst (Nat.le_of_ble_eq_true rfl) rfl (fun X hX hw hl hR => by subst hw; subst hl; exact hX11_broth hX hR   hf)
def rmX11_make : Room := { frames := 7, cells := 2, slots := 12, locals := 121 }
def X11_make_28 (n : Nat) (σ : sp_St) : Option (sp_St × (Int32 ⊕ Nat)) :=
  sp_bd (X11_refuse n σ ((1 : Int32))) fun σ2 v3 =>
  some (σ2, Sum.inl ((0 : Int32)))
def X11_make (n : Nat)  (σ : sp_St) (a1 : Int32) (a2 : Int32) (a3 : Int32) : Option (sp_St × (Int32 ⊕ Nat)) :=
  sp_bx (X11_needHouse n σ a1) fun σ2 =>
  sp_bx (X11_needHouse n σ2 a2) fun σ5 =>
  if a1 = a2 then
    X11_make_28 n σ5
  else
    sp_bd (X6_between n σ5 a1 a2) fun σ8 v9 =>
    if v9 = a3 then
      X11_make_28 n σ8
    else
      sp_bv (X1_keepAct n σ8 22) fun σ11 =>
      sp_bv (X8_turnFeud n σ11 23 a1 a2) fun σ13 =>
      some (σ13, Sum.inl ((1 : Int32)))
set_option maxRecDepth 100000 in
set_option maxHeartbeats 4000000 in
theorem hX11_make_28 {X : sp_X} (hX : sp_OK shX X cX11_make RX11 4 rmX11_make) {τ : sp_St} {ρ : Int32 ⊕ Nat} (hR : sp_RXi shX X (some .boolean) τ ρ 2 12) {n : Nat}    {σ : sp_St} (hf : X11_make_28 n σ = some (τ, ρ)) : sp_GG shX X σ 4 [some (.ref (sx_ad X 0)), none, none, none] [] 28 2 12 := by
  unfold X11_make_28 at hf
  refine sp_aload_n (i := 0) (q := 29) hX dX11_make_28 rfl rfl rfl ?_
  refine sp_iconst (v := 1) (q := 30) hX dX11_make_29 li_1 rfl ?_
  obtain ⟨σ2, v3, h1, hf⟩ := sp_bd_so hf
  refine sp_callVi (As := [.int ((1 : Int32))]) (rest := []) (q := 33) hX (cnX11_refuse (sp_st hX)  h1) cwX11_210 atX_0 rfl rfl rfl rfl rfl (Nat.le_of_ble_eq_true rfl) (Nat.le_of_ble_eq_true rfl) (Nat.le_of_ble_eq_true rfl) (Nat.le_of_ble_eq_true rfl) (Nat.le_of_ble_eq_true rfl) dX11_make_30 rfl ?_
  refine sp_pop (q := 34) hX dX11_make_33 rfl rfl ?_
  refine sp_iconst (v := 0) (q := 35) hX dX11_make_34 li_0 rfl ?_
  exact sp_zretX hX hR (by decide) dX11_make_35 hf (Nat.le_of_ble_eq_true rfl) (Nat.le_of_ble_eq_true rfl)
set_option maxRecDepth 100000 in
set_option maxHeartbeats 4000000 in
theorem hX11_make {X : sp_X} (hX : sp_OK shX X cX11_make RX11 4 rmX11_make) {τ : sp_St} {ρ : Int32 ⊕ Nat} (hR : sp_RXi shX X (some .boolean) τ ρ 2 12) {n : Nat}  {σ : sp_St} {a1 : Int32} {a2 : Int32} {a3 : Int32}  (hf : X11_make n σ a1 a2 a3 = some (τ, ρ)) : sp_GG shX X σ 4 [some (.ref (sx_ad X 0)), some (.int a1), some (.int a2), some (.int a3)] [] 0 0 0 := by
  unfold X11_make at hf
  refine sp_aload_n (i := 0) (q := 1) hX dX11_make_0 rfl rfl rfl ?_
  refine sp_iload_n (i := 1) (q := 2) hX dX11_make_1 rfl rfl rfl ?_
  obtain ⟨σ2, o3, h1, hf⟩ := sp_bx_so hf
  refine sp_callXv (As := [.int a1]) (rest := []) (q := 5) hX (by decide) hR (cnX11_needHouse (sp_st hX) h1) cwX11_203 atX_0 rfl rfl rfl rfl rfl (Nat.le_of_ble_eq_true rfl) (Nat.le_of_ble_eq_true rfl) (Nat.le_of_ble_eq_true rfl) (Nat.le_of_ble_eq_true rfl) (Nat.le_of_ble_eq_true rfl) (Nat.le_of_ble_eq_true rfl) (Nat.le_of_ble_eq_true rfl) dX11_make_2 rfl hf (fun hf => ?_)
  refine sp_aload_n (i := 0) (q := 6) hX dX11_make_5 rfl rfl rfl ?_
  refine sp_iload_n (i := 2) (q := 7) hX dX11_make_6 rfl rfl rfl ?_
  obtain ⟨σ5, o6, h4, hf⟩ := sp_bx_so hf
  refine sp_callXv (As := [.int a2]) (rest := []) (q := 10) hX (by decide) hR (cnX11_needHouse (sp_st hX) h4) cwX11_203 atX_0 rfl rfl rfl rfl rfl (Nat.le_of_ble_eq_true rfl) (Nat.le_of_ble_eq_true rfl) (Nat.le_of_ble_eq_true rfl) (Nat.le_of_ble_eq_true rfl) (Nat.le_of_ble_eq_true rfl) (Nat.le_of_ble_eq_true rfl) (Nat.le_of_ble_eq_true rfl) dX11_make_7 rfl hf (fun hf => ?_)
  refine sp_iload_n (i := 1) (q := 11) hX dX11_make_10 rfl rfl rfl ?_
  refine sp_iload_n (i := 2) (q := 12) hX dX11_make_11 rfl rfl rfl ?_
  refine sp_icmp_eq (tgt := 28) (q := 15) hX dX11_make_12 (by decide) rfl (fun hc => ?_) (fun hc => ?_)
  · rw [if_pos hc] at hf
    refine sp_drop (lv' := [some (.ref (sx_ad X 0)), none, none, none]) (And.intro rfl trivial) ?_
    exact hX11_make_28 hX hR hf
  · rw [if_neg hc] at hf
    refine sp_aload_n (i := 0) (q := 16) hX dX11_make_15 rfl rfl rfl ?_
    refine sp_gets (t := 66) (q := 19) hX flX11_97 fkX11_12 atX_0 srX_0_12 dX11_make_16 rfl ?_
    refine sp_iload_n (i := 1) (q := 20) hX dX11_make_19 rfl rfl rfl ?_
    refine sp_iload_n (i := 2) (q := 21) hX dX11_make_20 rfl rfl rfl ?_
    obtain ⟨σ8, v9, h7, hf⟩ := sp_bd_so hf
    refine sp_callVi (As := [.int a1, .int a2]) (rest := []) (q := 24) hX (cnX6_between (sp_st hX)  h7) cwX11_206 atX_66 rfl rfl rfl rfl rfl (Nat.le_of_ble_eq_true rfl) (Nat.le_of_ble_eq_true rfl) (Nat.le_of_ble_eq_true rfl) (Nat.le_of_ble_eq_true rfl) (Nat.le_of_ble_eq_true rfl) dX11_make_21 rfl ?_
    refine sp_iload_n (i := 3) (q := 25) hX dX11_make_24 rfl rfl rfl ?_
    refine sp_icmp_ne (tgt := 36) (q := 28) hX dX11_make_25 (by decide) rfl (fun hc => ?_) (fun hc => ?_)
    · rw [if_neg hc] at hf
      refine sp_aload_n (i := 0) (q := 37) hX dX11_make_36 rfl rfl rfl ?_
      refine sp_gets (t := 22) (q := 40) hX flX11_46 fkX11_6 atX_0 srX_0_6 dX11_make_37 rfl ?_
      obtain ⟨σ11, h10, hf⟩ := sp_bv_so hf
      refine sp_callVv (As := []) (rest := []) (q := 43) hX (cnX1_keepAct (sp_st hX) atX_22 h10) cwX11_213 atX_22 rfl rfl rfl rfl rfl (Nat.le_of_ble_eq_true rfl) (Nat.le_of_ble_eq_true rfl) (Nat.le_of_ble_eq_true rfl) (Nat.le_of_ble_eq_true rfl) (Nat.le_of_ble_eq_true rfl) dX11_make_40 rfl ?_
      refine sp_aload_n (i := 0) (q := 44) hX dX11_make_43 rfl rfl rfl ?_
      refine sp_gets (t := 22) (q := 47) hX flX11_46 fkX11_6 atX_0 srX_0_6 dX11_make_44 rfl ?_
      refine sp_gets (t := 23) (q := 50) hX flX11_58 fkX1_0 atX_22 srX_22_0 dX11_make_47 rfl ?_
      refine sp_iload_n (i := 1) (q := 51) hX dX11_make_50 rfl rfl rfl ?_
      refine sp_iload_n (i := 2) (q := 52) hX dX11_make_51 rfl rfl rfl ?_
      obtain ⟨σ13, h12, hf⟩ := sp_bv_so hf
      refine sp_callVv (As := [.int a1, .int a2]) (rest := []) (q := 55) hX (cnX8_turnFeud (sp_st hX) atX_23 h12) cwX11_239 atX_23 rfl rfl rfl rfl rfl (Nat.le_of_ble_eq_true rfl) (Nat.le_of_ble_eq_true rfl) (Nat.le_of_ble_eq_true rfl) (Nat.le_of_ble_eq_true rfl) (Nat.le_of_ble_eq_true rfl) dX11_make_52 rfl ?_
      refine sp_iconst (v := 1) (q := 56) hX dX11_make_55 li_1 rfl ?_
      exact sp_zretX hX hR (by decide) dX11_make_56 hf (Nat.le_of_ble_eq_true rfl) (Nat.le_of_ble_eq_true rfl)
    · rw [if_pos hc] at hf
      refine sp_drop (lv' := [some (.ref (sx_ad X 0)), none, none, none]) (And.intro rfl trivial) ?_
      exact hX11_make_28 hX hR hf
set_option maxRecDepth 100000 in
set_option maxHeartbeats 4000000 in
theorem cnX11_make {l : Launch} (hst : l.stackTraces = false) {w : sp_Wd} {n : Nat}  {σ : sp_St} {a1 : Int32} {a2 : Int32} {a3 : Int32} {τ : sp_St} {ρ : Int32 ⊕ Nat}  (hf : X11_make n σ a1 a2 a3 = some (τ, ρ)) : sp_Xi shX l w yX11_make cX11_make 4 (some .boolean) rmX11_make 2 12 σ [.ref (w.2.1 0), .int a1, .int a2, .int a3] τ ρ :=
  sp_xi (own := RX11) (by decide) rfl hst (Nat.le_of_ble_eq_true rfl) rfl (fun X hX hw hl hR => by subst hw; subst hl; exact hX11_make hX hR   hf)
def rmX11_then : Room := { frames := 7, cells := 3, slots := 18, locals := 144 }
def X11_then_46 (n : Nat) (σ : sp_St) (zs0 : Int32) : Option (sp_St × (Int32 ⊕ Nat)) :=
  some (σ, Sum.inl zs0)
def X11_then (n : Nat)  (σ : sp_St) (a1 : Int32) (a2 : Int32) (a3 : Int32) : Option (sp_St × (Int32 ⊕ Nat)) :=
  sp_bx (X11_needBlade n σ a1) fun σ2 =>
  sp_bx (X11_needWhat n σ2 a3 ((1 : Int32))) fun σ5 =>
  sp_bx (X11_needAhead n σ5 a2) fun σ8 =>
  sp_bd (X4_after n σ8 a2) fun σ11 r12 =>
  sp_ck (decide (r12 = 50)) <|
  if a3 = 0 then
    sp_ck (sp_in a1 50) <|
    X11_then_46 n σ11 (sp_g σ11 51 a1)
  else
    sp_bd (X8_state n σ11 50 a1) fun σ16 v17 =>
    X11_then_46 n σ16 v17
set_option maxRecDepth 100000 in
set_option maxHeartbeats 4000000 in
theorem hX11_then_46 {X : sp_X} (hX : sp_OK shX X cX11_then RX11 5 rmX11_then) {τ : sp_St} {ρ : Int32 ⊕ Nat} (hR : sp_RXi shX X (some .int) τ ρ 3 18) {n : Nat}    {σ : sp_St} {zs0 : Int32} (hf : X11_then_46 n σ zs0 = some (τ, ρ)) : sp_GG shX X σ 5 [none, none, none, none, none] [.int zs0] 46 3 18 := by
  unfold X11_then_46 at hf
  exact sp_iretX hX hR dX11_then_46 hf (Nat.le_of_ble_eq_true rfl) (Nat.le_of_ble_eq_true rfl)
set_option maxRecDepth 100000 in
set_option maxHeartbeats 4000000 in
theorem hX11_then {X : sp_X} (hX : sp_OK shX X cX11_then RX11 5 rmX11_then) {τ : sp_St} {ρ : Int32 ⊕ Nat} (hR : sp_RXi shX X (some .int) τ ρ 3 18) {n : Nat}  {σ : sp_St} {a1 : Int32} {a2 : Int32} {a3 : Int32}  (hf : X11_then n σ a1 a2 a3 = some (τ, ρ)) : sp_GG shX X σ 5 [some (.ref (sx_ad X 0)), some (.int a1), some (.int a2), some (.int a3), none] [] 0 0 0 := by
  unfold X11_then at hf
  refine sp_aload_n (i := 0) (q := 1) hX dX11_then_0 rfl rfl rfl ?_
  refine sp_iload_n (i := 1) (q := 2) hX dX11_then_1 rfl rfl rfl ?_
  obtain ⟨σ2, o3, h1, hf⟩ := sp_bx_so hf
  refine sp_callXv (As := [.int a1]) (rest := []) (q := 5) hX (by decide) hR (cnX11_needBlade (sp_st hX) h1) cwX11_161 atX_0 rfl rfl rfl rfl rfl (Nat.le_of_ble_eq_true rfl) (Nat.le_of_ble_eq_true rfl) (Nat.le_of_ble_eq_true rfl) (Nat.le_of_ble_eq_true rfl) (Nat.le_of_ble_eq_true rfl) (Nat.le_of_ble_eq_true rfl) (Nat.le_of_ble_eq_true rfl) dX11_then_2 rfl hf (fun hf => ?_)
  refine sp_aload_n (i := 0) (q := 6) hX dX11_then_5 rfl rfl rfl ?_
  refine sp_iload_n (i := 3) (q := 7) hX dX11_then_6 rfl rfl rfl ?_
  refine sp_iconst (v := 1) (q := 8) hX dX11_then_7 li_1 rfl ?_
  obtain ⟨σ5, o6, h4, hf⟩ := sp_bx_so hf
  refine sp_callXv (As := [.int a3, .int ((1 : Int32))]) (rest := []) (q := 11) hX (by decide) hR (cnX11_needWhat (sp_st hX) h4) cwX11_245 atX_0 rfl rfl rfl rfl rfl (Nat.le_of_ble_eq_true rfl) (Nat.le_of_ble_eq_true rfl) (Nat.le_of_ble_eq_true rfl) (Nat.le_of_ble_eq_true rfl) (Nat.le_of_ble_eq_true rfl) (Nat.le_of_ble_eq_true rfl) (Nat.le_of_ble_eq_true rfl) dX11_then_8 rfl hf (fun hf => ?_)
  refine sp_aload_n (i := 0) (q := 12) hX dX11_then_11 rfl rfl rfl ?_
  refine sp_iload_n (i := 2) (q := 13) hX dX11_then_12 rfl rfl rfl ?_
  obtain ⟨σ8, o9, h7, hf⟩ := sp_bx_so hf
  refine sp_callXv (As := [.int a2]) (rest := []) (q := 16) hX (by decide) hR (cnX11_needAhead (sp_st hX) h7) cwX11_248 atX_0 rfl rfl rfl rfl rfl (Nat.le_of_ble_eq_true rfl) (Nat.le_of_ble_eq_true rfl) (Nat.le_of_ble_eq_true rfl) (Nat.le_of_ble_eq_true rfl) (Nat.le_of_ble_eq_true rfl) (Nat.le_of_ble_eq_true rfl) (Nat.le_of_ble_eq_true rfl) dX11_then_13 rfl hf (fun hf => ?_)
  refine sp_aload_n (i := 0) (q := 17) hX dX11_then_16 rfl rfl rfl ?_
  refine sp_gets (t := 57) (q := 20) hX flX11_65 fkX11_9 atX_0 srX_0_9 dX11_then_17 rfl ?_
  refine sp_iload_n (i := 2) (q := 21) hX dX11_then_20 rfl rfl rfl ?_
  obtain ⟨σ11, r12, h10, hf⟩ := sp_bd_so hf
  refine sp_callVr (As := [.int a2]) (rest := []) (q := 24) hX (cnX4_after (sp_st hX)  h10) cwX11_251 atX_57 rfl rfl rfl rfl rfl (Nat.le_of_ble_eq_true rfl) (Nat.le_of_ble_eq_true rfl) (Nat.le_of_ble_eq_true rfl) (Nat.le_of_ble_eq_true rfl) (Nat.le_of_ble_eq_true rfl) dX11_then_21 rfl ?_
  obtain ⟨h13, hf⟩ := sp_ck_some hf
  refine sp_nmr (of_decide_eq_true h13).symm ?_
  refine sp_astore (i := 4) (lv' := [some (.ref (sx_ad X 0)), some (.int a1), some (.int a2), some (.int a3), some (.ref (sx_ad X 50))]) (q := 26) hX dX11_then_24 (Nat.le_of_ble_eq_true rfl) rfl rfl rfl ?_
  refine sp_iload_n (i := 3) (q := 27) hX dX11_then_26 rfl rfl rfl ?_
  refine sp_if_ne (tgt := 40) (q := 30) hX dX11_then_27 (by decide) rfl (fun hc => ?_) (fun hc => ?_)
  · rw [if_neg hc] at hf
    refine sp_aload (i := 4) (q := 42) hX dX11_then_40 rfl rfl ?_
    refine sp_iload_n (i := 1) (q := 43) hX dX11_then_42 rfl rfl rfl ?_
    obtain ⟨σ16, v17, h15, hf⟩ := sp_bd_so hf
    refine sp_callVi (As := [.int a1]) (rest := []) (q := 46) hX (cnX8_state (sp_st hX) atX_50 h15) cwX11_170 atX_50 rfl rfl rfl rfl rfl (Nat.le_of_ble_eq_true rfl) (Nat.le_of_ble_eq_true rfl) (Nat.le_of_ble_eq_true rfl) (Nat.le_of_ble_eq_true rfl) (Nat.le_of_ble_eq_true rfl) dX11_then_43 rfl ?_
    refine sp_drop (lv' := [none, none, none, none, none]) trivial ?_
    exact hX11_then_46 hX hR hf
  · rw [if_pos hc] at hf
    refine sp_aload (i := 4) (q := 32) hX dX11_then_30 rfl rfl ?_
    refine sp_gets (t := 51) (q := 35) hX flX11_93 fkX8_1 atX_50 srX_50_1 dX11_then_32 rfl ?_
    refine sp_iload_n (i := 1) (q := 36) hX dX11_then_35 rfl rfl rfl ?_
    obtain ⟨h18, hf⟩ := sp_ck_some hf
    refine sp_iald (q := 37) hX arX_51 h18 dX11_then_36 rfl ?_
    refine sp_goto (tgt := 46) hX dX11_then_37 (by decide) ?_
    refine sp_drop (lv' := [none, none, none, none, none]) trivial ?_
    exact hX11_then_46 hX hR hf
set_option maxRecDepth 100000 in
set_option maxHeartbeats 4000000 in
theorem cnX11_then {l : Launch} (hst : l.stackTraces = false) {w : sp_Wd} {n : Nat}  {σ : sp_St} {a1 : Int32} {a2 : Int32} {a3 : Int32} {τ : sp_St} {ρ : Int32 ⊕ Nat}  (hf : X11_then n σ a1 a2 a3 = some (τ, ρ)) : sp_Xi shX l w yX11_then cX11_then 5 (some .int) rmX11_then 3 18 σ [.ref (w.2.1 0), .int a1, .int a2, .int a3] τ ρ :=
  sp_xi (own := RX11) (by decide) rfl hst (Nat.le_of_ble_eq_true rfl) rfl (fun X hX hw hl hR => by subst hw; subst hl; exact hX11_then hX hR   hf)
def rmX11_fights : Room := { frames := 7, cells := 1, slots := 6, locals := 144 }
def X11_fights (n : Nat)  (σ : sp_St) (a1 : Int32) : Option (sp_St × (Int32 ⊕ Nat)) :=
  sp_bx (X11_needAhead n σ a1) fun σ2 =>
  sp_bd (X4_after n σ2 a1) fun σ5 r6 =>
  sp_ck (decide (r6 = 50)) <|
  sp_bd (X4_fightsDreamt n σ5) fun σ10 v11 =>
  some (σ10, Sum.inl v11)
set_option maxRecDepth 100000 in
set_option maxHeartbeats 4000000 in
theorem hX11_fights {X : sp_X} (hX : sp_OK shX X cX11_fights RX11 2 rmX11_fights) {τ : sp_St} {ρ : Int32 ⊕ Nat} (hR : sp_RXi shX X (some .int) τ ρ 1 6) {n : Nat}  {σ : sp_St} {a1 : Int32}  (hf : X11_fights n σ a1 = some (τ, ρ)) : sp_GG shX X σ 2 [some (.ref (sx_ad X 0)), some (.int a1)] [] 0 0 0 := by
  unfold X11_fights at hf
  refine sp_aload_n (i := 0) (q := 1) hX dX11_fights_0 rfl rfl rfl ?_
  refine sp_iload_n (i := 1) (q := 2) hX dX11_fights_1 rfl rfl rfl ?_
  obtain ⟨σ2, o3, h1, hf⟩ := sp_bx_so hf
  refine sp_callXv (As := [.int a1]) (rest := []) (q := 5) hX (by decide) hR (cnX11_needAhead (sp_st hX) h1) cwX11_248 atX_0 rfl rfl rfl rfl rfl (Nat.le_of_ble_eq_true rfl) (Nat.le_of_ble_eq_true rfl) (Nat.le_of_ble_eq_true rfl) (Nat.le_of_ble_eq_true rfl) (Nat.le_of_ble_eq_true rfl) (Nat.le_of_ble_eq_true rfl) (Nat.le_of_ble_eq_true rfl) dX11_fights_2 rfl hf (fun hf => ?_)
  refine sp_aload_n (i := 0) (q := 6) hX dX11_fights_5 rfl rfl rfl ?_
  refine sp_gets (t := 57) (q := 9) hX flX11_65 fkX11_9 atX_0 srX_0_9 dX11_fights_6 rfl ?_
  refine sp_iload_n (i := 1) (q := 10) hX dX11_fights_9 rfl rfl rfl ?_
  obtain ⟨σ5, r6, h4, hf⟩ := sp_bd_so hf
  refine sp_callVr (As := [.int a1]) (rest := []) (q := 13) hX (cnX4_after (sp_st hX)  h4) cwX11_251 atX_57 rfl rfl rfl rfl rfl (Nat.le_of_ble_eq_true rfl) (Nat.le_of_ble_eq_true rfl) (Nat.le_of_ble_eq_true rfl) (Nat.le_of_ble_eq_true rfl) (Nat.le_of_ble_eq_true rfl) dX11_fights_10 rfl ?_
  obtain ⟨h7, hf⟩ := sp_ck_some hf
  refine sp_nmr (of_decide_eq_true h7).symm ?_
  refine sp_pop (q := 14) hX dX11_fights_13 rfl rfl ?_
  refine sp_aload_n (i := 0) (q := 15) hX dX11_fights_14 rfl rfl rfl ?_
  refine sp_gets (t := 57) (q := 18) hX flX11_65 fkX11_9 atX_0 srX_0_9 dX11_fights_15 rfl ?_
  obtain ⟨σ10, v11, h9, hf⟩ := sp_bd_so hf
  refine sp_callVi (As := []) (rest := []) (q := 21) hX (cnX4_fightsDreamt (sp_st hX)  h9) cwX11_258 atX_57 rfl rfl rfl rfl rfl (Nat.le_of_ble_eq_true rfl) (Nat.le_of_ble_eq_true rfl) (Nat.le_of_ble_eq_true rfl) (Nat.le_of_ble_eq_true rfl) (Nat.le_of_ble_eq_true rfl) dX11_fights_18 rfl ?_
  exact sp_iretX hX hR dX11_fights_21 hf (Nat.le_of_ble_eq_true rfl) (Nat.le_of_ble_eq_true rfl)
set_option maxRecDepth 100000 in
set_option maxHeartbeats 4000000 in
theorem cnX11_fights {l : Launch} (hst : l.stackTraces = false) {w : sp_Wd} {n : Nat}  {σ : sp_St} {a1 : Int32} {τ : sp_St} {ρ : Int32 ⊕ Nat}  (hf : X11_fights n σ a1 = some (τ, ρ)) : sp_Xi shX l w yX11_fights cX11_fights 2 (some .int) rmX11_fights 1 6 σ [.ref (w.2.1 0), .int a1] τ ρ :=
  sp_xi (own := RX11) (by decide) rfl hst (Nat.le_of_ble_eq_true rfl) rfl (fun X hX hw hl hR => by subst hw; subst hl; exact hX11_fights hX hR   hf)
def rmX11_rests : Room := { frames := 7, cells := 1, slots := 6, locals := 144 }
def X11_rests (n : Nat)  (σ : sp_St) (a1 : Int32) : Option (sp_St × (Int32 ⊕ Nat)) :=
  sp_bx (X11_needBlade n σ a1) fun σ2 =>
  sp_bd (X4_daysToRest n σ2 a1) fun σ5 v6 =>
  some (σ5, Sum.inl v6)
set_option maxRecDepth 100000 in
set_option maxHeartbeats 4000000 in
theorem hX11_rests {X : sp_X} (hX : sp_OK shX X cX11_rests RX11 2 rmX11_rests) {τ : sp_St} {ρ : Int32 ⊕ Nat} (hR : sp_RXi shX X (some .int) τ ρ 1 6) {n : Nat}  {σ : sp_St} {a1 : Int32}  (hf : X11_rests n σ a1 = some (τ, ρ)) : sp_GG shX X σ 2 [some (.ref (sx_ad X 0)), some (.int a1)] [] 0 0 0 := by
  unfold X11_rests at hf
  refine sp_aload_n (i := 0) (q := 1) hX dX11_rests_0 rfl rfl rfl ?_
  refine sp_iload_n (i := 1) (q := 2) hX dX11_rests_1 rfl rfl rfl ?_
  obtain ⟨σ2, o3, h1, hf⟩ := sp_bx_so hf
  refine sp_callXv (As := [.int a1]) (rest := []) (q := 5) hX (by decide) hR (cnX11_needBlade (sp_st hX) h1) cwX11_161 atX_0 rfl rfl rfl rfl rfl (Nat.le_of_ble_eq_true rfl) (Nat.le_of_ble_eq_true rfl) (Nat.le_of_ble_eq_true rfl) (Nat.le_of_ble_eq_true rfl) (Nat.le_of_ble_eq_true rfl) (Nat.le_of_ble_eq_true rfl) (Nat.le_of_ble_eq_true rfl) dX11_rests_2 rfl hf (fun hf => ?_)
  refine sp_aload_n (i := 0) (q := 6) hX dX11_rests_5 rfl rfl rfl ?_
  refine sp_gets (t := 57) (q := 9) hX flX11_65 fkX11_9 atX_0 srX_0_9 dX11_rests_6 rfl ?_
  refine sp_iload_n (i := 1) (q := 10) hX dX11_rests_9 rfl rfl rfl ?_
  obtain ⟨σ5, v6, h4, hf⟩ := sp_bd_so hf
  refine sp_callVi (As := [.int a1]) (rest := []) (q := 13) hX (cnX4_daysToRest (sp_st hX)  h4) cwX11_261 atX_57 rfl rfl rfl rfl rfl (Nat.le_of_ble_eq_true rfl) (Nat.le_of_ble_eq_true rfl) (Nat.le_of_ble_eq_true rfl) (Nat.le_of_ble_eq_true rfl) (Nat.le_of_ble_eq_true rfl) dX11_rests_10 rfl ?_
  exact sp_iretX hX hR dX11_rests_13 hf (Nat.le_of_ble_eq_true rfl) (Nat.le_of_ble_eq_true rfl)
set_option maxRecDepth 100000 in
set_option maxHeartbeats 4000000 in
theorem cnX11_rests {l : Launch} (hst : l.stackTraces = false) {w : sp_Wd} {n : Nat}  {σ : sp_St} {a1 : Int32} {τ : sp_St} {ρ : Int32 ⊕ Nat}  (hf : X11_rests n σ a1 = some (τ, ρ)) : sp_Xi shX l w yX11_rests cX11_rests 2 (some .int) rmX11_rests 1 6 σ [.ref (w.2.1 0), .int a1] τ ρ :=
  sp_xi (own := RX11) (by decide) rfl hst (Nat.le_of_ble_eq_true rfl) rfl (fun X hX hw hl hR => by subst hw; subst hl; exact hX11_rests hX hR   hf)
def rmX11_worst : Room := { frames := 7, cells := 1, slots := 6, locals := 168 }
def X11_worst (n : Nat)  (σ : sp_St) (a1 : Int32) : Option (sp_St × (Int32 ⊕ Nat)) :=
  sp_bx (X11_needAhead n σ a1) fun σ2 =>
  sp_bd (X4_worstHouse n σ2 a1) fun σ5 v6 =>
  some (σ5, Sum.inl v6)
set_option maxRecDepth 100000 in
set_option maxHeartbeats 4000000 in
theorem hX11_worst {X : sp_X} (hX : sp_OK shX X cX11_worst RX11 2 rmX11_worst) {τ : sp_St} {ρ : Int32 ⊕ Nat} (hR : sp_RXi shX X (some .int) τ ρ 1 6) {n : Nat}  {σ : sp_St} {a1 : Int32}  (hf : X11_worst n σ a1 = some (τ, ρ)) : sp_GG shX X σ 2 [some (.ref (sx_ad X 0)), some (.int a1)] [] 0 0 0 := by
  unfold X11_worst at hf
  refine sp_aload_n (i := 0) (q := 1) hX dX11_worst_0 rfl rfl rfl ?_
  refine sp_iload_n (i := 1) (q := 2) hX dX11_worst_1 rfl rfl rfl ?_
  obtain ⟨σ2, o3, h1, hf⟩ := sp_bx_so hf
  refine sp_callXv (As := [.int a1]) (rest := []) (q := 5) hX (by decide) hR (cnX11_needAhead (sp_st hX) h1) cwX11_248 atX_0 rfl rfl rfl rfl rfl (Nat.le_of_ble_eq_true rfl) (Nat.le_of_ble_eq_true rfl) (Nat.le_of_ble_eq_true rfl) (Nat.le_of_ble_eq_true rfl) (Nat.le_of_ble_eq_true rfl) (Nat.le_of_ble_eq_true rfl) (Nat.le_of_ble_eq_true rfl) dX11_worst_2 rfl hf (fun hf => ?_)
  refine sp_aload_n (i := 0) (q := 6) hX dX11_worst_5 rfl rfl rfl ?_
  refine sp_gets (t := 57) (q := 9) hX flX11_65 fkX11_9 atX_0 srX_0_9 dX11_worst_6 rfl ?_
  refine sp_iload_n (i := 1) (q := 10) hX dX11_worst_9 rfl rfl rfl ?_
  obtain ⟨σ5, v6, h4, hf⟩ := sp_bd_so hf
  refine sp_callVi (As := [.int a1]) (rest := []) (q := 13) hX (cnX4_worstHouse (sp_st hX)  h4) cwX11_264 atX_57 rfl rfl rfl rfl rfl (Nat.le_of_ble_eq_true rfl) (Nat.le_of_ble_eq_true rfl) (Nat.le_of_ble_eq_true rfl) (Nat.le_of_ble_eq_true rfl) (Nat.le_of_ble_eq_true rfl) dX11_worst_10 rfl ?_
  exact sp_iretX hX hR dX11_worst_13 hf (Nat.le_of_ble_eq_true rfl) (Nat.le_of_ble_eq_true rfl)
set_option maxRecDepth 100000 in
set_option maxHeartbeats 4000000 in
theorem cnX11_worst {l : Launch} (hst : l.stackTraces = false) {w : sp_Wd} {n : Nat}  {σ : sp_St} {a1 : Int32} {τ : sp_St} {ρ : Int32 ⊕ Nat}  (hf : X11_worst n σ a1 = some (τ, ρ)) : sp_Xi shX l w yX11_worst cX11_worst 2 (some .int) rmX11_worst 1 6 σ [.ref (w.2.1 0), .int a1] τ ρ :=
  sp_xi (own := RX11) (by decide) rfl hst (Nat.le_of_ble_eq_true rfl) rfl (fun X hX hw hl hR => by subst hw; subst hl; exact hX11_worst hX hR   hf)
def rmX11_takeIn : Room := { frames := 7, cells := 1, slots := 6, locals := 121 }
def X11_takeIn_33 (n : Nat) (σ : sp_St) (zs0 : Int32) : Option (sp_St × (Int32 ⊕ Nat)) :=
  some (σ, Sum.inl zs0)
def X11_takeIn_10 (n : Nat) (σ : sp_St) (z1 : Int32) : Option (sp_St × (Int32 ⊕ Nat)) :=
  if z1 = ((-1 : Int32)) then
    sp_bd (X5_mostAnger n σ) fun σ5 v6 =>
    X11_takeIn_33 n σ5 v6
  else
    sp_bd (X5_bestSwallower n σ z1) fun σ2 v3 =>
    X11_takeIn_33 n σ2 v3
def X11_takeIn (n : Nat)  (σ : sp_St) (a1 : Int32) : Option (sp_St × (Int32 ⊕ Nat)) :=
  if a1 = ((-1 : Int32)) then
    X11_takeIn_10 n σ a1
  else
    sp_bx (X11_needBlade n σ a1) fun σ2 =>
    X11_takeIn_10 n σ2 a1
set_option maxRecDepth 100000 in
set_option maxHeartbeats 4000000 in
theorem hX11_takeIn_33 {X : sp_X} (hX : sp_OK shX X cX11_takeIn RX11 2 rmX11_takeIn) {τ : sp_St} {ρ : Int32 ⊕ Nat} (hR : sp_RXi shX X (some .int) τ ρ 1 6) {n : Nat}    {σ : sp_St} {zs0 : Int32} (hf : X11_takeIn_33 n σ zs0 = some (τ, ρ)) : sp_GG shX X σ 2 [none, none] [.int zs0] 33 1 6 := by
  unfold X11_takeIn_33 at hf
  exact sp_iretX hX hR dX11_takeIn_33 hf (Nat.le_of_ble_eq_true rfl) (Nat.le_of_ble_eq_true rfl)
set_option maxRecDepth 100000 in
set_option maxHeartbeats 4000000 in
theorem hX11_takeIn_10 {X : sp_X} (hX : sp_OK shX X cX11_takeIn RX11 2 rmX11_takeIn) {τ : sp_St} {ρ : Int32 ⊕ Nat} (hR : sp_RXi shX X (some .int) τ ρ 1 6) {n : Nat}    {σ : sp_St} {z1 : Int32} (hf : X11_takeIn_10 n σ z1 = some (τ, ρ)) : sp_GG shX X σ 2 [some (.ref (sx_ad X 0)), some (.int z1)] [] 10 1 6 := by
  unfold X11_takeIn_10 at hf
  refine sp_iload_n (i := 1) (q := 11) hX dX11_takeIn_10 rfl rfl rfl ?_
  refine sp_iconst (v := -1) (q := 12) hX dX11_takeIn_11 li_m1 rfl ?_
  refine sp_icmp_ne (tgt := 25) (q := 15) hX dX11_takeIn_12 (by decide) rfl (fun hc => ?_) (fun hc => ?_)
  · rw [if_neg hc] at hf
    refine sp_aload_n (i := 0) (q := 26) hX dX11_takeIn_25 rfl rfl rfl ?_
    refine sp_gets (t := 60) (q := 29) hX flX11_74 fkX11_10 atX_0 srX_0_10 dX11_takeIn_26 rfl ?_
    refine sp_iload_n (i := 1) (q := 30) hX dX11_takeIn_29 rfl rfl rfl ?_
    obtain ⟨σ2, v3, h1, hf⟩ := sp_bd_so hf
    refine sp_callVi (As := [.int z1]) (rest := []) (q := 33) hX (cnX5_bestSwallower (sp_st hX)  h1) cwX11_270 atX_60 rfl rfl rfl rfl rfl (Nat.le_of_ble_eq_true rfl) (Nat.le_of_ble_eq_true rfl) (Nat.le_of_ble_eq_true rfl) (Nat.le_of_ble_eq_true rfl) (Nat.le_of_ble_eq_true rfl) dX11_takeIn_30 rfl ?_
    refine sp_drop (lv' := [none, none]) trivial ?_
    exact hX11_takeIn_33 hX hR hf
  · rw [if_pos hc] at hf
    refine sp_aload_n (i := 0) (q := 16) hX dX11_takeIn_15 rfl rfl rfl ?_
    refine sp_gets (t := 60) (q := 19) hX flX11_74 fkX11_10 atX_0 srX_0_10 dX11_takeIn_16 rfl ?_
    obtain ⟨σ5, v6, h4, hf⟩ := sp_bd_so hf
    refine sp_callVi (As := []) (rest := []) (q := 22) hX (cnX5_mostAnger (sp_st hX)  h4) cwX11_267 atX_60 rfl rfl rfl rfl rfl (Nat.le_of_ble_eq_true rfl) (Nat.le_of_ble_eq_true rfl) (Nat.le_of_ble_eq_true rfl) (Nat.le_of_ble_eq_true rfl) (Nat.le_of_ble_eq_true rfl) dX11_takeIn_19 rfl ?_
    refine sp_goto (tgt := 33) hX dX11_takeIn_22 (by decide) ?_
    refine sp_drop (lv' := [none, none]) trivial ?_
    exact hX11_takeIn_33 hX hR hf
set_option maxRecDepth 100000 in
set_option maxHeartbeats 4000000 in
theorem hX11_takeIn {X : sp_X} (hX : sp_OK shX X cX11_takeIn RX11 2 rmX11_takeIn) {τ : sp_St} {ρ : Int32 ⊕ Nat} (hR : sp_RXi shX X (some .int) τ ρ 1 6) {n : Nat}  {σ : sp_St} {a1 : Int32}  (hf : X11_takeIn n σ a1 = some (τ, ρ)) : sp_GG shX X σ 2 [some (.ref (sx_ad X 0)), some (.int a1)] [] 0 0 0 := by
  unfold X11_takeIn at hf
  refine sp_iload_n (i := 1) (q := 1) hX dX11_takeIn_0 rfl rfl rfl ?_
  refine sp_iconst (v := -1) (q := 2) hX dX11_takeIn_1 li_m1 rfl ?_
  refine sp_icmp_eq (tgt := 10) (q := 5) hX dX11_takeIn_2 (by decide) rfl (fun hc => ?_) (fun hc => ?_)
  · rw [if_pos hc] at hf
    refine sp_wid (a := 1) (b := 6) (Nat.le_of_ble_eq_true rfl) (Nat.le_of_ble_eq_true rfl) ?_
    exact hX11_takeIn_10 hX hR hf
  · rw [if_neg hc] at hf
    refine sp_aload_n (i := 0) (q := 6) hX dX11_takeIn_5 rfl rfl rfl ?_
    refine sp_iload_n (i := 1) (q := 7) hX dX11_takeIn_6 rfl rfl rfl ?_
    obtain ⟨σ2, o3, h1, hf⟩ := sp_bx_so hf
    refine sp_callXv (As := [.int a1]) (rest := []) (q := 10) hX (by decide) hR (cnX11_needBlade (sp_st hX) h1) cwX11_161 atX_0 rfl rfl rfl rfl rfl (Nat.le_of_ble_eq_true rfl) (Nat.le_of_ble_eq_true rfl) (Nat.le_of_ble_eq_true rfl) (Nat.le_of_ble_eq_true rfl) (Nat.le_of_ble_eq_true rfl) (Nat.le_of_ble_eq_true rfl) (Nat.le_of_ble_eq_true rfl) dX11_takeIn_7 rfl hf (fun hf => ?_)
    exact hX11_takeIn_10 hX hR hf
set_option maxRecDepth 100000 in
set_option maxHeartbeats 4000000 in
theorem cnX11_takeIn {l : Launch} (hst : l.stackTraces = false) {w : sp_Wd} {n : Nat}  {σ : sp_St} {a1 : Int32} {τ : sp_St} {ρ : Int32 ⊕ Nat}  (hf : X11_takeIn n σ a1 = some (τ, ρ)) : sp_Xi shX l w yX11_takeIn cX11_takeIn 2 (some .int) rmX11_takeIn 1 6 σ [.ref (w.2.1 0), .int a1] τ ρ :=
  sp_xi (own := RX11) (by decide) rfl hst (Nat.le_of_ble_eq_true rfl) rfl (fun X hX hw hl hR => by subst hw; subst hl; exact hX11_takeIn hX hR   hf)
def rmX11_toDraw : Room := { frames := 7, cells := 1, slots := 6, locals := 121 }
def X11_toDraw_34 (n : Nat) (σ : sp_St) (zs0 : Int32) : Option (sp_St × (Int32 ⊕ Nat)) :=
  some (σ, Sum.inl zs0)
def X11_toDraw (n : Nat)  (σ : sp_St) (a1 : Int32) : Option (sp_St × (Int32 ⊕ Nat)) :=
  sp_bx (X11_needBlade n σ a1) fun σ2 =>
  sp_bd (X8_isIn n σ2 23 a1) fun σ5 v6 =>
  if v6 = 0 then
    X11_toDraw_34 n σ5 ((0 : Int32))
  else
    sp_bd (X8_bladesAbove n σ5 23 a1) fun σ8 v9 =>
    X11_toDraw_34 n σ8 (v9 ||| (((1 : Int32)) <<< (a1 &&& 31)))
set_option maxRecDepth 100000 in
set_option maxHeartbeats 4000000 in
theorem hX11_toDraw_34 {X : sp_X} (hX : sp_OK shX X cX11_toDraw RX11 3 rmX11_toDraw) {τ : sp_St} {ρ : Int32 ⊕ Nat} (hR : sp_RXi shX X (some .int) τ ρ 1 6) {n : Nat}    {σ : sp_St} {zs0 : Int32} (hf : X11_toDraw_34 n σ zs0 = some (τ, ρ)) : sp_GG shX X σ 3 [none, none, none] [.int zs0] 34 1 6 := by
  unfold X11_toDraw_34 at hf
  exact sp_iretX hX hR dX11_toDraw_34 hf (Nat.le_of_ble_eq_true rfl) (Nat.le_of_ble_eq_true rfl)
set_option maxRecDepth 100000 in
set_option maxHeartbeats 4000000 in
theorem hX11_toDraw {X : sp_X} (hX : sp_OK shX X cX11_toDraw RX11 3 rmX11_toDraw) {τ : sp_St} {ρ : Int32 ⊕ Nat} (hR : sp_RXi shX X (some .int) τ ρ 1 6) {n : Nat}  {σ : sp_St} {a1 : Int32}  (hf : X11_toDraw n σ a1 = some (τ, ρ)) : sp_GG shX X σ 3 [some (.ref (sx_ad X 0)), some (.int a1), none] [] 0 0 0 := by
  unfold X11_toDraw at hf
  refine sp_aload_n (i := 0) (q := 1) hX dX11_toDraw_0 rfl rfl rfl ?_
  refine sp_iload_n (i := 1) (q := 2) hX dX11_toDraw_1 rfl rfl rfl ?_
  obtain ⟨σ2, o3, h1, hf⟩ := sp_bx_so hf
  refine sp_callXv (As := [.int a1]) (rest := []) (q := 5) hX (by decide) hR (cnX11_needBlade (sp_st hX) h1) cwX11_161 atX_0 rfl rfl rfl rfl rfl (Nat.le_of_ble_eq_true rfl) (Nat.le_of_ble_eq_true rfl) (Nat.le_of_ble_eq_true rfl) (Nat.le_of_ble_eq_true rfl) (Nat.le_of_ble_eq_true rfl) (Nat.le_of_ble_eq_true rfl) (Nat.le_of_ble_eq_true rfl) dX11_toDraw_2 rfl hf (fun hf => ?_)
  refine sp_aload_n (i := 0) (q := 6) hX dX11_toDraw_5 rfl rfl rfl ?_
  refine sp_gets (t := 22) (q := 9) hX flX11_46 fkX11_6 atX_0 srX_0_6 dX11_toDraw_6 rfl ?_
  refine sp_gets (t := 23) (q := 12) hX flX11_58 fkX1_0 atX_22 srX_22_0 dX11_toDraw_9 rfl ?_
  refine sp_astore_n (i := 2) (lv' := [some (.ref (sx_ad X 0)), some (.int a1), some (.ref (sx_ad X 23))]) (q := 13) hX dX11_toDraw_12 rfl (Nat.le_of_ble_eq_true rfl) rfl rfl rfl ?_
  refine sp_aload_n (i := 2) (q := 14) hX dX11_toDraw_13 rfl rfl rfl ?_
  refine sp_iload_n (i := 1) (q := 15) hX dX11_toDraw_14 rfl rfl rfl ?_
  obtain ⟨σ5, v6, h4, hf⟩ := sp_bd_so hf
  refine sp_callVi (As := [.int a1]) (rest := []) (q := 18) hX (cnX8_isIn (sp_st hX) atX_23 h4) cwX11_276 atX_23 rfl rfl rfl rfl rfl (Nat.le_of_ble_eq_true rfl) (Nat.le_of_ble_eq_true rfl) (Nat.le_of_ble_eq_true rfl) (Nat.le_of_ble_eq_true rfl) (Nat.le_of_ble_eq_true rfl) dX11_toDraw_15 rfl ?_
  refine sp_if_eq (tgt := 33) (q := 21) hX dX11_toDraw_18 (by decide) rfl (fun hc => ?_) (fun hc => ?_)
  · rw [if_pos hc] at hf
    refine sp_iconst (v := 0) (q := 34) hX dX11_toDraw_33 li_0 rfl ?_
    refine sp_drop (lv' := [none, none, none]) trivial ?_
    exact hX11_toDraw_34 hX hR hf
  · rw [if_neg hc] at hf
    refine sp_aload_n (i := 2) (q := 22) hX dX11_toDraw_21 rfl rfl rfl ?_
    refine sp_iload_n (i := 1) (q := 23) hX dX11_toDraw_22 rfl rfl rfl ?_
    obtain ⟨σ8, v9, h7, hf⟩ := sp_bd_so hf
    refine sp_callVi (As := [.int a1]) (rest := []) (q := 26) hX (cnX8_bladesAbove (sp_st hX) atX_23 h7) cwX11_279 atX_23 rfl rfl rfl rfl rfl (Nat.le_of_ble_eq_true rfl) (Nat.le_of_ble_eq_true rfl) (Nat.le_of_ble_eq_true rfl) (Nat.le_of_ble_eq_true rfl) (Nat.le_of_ble_eq_true rfl) dX11_toDraw_23 rfl ?_
    refine sp_iconst (v := 1) (q := 27) hX dX11_toDraw_26 li_1 rfl ?_
    refine sp_iload_n (i := 1) (q := 28) hX dX11_toDraw_27 rfl rfl rfl ?_
    refine sp_ishl (q := 29) hX dX11_toDraw_28 rfl ?_
    refine sp_ior (q := 30) hX dX11_toDraw_29 rfl ?_
    refine sp_goto (tgt := 34) hX dX11_toDraw_30 (by decide) ?_
    refine sp_drop (lv' := [none, none, none]) trivial ?_
    exact hX11_toDraw_34 hX hR hf
set_option maxRecDepth 100000 in
set_option maxHeartbeats 4000000 in
theorem cnX11_toDraw {l : Launch} (hst : l.stackTraces = false) {w : sp_Wd} {n : Nat}  {σ : sp_St} {a1 : Int32} {τ : sp_St} {ρ : Int32 ⊕ Nat}  (hf : X11_toDraw n σ a1 = some (τ, ρ)) : sp_Xi shX l w yX11_toDraw cX11_toDraw 3 (some .int) rmX11_toDraw 1 6 σ [.ref (w.2.1 0), .int a1] τ ρ :=
  sp_xi (own := RX11) (by decide) rfl hst (Nat.le_of_ble_eq_true rfl) rfl (fun X hX hw hl hR => by subst hw; subst hl; exact hX11_toDraw hX hR   hf)
def rmX11_toSwallow : Room := { frames := 7, cells := 1, slots := 6, locals := 160 }
def X11_toSwallow_34 (n : Nat) (σ : sp_St) (zs0 : Int32) : Option (sp_St × (Int32 ⊕ Nat)) :=
  some (σ, Sum.inl zs0)
def X11_toSwallow (n : Nat)  (σ : sp_St) (a1 : Int32) : Option (sp_St × (Int32 ⊕ Nat)) :=
  sp_bx (X11_needWhat n σ a1 ((1 : Int32))) fun σ2 =>
  sp_bv (X4_seekCalmingBlade n σ2) fun σ5 =>
  if a1 = 0 then
    X11_toSwallow_34 n σ5 (σ5.1 57 5)
  else
    X11_toSwallow_34 n σ5 (σ5.1 57 6)
set_option maxRecDepth 100000 in
set_option maxHeartbeats 4000000 in
theorem hX11_toSwallow_34 {X : sp_X} (hX : sp_OK shX X cX11_toSwallow RX11 2 rmX11_toSwallow) {τ : sp_St} {ρ : Int32 ⊕ Nat} (hR : sp_RXi shX X (some .int) τ ρ 1 6) {n : Nat}    {σ : sp_St} {zs0 : Int32} (hf : X11_toSwallow_34 n σ zs0 = some (τ, ρ)) : sp_GG shX X σ 2 [none, none] [.int zs0] 34 1 6 := by
  unfold X11_toSwallow_34 at hf
  exact sp_iretX hX hR dX11_toSwallow_34 hf (Nat.le_of_ble_eq_true rfl) (Nat.le_of_ble_eq_true rfl)
set_option maxRecDepth 100000 in
set_option maxHeartbeats 4000000 in
theorem hX11_toSwallow {X : sp_X} (hX : sp_OK shX X cX11_toSwallow RX11 2 rmX11_toSwallow) {τ : sp_St} {ρ : Int32 ⊕ Nat} (hR : sp_RXi shX X (some .int) τ ρ 1 6) {n : Nat}  {σ : sp_St} {a1 : Int32}  (hf : X11_toSwallow n σ a1 = some (τ, ρ)) : sp_GG shX X σ 2 [some (.ref (sx_ad X 0)), some (.int a1)] [] 0 0 0 := by
  unfold X11_toSwallow at hf
  refine sp_aload_n (i := 0) (q := 1) hX dX11_toSwallow_0 rfl rfl rfl ?_
  refine sp_iload_n (i := 1) (q := 2) hX dX11_toSwallow_1 rfl rfl rfl ?_
  refine sp_iconst (v := 1) (q := 3) hX dX11_toSwallow_2 li_1 rfl ?_
  obtain ⟨σ2, o3, h1, hf⟩ := sp_bx_so hf
  refine sp_callXv (As := [.int a1, .int ((1 : Int32))]) (rest := []) (q := 6) hX (by decide) hR (cnX11_needWhat (sp_st hX) h1) cwX11_245 atX_0 rfl rfl rfl rfl rfl (Nat.le_of_ble_eq_true rfl) (Nat.le_of_ble_eq_true rfl) (Nat.le_of_ble_eq_true rfl) (Nat.le_of_ble_eq_true rfl) (Nat.le_of_ble_eq_true rfl) (Nat.le_of_ble_eq_true rfl) (Nat.le_of_ble_eq_true rfl) dX11_toSwallow_3 rfl hf (fun hf => ?_)
  refine sp_aload_n (i := 0) (q := 7) hX dX11_toSwallow_6 rfl rfl rfl ?_
  refine sp_gets (t := 57) (q := 10) hX flX11_65 fkX11_9 atX_0 srX_0_9 dX11_toSwallow_7 rfl ?_
  obtain ⟨σ5, h4, hf⟩ := sp_bv_so hf
  refine sp_callVv (As := []) (rest := []) (q := 13) hX (cnX4_seekCalmingBlade (sp_st hX)  h4) cwX11_282 atX_57 rfl rfl rfl rfl rfl (Nat.le_of_ble_eq_true rfl) (Nat.le_of_ble_eq_true rfl) (Nat.le_of_ble_eq_true rfl) (Nat.le_of_ble_eq_true rfl) (Nat.le_of_ble_eq_true rfl) dX11_toSwallow_10 rfl ?_
  refine sp_iload_n (i := 1) (q := 14) hX dX11_toSwallow_13 rfl rfl rfl ?_
  refine sp_if_ne (tgt := 27) (q := 17) hX dX11_toSwallow_14 (by decide) rfl (fun hc => ?_) (fun hc => ?_)
  · rw [if_neg hc] at hf
    refine sp_aload_n (i := 0) (q := 28) hX dX11_toSwallow_27 rfl rfl rfl ?_
    refine sp_gets (t := 57) (q := 31) hX flX11_65 fkX11_9 atX_0 srX_0_9 dX11_toSwallow_28 rfl ?_
    refine sp_geti (q := 34) hX flX11_288 fkX4_6 atX_57 dX11_toSwallow_31 rfl ?_
    refine sp_drop (lv' := [none, none]) trivial ?_
    exact hX11_toSwallow_34 hX hR hf
  · rw [if_pos hc] at hf
    refine sp_aload_n (i := 0) (q := 18) hX dX11_toSwallow_17 rfl rfl rfl ?_
    refine sp_gets (t := 57) (q := 21) hX flX11_65 fkX11_9 atX_0 srX_0_9 dX11_toSwallow_18 rfl ?_
    refine sp_geti (q := 24) hX flX11_285 fkX4_5 atX_57 dX11_toSwallow_21 rfl ?_
    refine sp_goto (tgt := 34) hX dX11_toSwallow_24 (by decide) ?_
    refine sp_drop (lv' := [none, none]) trivial ?_
    exact hX11_toSwallow_34 hX hR hf
set_option maxRecDepth 100000 in
set_option maxHeartbeats 4000000 in
theorem cnX11_toSwallow {l : Launch} (hst : l.stackTraces = false) {w : sp_Wd} {n : Nat}  {σ : sp_St} {a1 : Int32} {τ : sp_St} {ρ : Int32 ⊕ Nat}  (hf : X11_toSwallow n σ a1 = some (τ, ρ)) : sp_Xi shX l w yX11_toSwallow cX11_toSwallow 2 (some .int) rmX11_toSwallow 1 6 σ [.ref (w.2.1 0), .int a1] τ ρ :=
  sp_xi (own := RX11) (by decide) rfl hst (Nat.le_of_ble_eq_true rfl) rfl (fun X hX hw hl hR => by subst hw; subst hl; exact hX11_toSwallow hX hR   hf)
def rmX11_grudge : Room := { frames := 7, cells := 1, slots := 6, locals := 121 }
def X11_grudge_54 (n : Nat) (σ : sp_St) (z2 : Int32) : Option (sp_St × (Int32 ⊕ Nat)) :=
  some (σ, Sum.inl z2)
def X11_grudge_48 (n : Nat) (k9 : sp_St → Int32 → Int32 → Int32 → Option (sp_St × (Int32 ⊕ Nat))) (σ : sp_St) (z1 : Int32) (z2 : Int32) (z3 : Int32) : Option (sp_St × (Int32 ⊕ Nat)) :=
  sp_pl (z3 + 1) fun x1 =>
  k9 σ z1 z2 x1
def X11_grudge_9 (n : Nat) : Nat → sp_St → Int32 → Int32 → Int32 → Option (sp_St × (Int32 ⊕ Nat))
  | 0, _, _, _, _ => none
  | f + 1, σ, z1, z2, z3 =>
    sp_pl (σ.2.1 0 3) fun c1 =>
    sp_ck (sp_isc c1) <|
    if (σ.1 c1 13) ≤ z3 then
      X11_grudge_54 n σ z2
    else
      sp_ck (sp_in z3 10) <|
      if (sp_g σ (c1 + 1) z3) = z1 then
        sp_ck (sp_in z3 50) <|
        sp_pl (z2 + (sp_g σ 24 z3)) fun x6 =>
        X11_grudge_48 n (X11_grudge_9 n f) σ z1 x6 z3
      else
        X11_grudge_48 n (X11_grudge_9 n f) σ z1 z2 z3
def X11_grudge (n : Nat)  (σ : sp_St) (a1 : Int32) : Option (sp_St × (Int32 ⊕ Nat)) :=
  sp_bx (X11_needHouse n σ a1) fun σ2 =>
  sp_pl ((0 : Int32)) fun x4 =>
  sp_pl ((0 : Int32)) fun x6 =>
  X11_grudge_9 n n σ2 a1 x4 x6
set_option maxRecDepth 100000 in
set_option maxHeartbeats 4000000 in
theorem hX11_grudge_54 {X : sp_X} (hX : sp_OK shX X cX11_grudge RX11 4 rmX11_grudge) {τ : sp_St} {ρ : Int32 ⊕ Nat} (hR : sp_RXi shX X (some .int) τ ρ 1 6) {n : Nat}    {σ : sp_St} {z2 : Int32} (hf : X11_grudge_54 n σ z2 = some (τ, ρ)) : sp_GG shX X σ 4 [none, none, some (.int z2), none] [] 54 1 6 := by
  unfold X11_grudge_54 at hf
  refine sp_iload_n (i := 2) (q := 55) hX dX11_grudge_54 rfl rfl rfl ?_
  exact sp_iretX hX hR dX11_grudge_55 hf (Nat.le_of_ble_eq_true rfl) (Nat.le_of_ble_eq_true rfl)
set_option maxRecDepth 100000 in
set_option maxHeartbeats 4000000 in
theorem hX11_grudge_48 {X : sp_X} (hX : sp_OK shX X cX11_grudge RX11 4 rmX11_grudge) {τ : sp_St} {ρ : Int32 ⊕ Nat} (hR : sp_RXi shX X (some .int) τ ρ 1 6) {n : Nat}   {k9 : sp_St → Int32 → Int32 → Int32 → Option (sp_St × (Int32 ⊕ Nat))} (hk9 : ∀ (σ : sp_St) (z1 : Int32) (z2 : Int32) (z3 : Int32), k9 σ z1 z2 z3 = some (τ, ρ) → sp_GG shX X σ 4 [some (.ref (sx_ad X 0)), some (.int z1), some (.int z2), some (.int z3)] [] 9 1 6) {σ : sp_St} {z1 : Int32} {z2 : Int32} {z3 : Int32} (hf : X11_grudge_48 n k9 σ z1 z2 z3 = some (τ, ρ)) : sp_GG shX X σ 4 [some (.ref (sx_ad X 0)), some (.int z1), some (.int z2), some (.int z3)] [] 48 1 6 := by
  unfold X11_grudge_48 at hf
  obtain ⟨x1, e2, hf⟩ := sp_pl_some hf
  refine sp_iinc (i := 3) (v := x1) (lv' := [some (.ref (sx_ad X 0)), some (.int z1), some (.int z2), some (.int x1)]) (q := 51) hX dX11_grudge_48 rfl (by rw [e2, li_1]) (Nat.le_of_ble_eq_true rfl) rfl rfl rfl ?_
  refine sp_goto (tgt := 9) hX dX11_grudge_51 (by decide) ?_
  exact hk9 σ z1 z2 x1 hf
set_option maxRecDepth 100000 in
set_option maxHeartbeats 4000000 in
theorem hX11_grudge_9 {X : sp_X} (hX : sp_OK shX X cX11_grudge RX11 4 rmX11_grudge) {τ : sp_St} {ρ : Int32 ⊕ Nat} (hR : sp_RXi shX X (some .int) τ ρ 1 6) {n : Nat}    : ∀ (f : Nat) (σ : sp_St) (z1 : Int32) (z2 : Int32) (z3 : Int32), X11_grudge_9 n f σ z1 z2 z3 = some (τ, ρ) → sp_GG shX X σ 4 [some (.ref (sx_ad X 0)), some (.int z1), some (.int z2), some (.int z3)] [] 9 1 6 := by
  intro f
  induction f with
  | zero =>
    intro σ z1 z2 z3 hf
    rw [X11_grudge_9] at hf
    cases hf
  | succ f ih =>
    intro σ z1 z2 z3 hf
    rw [X11_grudge_9] at hf
    refine sp_iload_n (i := 3) (q := 10) hX dX11_grudge_9 rfl rfl rfl ?_
    refine sp_aload_n (i := 0) (q := 11) hX dX11_grudge_10 rfl rfl rfl ?_
    obtain ⟨c1, e3, hf⟩ := sp_pl_some hf
    obtain ⟨h2, hf⟩ := sp_ck_some hf
    refine sp_getr (q := 14) hX flX11_20 fkX11_3 atX_0 dX11_grudge_11 rfl ?_
    refine sp_nmr e3 ?_
    refine sp_geti (q := 17) hX flX11_135 fkX2_13 (sp_isc_at h2) dX11_grudge_14 rfl ?_
    refine sp_icmp_ge (tgt := 54) (q := 20) hX dX11_grudge_17 (by decide) rfl (fun hc => ?_) (fun hc => ?_)
    · rw [if_pos hc] at hf
      refine sp_drop (lv' := [none, none, some (.int z2), none]) (And.intro rfl trivial) ?_
      exact hX11_grudge_54 hX hR hf
    · rw [if_neg hc] at hf
      refine sp_aload_n (i := 0) (q := 21) hX dX11_grudge_20 rfl rfl rfl ?_
      refine sp_getr (q := 24) hX flX11_20 fkX11_3 atX_0 dX11_grudge_21 rfl ?_
      refine sp_nmr e3 ?_
      refine sp_gets (t := c1 + 1) (q := 27) hX flX11_164 fkX2_0 (sp_isc_at h2) (msX2_0 (sp_isc_at h2)) dX11_grudge_24 rfl ?_
      refine sp_iload_n (i := 3) (q := 28) hX dX11_grudge_27 rfl rfl rfl ?_
      obtain ⟨h4, hf⟩ := sp_ck_some hf
      refine sp_iald (q := 29) hX (mfX2_0 (sp_isc_at h2)) h4 dX11_grudge_28 rfl ?_
      refine sp_iload_n (i := 1) (q := 30) hX dX11_grudge_29 rfl rfl rfl ?_
      refine sp_icmp_ne (tgt := 48) (q := 33) hX dX11_grudge_30 (by decide) rfl (fun hc => ?_) (fun hc => ?_)
      · rw [if_neg hc] at hf
        exact hX11_grudge_48 hX hR ih hf
      · rw [if_pos hc] at hf
        refine sp_iload_n (i := 2) (q := 34) hX dX11_grudge_33 rfl rfl rfl ?_
        refine sp_aload_n (i := 0) (q := 35) hX dX11_grudge_34 rfl rfl rfl ?_
        refine sp_gets (t := 22) (q := 38) hX flX11_46 fkX11_6 atX_0 srX_0_6 dX11_grudge_35 rfl ?_
        refine sp_gets (t := 23) (q := 41) hX flX11_58 fkX1_0 atX_22 srX_22_0 dX11_grudge_38 rfl ?_
        refine sp_gets (t := 24) (q := 44) hX flX11_93 fkX8_1 atX_23 srX_23_1 dX11_grudge_41 rfl ?_
        refine sp_iload_n (i := 3) (q := 45) hX dX11_grudge_44 rfl rfl rfl ?_
        obtain ⟨h5, hf⟩ := sp_ck_some hf
        refine sp_iald (q := 46) hX arX_24 h5 dX11_grudge_45 rfl ?_
        refine sp_iadd (q := 47) hX dX11_grudge_46 rfl ?_
        obtain ⟨x6, e7, hf⟩ := sp_pl_some hf
        refine sp_nmi e7 ?_
        refine sp_istore_n (i := 2) (lv' := [some (.ref (sx_ad X 0)), some (.int z1), some (.int x6), some (.int z3)]) (q := 48) hX dX11_grudge_47 rfl (Nat.le_of_ble_eq_true rfl) rfl rfl rfl ?_
        exact hX11_grudge_48 hX hR ih hf
set_option maxRecDepth 100000 in
set_option maxHeartbeats 4000000 in
theorem hX11_grudge {X : sp_X} (hX : sp_OK shX X cX11_grudge RX11 4 rmX11_grudge) {τ : sp_St} {ρ : Int32 ⊕ Nat} (hR : sp_RXi shX X (some .int) τ ρ 1 6) {n : Nat}  {σ : sp_St} {a1 : Int32}  (hf : X11_grudge n σ a1 = some (τ, ρ)) : sp_GG shX X σ 4 [some (.ref (sx_ad X 0)), some (.int a1), none, none] [] 0 0 0 := by
  unfold X11_grudge at hf
  refine sp_aload_n (i := 0) (q := 1) hX dX11_grudge_0 rfl rfl rfl ?_
  refine sp_iload_n (i := 1) (q := 2) hX dX11_grudge_1 rfl rfl rfl ?_
  obtain ⟨σ2, o3, h1, hf⟩ := sp_bx_so hf
  refine sp_callXv (As := [.int a1]) (rest := []) (q := 5) hX (by decide) hR (cnX11_needHouse (sp_st hX) h1) cwX11_203 atX_0 rfl rfl rfl rfl rfl (Nat.le_of_ble_eq_true rfl) (Nat.le_of_ble_eq_true rfl) (Nat.le_of_ble_eq_true rfl) (Nat.le_of_ble_eq_true rfl) (Nat.le_of_ble_eq_true rfl) (Nat.le_of_ble_eq_true rfl) (Nat.le_of_ble_eq_true rfl) dX11_grudge_2 rfl hf (fun hf => ?_)
  refine sp_iconst (v := 0) (q := 6) hX dX11_grudge_5 li_0 rfl ?_
  obtain ⟨x4, e5, hf⟩ := sp_pl_some hf
  refine sp_nmi e5 ?_
  refine sp_istore_n (i := 2) (lv' := [some (.ref (sx_ad X 0)), some (.int a1), some (.int x4), none]) (q := 7) hX dX11_grudge_6 rfl (Nat.le_of_ble_eq_true rfl) rfl rfl rfl ?_
  refine sp_iconst (v := 0) (q := 8) hX dX11_grudge_7 li_0 rfl ?_
  obtain ⟨x6, e7, hf⟩ := sp_pl_some hf
  refine sp_nmi e7 ?_
  refine sp_istore_n (i := 3) (lv' := [some (.ref (sx_ad X 0)), some (.int a1), some (.int x4), some (.int x6)]) (q := 9) hX dX11_grudge_8 rfl (Nat.le_of_ble_eq_true rfl) rfl rfl rfl ?_
  exact hX11_grudge_9 hX hR n σ2 a1 x4 x6 hf
set_option maxRecDepth 100000 in
set_option maxHeartbeats 4000000 in
theorem cnX11_grudge {l : Launch} (hst : l.stackTraces = false) {w : sp_Wd} {n : Nat}  {σ : sp_St} {a1 : Int32} {τ : sp_St} {ρ : Int32 ⊕ Nat}  (hf : X11_grudge n σ a1 = some (τ, ρ)) : sp_Xi shX l w yX11_grudge cX11_grudge 4 (some .int) rmX11_grudge 1 6 σ [.ref (w.2.1 0), .int a1] τ ρ :=
  sp_xi (own := RX11) (by decide) rfl hst (Nat.le_of_ble_eq_true rfl) rfl (fun X hX hw hl hR => by subst hw; subst hl; exact hX11_grudge hX hR   hf)
def rmX11_foes : Room := { frames := 7, cells := 2, slots := 12, locals := 121 }
def X11_foes (n : Nat)  (σ : sp_St) (a1 : Int32) (a2 : Int32) : Option (sp_St × (Int32 ⊕ Nat)) :=
  sp_bx (X11_needHouse n σ a1) fun σ2 =>
  sp_bx (X11_needHouse n σ2 a2) fun σ5 =>
  sp_ck (sp_in (((35 : Int32)) + a1) 50) <|
  sp_ck (sp_in (((35 : Int32)) + a2) 50) <|
  some (σ5, Sum.inl ((sp_g σ5 24 (((35 : Int32)) + a1)) &&& (sp_g σ5 24 (((35 : Int32)) + a2))))
set_option maxRecDepth 100000 in
set_option maxHeartbeats 4000000 in
theorem hX11_foes {X : sp_X} (hX : sp_OK shX X cX11_foes RX11 3 rmX11_foes) {τ : sp_St} {ρ : Int32 ⊕ Nat} (hR : sp_RXi shX X (some .int) τ ρ 2 12) {n : Nat}  {σ : sp_St} {a1 : Int32} {a2 : Int32}  (hf : X11_foes n σ a1 a2 = some (τ, ρ)) : sp_GG shX X σ 3 [some (.ref (sx_ad X 0)), some (.int a1), some (.int a2)] [] 0 0 0 := by
  unfold X11_foes at hf
  refine sp_aload_n (i := 0) (q := 1) hX dX11_foes_0 rfl rfl rfl ?_
  refine sp_iload_n (i := 1) (q := 2) hX dX11_foes_1 rfl rfl rfl ?_
  obtain ⟨σ2, o3, h1, hf⟩ := sp_bx_so hf
  refine sp_callXv (As := [.int a1]) (rest := []) (q := 5) hX (by decide) hR (cnX11_needHouse (sp_st hX) h1) cwX11_203 atX_0 rfl rfl rfl rfl rfl (Nat.le_of_ble_eq_true rfl) (Nat.le_of_ble_eq_true rfl) (Nat.le_of_ble_eq_true rfl) (Nat.le_of_ble_eq_true rfl) (Nat.le_of_ble_eq_true rfl) (Nat.le_of_ble_eq_true rfl) (Nat.le_of_ble_eq_true rfl) dX11_foes_2 rfl hf (fun hf => ?_)
  refine sp_aload_n (i := 0) (q := 6) hX dX11_foes_5 rfl rfl rfl ?_
  refine sp_iload_n (i := 2) (q := 7) hX dX11_foes_6 rfl rfl rfl ?_
  obtain ⟨σ5, o6, h4, hf⟩ := sp_bx_so hf
  refine sp_callXv (As := [.int a2]) (rest := []) (q := 10) hX (by decide) hR (cnX11_needHouse (sp_st hX) h4) cwX11_203 atX_0 rfl rfl rfl rfl rfl (Nat.le_of_ble_eq_true rfl) (Nat.le_of_ble_eq_true rfl) (Nat.le_of_ble_eq_true rfl) (Nat.le_of_ble_eq_true rfl) (Nat.le_of_ble_eq_true rfl) (Nat.le_of_ble_eq_true rfl) (Nat.le_of_ble_eq_true rfl) dX11_foes_7 rfl hf (fun hf => ?_)
  refine sp_aload_n (i := 0) (q := 11) hX dX11_foes_10 rfl rfl rfl ?_
  refine sp_gets (t := 22) (q := 14) hX flX11_46 fkX11_6 atX_0 srX_0_6 dX11_foes_11 rfl ?_
  refine sp_gets (t := 23) (q := 17) hX flX11_58 fkX1_0 atX_22 srX_22_0 dX11_foes_14 rfl ?_
  refine sp_gets (t := 24) (q := 20) hX flX11_93 fkX8_1 atX_23 srX_23_1 dX11_foes_17 rfl ?_
  refine sp_bipush (v := 35) (q := 22) hX dX11_foes_20 lb_35 rfl ?_
  refine sp_iload_n (i := 1) (q := 23) hX dX11_foes_22 rfl rfl rfl ?_
  refine sp_iadd (q := 24) hX dX11_foes_23 rfl ?_
  obtain ⟨h7, hf⟩ := sp_ck_some hf
  refine sp_iald (q := 25) hX arX_24 h7 dX11_foes_24 rfl ?_
  refine sp_aload_n (i := 0) (q := 26) hX dX11_foes_25 rfl rfl rfl ?_
  refine sp_gets (t := 22) (q := 29) hX flX11_46 fkX11_6 atX_0 srX_0_6 dX11_foes_26 rfl ?_
  refine sp_gets (t := 23) (q := 32) hX flX11_58 fkX1_0 atX_22 srX_22_0 dX11_foes_29 rfl ?_
  refine sp_gets (t := 24) (q := 35) hX flX11_93 fkX8_1 atX_23 srX_23_1 dX11_foes_32 rfl ?_
  refine sp_bipush (v := 35) (q := 37) hX dX11_foes_35 lb_35 rfl ?_
  refine sp_iload_n (i := 2) (q := 38) hX dX11_foes_37 rfl rfl rfl ?_
  refine sp_iadd (q := 39) hX dX11_foes_38 rfl ?_
  obtain ⟨h8, hf⟩ := sp_ck_some hf
  refine sp_iald (q := 40) hX arX_24 h8 dX11_foes_39 rfl ?_
  refine sp_iand (q := 41) hX dX11_foes_40 rfl ?_
  exact sp_iretX hX hR dX11_foes_41 hf (Nat.le_of_ble_eq_true rfl) (Nat.le_of_ble_eq_true rfl)
set_option maxRecDepth 100000 in
set_option maxHeartbeats 4000000 in
theorem cnX11_foes {l : Launch} (hst : l.stackTraces = false) {w : sp_Wd} {n : Nat}  {σ : sp_St} {a1 : Int32} {a2 : Int32} {τ : sp_St} {ρ : Int32 ⊕ Nat}  (hf : X11_foes n σ a1 a2 = some (τ, ρ)) : sp_Xi shX l w yX11_foes cX11_foes 3 (some .int) rmX11_foes 2 12 σ [.ref (w.2.1 0), .int a1, .int a2] τ ρ :=
  sp_xi (own := RX11) (by decide) rfl hst (Nat.le_of_ble_eq_true rfl) rfl (fun X hX hw hl hR => by subst hw; subst hl; exact hX11_foes hX hR   hf)
def rmX11_calm : Room := { frames := 7, cells := 1, slots := 6, locals := 144 }
def X11_calm (n : Nat)  (σ : sp_St) (a1 : Int32) : Option (sp_St × (Int32 ⊕ Nat)) :=
  sp_bx (X11_needAhead n σ a1) fun σ2 =>
  sp_bd (X4_after n σ2 a1) fun σ5 r6 =>
  sp_ck (decide (r6 = 50)) <|
  sp_bd (X8_bladesAtRest n σ5 50) fun σ10 v11 =>
  some (σ10, Sum.inl v11)
set_option maxRecDepth 100000 in
set_option maxHeartbeats 4000000 in
theorem hX11_calm {X : sp_X} (hX : sp_OK shX X cX11_calm RX11 2 rmX11_calm) {τ : sp_St} {ρ : Int32 ⊕ Nat} (hR : sp_RXi shX X (some .int) τ ρ 1 6) {n : Nat}  {σ : sp_St} {a1 : Int32}  (hf : X11_calm n σ a1 = some (τ, ρ)) : sp_GG shX X σ 2 [some (.ref (sx_ad X 0)), some (.int a1)] [] 0 0 0 := by
  unfold X11_calm at hf
  refine sp_aload_n (i := 0) (q := 1) hX dX11_calm_0 rfl rfl rfl ?_
  refine sp_iload_n (i := 1) (q := 2) hX dX11_calm_1 rfl rfl rfl ?_
  obtain ⟨σ2, o3, h1, hf⟩ := sp_bx_so hf
  refine sp_callXv (As := [.int a1]) (rest := []) (q := 5) hX (by decide) hR (cnX11_needAhead (sp_st hX) h1) cwX11_248 atX_0 rfl rfl rfl rfl rfl (Nat.le_of_ble_eq_true rfl) (Nat.le_of_ble_eq_true rfl) (Nat.le_of_ble_eq_true rfl) (Nat.le_of_ble_eq_true rfl) (Nat.le_of_ble_eq_true rfl) (Nat.le_of_ble_eq_true rfl) (Nat.le_of_ble_eq_true rfl) dX11_calm_2 rfl hf (fun hf => ?_)
  refine sp_aload_n (i := 0) (q := 6) hX dX11_calm_5 rfl rfl rfl ?_
  refine sp_gets (t := 57) (q := 9) hX flX11_65 fkX11_9 atX_0 srX_0_9 dX11_calm_6 rfl ?_
  refine sp_iload_n (i := 1) (q := 10) hX dX11_calm_9 rfl rfl rfl ?_
  obtain ⟨σ5, r6, h4, hf⟩ := sp_bd_so hf
  refine sp_callVr (As := [.int a1]) (rest := []) (q := 13) hX (cnX4_after (sp_st hX)  h4) cwX11_251 atX_57 rfl rfl rfl rfl rfl (Nat.le_of_ble_eq_true rfl) (Nat.le_of_ble_eq_true rfl) (Nat.le_of_ble_eq_true rfl) (Nat.le_of_ble_eq_true rfl) (Nat.le_of_ble_eq_true rfl) dX11_calm_10 rfl ?_
  obtain ⟨h7, hf⟩ := sp_ck_some hf
  refine sp_nmr (of_decide_eq_true h7).symm ?_
  obtain ⟨σ10, v11, h9, hf⟩ := sp_bd_so hf
  refine sp_callVi (As := []) (rest := []) (q := 16) hX (cnX8_bladesAtRest (sp_st hX) atX_50 h9) cwX11_147 atX_50 rfl rfl rfl rfl rfl (Nat.le_of_ble_eq_true rfl) (Nat.le_of_ble_eq_true rfl) (Nat.le_of_ble_eq_true rfl) (Nat.le_of_ble_eq_true rfl) (Nat.le_of_ble_eq_true rfl) dX11_calm_13 rfl ?_
  exact sp_iretX hX hR dX11_calm_16 hf (Nat.le_of_ble_eq_true rfl) (Nat.le_of_ble_eq_true rfl)
set_option maxRecDepth 100000 in
set_option maxHeartbeats 4000000 in
theorem cnX11_calm {l : Launch} (hst : l.stackTraces = false) {w : sp_Wd} {n : Nat}  {σ : sp_St} {a1 : Int32} {τ : sp_St} {ρ : Int32 ⊕ Nat}  (hf : X11_calm n σ a1 = some (τ, ρ)) : sp_Xi shX l w yX11_calm cX11_calm 2 (some .int) rmX11_calm 1 6 σ [.ref (w.2.1 0), .int a1] τ ρ :=
  sp_xi (own := RX11) (by decide) rfl hst (Nat.le_of_ble_eq_true rfl) rfl (fun X hX hw hl hR => by subst hw; subst hl; exact hX11_calm hX hR   hf)
def rmX11_lacks : Room := { frames := 7, cells := 1, slots := 6, locals := 121 }
def X11_lacks_67 (n : Nat) (σ : sp_St) (z1 : Int32) (z3 : Int32) : Option (sp_St × (Int32 ⊕ Nat)) :=
  sp_pl (σ.2.1 0 3) fun c1 =>
  sp_ck (sp_isc c1) <|
  sp_ck (sp_in z1 10) <|
  sp_pl (sp_max ((0 : Int32)) ((sp_g σ (c1 + 2) z1) - z3)) fun v5 =>
  some (σ, Sum.inl v5)
def X11_lacks_38 (n : Nat) : Nat → sp_St → Int32 → Int32 → Int32 → Option (sp_St × (Int32 ⊕ Nat))
  | 0, _, _, _, _ => none
  | f + 1, σ, z1, z3, z4 =>
    sp_pl (σ.2.1 0 3) fun c1 =>
    sp_ck (sp_isc c1) <|
    if (σ.1 c1 14) ≤ z4 then
      X11_lacks_67 n σ z1 z3
    else
      sp_bd (X8_left n σ 23 z4) fun σ5 v6 =>
      sp_pl (sp_max z3 v6) fun v7 =>
      sp_pl (z4 + 1) fun x9 =>
      X11_lacks_38 n f σ5 z1 v7 x9
def X11_lacks_31 (n : Nat) (σ : sp_St) : Option (sp_St × (Int32 ⊕ Nat)) :=
  some (σ, Sum.inl ((-1 : Int32)))
def X11_lacks (n : Nat)  (σ : sp_St) (a1 : Int32) : Option (sp_St × (Int32 ⊕ Nat)) :=
  sp_bx (X11_needBlade n σ a1) fun σ2 =>
  sp_bd (X8_isOut n σ2 23 a1) fun σ5 v6 =>
  if v6 = 0 then
    X11_lacks_31 n σ5
  else
    sp_pl (σ5.2.1 0 3) fun c7 =>
    sp_ck (sp_isc c7) <|
    if (σ5.1 c7 14) = 0 then
      X11_lacks_31 n σ5
    else
      sp_pl ((0 : Int32)) fun x10 =>
      sp_pl ((0 : Int32)) fun x12 =>
      X11_lacks_38 n n σ5 a1 x10 x12
set_option maxRecDepth 100000 in
set_option maxHeartbeats 4000000 in
theorem hX11_lacks_67 {X : sp_X} (hX : sp_OK shX X cX11_lacks RX11 5 rmX11_lacks) {τ : sp_St} {ρ : Int32 ⊕ Nat} (hR : sp_RXi shX X (some .int) τ ρ 1 6) {n : Nat}    {σ : sp_St} {z1 : Int32} {z3 : Int32} (hf : X11_lacks_67 n σ z1 z3 = some (τ, ρ)) : sp_GG shX X σ 5 [some (.ref (sx_ad X 0)), some (.int z1), none, some (.int z3), none] [] 67 1 6 := by
  unfold X11_lacks_67 at hf
  refine sp_iconst (v := 0) (q := 68) hX dX11_lacks_67 li_0 rfl ?_
  refine sp_aload_n (i := 0) (q := 69) hX dX11_lacks_68 rfl rfl rfl ?_
  obtain ⟨c1, e3, hf⟩ := sp_pl_some hf
  obtain ⟨h2, hf⟩ := sp_ck_some hf
  refine sp_getr (q := 72) hX flX11_20 fkX11_3 atX_0 dX11_lacks_69 rfl ?_
  refine sp_nmr e3 ?_
  refine sp_gets (t := c1 + 2) (q := 75) hX flX11_167 fkX2_1 (sp_isc_at h2) (msX2_1 (sp_isc_at h2)) dX11_lacks_72 rfl ?_
  refine sp_iload_n (i := 1) (q := 76) hX dX11_lacks_75 rfl rfl rfl ?_
  obtain ⟨h4, hf⟩ := sp_ck_some hf
  refine sp_iald (q := 77) hX (mfX2_1 (sp_isc_at h2)) h4 dX11_lacks_76 rfl ?_
  refine sp_iload_n (i := 3) (q := 78) hX dX11_lacks_77 rfl rfl rfl ?_
  refine sp_isub (q := 79) hX dX11_lacks_78 rfl ?_
  obtain ⟨v5, e6, hf⟩ := sp_pl_some hf
  refine sp_mmax (q := 82) hX wd_1452 wd_656 wd_144 wd_657 (Nat.le_of_ble_eq_true rfl) (Nat.le_of_ble_eq_true rfl) (Nat.le_of_ble_eq_true rfl) (Nat.le_of_ble_eq_true rfl) dX11_lacks_79 rfl ?_
  refine sp_nmi e6 ?_
  exact sp_iretX hX hR dX11_lacks_82 hf (Nat.le_of_ble_eq_true rfl) (Nat.le_of_ble_eq_true rfl)
set_option maxRecDepth 100000 in
set_option maxHeartbeats 4000000 in
theorem hX11_lacks_38 {X : sp_X} (hX : sp_OK shX X cX11_lacks RX11 5 rmX11_lacks) {τ : sp_St} {ρ : Int32 ⊕ Nat} (hR : sp_RXi shX X (some .int) τ ρ 1 6) {n : Nat}    : ∀ (f : Nat) (σ : sp_St) (z1 : Int32) (z3 : Int32) (z4 : Int32), X11_lacks_38 n f σ z1 z3 z4 = some (τ, ρ) → sp_GG shX X σ 5 [some (.ref (sx_ad X 0)), some (.int z1), some (.ref (sx_ad X 23)), some (.int z3), some (.int z4)] [] 38 1 6 := by
  intro f
  induction f with
  | zero =>
    intro σ z1 z3 z4 hf
    rw [X11_lacks_38] at hf
    cases hf
  | succ f ih =>
    intro σ z1 z3 z4 hf
    rw [X11_lacks_38] at hf
    refine sp_iload (i := 4) (q := 40) hX dX11_lacks_38 rfl rfl ?_
    refine sp_aload_n (i := 0) (q := 41) hX dX11_lacks_40 rfl rfl rfl ?_
    obtain ⟨c1, e3, hf⟩ := sp_pl_some hf
    obtain ⟨h2, hf⟩ := sp_ck_some hf
    refine sp_getr (q := 44) hX flX11_20 fkX11_3 atX_0 dX11_lacks_41 rfl ?_
    refine sp_nmr e3 ?_
    refine sp_geti (q := 47) hX flX11_132 fkX2_14 (sp_isc_at h2) dX11_lacks_44 rfl ?_
    refine sp_icmp_ge (tgt := 67) (q := 50) hX dX11_lacks_47 (by decide) rfl (fun hc => ?_) (fun hc => ?_)
    · rw [if_pos hc] at hf
      refine sp_drop (lv' := [some (.ref (sx_ad X 0)), some (.int z1), none, some (.int z3), none]) (And.intro rfl (And.intro rfl (And.intro rfl trivial))) ?_
      exact hX11_lacks_67 hX hR hf
    · rw [if_neg hc] at hf
      refine sp_iload_n (i := 3) (q := 51) hX dX11_lacks_50 rfl rfl rfl ?_
      refine sp_aload_n (i := 2) (q := 52) hX dX11_lacks_51 rfl rfl rfl ?_
      refine sp_iload (i := 4) (q := 54) hX dX11_lacks_52 rfl rfl ?_
      obtain ⟨σ5, v6, h4, hf⟩ := sp_bd_so hf
      refine sp_callVi (As := [.int z4]) (rest := [.int z3]) (q := 57) hX (cnX8_left (sp_st hX) atX_23 h4) cwX11_189 atX_23 rfl rfl rfl rfl rfl (Nat.le_of_ble_eq_true rfl) (Nat.le_of_ble_eq_true rfl) (Nat.le_of_ble_eq_true rfl) (Nat.le_of_ble_eq_true rfl) (Nat.le_of_ble_eq_true rfl) dX11_lacks_54 rfl ?_
      obtain ⟨v7, e8, hf⟩ := sp_pl_some hf
      refine sp_mmax (q := 60) hX wd_1452 wd_656 wd_144 wd_657 (Nat.le_of_ble_eq_true rfl) (Nat.le_of_ble_eq_true rfl) (Nat.le_of_ble_eq_true rfl) (Nat.le_of_ble_eq_true rfl) dX11_lacks_57 rfl ?_
      refine sp_nmi e8 ?_
      refine sp_istore_n (i := 3) (lv' := [some (.ref (sx_ad X 0)), some (.int z1), some (.ref (sx_ad X 23)), some (.int v7), some (.int z4)]) (q := 61) hX dX11_lacks_60 rfl (Nat.le_of_ble_eq_true rfl) rfl rfl rfl ?_
      obtain ⟨x9, e10, hf⟩ := sp_pl_some hf
      refine sp_iinc (i := 4) (v := x9) (lv' := [some (.ref (sx_ad X 0)), some (.int z1), some (.ref (sx_ad X 23)), some (.int v7), some (.int x9)]) (q := 64) hX dX11_lacks_61 rfl (by rw [e10, li_1]) (Nat.le_of_ble_eq_true rfl) rfl rfl rfl ?_
      refine sp_goto (tgt := 38) hX dX11_lacks_64 (by decide) ?_
      exact ih σ5 z1 v7 x9 hf
set_option maxRecDepth 100000 in
set_option maxHeartbeats 4000000 in
theorem hX11_lacks_31 {X : sp_X} (hX : sp_OK shX X cX11_lacks RX11 5 rmX11_lacks) {τ : sp_St} {ρ : Int32 ⊕ Nat} (hR : sp_RXi shX X (some .int) τ ρ 1 6) {n : Nat}    {σ : sp_St} (hf : X11_lacks_31 n σ = some (τ, ρ)) : sp_GG shX X σ 5 [none, none, none, none, none] [] 31 1 6 := by
  unfold X11_lacks_31 at hf
  refine sp_iconst (v := -1) (q := 32) hX dX11_lacks_31 li_m1 rfl ?_
  exact sp_iretX hX hR dX11_lacks_32 hf (Nat.le_of_ble_eq_true rfl) (Nat.le_of_ble_eq_true rfl)
set_option maxRecDepth 100000 in
set_option maxHeartbeats 4000000 in
theorem hX11_lacks {X : sp_X} (hX : sp_OK shX X cX11_lacks RX11 5 rmX11_lacks) {τ : sp_St} {ρ : Int32 ⊕ Nat} (hR : sp_RXi shX X (some .int) τ ρ 1 6) {n : Nat}  {σ : sp_St} {a1 : Int32}  (hf : X11_lacks n σ a1 = some (τ, ρ)) : sp_GG shX X σ 5 [some (.ref (sx_ad X 0)), some (.int a1), none, none, none] [] 0 0 0 := by
  unfold X11_lacks at hf
  refine sp_aload_n (i := 0) (q := 1) hX dX11_lacks_0 rfl rfl rfl ?_
  refine sp_iload_n (i := 1) (q := 2) hX dX11_lacks_1 rfl rfl rfl ?_
  obtain ⟨σ2, o3, h1, hf⟩ := sp_bx_so hf
  refine sp_callXv (As := [.int a1]) (rest := []) (q := 5) hX (by decide) hR (cnX11_needBlade (sp_st hX) h1) cwX11_161 atX_0 rfl rfl rfl rfl rfl (Nat.le_of_ble_eq_true rfl) (Nat.le_of_ble_eq_true rfl) (Nat.le_of_ble_eq_true rfl) (Nat.le_of_ble_eq_true rfl) (Nat.le_of_ble_eq_true rfl) (Nat.le_of_ble_eq_true rfl) (Nat.le_of_ble_eq_true rfl) dX11_lacks_2 rfl hf (fun hf => ?_)
  refine sp_aload_n (i := 0) (q := 6) hX dX11_lacks_5 rfl rfl rfl ?_
  refine sp_gets (t := 22) (q := 9) hX flX11_46 fkX11_6 atX_0 srX_0_6 dX11_lacks_6 rfl ?_
  refine sp_gets (t := 23) (q := 12) hX flX11_58 fkX1_0 atX_22 srX_22_0 dX11_lacks_9 rfl ?_
  refine sp_astore_n (i := 2) (lv' := [some (.ref (sx_ad X 0)), some (.int a1), some (.ref (sx_ad X 23)), none, none]) (q := 13) hX dX11_lacks_12 rfl (Nat.le_of_ble_eq_true rfl) rfl rfl rfl ?_
  refine sp_aload_n (i := 2) (q := 14) hX dX11_lacks_13 rfl rfl rfl ?_
  refine sp_iload_n (i := 1) (q := 15) hX dX11_lacks_14 rfl rfl rfl ?_
  obtain ⟨σ5, v6, h4, hf⟩ := sp_bd_so hf
  refine sp_callVi (As := [.int a1]) (rest := []) (q := 18) hX (cnX8_isOut (sp_st hX) atX_23 h4) cwX11_219 atX_23 rfl rfl rfl rfl rfl (Nat.le_of_ble_eq_true rfl) (Nat.le_of_ble_eq_true rfl) (Nat.le_of_ble_eq_true rfl) (Nat.le_of_ble_eq_true rfl) (Nat.le_of_ble_eq_true rfl) dX11_lacks_15 rfl ?_
  refine sp_if_eq (tgt := 31) (q := 21) hX dX11_lacks_18 (by decide) rfl (fun hc => ?_) (fun hc => ?_)
  · rw [if_pos hc] at hf
    refine sp_drop (lv' := [none, none, none, none, none]) trivial ?_
    exact hX11_lacks_31 hX hR hf
  · rw [if_neg hc] at hf
    refine sp_aload_n (i := 0) (q := 22) hX dX11_lacks_21 rfl rfl rfl ?_
    obtain ⟨c7, e9, hf⟩ := sp_pl_some hf
    obtain ⟨h8, hf⟩ := sp_ck_some hf
    refine sp_getr (q := 25) hX flX11_20 fkX11_3 atX_0 dX11_lacks_22 rfl ?_
    refine sp_nmr e9 ?_
    refine sp_geti (q := 28) hX flX11_132 fkX2_14 (sp_isc_at h8) dX11_lacks_25 rfl ?_
    refine sp_if_ne (tgt := 33) (q := 31) hX dX11_lacks_28 (by decide) rfl (fun hc => ?_) (fun hc => ?_)
    · rw [if_neg hc] at hf
      refine sp_iconst (v := 0) (q := 34) hX dX11_lacks_33 li_0 rfl ?_
      obtain ⟨x10, e11, hf⟩ := sp_pl_some hf
      refine sp_nmi e11 ?_
      refine sp_istore_n (i := 3) (lv' := [some (.ref (sx_ad X 0)), some (.int a1), some (.ref (sx_ad X 23)), some (.int x10), none]) (q := 35) hX dX11_lacks_34 rfl (Nat.le_of_ble_eq_true rfl) rfl rfl rfl ?_
      refine sp_iconst (v := 0) (q := 36) hX dX11_lacks_35 li_0 rfl ?_
      obtain ⟨x12, e13, hf⟩ := sp_pl_some hf
      refine sp_nmi e13 ?_
      refine sp_istore (i := 4) (lv' := [some (.ref (sx_ad X 0)), some (.int a1), some (.ref (sx_ad X 23)), some (.int x10), some (.int x12)]) (q := 38) hX dX11_lacks_36 (Nat.le_of_ble_eq_true rfl) rfl rfl rfl ?_
      exact hX11_lacks_38 hX hR n σ5 a1 x10 x12 hf
    · rw [if_pos hc] at hf
      refine sp_drop (lv' := [none, none, none, none, none]) trivial ?_
      exact hX11_lacks_31 hX hR hf
set_option maxRecDepth 100000 in
set_option maxHeartbeats 4000000 in
theorem cnX11_lacks {l : Launch} (hst : l.stackTraces = false) {w : sp_Wd} {n : Nat}  {σ : sp_St} {a1 : Int32} {τ : sp_St} {ρ : Int32 ⊕ Nat}  (hf : X11_lacks n σ a1 = some (τ, ρ)) : sp_Xi shX l w yX11_lacks cX11_lacks 5 (some .int) rmX11_lacks 1 6 σ [.ref (w.2.1 0), .int a1] τ ρ :=
  sp_xi (own := RX11) (by decide) rfl hst (Nat.le_of_ble_eq_true rfl) rfl (fun X hX hw hl hR => by subst hw; subst hl; exact hX11_lacks hX hR   hf)
def rmX11_above : Room := { frames := 7, cells := 1, slots := 6, locals := 121 }
def X11_above_33 (n : Nat) (σ : sp_St) (zs0 : Int32) : Option (sp_St × (Int32 ⊕ Nat)) :=
  some (σ, Sum.inl zs0)
def X11_above (n : Nat)  (σ : sp_St) (a1 : Int32) : Option (sp_St × (Int32 ⊕ Nat)) :=
  sp_bx (X11_needBlade n σ a1) fun σ2 =>
  sp_bd (X8_isIn n σ2 23 a1) fun σ5 v6 =>
  if v6 = 0 then
    X11_above_33 n σ5 ((-1 : Int32))
  else
    sp_bd (X8_bladesAbove n σ5 23 a1) fun σ8 v9 =>
    sp_bd (J6_bitCount_0f7a4 n σ8 v9) fun σ11 v12 =>
    X11_above_33 n σ11 v12
set_option maxRecDepth 100000 in
set_option maxHeartbeats 4000000 in
theorem hX11_above_33 {X : sp_X} (hX : sp_OK shX X cX11_above RX11 3 rmX11_above) {τ : sp_St} {ρ : Int32 ⊕ Nat} (hR : sp_RXi shX X (some .int) τ ρ 1 6) {n : Nat}    {σ : sp_St} {zs0 : Int32} (hf : X11_above_33 n σ zs0 = some (τ, ρ)) : sp_GG shX X σ 3 [none, none, none] [.int zs0] 33 1 6 := by
  unfold X11_above_33 at hf
  exact sp_iretX hX hR dX11_above_33 hf (Nat.le_of_ble_eq_true rfl) (Nat.le_of_ble_eq_true rfl)
set_option maxRecDepth 100000 in
set_option maxHeartbeats 4000000 in
theorem hX11_above {X : sp_X} (hX : sp_OK shX X cX11_above RX11 3 rmX11_above) {τ : sp_St} {ρ : Int32 ⊕ Nat} (hR : sp_RXi shX X (some .int) τ ρ 1 6) {n : Nat}  {σ : sp_St} {a1 : Int32}  (hf : X11_above n σ a1 = some (τ, ρ)) : sp_GG shX X σ 3 [some (.ref (sx_ad X 0)), some (.int a1), none] [] 0 0 0 := by
  unfold X11_above at hf
  refine sp_aload_n (i := 0) (q := 1) hX dX11_above_0 rfl rfl rfl ?_
  refine sp_iload_n (i := 1) (q := 2) hX dX11_above_1 rfl rfl rfl ?_
  obtain ⟨σ2, o3, h1, hf⟩ := sp_bx_so hf
  refine sp_callXv (As := [.int a1]) (rest := []) (q := 5) hX (by decide) hR (cnX11_needBlade (sp_st hX) h1) cwX11_161 atX_0 rfl rfl rfl rfl rfl (Nat.le_of_ble_eq_true rfl) (Nat.le_of_ble_eq_true rfl) (Nat.le_of_ble_eq_true rfl) (Nat.le_of_ble_eq_true rfl) (Nat.le_of_ble_eq_true rfl) (Nat.le_of_ble_eq_true rfl) (Nat.le_of_ble_eq_true rfl) dX11_above_2 rfl hf (fun hf => ?_)
  refine sp_aload_n (i := 0) (q := 6) hX dX11_above_5 rfl rfl rfl ?_
  refine sp_gets (t := 22) (q := 9) hX flX11_46 fkX11_6 atX_0 srX_0_6 dX11_above_6 rfl ?_
  refine sp_gets (t := 23) (q := 12) hX flX11_58 fkX1_0 atX_22 srX_22_0 dX11_above_9 rfl ?_
  refine sp_astore_n (i := 2) (lv' := [some (.ref (sx_ad X 0)), some (.int a1), some (.ref (sx_ad X 23))]) (q := 13) hX dX11_above_12 rfl (Nat.le_of_ble_eq_true rfl) rfl rfl rfl ?_
  refine sp_aload_n (i := 2) (q := 14) hX dX11_above_13 rfl rfl rfl ?_
  refine sp_iload_n (i := 1) (q := 15) hX dX11_above_14 rfl rfl rfl ?_
  obtain ⟨σ5, v6, h4, hf⟩ := sp_bd_so hf
  refine sp_callVi (As := [.int a1]) (rest := []) (q := 18) hX (cnX8_isIn (sp_st hX) atX_23 h4) cwX11_276 atX_23 rfl rfl rfl rfl rfl (Nat.le_of_ble_eq_true rfl) (Nat.le_of_ble_eq_true rfl) (Nat.le_of_ble_eq_true rfl) (Nat.le_of_ble_eq_true rfl) (Nat.le_of_ble_eq_true rfl) dX11_above_15 rfl ?_
  refine sp_if_eq (tgt := 32) (q := 21) hX dX11_above_18 (by decide) rfl (fun hc => ?_) (fun hc => ?_)
  · rw [if_pos hc] at hf
    refine sp_iconst (v := -1) (q := 33) hX dX11_above_32 li_m1 rfl ?_
    refine sp_drop (lv' := [none, none, none]) trivial ?_
    exact hX11_above_33 hX hR hf
  · rw [if_neg hc] at hf
    refine sp_aload_n (i := 2) (q := 22) hX dX11_above_21 rfl rfl rfl ?_
    refine sp_iload_n (i := 1) (q := 23) hX dX11_above_22 rfl rfl rfl ?_
    obtain ⟨σ8, v9, h7, hf⟩ := sp_bd_so hf
    refine sp_callVi (As := [.int a1]) (rest := []) (q := 26) hX (cnX8_bladesAbove (sp_st hX) atX_23 h7) cwX11_279 atX_23 rfl rfl rfl rfl rfl (Nat.le_of_ble_eq_true rfl) (Nat.le_of_ble_eq_true rfl) (Nat.le_of_ble_eq_true rfl) (Nat.le_of_ble_eq_true rfl) (Nat.le_of_ble_eq_true rfl) dX11_above_23 rfl ?_
    obtain ⟨σ11, v12, h10, hf⟩ := sp_bd_so hf
    refine sp_callSi (As := [.int v9]) (rest := []) (q := 29) hX (cnJ6_bitCount_0f7a4 (sp_st hX)  h10) cwX11_195 rfl rfl rfl rfl (Nat.le_of_ble_eq_true rfl) (Nat.le_of_ble_eq_true rfl) (Nat.le_of_ble_eq_true rfl) (Nat.le_of_ble_eq_true rfl) (Nat.le_of_ble_eq_true rfl) dX11_above_26 rfl ?_
    refine sp_goto (tgt := 33) hX dX11_above_29 (by decide) ?_
    refine sp_drop (lv' := [none, none, none]) trivial ?_
    exact hX11_above_33 hX hR hf
set_option maxRecDepth 100000 in
set_option maxHeartbeats 4000000 in
theorem cnX11_above {l : Launch} (hst : l.stackTraces = false) {w : sp_Wd} {n : Nat}  {σ : sp_St} {a1 : Int32} {τ : sp_St} {ρ : Int32 ⊕ Nat}  (hf : X11_above n σ a1 = some (τ, ρ)) : sp_Xi shX l w yX11_above cX11_above 3 (some .int) rmX11_above 1 6 σ [.ref (w.2.1 0), .int a1] τ ρ :=
  sp_xi (own := RX11) (by decide) rfl hst (Nat.le_of_ble_eq_true rfl) rfl (fun X hX hw hl hR => by subst hw; subst hl; exact hX11_above hX hR   hf)
def rmX11_hiccup : Room := { frames := 7, cells := 1, slots := 6, locals := 121 }
def X11_hiccup (n : Nat)  (σ : sp_St) (a1 : Int32) : Option (sp_St × (Int32 ⊕ Nat)) :=
  sp_bx (X11_needSwallower n σ a1) fun σ2 =>
  sp_pl (σ2.2.1 0 3) fun c4 =>
  sp_ck (sp_isc c4) <|
  sp_ck (sp_in a1 5) <|
  sp_pl (sp_g σ2 (c4 + 6) a1) fun x8 =>
  if 0 < x8 then
    sp_ck (!decide (x8 = 0)) <|
    some (σ2, Sum.inl (x8 - ((sp_g σ2 24 ((47 : Int32))) - (sp_g σ2 24 ((47 : Int32))) / x8 * x8)))
  else
    some (σ2, Sum.inl ((-1 : Int32)))
set_option maxRecDepth 100000 in
set_option maxHeartbeats 4000000 in
theorem hX11_hiccup {X : sp_X} (hX : sp_OK shX X cX11_hiccup RX11 3 rmX11_hiccup) {τ : sp_St} {ρ : Int32 ⊕ Nat} (hR : sp_RXi shX X (some .int) τ ρ 1 6) {n : Nat}  {σ : sp_St} {a1 : Int32}  (hf : X11_hiccup n σ a1 = some (τ, ρ)) : sp_GG shX X σ 3 [some (.ref (sx_ad X 0)), some (.int a1), none] [] 0 0 0 := by
  unfold X11_hiccup at hf
  refine sp_aload_n (i := 0) (q := 1) hX dX11_hiccup_0 rfl rfl rfl ?_
  refine sp_iload_n (i := 1) (q := 2) hX dX11_hiccup_1 rfl rfl rfl ?_
  obtain ⟨σ2, o3, h1, hf⟩ := sp_bx_so hf
  refine sp_callXv (As := [.int a1]) (rest := []) (q := 5) hX (by decide) hR (cnX11_needSwallower (sp_st hX) h1) cwX11_183 atX_0 rfl rfl rfl rfl rfl (Nat.le_of_ble_eq_true rfl) (Nat.le_of_ble_eq_true rfl) (Nat.le_of_ble_eq_true rfl) (Nat.le_of_ble_eq_true rfl) (Nat.le_of_ble_eq_true rfl) (Nat.le_of_ble_eq_true rfl) (Nat.le_of_ble_eq_true rfl) dX11_hiccup_2 rfl hf (fun hf => ?_)
  refine sp_aload_n (i := 0) (q := 6) hX dX11_hiccup_5 rfl rfl rfl ?_
  obtain ⟨c4, e6, hf⟩ := sp_pl_some hf
  obtain ⟨h5, hf⟩ := sp_ck_some hf
  refine sp_getr (q := 9) hX flX11_20 fkX11_3 atX_0 dX11_hiccup_6 rfl ?_
  refine sp_nmr e6 ?_
  refine sp_gets (t := c4 + 6) (q := 12) hX flX11_186 fkX2_5 (sp_isc_at h5) (msX2_5 (sp_isc_at h5)) dX11_hiccup_9 rfl ?_
  refine sp_iload_n (i := 1) (q := 13) hX dX11_hiccup_12 rfl rfl rfl ?_
  obtain ⟨h7, hf⟩ := sp_ck_some hf
  refine sp_iald (q := 14) hX (mfX2_5 (sp_isc_at h5)) h7 dX11_hiccup_13 rfl ?_
  obtain ⟨x8, e9, hf⟩ := sp_pl_some hf
  refine sp_nmi e9 ?_
  refine sp_istore_n (i := 2) (lv' := [some (.ref (sx_ad X 0)), some (.int a1), some (.int x8)]) (q := 15) hX dX11_hiccup_14 rfl (Nat.le_of_ble_eq_true rfl) rfl rfl rfl ?_
  refine sp_iload_n (i := 2) (q := 16) hX dX11_hiccup_15 rfl rfl rfl ?_
  refine sp_if_gt (tgt := 21) (q := 19) hX dX11_hiccup_16 (by decide) rfl (fun hc => ?_) (fun hc => ?_)
  · rw [if_pos hc] at hf
    refine sp_iload_n (i := 2) (q := 22) hX dX11_hiccup_21 rfl rfl rfl ?_
    refine sp_aload_n (i := 0) (q := 23) hX dX11_hiccup_22 rfl rfl rfl ?_
    refine sp_gets (t := 22) (q := 26) hX flX11_46 fkX11_6 atX_0 srX_0_6 dX11_hiccup_23 rfl ?_
    refine sp_gets (t := 23) (q := 29) hX flX11_58 fkX1_0 atX_22 srX_22_0 dX11_hiccup_26 rfl ?_
    refine sp_gets (t := 24) (q := 32) hX flX11_93 fkX8_1 atX_23 srX_23_1 dX11_hiccup_29 rfl ?_
    refine sp_bipush (v := 47) (q := 34) hX dX11_hiccup_32 lb_47 rfl ?_
    refine sp_iald (q := 35) hX arX_24 (by decide) dX11_hiccup_34 rfl ?_
    refine sp_iload_n (i := 2) (q := 36) hX dX11_hiccup_35 rfl rfl rfl ?_
    obtain ⟨h10, hf⟩ := sp_ck_some hf
    refine sp_irem (q := 37) hX dX11_hiccup_36 (sp_nz h10) rfl ?_
    refine sp_isub (q := 38) hX dX11_hiccup_37 rfl ?_
    exact sp_iretX hX hR dX11_hiccup_38 hf (Nat.le_of_ble_eq_true rfl) (Nat.le_of_ble_eq_true rfl)
  · rw [if_neg hc] at hf
    refine sp_iconst (v := -1) (q := 20) hX dX11_hiccup_19 li_m1 rfl ?_
    exact sp_iretX hX hR dX11_hiccup_20 hf (Nat.le_of_ble_eq_true rfl) (Nat.le_of_ble_eq_true rfl)
set_option maxRecDepth 100000 in
set_option maxHeartbeats 4000000 in
theorem cnX11_hiccup {l : Launch} (hst : l.stackTraces = false) {w : sp_Wd} {n : Nat}  {σ : sp_St} {a1 : Int32} {τ : sp_St} {ρ : Int32 ⊕ Nat}  (hf : X11_hiccup n σ a1 = some (τ, ρ)) : sp_Xi shX l w yX11_hiccup cX11_hiccup 3 (some .int) rmX11_hiccup 1 6 σ [.ref (w.2.1 0), .int a1] τ ρ :=
  sp_xi (own := RX11) (by decide) rfl hst (Nat.le_of_ble_eq_true rfl) rfl (fun X hX hw hl hR => by subst hw; subst hl; exact hX11_hiccup hX hR   hf)
def rmX11_see : Room := { frames := 7, cells := 1, slots := 6, locals := 121 }
def X11_see_52 (n : Nat) (σ : sp_St) : Option (sp_St × (Int32 ⊕ Nat)) :=
  sp_bd (X11_refuse n σ ((2 : Int32))) fun σ2 v3 =>
  some (σ2, Sum.inl v3)
def X11_see_30 (n : Nat) (σ : sp_St) (z1 : Int32) (z2 : Int32) (z3 : Int32) (zs0 : Int32) : Option (sp_St × (Int32 ⊕ Nat)) :=
  if zs0 = 0 then
    X11_see_52 n σ
  else
    if (σ.1 30 3) < ((8 : Int32)) then
      sp_bv (X9_note n σ 30 z1 z2 z3) fun σ2 =>
      some (σ2, Sum.inl (σ2.1 30 3))
    else
      X11_see_52 n σ
def X11_see_29 (n : Nat) (σ : sp_St) (z1 : Int32) (z2 : Int32) (z3 : Int32) : Option (sp_St × (Int32 ⊕ Nat)) :=
  X11_see_30 n σ z1 z2 z3 ((0 : Int32))
def X11_see (n : Nat)  (σ : sp_St) (a1 : Int32) (a2 : Int32) (a3 : Int32) : Option (sp_St × (Int32 ⊕ Nat)) :=
  sp_bx (X11_needBlade n σ a1) fun σ2 =>
  if a2 < 0 then
    X11_see_29 n σ2 a1 a2 a3
  else
    if ((30 : Int32)) < a2 then
      X11_see_29 n σ2 a1 a2 a3
    else
      if a3 < 0 then
        X11_see_29 n σ2 a1 a2 a3
      else
        if ((99 : Int32)) < a3 then
          X11_see_29 n σ2 a1 a2 a3
        else
          X11_see_30 n σ2 a1 a2 a3 ((1 : Int32))
set_option maxRecDepth 100000 in
set_option maxHeartbeats 4000000 in
theorem hX11_see_52 {X : sp_X} (hX : sp_OK shX X cX11_see RX11 5 rmX11_see) {τ : sp_St} {ρ : Int32 ⊕ Nat} (hR : sp_RXi shX X (some .int) τ ρ 1 6) {n : Nat}    {σ : sp_St} (hf : X11_see_52 n σ = some (τ, ρ)) : sp_GG shX X σ 5 [some (.ref (sx_ad X 0)), none, none, none, none] [] 52 1 6 := by
  unfold X11_see_52 at hf
  refine sp_aload_n (i := 0) (q := 53) hX dX11_see_52 rfl rfl rfl ?_
  refine sp_iconst (v := 2) (q := 54) hX dX11_see_53 li_2 rfl ?_
  obtain ⟨σ2, v3, h1, hf⟩ := sp_bd_so hf
  refine sp_callVi (As := [.int ((2 : Int32))]) (rest := []) (q := 57) hX (cnX11_refuse (sp_st hX)  h1) cwX11_210 atX_0 rfl rfl rfl rfl rfl (Nat.le_of_ble_eq_true rfl) (Nat.le_of_ble_eq_true rfl) (Nat.le_of_ble_eq_true rfl) (Nat.le_of_ble_eq_true rfl) (Nat.le_of_ble_eq_true rfl) dX11_see_54 rfl ?_
  exact sp_iretX hX hR dX11_see_57 hf (Nat.le_of_ble_eq_true rfl) (Nat.le_of_ble_eq_true rfl)
set_option maxRecDepth 100000 in
set_option maxHeartbeats 4000000 in
theorem hX11_see_30 {X : sp_X} (hX : sp_OK shX X cX11_see RX11 5 rmX11_see) {τ : sp_St} {ρ : Int32 ⊕ Nat} (hR : sp_RXi shX X (some .int) τ ρ 1 6) {n : Nat}    {σ : sp_St} {z1 : Int32} {z2 : Int32} {z3 : Int32} {zs0 : Int32} (hf : X11_see_30 n σ z1 z2 z3 zs0 = some (τ, ρ)) : sp_GG shX X σ 5 [some (.ref (sx_ad X 0)), some (.int z1), some (.int z2), some (.int z3), none] [.int zs0] 30 1 6 := by
  unfold X11_see_30 at hf
  refine sp_istore (i := 4) (lv' := [some (.ref (sx_ad X 0)), some (.int z1), some (.int z2), some (.int z3), some (.int zs0)]) (q := 32) hX dX11_see_30 (Nat.le_of_ble_eq_true rfl) rfl rfl rfl ?_
  refine sp_iload (i := 4) (q := 34) hX dX11_see_32 rfl rfl ?_
  refine sp_if_eq (tgt := 52) (q := 37) hX dX11_see_34 (by decide) rfl (fun hc => ?_) (fun hc => ?_)
  · rw [if_pos hc] at hf
    refine sp_drop (lv' := [some (.ref (sx_ad X 0)), none, none, none, none]) (And.intro rfl trivial) ?_
    exact hX11_see_52 hX hR hf
  · rw [if_neg hc] at hf
    refine sp_aload_n (i := 0) (q := 38) hX dX11_see_37 rfl rfl rfl ?_
    refine sp_gets (t := 22) (q := 41) hX flX11_46 fkX11_6 atX_0 srX_0_6 dX11_see_38 rfl ?_
    refine sp_gets (t := 30) (q := 44) hX flX11_80 fkX1_1 atX_22 srX_22_1 dX11_see_41 rfl ?_
    refine sp_geti (q := 47) hX flX11_153 fkX9_3 atX_30 dX11_see_44 rfl ?_
    refine sp_bipush (v := 8) (q := 49) hX dX11_see_47 lb_8 rfl ?_
    refine sp_icmp_lt (tgt := 58) (q := 52) hX dX11_see_49 (by decide) rfl (fun hc => ?_) (fun hc => ?_)
    · rw [if_pos hc] at hf
      refine sp_aload_n (i := 0) (q := 59) hX dX11_see_58 rfl rfl rfl ?_
      refine sp_gets (t := 22) (q := 62) hX flX11_46 fkX11_6 atX_0 srX_0_6 dX11_see_59 rfl ?_
      refine sp_gets (t := 30) (q := 65) hX flX11_80 fkX1_1 atX_22 srX_22_1 dX11_see_62 rfl ?_
      refine sp_iload_n (i := 1) (q := 66) hX dX11_see_65 rfl rfl rfl ?_
      refine sp_iload_n (i := 2) (q := 67) hX dX11_see_66 rfl rfl rfl ?_
      refine sp_iload_n (i := 3) (q := 68) hX dX11_see_67 rfl rfl rfl ?_
      obtain ⟨σ2, h1, hf⟩ := sp_bv_so hf
      refine sp_callVv (As := [.int z1, .int z2, .int z3]) (rest := []) (q := 71) hX (cnX9_note (sp_st hX) atX_30 h1) cwX11_303 atX_30 rfl rfl rfl rfl rfl (Nat.le_of_ble_eq_true rfl) (Nat.le_of_ble_eq_true rfl) (Nat.le_of_ble_eq_true rfl) (Nat.le_of_ble_eq_true rfl) (Nat.le_of_ble_eq_true rfl) dX11_see_68 rfl ?_
      refine sp_aload_n (i := 0) (q := 72) hX dX11_see_71 rfl rfl rfl ?_
      refine sp_gets (t := 22) (q := 75) hX flX11_46 fkX11_6 atX_0 srX_0_6 dX11_see_72 rfl ?_
      refine sp_gets (t := 30) (q := 78) hX flX11_80 fkX1_1 atX_22 srX_22_1 dX11_see_75 rfl ?_
      refine sp_geti (q := 81) hX flX11_153 fkX9_3 atX_30 dX11_see_78 rfl ?_
      exact sp_iretX hX hR dX11_see_81 hf (Nat.le_of_ble_eq_true rfl) (Nat.le_of_ble_eq_true rfl)
    · rw [if_neg hc] at hf
      refine sp_drop (lv' := [some (.ref (sx_ad X 0)), none, none, none, none]) (And.intro rfl trivial) ?_
      exact hX11_see_52 hX hR hf
set_option maxRecDepth 100000 in
set_option maxHeartbeats 4000000 in
theorem hX11_see_29 {X : sp_X} (hX : sp_OK shX X cX11_see RX11 5 rmX11_see) {τ : sp_St} {ρ : Int32 ⊕ Nat} (hR : sp_RXi shX X (some .int) τ ρ 1 6) {n : Nat}    {σ : sp_St} {z1 : Int32} {z2 : Int32} {z3 : Int32} (hf : X11_see_29 n σ z1 z2 z3 = some (τ, ρ)) : sp_GG shX X σ 5 [some (.ref (sx_ad X 0)), some (.int z1), some (.int z2), some (.int z3), none] [] 29 1 6 := by
  unfold X11_see_29 at hf
  refine sp_iconst (v := 0) (q := 30) hX dX11_see_29 li_0 rfl ?_
  exact hX11_see_30 hX hR hf
set_option maxRecDepth 100000 in
set_option maxHeartbeats 4000000 in
theorem hX11_see {X : sp_X} (hX : sp_OK shX X cX11_see RX11 5 rmX11_see) {τ : sp_St} {ρ : Int32 ⊕ Nat} (hR : sp_RXi shX X (some .int) τ ρ 1 6) {n : Nat}  {σ : sp_St} {a1 : Int32} {a2 : Int32} {a3 : Int32}  (hf : X11_see n σ a1 a2 a3 = some (τ, ρ)) : sp_GG shX X σ 5 [some (.ref (sx_ad X 0)), some (.int a1), some (.int a2), some (.int a3), none] [] 0 0 0 := by
  unfold X11_see at hf
  refine sp_aload_n (i := 0) (q := 1) hX dX11_see_0 rfl rfl rfl ?_
  refine sp_iload_n (i := 1) (q := 2) hX dX11_see_1 rfl rfl rfl ?_
  obtain ⟨σ2, o3, h1, hf⟩ := sp_bx_so hf
  refine sp_callXv (As := [.int a1]) (rest := []) (q := 5) hX (by decide) hR (cnX11_needBlade (sp_st hX) h1) cwX11_161 atX_0 rfl rfl rfl rfl rfl (Nat.le_of_ble_eq_true rfl) (Nat.le_of_ble_eq_true rfl) (Nat.le_of_ble_eq_true rfl) (Nat.le_of_ble_eq_true rfl) (Nat.le_of_ble_eq_true rfl) (Nat.le_of_ble_eq_true rfl) (Nat.le_of_ble_eq_true rfl) dX11_see_2 rfl hf (fun hf => ?_)
  refine sp_iload_n (i := 2) (q := 6) hX dX11_see_5 rfl rfl rfl ?_
  refine sp_if_lt (tgt := 29) (q := 9) hX dX11_see_6 (by decide) rfl (fun hc => ?_) (fun hc => ?_)
  · rw [if_pos hc] at hf
    exact hX11_see_29 hX hR hf
  · rw [if_neg hc] at hf
    refine sp_iload_n (i := 2) (q := 10) hX dX11_see_9 rfl rfl rfl ?_
    refine sp_bipush (v := 30) (q := 12) hX dX11_see_10 lb_30 rfl ?_
    refine sp_icmp_gt (tgt := 29) (q := 15) hX dX11_see_12 (by decide) rfl (fun hc => ?_) (fun hc => ?_)
    · rw [if_pos hc] at hf
      exact hX11_see_29 hX hR hf
    · rw [if_neg hc] at hf
      refine sp_iload_n (i := 3) (q := 16) hX dX11_see_15 rfl rfl rfl ?_
      refine sp_if_lt (tgt := 29) (q := 19) hX dX11_see_16 (by decide) rfl (fun hc => ?_) (fun hc => ?_)
      · rw [if_pos hc] at hf
        exact hX11_see_29 hX hR hf
      · rw [if_neg hc] at hf
        refine sp_iload_n (i := 3) (q := 20) hX dX11_see_19 rfl rfl rfl ?_
        refine sp_bipush (v := 99) (q := 22) hX dX11_see_20 lb_99 rfl ?_
        refine sp_icmp_gt (tgt := 29) (q := 25) hX dX11_see_22 (by decide) rfl (fun hc => ?_) (fun hc => ?_)
        · rw [if_pos hc] at hf
          exact hX11_see_29 hX hR hf
        · rw [if_neg hc] at hf
          refine sp_iconst (v := 1) (q := 26) hX dX11_see_25 li_1 rfl ?_
          refine sp_goto (tgt := 30) hX dX11_see_26 (by decide) ?_
          exact hX11_see_30 hX hR hf
set_option maxRecDepth 100000 in
set_option maxHeartbeats 4000000 in
theorem cnX11_see {l : Launch} (hst : l.stackTraces = false) {w : sp_Wd} {n : Nat}  {σ : sp_St} {a1 : Int32} {a2 : Int32} {a3 : Int32} {τ : sp_St} {ρ : Int32 ⊕ Nat}  (hf : X11_see n σ a1 a2 a3 = some (τ, ρ)) : sp_Xi shX l w yX11_see cX11_see 5 (some .int) rmX11_see 1 6 σ [.ref (w.2.1 0), .int a1, .int a2, .int a3] τ ρ :=
  sp_xi (own := RX11) (by decide) rfl hst (Nat.le_of_ble_eq_true rfl) rfl (fun X hX hw hl hR => by subst hw; subst hl; exact hX11_see hX hR   hf)
def rmX11_wrong : Room := { frames := 7, cells := 1, slots := 6, locals := 169 }
def X11_wrong_48 (n : Nat) (σ : sp_St) (zs0 : Int32) : Option (sp_St × (Int32 ⊕ Nat)) :=
  some (σ, Sum.inl zs0)
def X11_wrong (n : Nat)  (σ : sp_St) (a1 : Int32) : Option (sp_St × (Int32 ⊕ Nat)) :=
  sp_bx (X11_needWhat n σ a1 ((2 : Int32))) fun σ2 =>
  if a1 = ((2 : Int32)) then
    sp_bd (X3_fitsAsItIs n σ2) fun σ11 v12 =>
    sp_pl (if v12 = 0 then ((0 : Int32)) else ((1 : Int32))) fun v13 =>
    some (σ11, Sum.inl v13)
  else
    if a1 = 0 then
      sp_bd (X3_howMany n σ2) fun σ8 v9 =>
      X11_wrong_48 n σ8 v9
    else
      sp_bd (X3_first n σ2) fun σ5 v6 =>
      X11_wrong_48 n σ5 v6
set_option maxRecDepth 100000 in
set_option maxHeartbeats 4000000 in
theorem hX11_wrong_48 {X : sp_X} (hX : sp_OK shX X cX11_wrong RX11 2 rmX11_wrong) {τ : sp_St} {ρ : Int32 ⊕ Nat} (hR : sp_RXi shX X (some .int) τ ρ 1 6) {n : Nat}    {σ : sp_St} {zs0 : Int32} (hf : X11_wrong_48 n σ zs0 = some (τ, ρ)) : sp_GG shX X σ 2 [none, none] [.int zs0] 48 1 6 := by
  unfold X11_wrong_48 at hf
  exact sp_iretX hX hR dX11_wrong_48 hf (Nat.le_of_ble_eq_true rfl) (Nat.le_of_ble_eq_true rfl)
set_option maxRecDepth 100000 in
set_option maxHeartbeats 4000000 in
theorem hX11_wrong {X : sp_X} (hX : sp_OK shX X cX11_wrong RX11 2 rmX11_wrong) {τ : sp_St} {ρ : Int32 ⊕ Nat} (hR : sp_RXi shX X (some .int) τ ρ 1 6) {n : Nat}  {σ : sp_St} {a1 : Int32}  (hf : X11_wrong n σ a1 = some (τ, ρ)) : sp_GG shX X σ 2 [some (.ref (sx_ad X 0)), some (.int a1)] [] 0 0 0 := by
  unfold X11_wrong at hf
  refine sp_aload_n (i := 0) (q := 1) hX dX11_wrong_0 rfl rfl rfl ?_
  refine sp_iload_n (i := 1) (q := 2) hX dX11_wrong_1 rfl rfl rfl ?_
  refine sp_iconst (v := 2) (q := 3) hX dX11_wrong_2 li_2 rfl ?_
  obtain ⟨σ2, o3, h1, hf⟩ := sp_bx_so hf
  refine sp_callXv (As := [.int a1, .int ((2 : Int32))]) (rest := []) (q := 6) hX (by decide) hR (cnX11_needWhat (sp_st hX) h1) cwX11_245 atX_0 rfl rfl rfl rfl rfl (Nat.le_of_ble_eq_true rfl) (Nat.le_of_ble_eq_true rfl) (Nat.le_of_ble_eq_true rfl) (Nat.le_of_ble_eq_true rfl) (Nat.le_of_ble_eq_true rfl) (Nat.le_of_ble_eq_true rfl) (Nat.le_of_ble_eq_true rfl) dX11_wrong_3 rfl hf (fun hf => ?_)
  refine sp_iload_n (i := 1) (q := 7) hX dX11_wrong_6 rfl rfl rfl ?_
  refine sp_iconst (v := 2) (q := 8) hX dX11_wrong_7 li_2 rfl ?_
  refine sp_icmp_ne (tgt := 27) (q := 11) hX dX11_wrong_8 (by decide) rfl (fun hc => ?_) (fun hc => ?_)
  · rw [if_neg hc] at hf
    refine sp_iload_n (i := 1) (q := 28) hX dX11_wrong_27 rfl rfl rfl ?_
    refine sp_if_ne (tgt := 41) (q := 31) hX dX11_wrong_28 (by decide) rfl (fun hc => ?_) (fun hc => ?_)
    · rw [if_neg hc] at hf
      refine sp_aload_n (i := 0) (q := 42) hX dX11_wrong_41 rfl rfl rfl ?_
      refine sp_gets (t := 64) (q := 45) hX flX11_87 fkX11_11 atX_0 srX_0_11 dX11_wrong_42 rfl ?_
      obtain ⟨σ5, v6, h4, hf⟩ := sp_bd_so hf
      refine sp_callVi (As := []) (rest := []) (q := 48) hX (cnX3_first (sp_st hX)  h4) cwX11_312 atX_64 rfl rfl rfl rfl rfl (Nat.le_of_ble_eq_true rfl) (Nat.le_of_ble_eq_true rfl) (Nat.le_of_ble_eq_true rfl) (Nat.le_of_ble_eq_true rfl) (Nat.le_of_ble_eq_true rfl) dX11_wrong_45 rfl ?_
      refine sp_drop (lv' := [none, none]) trivial ?_
      exact hX11_wrong_48 hX hR hf
    · rw [if_pos hc] at hf
      refine sp_aload_n (i := 0) (q := 32) hX dX11_wrong_31 rfl rfl rfl ?_
      refine sp_gets (t := 64) (q := 35) hX flX11_87 fkX11_11 atX_0 srX_0_11 dX11_wrong_32 rfl ?_
      obtain ⟨σ8, v9, h7, hf⟩ := sp_bd_so hf
      refine sp_callVi (As := []) (rest := []) (q := 38) hX (cnX3_howMany (sp_st hX)  h7) cwX11_311 atX_64 rfl rfl rfl rfl rfl (Nat.le_of_ble_eq_true rfl) (Nat.le_of_ble_eq_true rfl) (Nat.le_of_ble_eq_true rfl) (Nat.le_of_ble_eq_true rfl) (Nat.le_of_ble_eq_true rfl) dX11_wrong_35 rfl ?_
      refine sp_goto (tgt := 48) hX dX11_wrong_38 (by decide) ?_
      refine sp_drop (lv' := [none, none]) trivial ?_
      exact hX11_wrong_48 hX hR hf
  · rw [if_pos hc] at hf
    refine sp_aload_n (i := 0) (q := 12) hX dX11_wrong_11 rfl rfl rfl ?_
    refine sp_gets (t := 64) (q := 15) hX flX11_87 fkX11_11 atX_0 srX_0_11 dX11_wrong_12 rfl ?_
    obtain ⟨σ11, v12, h10, hf⟩ := sp_bd_so hf
    refine sp_callVi (As := []) (rest := []) (q := 18) hX (cnX3_fitsAsItIs (sp_st hX)  h10) cwX11_307 atX_64 rfl rfl rfl rfl rfl (Nat.le_of_ble_eq_true rfl) (Nat.le_of_ble_eq_true rfl) (Nat.le_of_ble_eq_true rfl) (Nat.le_of_ble_eq_true rfl) (Nat.le_of_ble_eq_true rfl) dX11_wrong_15 rfl ?_
    obtain ⟨v13, e14, hf⟩ := sp_pl_some hf
    have hj15 : sp_GG shX X σ11 2 [some (.ref (sx_ad X 0)), some (.int a1)] [.int v13] 26 1 6 := by
      exact sp_iretX hX hR dX11_wrong_26 hf (Nat.le_of_ble_eq_true rfl) (Nat.le_of_ble_eq_true rfl)
    refine sp_if_eq (tgt := 25) (q := 21) hX dX11_wrong_18 (by decide) rfl (fun hc => ?_) (fun hc => ?_)
    · refine sp_iconst (v := 0) (q := 26) hX dX11_wrong_25 li_0 rfl ?_
      exact sp_nmi (by rw [e14, if_pos hc]) hj15
    · refine sp_iconst (v := 1) (q := 22) hX dX11_wrong_21 li_1 rfl ?_
      refine sp_goto (tgt := 26) hX dX11_wrong_22 (by decide) ?_
      exact sp_nmi (by rw [e14, if_neg hc]) hj15
set_option maxRecDepth 100000 in
set_option maxHeartbeats 4000000 in
theorem cnX11_wrong {l : Launch} (hst : l.stackTraces = false) {w : sp_Wd} {n : Nat}  {σ : sp_St} {a1 : Int32} {τ : sp_St} {ρ : Int32 ⊕ Nat}  (hf : X11_wrong n σ a1 = some (τ, ρ)) : sp_Xi shX l w yX11_wrong cX11_wrong 2 (some .int) rmX11_wrong 1 6 σ [.ref (w.2.1 0), .int a1] τ ρ :=
  sp_xi (own := RX11) (by decide) rfl hst (Nat.le_of_ble_eq_true rfl) rfl (fun X hX hw hl hR => by subst hw; subst hl; exact hX11_wrong hX hR   hf)
def rmX11_look : Room := { frames := 7, cells := 1, slots := 6, locals := 168 }
def X11_look_34 (n : Nat) (σ : sp_St) (zs0 : Int32) : Option (sp_St × (Int32 ⊕ Nat)) :=
  some (σ, Sum.inl zs0)
def X11_look (n : Nat)  (σ : sp_St) (a1 : Int32) : Option (sp_St × (Int32 ⊕ Nat)) :=
  sp_bx (X11_needWhat n σ a1 ((1 : Int32))) fun σ2 =>
  sp_bv (X3_seekNext n σ2) fun σ5 =>
  if a1 = 0 then
    X11_look_34 n σ5 (σ5.1 64 4)
  else
    X11_look_34 n σ5 (σ5.1 64 5)
set_option maxRecDepth 100000 in
set_option maxHeartbeats 4000000 in
theorem hX11_look_34 {X : sp_X} (hX : sp_OK shX X cX11_look RX11 2 rmX11_look) {τ : sp_St} {ρ : Int32 ⊕ Nat} (hR : sp_RXi shX X (some .int) τ ρ 1 6) {n : Nat}    {σ : sp_St} {zs0 : Int32} (hf : X11_look_34 n σ zs0 = some (τ, ρ)) : sp_GG shX X σ 2 [none, none] [.int zs0] 34 1 6 := by
  unfold X11_look_34 at hf
  exact sp_iretX hX hR dX11_look_34 hf (Nat.le_of_ble_eq_true rfl) (Nat.le_of_ble_eq_true rfl)
set_option maxRecDepth 100000 in
set_option maxHeartbeats 4000000 in
theorem hX11_look {X : sp_X} (hX : sp_OK shX X cX11_look RX11 2 rmX11_look) {τ : sp_St} {ρ : Int32 ⊕ Nat} (hR : sp_RXi shX X (some .int) τ ρ 1 6) {n : Nat}  {σ : sp_St} {a1 : Int32}  (hf : X11_look n σ a1 = some (τ, ρ)) : sp_GG shX X σ 2 [some (.ref (sx_ad X 0)), some (.int a1)] [] 0 0 0 := by
  unfold X11_look at hf
  refine sp_aload_n (i := 0) (q := 1) hX dX11_look_0 rfl rfl rfl ?_
  refine sp_iload_n (i := 1) (q := 2) hX dX11_look_1 rfl rfl rfl ?_
  refine sp_iconst (v := 1) (q := 3) hX dX11_look_2 li_1 rfl ?_
  obtain ⟨σ2, o3, h1, hf⟩ := sp_bx_so hf
  refine sp_callXv (As := [.int a1, .int ((1 : Int32))]) (rest := []) (q := 6) hX (by decide) hR (cnX11_needWhat (sp_st hX) h1) cwX11_245 atX_0 rfl rfl rfl rfl rfl (Nat.le_of_ble_eq_true rfl) (Nat.le_of_ble_eq_true rfl) (Nat.le_of_ble_eq_true rfl) (Nat.le_of_ble_eq_true rfl) (Nat.le_of_ble_eq_true rfl) (Nat.le_of_ble_eq_true rfl) (Nat.le_of_ble_eq_true rfl) dX11_look_3 rfl hf (fun hf => ?_)
  refine sp_aload_n (i := 0) (q := 7) hX dX11_look_6 rfl rfl rfl ?_
  refine sp_gets (t := 64) (q := 10) hX flX11_87 fkX11_11 atX_0 srX_0_11 dX11_look_7 rfl ?_
  obtain ⟨σ5, h4, hf⟩ := sp_bv_so hf
  refine sp_callVv (As := []) (rest := []) (q := 13) hX (cnX3_seekNext (sp_st hX)  h4) cwX11_315 atX_64 rfl rfl rfl rfl rfl (Nat.le_of_ble_eq_true rfl) (Nat.le_of_ble_eq_true rfl) (Nat.le_of_ble_eq_true rfl) (Nat.le_of_ble_eq_true rfl) (Nat.le_of_ble_eq_true rfl) dX11_look_10 rfl ?_
  refine sp_iload_n (i := 1) (q := 14) hX dX11_look_13 rfl rfl rfl ?_
  refine sp_if_ne (tgt := 27) (q := 17) hX dX11_look_14 (by decide) rfl (fun hc => ?_) (fun hc => ?_)
  · rw [if_neg hc] at hf
    refine sp_aload_n (i := 0) (q := 28) hX dX11_look_27 rfl rfl rfl ?_
    refine sp_gets (t := 64) (q := 31) hX flX11_87 fkX11_11 atX_0 srX_0_11 dX11_look_28 rfl ?_
    refine sp_geti (q := 34) hX flX11_321 fkX3_5 atX_64 dX11_look_31 rfl ?_
    refine sp_drop (lv' := [none, none]) trivial ?_
    exact hX11_look_34 hX hR hf
  · rw [if_pos hc] at hf
    refine sp_aload_n (i := 0) (q := 18) hX dX11_look_17 rfl rfl rfl ?_
    refine sp_gets (t := 64) (q := 21) hX flX11_87 fkX11_11 atX_0 srX_0_11 dX11_look_18 rfl ?_
    refine sp_geti (q := 24) hX flX11_318 fkX3_4 atX_64 dX11_look_21 rfl ?_
    refine sp_goto (tgt := 34) hX dX11_look_24 (by decide) ?_
    refine sp_drop (lv' := [none, none]) trivial ?_
    exact hX11_look_34 hX hR hf
set_option maxRecDepth 100000 in
set_option maxHeartbeats 4000000 in
theorem cnX11_look {l : Launch} (hst : l.stackTraces = false) {w : sp_Wd} {n : Nat}  {σ : sp_St} {a1 : Int32} {τ : sp_St} {ρ : Int32 ⊕ Nat}  (hf : X11_look n σ a1 = some (τ, ρ)) : sp_Xi shX l w yX11_look cX11_look 2 (some .int) rmX11_look 1 6 σ [.ref (w.2.1 0), .int a1] τ ρ :=
  sp_xi (own := RX11) (by decide) rfl hst (Nat.le_of_ble_eq_true rfl) rfl (fun X hX hw hl hR => by subst hw; subst hl; exact hX11_look hX hR   hf)
def rmX11_game : Room := { frames := 7, cells := 4, slots := 24, locals := 162 }
def X11_game_66 (n : Nat) (σ : sp_St) (zs0 : Int32) : Option (sp_St × (Int32 ⊕ Nat)) :=
  some (σ, Sum.inl zs0)
def X11_game (n : Nat)  (σ : sp_St) (a1 : Int32) (a2 : Int32) (a3 : Int32) : Option (sp_St × (Int32 ⊕ Nat)) :=
  sp_bx (X11_needHouse n σ a1) fun σ2 =>
  sp_bx (X11_needHouse n σ2 a2) fun σ5 =>
  sp_bx (X11_needWhat n σ5 a3 ((1 : Int32))) fun σ8 =>
  sp_bd (X6_between n σ8 a1 a2) fun σ11 v12 =>
  if v12 = 0 then
    some (σ11, Sum.inr 2)
  else
    sp_bv (X4_play n σ11 a1 a2) fun σ14 =>
    if a3 = 0 then
      X11_game_66 n σ14 (σ14.1 57 7)
    else
      X11_game_66 n σ14 (σ14.1 57 8)
set_option maxRecDepth 100000 in
set_option maxHeartbeats 4000000 in
theorem hX11_game_66 {X : sp_X} (hX : sp_OK shX X cX11_game RX11 4 rmX11_game) {τ : sp_St} {ρ : Int32 ⊕ Nat} (hR : sp_RXi shX X (some .int) τ ρ 4 24) {n : Nat}    {σ : sp_St} {zs0 : Int32} (hf : X11_game_66 n σ zs0 = some (τ, ρ)) : sp_GG shX X σ 4 [none, none, none, none] [.int zs0] 66 3 18 := by
  unfold X11_game_66 at hf
  exact sp_iretX hX hR dX11_game_66 hf (Nat.le_of_ble_eq_true rfl) (Nat.le_of_ble_eq_true rfl)
set_option maxRecDepth 100000 in
set_option maxHeartbeats 4000000 in
theorem hX11_game {X : sp_X} (hX : sp_OK shX X cX11_game RX11 4 rmX11_game) {τ : sp_St} {ρ : Int32 ⊕ Nat} (hR : sp_RXi shX X (some .int) τ ρ 4 24) {n : Nat}  {σ : sp_St} {a1 : Int32} {a2 : Int32} {a3 : Int32}  (hf : X11_game n σ a1 a2 a3 = some (τ, ρ)) : sp_GG shX X σ 4 [some (.ref (sx_ad X 0)), some (.int a1), some (.int a2), some (.int a3)] [] 0 0 0 := by
  unfold X11_game at hf
  refine sp_aload_n (i := 0) (q := 1) hX dX11_game_0 rfl rfl rfl ?_
  refine sp_iload_n (i := 1) (q := 2) hX dX11_game_1 rfl rfl rfl ?_
  obtain ⟨σ2, o3, h1, hf⟩ := sp_bx_so hf
  refine sp_callXv (As := [.int a1]) (rest := []) (q := 5) hX (by decide) hR (cnX11_needHouse (sp_st hX) h1) cwX11_203 atX_0 rfl rfl rfl rfl rfl (Nat.le_of_ble_eq_true rfl) (Nat.le_of_ble_eq_true rfl) (Nat.le_of_ble_eq_true rfl) (Nat.le_of_ble_eq_true rfl) (Nat.le_of_ble_eq_true rfl) (Nat.le_of_ble_eq_true rfl) (Nat.le_of_ble_eq_true rfl) dX11_game_2 rfl hf (fun hf => ?_)
  refine sp_aload_n (i := 0) (q := 6) hX dX11_game_5 rfl rfl rfl ?_
  refine sp_iload_n (i := 2) (q := 7) hX dX11_game_6 rfl rfl rfl ?_
  obtain ⟨σ5, o6, h4, hf⟩ := sp_bx_so hf
  refine sp_callXv (As := [.int a2]) (rest := []) (q := 10) hX (by decide) hR (cnX11_needHouse (sp_st hX) h4) cwX11_203 atX_0 rfl rfl rfl rfl rfl (Nat.le_of_ble_eq_true rfl) (Nat.le_of_ble_eq_true rfl) (Nat.le_of_ble_eq_true rfl) (Nat.le_of_ble_eq_true rfl) (Nat.le_of_ble_eq_true rfl) (Nat.le_of_ble_eq_true rfl) (Nat.le_of_ble_eq_true rfl) dX11_game_7 rfl hf (fun hf => ?_)
  refine sp_aload_n (i := 0) (q := 11) hX dX11_game_10 rfl rfl rfl ?_
  refine sp_iload_n (i := 3) (q := 12) hX dX11_game_11 rfl rfl rfl ?_
  refine sp_iconst (v := 1) (q := 13) hX dX11_game_12 li_1 rfl ?_
  obtain ⟨σ8, o9, h7, hf⟩ := sp_bx_so hf
  refine sp_callXv (As := [.int a3, .int ((1 : Int32))]) (rest := []) (q := 16) hX (by decide) hR (cnX11_needWhat (sp_st hX) h7) cwX11_245 atX_0 rfl rfl rfl rfl rfl (Nat.le_of_ble_eq_true rfl) (Nat.le_of_ble_eq_true rfl) (Nat.le_of_ble_eq_true rfl) (Nat.le_of_ble_eq_true rfl) (Nat.le_of_ble_eq_true rfl) (Nat.le_of_ble_eq_true rfl) (Nat.le_of_ble_eq_true rfl) dX11_game_13 rfl hf (fun hf => ?_)
  refine sp_aload_n (i := 0) (q := 17) hX dX11_game_16 rfl rfl rfl ?_
  refine sp_gets (t := 66) (q := 20) hX flX11_97 fkX11_12 atX_0 srX_0_12 dX11_game_17 rfl ?_
  refine sp_iload_n (i := 1) (q := 21) hX dX11_game_20 rfl rfl rfl ?_
  refine sp_iload_n (i := 2) (q := 22) hX dX11_game_21 rfl rfl rfl ?_
  obtain ⟨σ11, v12, h10, hf⟩ := sp_bd_so hf
  refine sp_callVi (As := [.int a1, .int a2]) (rest := []) (q := 25) hX (cnX6_between (sp_st hX)  h10) cwX11_206 atX_66 rfl rfl rfl rfl rfl (Nat.le_of_ble_eq_true rfl) (Nat.le_of_ble_eq_true rfl) (Nat.le_of_ble_eq_true rfl) (Nat.le_of_ble_eq_true rfl) (Nat.le_of_ble_eq_true rfl) dX11_game_22 rfl ?_
  refine sp_if_ne (tgt := 36) (q := 28) hX dX11_game_25 (by decide) rfl (fun hc => ?_) (fun hc => ?_)
  · rw [if_neg hc] at hf
    refine sp_aload_n (i := 0) (q := 37) hX dX11_game_36 rfl rfl rfl ?_
    refine sp_gets (t := 57) (q := 40) hX flX11_65 fkX11_9 atX_0 srX_0_9 dX11_game_37 rfl ?_
    refine sp_iload_n (i := 1) (q := 41) hX dX11_game_40 rfl rfl rfl ?_
    refine sp_iload_n (i := 2) (q := 42) hX dX11_game_41 rfl rfl rfl ?_
    obtain ⟨σ14, h13, hf⟩ := sp_bv_so hf
    refine sp_callVv (As := [.int a1, .int a2]) (rest := []) (q := 45) hX (cnX4_play (sp_st hX)  h13) cwX11_324 atX_57 rfl rfl rfl rfl rfl (Nat.le_of_ble_eq_true rfl) (Nat.le_of_ble_eq_true rfl) (Nat.le_of_ble_eq_true rfl) (Nat.le_of_ble_eq_true rfl) (Nat.le_of_ble_eq_true rfl) dX11_game_42 rfl ?_
    refine sp_iload_n (i := 3) (q := 46) hX dX11_game_45 rfl rfl rfl ?_
    refine sp_if_ne (tgt := 59) (q := 49) hX dX11_game_46 (by decide) rfl (fun hc => ?_) (fun hc => ?_)
    · rw [if_neg hc] at hf
      refine sp_aload_n (i := 0) (q := 60) hX dX11_game_59 rfl rfl rfl ?_
      refine sp_gets (t := 57) (q := 63) hX flX11_65 fkX11_9 atX_0 srX_0_9 dX11_game_60 rfl ?_
      refine sp_geti (q := 66) hX flX11_330 fkX4_8 atX_57 dX11_game_63 rfl ?_
      refine sp_drop (lv' := [none, none, none, none]) trivial ?_
      exact hX11_game_66 hX hR hf
    · rw [if_pos hc] at hf
      refine sp_aload_n (i := 0) (q := 50) hX dX11_game_49 rfl rfl rfl ?_
      refine sp_gets (t := 57) (q := 53) hX flX11_65 fkX11_9 atX_0 srX_0_9 dX11_game_50 rfl ?_
      refine sp_geti (q := 56) hX flX11_327 fkX4_7 atX_57 dX11_game_53 rfl ?_
      refine sp_goto (tgt := 66) hX dX11_game_56 (by decide) ?_
      refine sp_drop (lv' := [none, none, none, none]) trivial ?_
      exact hX11_game_66 hX hR hf
  · rw [if_pos hc] at hf
    exact sp_thrI hX (by decide) hR hf thX11_110_1 thX11_110_2 thX11_110_3 thX11_110_4 thX11_110_5 thX11_110_6 dX11_game_28 dX11_game_31 dX11_game_32 dX11_game_35 (Nat.le_of_ble_eq_true rfl) (Nat.le_of_ble_eq_true rfl) (Nat.le_of_ble_eq_true rfl) (Nat.le_of_ble_eq_true rfl) (Nat.le_of_ble_eq_true rfl) (Nat.le_of_ble_eq_true rfl)
set_option maxRecDepth 100000 in
set_option maxHeartbeats 4000000 in
theorem cnX11_game {l : Launch} (hst : l.stackTraces = false) {w : sp_Wd} {n : Nat}  {σ : sp_St} {a1 : Int32} {a2 : Int32} {a3 : Int32} {τ : sp_St} {ρ : Int32 ⊕ Nat}  (hf : X11_game n σ a1 a2 a3 = some (τ, ρ)) : sp_Xi shX l w yX11_game cX11_game 4 (some .int) rmX11_game 4 24 σ [.ref (w.2.1 0), .int a1, .int a2, .int a3] τ ρ :=
  sp_xi (own := RX11) (by decide) rfl hst (Nat.le_of_ble_eq_true rfl) rfl (fun X hX hw hl hR => by subst hw; subst hl; exact hX11_game hX hR   hf)
def rmX11_summer : Room := { frames := 7, cells := 2, slots := 12, locals := 146 }
def X11_summer (n : Nat)  (σ : sp_St) (a1 : Int32) (a2 : Int32) (a3 : Int32) : Option (sp_St × (Int32 ⊕ Nat)) :=
  sp_bx (X11_needWhat n σ a3 ((2 : Int32))) fun σ2 =>
  sp_bx (X11_needAhead n σ2 a2) fun σ5 =>
  sp_bd (X4_summerEnd n σ5 a1 a2) fun σ8 r9 =>
  sp_ck (decide (r9 = 50)) <|
  if a3 = 0 then
    sp_bd (X4_fightsDreamt n σ8) fun σ13 v14 =>
    some (σ13, Sum.inl v14)
  else
    if a3 = 1 then
      sp_bd (X8_bladesAtRest n σ8 50) fun σ17 v18 =>
      sp_bd (J6_bitCount_0f7a4 n σ17 v18) fun σ20 v21 =>
      some (σ20, Sum.inl v21)
    else
      sp_bd (X8_angerOfAll n σ8 50) fun σ24 v25 =>
      some (σ24, Sum.inl v25)
set_option maxRecDepth 100000 in
set_option maxHeartbeats 4000000 in
theorem hX11_summer {X : sp_X} (hX : sp_OK shX X cX11_summer RX11 5 rmX11_summer) {τ : sp_St} {ρ : Int32 ⊕ Nat} (hR : sp_RXi shX X (some .int) τ ρ 2 12) {n : Nat}  {σ : sp_St} {a1 : Int32} {a2 : Int32} {a3 : Int32}  (hf : X11_summer n σ a1 a2 a3 = some (τ, ρ)) : sp_GG shX X σ 5 [some (.ref (sx_ad X 0)), some (.int a1), some (.int a2), some (.int a3), none] [] 0 0 0 := by
  unfold X11_summer at hf
  refine sp_aload_n (i := 0) (q := 1) hX dX11_summer_0 rfl rfl rfl ?_
  refine sp_iload_n (i := 3) (q := 2) hX dX11_summer_1 rfl rfl rfl ?_
  refine sp_iconst (v := 2) (q := 3) hX dX11_summer_2 li_2 rfl ?_
  obtain ⟨σ2, o3, h1, hf⟩ := sp_bx_so hf
  refine sp_callXv (As := [.int a3, .int ((2 : Int32))]) (rest := []) (q := 6) hX (by decide) hR (cnX11_needWhat (sp_st hX) h1) cwX11_245 atX_0 rfl rfl rfl rfl rfl (Nat.le_of_ble_eq_true rfl) (Nat.le_of_ble_eq_true rfl) (Nat.le_of_ble_eq_true rfl) (Nat.le_of_ble_eq_true rfl) (Nat.le_of_ble_eq_true rfl) (Nat.le_of_ble_eq_true rfl) (Nat.le_of_ble_eq_true rfl) dX11_summer_3 rfl hf (fun hf => ?_)
  refine sp_aload_n (i := 0) (q := 7) hX dX11_summer_6 rfl rfl rfl ?_
  refine sp_iload_n (i := 2) (q := 8) hX dX11_summer_7 rfl rfl rfl ?_
  obtain ⟨σ5, o6, h4, hf⟩ := sp_bx_so hf
  refine sp_callXv (As := [.int a2]) (rest := []) (q := 11) hX (by decide) hR (cnX11_needAhead (sp_st hX) h4) cwX11_248 atX_0 rfl rfl rfl rfl rfl (Nat.le_of_ble_eq_true rfl) (Nat.le_of_ble_eq_true rfl) (Nat.le_of_ble_eq_true rfl) (Nat.le_of_ble_eq_true rfl) (Nat.le_of_ble_eq_true rfl) (Nat.le_of_ble_eq_true rfl) (Nat.le_of_ble_eq_true rfl) dX11_summer_8 rfl hf (fun hf => ?_)
  refine sp_aload_n (i := 0) (q := 12) hX dX11_summer_11 rfl rfl rfl ?_
  refine sp_gets (t := 57) (q := 15) hX flX11_65 fkX11_9 atX_0 srX_0_9 dX11_summer_12 rfl ?_
  refine sp_iload_n (i := 1) (q := 16) hX dX11_summer_15 rfl rfl rfl ?_
  refine sp_iload_n (i := 2) (q := 17) hX dX11_summer_16 rfl rfl rfl ?_
  obtain ⟨σ8, r9, h7, hf⟩ := sp_bd_so hf
  refine sp_callVr (As := [.int a1, .int a2]) (rest := []) (q := 20) hX (cnX4_summerEnd (sp_st hX)  h7) cwX11_333 atX_57 rfl rfl rfl rfl rfl (Nat.le_of_ble_eq_true rfl) (Nat.le_of_ble_eq_true rfl) (Nat.le_of_ble_eq_true rfl) (Nat.le_of_ble_eq_true rfl) (Nat.le_of_ble_eq_true rfl) dX11_summer_17 rfl ?_
  obtain ⟨h10, hf⟩ := sp_ck_some hf
  refine sp_nmr (of_decide_eq_true h10).symm ?_
  refine sp_astore (i := 4) (lv' := [some (.ref (sx_ad X 0)), some (.int a1), some (.int a2), some (.int a3), some (.ref (sx_ad X 50))]) (q := 22) hX dX11_summer_20 (Nat.le_of_ble_eq_true rfl) rfl rfl rfl ?_
  refine sp_iload_n (i := 3) (q := 23) hX dX11_summer_22 rfl rfl rfl ?_
  by_cases h15 : a3 = 0
  · rw [if_pos h15] at hf
    refine sp_lkp (off := 25) (tgt := 48) hX dX11_summer_23 (by decide +kernel) (by rw [h15]; decide +kernel) (by decide) ?_
    refine sp_aload_n (i := 0) (q := 49) hX dX11_summer_48 rfl rfl rfl ?_
    refine sp_gets (t := 57) (q := 52) hX flX11_65 fkX11_9 atX_0 srX_0_9 dX11_summer_49 rfl ?_
    obtain ⟨σ13, v14, h12, hf⟩ := sp_bd_so hf
    refine sp_callVi (As := []) (rest := []) (q := 55) hX (cnX4_fightsDreamt (sp_st hX)  h12) cwX11_258 atX_57 rfl rfl rfl rfl rfl (Nat.le_of_ble_eq_true rfl) (Nat.le_of_ble_eq_true rfl) (Nat.le_of_ble_eq_true rfl) (Nat.le_of_ble_eq_true rfl) (Nat.le_of_ble_eq_true rfl) dX11_summer_52 rfl ?_
    exact sp_iretX hX hR dX11_summer_55 hf (Nat.le_of_ble_eq_true rfl) (Nat.le_of_ble_eq_true rfl)
  · rw [if_neg h15] at hf
    by_cases h22 : a3 = 1
    · rw [if_pos h22] at hf
      refine sp_lkp (off := 33) (tgt := 56) hX dX11_summer_23 (by decide +kernel) (by rw [h22]; decide +kernel) (by decide) ?_
      refine sp_aload (i := 4) (q := 58) hX dX11_summer_56 rfl rfl ?_
      obtain ⟨σ17, v18, h16, hf⟩ := sp_bd_so hf
      refine sp_callVi (As := []) (rest := []) (q := 61) hX (cnX8_bladesAtRest (sp_st hX) atX_50 h16) cwX11_147 atX_50 rfl rfl rfl rfl rfl (Nat.le_of_ble_eq_true rfl) (Nat.le_of_ble_eq_true rfl) (Nat.le_of_ble_eq_true rfl) (Nat.le_of_ble_eq_true rfl) (Nat.le_of_ble_eq_true rfl) dX11_summer_58 rfl ?_
      obtain ⟨σ20, v21, h19, hf⟩ := sp_bd_so hf
      refine sp_callSi (As := [.int v18]) (rest := []) (q := 64) hX (cnJ6_bitCount_0f7a4 (sp_st hX)  h19) cwX11_195 rfl rfl rfl rfl (Nat.le_of_ble_eq_true rfl) (Nat.le_of_ble_eq_true rfl) (Nat.le_of_ble_eq_true rfl) (Nat.le_of_ble_eq_true rfl) (Nat.le_of_ble_eq_true rfl) dX11_summer_61 rfl ?_
      exact sp_iretX hX hR dX11_summer_64 hf (Nat.le_of_ble_eq_true rfl) (Nat.le_of_ble_eq_true rfl)
    · rw [if_neg h22] at hf
      refine sp_lkp (off := 42) (tgt := 65) hX dX11_summer_23 (by decide +kernel) ((lv_osw (k := 0) h15 (by decide)).trans ((lv_osw (k := 1) h22 (by decide)).trans (rfl))) (by decide) ?_
      refine sp_aload (i := 4) (q := 67) hX dX11_summer_65 rfl rfl ?_
      obtain ⟨σ24, v25, h23, hf⟩ := sp_bd_so hf
      refine sp_callVi (As := []) (rest := []) (q := 70) hX (cnX8_angerOfAll (sp_st hX) atX_50 h23) cwX11_337 atX_50 rfl rfl rfl rfl rfl (Nat.le_of_ble_eq_true rfl) (Nat.le_of_ble_eq_true rfl) (Nat.le_of_ble_eq_true rfl) (Nat.le_of_ble_eq_true rfl) (Nat.le_of_ble_eq_true rfl) dX11_summer_67 rfl ?_
      exact sp_iretX hX hR dX11_summer_70 hf (Nat.le_of_ble_eq_true rfl) (Nat.le_of_ble_eq_true rfl)
set_option maxRecDepth 100000 in
set_option maxHeartbeats 4000000 in
theorem cnX11_summer {l : Launch} (hst : l.stackTraces = false) {w : sp_Wd} {n : Nat}  {σ : sp_St} {a1 : Int32} {a2 : Int32} {a3 : Int32} {τ : sp_St} {ρ : Int32 ⊕ Nat}  (hf : X11_summer n σ a1 a2 a3 = some (τ, ρ)) : sp_Xi shX l w yX11_summer cX11_summer 5 (some .int) rmX11_summer 2 12 σ [.ref (w.2.1 0), .int a1, .int a2, .int a3] τ ρ :=
  sp_xi (own := RX11) (by decide) rfl hst (Nat.le_of_ble_eq_true rfl) rfl (fun X hX hw hl hR => by subst hw; subst hl; exact hX11_summer hX hR   hf)
