def rmX12_change : Room := { frames := 4, cells := 0, slots := 0, locals := 90 }
def X12_change_150 (n : Nat) (k115 : sp_St → Int32 → Option (sp_St)) (σ : sp_St) (z1 : Int32) : Option (sp_St) :=
  sp_pl (z1 + 1) fun x1 =>
  k115 σ x1
def X12_change_115 (n : Nat) : Nat → sp_St → Int32 → Option (sp_St)
  | 0, _, _ => none
  | f + 1, σ, z1 =>
    if (sp_g σ 3 ((2 : Int32))) ≤ z1 then
      some σ
    else
      sp_ck (sp_in z1 10) <|
      if (sp_g σ 15 z1) = ((1 : Int32)) then
        sp_ck (sp_in z1 10) <|
        if (sp_g σ 14 z1) = 0 then
          sp_bv (X12_takeOut n σ z1 ((2 : Int32))) fun σ4 =>
          X12_change_150 n (X12_change_115 n f) σ4 z1
        else
          X12_change_150 n (X12_change_115 n f) σ z1
      else
        X12_change_150 n (X12_change_115 n f) σ z1
def X12_change_113 (n : Nat) (σ : sp_St) : Option (sp_St) :=
  sp_pl ((0 : Int32)) fun x1 =>
  X12_change_115 n n σ x1
def X12_change_107 (n : Nat) (k31 : sp_St → Int32 → Option (sp_St)) (σ : sp_St) (z1 : Int32) : Option (sp_St) :=
  sp_pl (z1 + 1) fun x1 =>
  k31 σ x1
def X12_change_74 (n : Nat) (k31 : sp_St → Int32 → Option (sp_St)) (σ : sp_St) (z1 : Int32) : Option (sp_St) :=
  sp_ck (sp_in z1 10) <|
  if (sp_g σ 15 z1) = 0 then
    sp_ck (sp_in z1 10) <|
    sp_ck (sp_in z1 10) <|
    sp_pl (sp_min ((99 : Int32)) ((sp_g σ 14 z1) + (sp_g σ 23 z1))) fun v4 =>
    sp_ck (sp_in z1 10) <|
    sp_pl (sp_sa σ 14 z1.toNatClampNeg v4) fun σ7 =>
    X12_change_107 n k31 σ7 z1
  else
    X12_change_107 n k31 σ z1
def X12_change_31 (n : Nat) : Nat → sp_St → Int32 → Option (sp_St)
  | 0, _, _ => none
  | f + 1, σ, z1 =>
    if (sp_g σ 3 ((2 : Int32))) ≤ z1 then
      X12_change_113 n σ
    else
      sp_ck (sp_in z1 10) <|
      if (sp_g σ 15 z1) = ((1 : Int32)) then
        sp_ck (sp_in z1 10) <|
        sp_ck (sp_in z1 10) <|
        sp_pl (sp_max ((0 : Int32)) ((sp_g σ 14 z1) - (sp_g σ 23 z1))) fun v4 =>
        sp_ck (sp_in z1 10) <|
        sp_pl (sp_sa σ 14 z1.toNatClampNeg v4) fun σ7 =>
        X12_change_74 n (X12_change_31 n f) σ7 z1
      else
        X12_change_74 n (X12_change_31 n f) σ z1
def X12_change_29 (n : Nat) (σ : sp_St) : Option (sp_St) :=
  sp_pl ((0 : Int32)) fun x1 =>
  X12_change_31 n n σ x1
def X12_change_2 (n : Nat) : Nat → sp_St → Int32 → Option (sp_St)
  | 0, _, _ => none
  | f + 1, σ, z1 =>
    if (sp_g σ 3 ((2 : Int32))) ≤ z1 then
      X12_change_29 n σ
    else
      sp_bd (X12_changeOf n σ z1) fun σ2 v3 =>
      sp_ck (sp_in z1 10) <|
      sp_pl (sp_sa σ2 23 z1.toNatClampNeg v3) fun σ5 =>
      sp_pl (z1 + 1) fun x7 =>
      X12_change_2 n f σ5 x7
def X12_change (n : Nat)  (σ : sp_St)  : Option (sp_St) :=
  sp_pl ((0 : Int32)) fun x1 =>
  X12_change_2 n n σ x1
set_option maxRecDepth 100000 in
set_option maxHeartbeats 4000000 in
theorem hX12_change_150 {X : sp_X} (hX : sp_OK shM X cX12_change RX12 2 rmX12_change) {τ : sp_St} (hR : sp_Rv shM X τ 0 0) {n : Nat}   {k115 : sp_St → Int32 → Option (sp_St)} (hk115 : ∀ (σ : sp_St) (z1 : Int32), k115 σ z1 = some τ → sp_GG shM X σ 2 [some (.ref (sx_ad X 0)), some (.int z1)] [] 115 0 0) {σ : sp_St} {z1 : Int32} (hf : X12_change_150 n k115 σ z1 = some τ) : sp_GG shM X σ 2 [some (.ref (sx_ad X 0)), some (.int z1)] [] 150 0 0 := by
  unfold X12_change_150 at hf
  obtain ⟨x1, e2, hf⟩ := sp_pl_some hf
  refine sp_iinc (i := 1) (v := x1) (lv' := [some (.ref (sx_ad X 0)), some (.int x1)]) (q := 153) hX dX12_change_150 rfl (by rw [e2, li_1]) (Nat.le_of_ble_eq_true rfl) rfl rfl rfl ?_
  refine sp_goto (tgt := 115) hX dX12_change_153 (by decide) ?_
  exact hk115 σ x1 hf
set_option maxRecDepth 100000 in
set_option maxHeartbeats 4000000 in
theorem hX12_change_115 {X : sp_X} (hX : sp_OK shM X cX12_change RX12 2 rmX12_change) {τ : sp_St} (hR : sp_Rv shM X τ 0 0) {n : Nat}    : ∀ (f : Nat) (σ : sp_St) (z1 : Int32), X12_change_115 n f σ z1 = some τ → sp_GG shM X σ 2 [some (.ref (sx_ad X 0)), some (.int z1)] [] 115 0 0 := by
  intro f
  induction f with
  | zero =>
    intro σ z1 hf
    rw [X12_change_115] at hf
    cases hf
  | succ f ih =>
    intro σ z1 hf
    rw [X12_change_115] at hf
    refine sp_iload_n (i := 1) (q := 116) hX dX12_change_115 rfl rfl rfl ?_
    refine sp_aload_n (i := 0) (q := 117) hX dX12_change_116 rfl rfl rfl ?_
    refine sp_gets (t := 3) (q := 120) hX flX12_33 fkX12_4 atM_0 srM_0_4 dX12_change_117 rfl ?_
    refine sp_iconst (v := 2) (q := 121) hX dX12_change_120 li_2 rfl ?_
    refine sp_iald (q := 122) hX arM_3 (by decide) dX12_change_121 rfl ?_
    refine sp_icmp_ge (tgt := 156) (q := 125) hX dX12_change_122 (by decide) rfl (fun hc => ?_) (fun hc => ?_)
    · rw [if_pos hc] at hf
      exact sp_vret hX hR dX12_change_156 hf (Nat.le_of_ble_eq_true rfl) (Nat.le_of_ble_eq_true rfl)
    · rw [if_neg hc] at hf
      refine sp_aload_n (i := 0) (q := 126) hX dX12_change_125 rfl rfl rfl ?_
      refine sp_gets (t := 15) (q := 129) hX flX12_72 fkX12_27 atM_0 srM_0_27 dX12_change_126 rfl ?_
      refine sp_iload_n (i := 1) (q := 130) hX dX12_change_129 rfl rfl rfl ?_
      obtain ⟨h1, hf⟩ := sp_ck_some hf
      refine sp_iald (q := 131) hX arM_15 h1 dX12_change_130 rfl ?_
      refine sp_iconst (v := 1) (q := 132) hX dX12_change_131 li_1 rfl ?_
      refine sp_icmp_ne (tgt := 150) (q := 135) hX dX12_change_132 (by decide) rfl (fun hc => ?_) (fun hc => ?_)
      · rw [if_neg hc] at hf
        exact hX12_change_150 hX hR ih hf
      · rw [if_pos hc] at hf
        refine sp_aload_n (i := 0) (q := 136) hX dX12_change_135 rfl rfl rfl ?_
        refine sp_gets (t := 14) (q := 139) hX flX12_70 fkX12_26 atM_0 srM_0_26 dX12_change_136 rfl ?_
        refine sp_iload_n (i := 1) (q := 140) hX dX12_change_139 rfl rfl rfl ?_
        obtain ⟨h2, hf⟩ := sp_ck_some hf
        refine sp_iald (q := 141) hX arM_14 h2 dX12_change_140 rfl ?_
        refine sp_if_ne (tgt := 150) (q := 144) hX dX12_change_141 (by decide) rfl (fun hc => ?_) (fun hc => ?_)
        · rw [if_neg hc] at hf
          exact hX12_change_150 hX hR ih hf
        · rw [if_pos hc] at hf
          refine sp_aload_n (i := 0) (q := 145) hX dX12_change_144 rfl rfl rfl ?_
          refine sp_iload_n (i := 1) (q := 146) hX dX12_change_145 rfl rfl rfl ?_
          refine sp_iconst (v := 2) (q := 147) hX dX12_change_146 li_2 rfl ?_
          obtain ⟨σ4, h3, hf⟩ := sp_bv_so hf
          refine sp_callVv (As := [.int z1, .int ((2 : Int32))]) (rest := []) (q := 150) hX (cnX12_takeOut (sp_st hX)  h3) cwX12_377 atM_0 rfl rfl rfl rfl rfl (Nat.le_of_ble_eq_true rfl) (Nat.le_of_ble_eq_true rfl) (Nat.le_of_ble_eq_true rfl) (Nat.le_of_ble_eq_true rfl) (Nat.le_of_ble_eq_true rfl) dX12_change_147 rfl ?_
          exact hX12_change_150 hX hR ih hf
set_option maxRecDepth 100000 in
set_option maxHeartbeats 4000000 in
theorem hX12_change_113 {X : sp_X} (hX : sp_OK shM X cX12_change RX12 2 rmX12_change) {τ : sp_St} (hR : sp_Rv shM X τ 0 0) {n : Nat}    {σ : sp_St} (hf : X12_change_113 n σ = some τ) : sp_GG shM X σ 2 [some (.ref (sx_ad X 0)), none] [] 113 0 0 := by
  unfold X12_change_113 at hf
  refine sp_iconst (v := 0) (q := 114) hX dX12_change_113 li_0 rfl ?_
  obtain ⟨x1, e2, hf⟩ := sp_pl_some hf
  refine sp_nmi e2 ?_
  refine sp_istore_n (i := 1) (lv' := [some (.ref (sx_ad X 0)), some (.int x1)]) (q := 115) hX dX12_change_114 rfl (Nat.le_of_ble_eq_true rfl) rfl rfl rfl ?_
  exact hX12_change_115 hX hR n σ x1 hf
set_option maxRecDepth 100000 in
set_option maxHeartbeats 4000000 in
theorem hX12_change_107 {X : sp_X} (hX : sp_OK shM X cX12_change RX12 2 rmX12_change) {τ : sp_St} (hR : sp_Rv shM X τ 0 0) {n : Nat}   {k31 : sp_St → Int32 → Option (sp_St)} (hk31 : ∀ (σ : sp_St) (z1 : Int32), k31 σ z1 = some τ → sp_GG shM X σ 2 [some (.ref (sx_ad X 0)), some (.int z1)] [] 31 0 0) {σ : sp_St} {z1 : Int32} (hf : X12_change_107 n k31 σ z1 = some τ) : sp_GG shM X σ 2 [some (.ref (sx_ad X 0)), some (.int z1)] [] 107 0 0 := by
  unfold X12_change_107 at hf
  obtain ⟨x1, e2, hf⟩ := sp_pl_some hf
  refine sp_iinc (i := 1) (v := x1) (lv' := [some (.ref (sx_ad X 0)), some (.int x1)]) (q := 110) hX dX12_change_107 rfl (by rw [e2, li_1]) (Nat.le_of_ble_eq_true rfl) rfl rfl rfl ?_
  refine sp_goto (tgt := 31) hX dX12_change_110 (by decide) ?_
  exact hk31 σ x1 hf
set_option maxRecDepth 100000 in
set_option maxHeartbeats 4000000 in
theorem hX12_change_74 {X : sp_X} (hX : sp_OK shM X cX12_change RX12 2 rmX12_change) {τ : sp_St} (hR : sp_Rv shM X τ 0 0) {n : Nat}   {k31 : sp_St → Int32 → Option (sp_St)} (hk31 : ∀ (σ : sp_St) (z1 : Int32), k31 σ z1 = some τ → sp_GG shM X σ 2 [some (.ref (sx_ad X 0)), some (.int z1)] [] 31 0 0) {σ : sp_St} {z1 : Int32} (hf : X12_change_74 n k31 σ z1 = some τ) : sp_GG shM X σ 2 [some (.ref (sx_ad X 0)), some (.int z1)] [] 74 0 0 := by
  unfold X12_change_74 at hf
  refine sp_aload_n (i := 0) (q := 75) hX dX12_change_74 rfl rfl rfl ?_
  refine sp_gets (t := 15) (q := 78) hX flX12_72 fkX12_27 atM_0 srM_0_27 dX12_change_75 rfl ?_
  refine sp_iload_n (i := 1) (q := 79) hX dX12_change_78 rfl rfl rfl ?_
  obtain ⟨h1, hf⟩ := sp_ck_some hf
  refine sp_iald (q := 80) hX arM_15 h1 dX12_change_79 rfl ?_
  refine sp_if_ne (tgt := 107) (q := 83) hX dX12_change_80 (by decide) rfl (fun hc => ?_) (fun hc => ?_)
  · rw [if_neg hc] at hf
    exact hX12_change_107 hX hR hk31 hf
  · rw [if_pos hc] at hf
    refine sp_aload_n (i := 0) (q := 84) hX dX12_change_83 rfl rfl rfl ?_
    refine sp_gets (t := 14) (q := 87) hX flX12_70 fkX12_26 atM_0 srM_0_26 dX12_change_84 rfl ?_
    refine sp_iload_n (i := 1) (q := 88) hX dX12_change_87 rfl rfl rfl ?_
    refine sp_bipush (v := 99) (q := 90) hX dX12_change_88 lb_99 rfl ?_
    refine sp_aload_n (i := 0) (q := 91) hX dX12_change_90 rfl rfl rfl ?_
    refine sp_gets (t := 14) (q := 94) hX flX12_70 fkX12_26 atM_0 srM_0_26 dX12_change_91 rfl ?_
    refine sp_iload_n (i := 1) (q := 95) hX dX12_change_94 rfl rfl rfl ?_
    obtain ⟨h2, hf⟩ := sp_ck_some hf
    refine sp_iald (q := 96) hX arM_14 h2 dX12_change_95 rfl ?_
    refine sp_aload_n (i := 0) (q := 97) hX dX12_change_96 rfl rfl rfl ?_
    refine sp_gets (t := 23) (q := 100) hX flX12_96 fkX12_39 atM_0 srM_0_39 dX12_change_97 rfl ?_
    refine sp_iload_n (i := 1) (q := 101) hX dX12_change_100 rfl rfl rfl ?_
    obtain ⟨h3, hf⟩ := sp_ck_some hf
    refine sp_iald (q := 102) hX arM_23 h3 dX12_change_101 rfl ?_
    refine sp_iadd (q := 103) hX dX12_change_102 rfl ?_
    obtain ⟨v4, e5, hf⟩ := sp_pl_some hf
    refine sp_mmin (q := 106) hX wd_1825 wd_607 wd_144 wd_608 (Nat.le_of_ble_eq_true rfl) (Nat.le_of_ble_eq_true rfl) (Nat.le_of_ble_eq_true rfl) (Nat.le_of_ble_eq_true rfl) dX12_change_103 rfl ?_
    refine sp_nmi e5 ?_
    obtain ⟨h6, hf⟩ := sp_ck_some hf
    obtain ⟨σ7, e8, hf⟩ := sp_pl_some hf
    refine sp_iast (q := 107) hX arM_14 h6 dX12_change_106 rfl ?_
    refine sp_nms e8 ?_
    exact hX12_change_107 hX hR hk31 hf
set_option maxRecDepth 100000 in
set_option maxHeartbeats 4000000 in
theorem hX12_change_31 {X : sp_X} (hX : sp_OK shM X cX12_change RX12 2 rmX12_change) {τ : sp_St} (hR : sp_Rv shM X τ 0 0) {n : Nat}    : ∀ (f : Nat) (σ : sp_St) (z1 : Int32), X12_change_31 n f σ z1 = some τ → sp_GG shM X σ 2 [some (.ref (sx_ad X 0)), some (.int z1)] [] 31 0 0 := by
  intro f
  induction f with
  | zero =>
    intro σ z1 hf
    rw [X12_change_31] at hf
    cases hf
  | succ f ih =>
    intro σ z1 hf
    rw [X12_change_31] at hf
    refine sp_iload_n (i := 1) (q := 32) hX dX12_change_31 rfl rfl rfl ?_
    refine sp_aload_n (i := 0) (q := 33) hX dX12_change_32 rfl rfl rfl ?_
    refine sp_gets (t := 3) (q := 36) hX flX12_33 fkX12_4 atM_0 srM_0_4 dX12_change_33 rfl ?_
    refine sp_iconst (v := 2) (q := 37) hX dX12_change_36 li_2 rfl ?_
    refine sp_iald (q := 38) hX arM_3 (by decide) dX12_change_37 rfl ?_
    refine sp_icmp_ge (tgt := 113) (q := 41) hX dX12_change_38 (by decide) rfl (fun hc => ?_) (fun hc => ?_)
    · rw [if_pos hc] at hf
      refine sp_drop (lv' := [some (.ref (sx_ad X 0)), none]) (And.intro rfl trivial) ?_
      exact hX12_change_113 hX hR hf
    · rw [if_neg hc] at hf
      refine sp_aload_n (i := 0) (q := 42) hX dX12_change_41 rfl rfl rfl ?_
      refine sp_gets (t := 15) (q := 45) hX flX12_72 fkX12_27 atM_0 srM_0_27 dX12_change_42 rfl ?_
      refine sp_iload_n (i := 1) (q := 46) hX dX12_change_45 rfl rfl rfl ?_
      obtain ⟨h1, hf⟩ := sp_ck_some hf
      refine sp_iald (q := 47) hX arM_15 h1 dX12_change_46 rfl ?_
      refine sp_iconst (v := 1) (q := 48) hX dX12_change_47 li_1 rfl ?_
      refine sp_icmp_ne (tgt := 74) (q := 51) hX dX12_change_48 (by decide) rfl (fun hc => ?_) (fun hc => ?_)
      · rw [if_neg hc] at hf
        exact hX12_change_74 hX hR ih hf
      · rw [if_pos hc] at hf
        refine sp_aload_n (i := 0) (q := 52) hX dX12_change_51 rfl rfl rfl ?_
        refine sp_gets (t := 14) (q := 55) hX flX12_70 fkX12_26 atM_0 srM_0_26 dX12_change_52 rfl ?_
        refine sp_iload_n (i := 1) (q := 56) hX dX12_change_55 rfl rfl rfl ?_
        refine sp_iconst (v := 0) (q := 57) hX dX12_change_56 li_0 rfl ?_
        refine sp_aload_n (i := 0) (q := 58) hX dX12_change_57 rfl rfl rfl ?_
        refine sp_gets (t := 14) (q := 61) hX flX12_70 fkX12_26 atM_0 srM_0_26 dX12_change_58 rfl ?_
        refine sp_iload_n (i := 1) (q := 62) hX dX12_change_61 rfl rfl rfl ?_
        obtain ⟨h2, hf⟩ := sp_ck_some hf
        refine sp_iald (q := 63) hX arM_14 h2 dX12_change_62 rfl ?_
        refine sp_aload_n (i := 0) (q := 64) hX dX12_change_63 rfl rfl rfl ?_
        refine sp_gets (t := 23) (q := 67) hX flX12_96 fkX12_39 atM_0 srM_0_39 dX12_change_64 rfl ?_
        refine sp_iload_n (i := 1) (q := 68) hX dX12_change_67 rfl rfl rfl ?_
        obtain ⟨h3, hf⟩ := sp_ck_some hf
        refine sp_iald (q := 69) hX arM_23 h3 dX12_change_68 rfl ?_
        refine sp_isub (q := 70) hX dX12_change_69 rfl ?_
        obtain ⟨v4, e5, hf⟩ := sp_pl_some hf
        refine sp_mmax (q := 73) hX wd_1991 wd_656 wd_144 wd_657 (Nat.le_of_ble_eq_true rfl) (Nat.le_of_ble_eq_true rfl) (Nat.le_of_ble_eq_true rfl) (Nat.le_of_ble_eq_true rfl) dX12_change_70 rfl ?_
        refine sp_nmi e5 ?_
        obtain ⟨h6, hf⟩ := sp_ck_some hf
        obtain ⟨σ7, e8, hf⟩ := sp_pl_some hf
        refine sp_iast (q := 74) hX arM_14 h6 dX12_change_73 rfl ?_
        refine sp_nms e8 ?_
        exact hX12_change_74 hX hR ih hf
set_option maxRecDepth 100000 in
set_option maxHeartbeats 4000000 in
theorem hX12_change_29 {X : sp_X} (hX : sp_OK shM X cX12_change RX12 2 rmX12_change) {τ : sp_St} (hR : sp_Rv shM X τ 0 0) {n : Nat}    {σ : sp_St} (hf : X12_change_29 n σ = some τ) : sp_GG shM X σ 2 [some (.ref (sx_ad X 0)), none] [] 29 0 0 := by
  unfold X12_change_29 at hf
  refine sp_iconst (v := 0) (q := 30) hX dX12_change_29 li_0 rfl ?_
  obtain ⟨x1, e2, hf⟩ := sp_pl_some hf
  refine sp_nmi e2 ?_
  refine sp_istore_n (i := 1) (lv' := [some (.ref (sx_ad X 0)), some (.int x1)]) (q := 31) hX dX12_change_30 rfl (Nat.le_of_ble_eq_true rfl) rfl rfl rfl ?_
  exact hX12_change_31 hX hR n σ x1 hf
set_option maxRecDepth 100000 in
set_option maxHeartbeats 4000000 in
theorem hX12_change_2 {X : sp_X} (hX : sp_OK shM X cX12_change RX12 2 rmX12_change) {τ : sp_St} (hR : sp_Rv shM X τ 0 0) {n : Nat}    : ∀ (f : Nat) (σ : sp_St) (z1 : Int32), X12_change_2 n f σ z1 = some τ → sp_GG shM X σ 2 [some (.ref (sx_ad X 0)), some (.int z1)] [] 2 0 0 := by
  intro f
  induction f with
  | zero =>
    intro σ z1 hf
    rw [X12_change_2] at hf
    cases hf
  | succ f ih =>
    intro σ z1 hf
    rw [X12_change_2] at hf
    refine sp_iload_n (i := 1) (q := 3) hX dX12_change_2 rfl rfl rfl ?_
    refine sp_aload_n (i := 0) (q := 4) hX dX12_change_3 rfl rfl rfl ?_
    refine sp_gets (t := 3) (q := 7) hX flX12_33 fkX12_4 atM_0 srM_0_4 dX12_change_4 rfl ?_
    refine sp_iconst (v := 2) (q := 8) hX dX12_change_7 li_2 rfl ?_
    refine sp_iald (q := 9) hX arM_3 (by decide) dX12_change_8 rfl ?_
    refine sp_icmp_ge (tgt := 29) (q := 12) hX dX12_change_9 (by decide) rfl (fun hc => ?_) (fun hc => ?_)
    · rw [if_pos hc] at hf
      refine sp_drop (lv' := [some (.ref (sx_ad X 0)), none]) (And.intro rfl trivial) ?_
      exact hX12_change_29 hX hR hf
    · rw [if_neg hc] at hf
      refine sp_aload_n (i := 0) (q := 13) hX dX12_change_12 rfl rfl rfl ?_
      refine sp_gets (t := 23) (q := 16) hX flX12_96 fkX12_39 atM_0 srM_0_39 dX12_change_13 rfl ?_
      refine sp_iload_n (i := 1) (q := 17) hX dX12_change_16 rfl rfl rfl ?_
      refine sp_aload_n (i := 0) (q := 18) hX dX12_change_17 rfl rfl rfl ?_
      refine sp_iload_n (i := 1) (q := 19) hX dX12_change_18 rfl rfl rfl ?_
      obtain ⟨σ2, v3, h1, hf⟩ := sp_bd_so hf
      refine sp_callVi (As := [.int z1]) (rest := [.int z1, .ref (sx_ad X 23)]) (q := 22) hX (cnX12_changeOf (sp_st hX)  h1) cwX12_374 atM_0 rfl rfl rfl rfl rfl (Nat.le_of_ble_eq_true rfl) (Nat.le_of_ble_eq_true rfl) (Nat.le_of_ble_eq_true rfl) (Nat.le_of_ble_eq_true rfl) (Nat.le_of_ble_eq_true rfl) dX12_change_19 rfl ?_
      obtain ⟨h4, hf⟩ := sp_ck_some hf
      obtain ⟨σ5, e6, hf⟩ := sp_pl_some hf
      refine sp_iast (q := 23) hX arM_23 h4 dX12_change_22 rfl ?_
      refine sp_nms e6 ?_
      obtain ⟨x7, e8, hf⟩ := sp_pl_some hf
      refine sp_iinc (i := 1) (v := x7) (lv' := [some (.ref (sx_ad X 0)), some (.int x7)]) (q := 26) hX dX12_change_23 rfl (by rw [e8, li_1]) (Nat.le_of_ble_eq_true rfl) rfl rfl rfl ?_
      refine sp_goto (tgt := 2) hX dX12_change_26 (by decide) ?_
      exact ih σ5 x7 hf
set_option maxRecDepth 100000 in
set_option maxHeartbeats 4000000 in
theorem hX12_change {X : sp_X} (hX : sp_OK shM X cX12_change RX12 2 rmX12_change) {τ : sp_St} (hR : sp_Rv shM X τ 0 0) {n : Nat}  {σ : sp_St}   (hf : X12_change n σ = some τ) : sp_GG shM X σ 2 [some (.ref (sx_ad X 0)), none] [] 0 0 0 := by
  unfold X12_change at hf
  refine sp_iconst (v := 0) (q := 1) hX dX12_change_0 li_0 rfl ?_
  obtain ⟨x1, e2, hf⟩ := sp_pl_some hf
  refine sp_nmi e2 ?_
  refine sp_istore_n (i := 1) (lv' := [some (.ref (sx_ad X 0)), some (.int x1)]) (q := 2) hX dX12_change_1 rfl (Nat.le_of_ble_eq_true rfl) rfl rfl rfl ?_
  exact hX12_change_2 hX hR n σ x1 hf
set_option maxRecDepth 100000 in
set_option maxHeartbeats 4000000 in
theorem cnX12_change {l : Launch} (hst : l.stackTraces = false) {w : sp_Wd} {n : Nat}  {σ : sp_St}  {τ : sp_St}  (hf : X12_change n σ = some τ) : sp_Cv shM l w yX12_change cX12_change 2 rmX12_change 0 0 σ [.ref (w.2.1 0)] τ :=
  sp_cv (own := RX12) (by decide) rfl hst (Nat.le_of_ble_eq_true rfl) rfl (fun X hX hw hl hR => by subst hw; subst hl; exact hX12_change hX hR   hf)
def rmX12_isAngry : Room := { frames := 1, cells := 0, slots := 0, locals := 21 }
def X12_isAngry_37 (n : Nat) (σ : sp_St) (zs0 : Int32) : Option (sp_St × Int32) :=
  sp_ck (sp_zb zs0) <|
  some (σ, zs0)
def X12_isAngry_36 (n : Nat) (σ : sp_St) : Option (sp_St × Int32) :=
  X12_isAngry_37 n σ ((0 : Int32))
def X12_isAngry (n : Nat)  (σ : sp_St) (a1 : Int32) (a2 : Int32) : Option (sp_St × Int32) :=
  sp_ck (sp_in a1 10) <|
  if (sp_g σ 15 a1) = 0 then
    sp_ck (sp_in a1 10) <|
    if (sp_g σ 14 a1) < (sp_g σ 3 ((3 : Int32))) then
      X12_isAngry_36 n σ
    else
      sp_bd (X12_isOf n σ a2 a1) fun σ4 v5 =>
      if v5 = 0 then
        X12_isAngry_37 n σ4 ((1 : Int32))
      else
        X12_isAngry_36 n σ4
  else
    X12_isAngry_36 n σ
set_option maxRecDepth 100000 in
set_option maxHeartbeats 4000000 in
theorem hX12_isAngry_37 {X : sp_X} (hX : sp_OK shM X cX12_isAngry RX12 3 rmX12_isAngry) {τ : sp_St} {r : Int32} (hR : sp_Ri shM X (some .boolean) τ r 0 0) {n : Nat}    {σ : sp_St} {zs0 : Int32} (hf : X12_isAngry_37 n σ zs0 = some (τ, r)) : sp_GG shM X σ 3 [none, none, none] [.int zs0] 37 0 0 := by
  unfold X12_isAngry_37 at hf
  obtain ⟨h1, hf⟩ := sp_ck_some hf
  exact sp_zret hX hR h1 dX12_isAngry_37 hf (Nat.le_of_ble_eq_true rfl) (Nat.le_of_ble_eq_true rfl)
set_option maxRecDepth 100000 in
set_option maxHeartbeats 4000000 in
theorem hX12_isAngry_36 {X : sp_X} (hX : sp_OK shM X cX12_isAngry RX12 3 rmX12_isAngry) {τ : sp_St} {r : Int32} (hR : sp_Ri shM X (some .boolean) τ r 0 0) {n : Nat}    {σ : sp_St} (hf : X12_isAngry_36 n σ = some (τ, r)) : sp_GG shM X σ 3 [none, none, none] [] 36 0 0 := by
  unfold X12_isAngry_36 at hf
  refine sp_iconst (v := 0) (q := 37) hX dX12_isAngry_36 li_0 rfl ?_
  exact hX12_isAngry_37 hX hR hf
set_option maxRecDepth 100000 in
set_option maxHeartbeats 4000000 in
theorem hX12_isAngry {X : sp_X} (hX : sp_OK shM X cX12_isAngry RX12 3 rmX12_isAngry) {τ : sp_St} {r : Int32} (hR : sp_Ri shM X (some .boolean) τ r 0 0) {n : Nat}  {σ : sp_St} {a1 : Int32} {a2 : Int32}  (hf : X12_isAngry n σ a1 a2 = some (τ, r)) : sp_GG shM X σ 3 [some (.ref (sx_ad X 0)), some (.int a1), some (.int a2)] [] 0 0 0 := by
  unfold X12_isAngry at hf
  refine sp_aload_n (i := 0) (q := 1) hX dX12_isAngry_0 rfl rfl rfl ?_
  refine sp_gets (t := 15) (q := 4) hX flX12_72 fkX12_27 atM_0 srM_0_27 dX12_isAngry_1 rfl ?_
  refine sp_iload_n (i := 1) (q := 5) hX dX12_isAngry_4 rfl rfl rfl ?_
  obtain ⟨h1, hf⟩ := sp_ck_some hf
  refine sp_iald (q := 6) hX arM_15 h1 dX12_isAngry_5 rfl ?_
  refine sp_if_ne (tgt := 36) (q := 9) hX dX12_isAngry_6 (by decide) rfl (fun hc => ?_) (fun hc => ?_)
  · rw [if_neg hc] at hf
    refine sp_drop (lv' := [none, none, none]) trivial ?_
    exact hX12_isAngry_36 hX hR hf
  · rw [if_pos hc] at hf
    refine sp_aload_n (i := 0) (q := 10) hX dX12_isAngry_9 rfl rfl rfl ?_
    refine sp_gets (t := 14) (q := 13) hX flX12_70 fkX12_26 atM_0 srM_0_26 dX12_isAngry_10 rfl ?_
    refine sp_iload_n (i := 1) (q := 14) hX dX12_isAngry_13 rfl rfl rfl ?_
    obtain ⟨h2, hf⟩ := sp_ck_some hf
    refine sp_iald (q := 15) hX arM_14 h2 dX12_isAngry_14 rfl ?_
    refine sp_aload_n (i := 0) (q := 16) hX dX12_isAngry_15 rfl rfl rfl ?_
    refine sp_gets (t := 3) (q := 19) hX flX12_33 fkX12_4 atM_0 srM_0_4 dX12_isAngry_16 rfl ?_
    refine sp_iconst (v := 3) (q := 20) hX dX12_isAngry_19 li_3 rfl ?_
    refine sp_iald (q := 21) hX arM_3 (by decide) dX12_isAngry_20 rfl ?_
    refine sp_icmp_lt (tgt := 36) (q := 24) hX dX12_isAngry_21 (by decide) rfl (fun hc => ?_) (fun hc => ?_)
    · rw [if_pos hc] at hf
      refine sp_drop (lv' := [none, none, none]) trivial ?_
      exact hX12_isAngry_36 hX hR hf
    · rw [if_neg hc] at hf
      refine sp_iload_n (i := 2) (q := 25) hX dX12_isAngry_24 rfl rfl rfl ?_
      refine sp_iload_n (i := 1) (q := 26) hX dX12_isAngry_25 rfl rfl rfl ?_
      obtain ⟨σ4, v5, h3, hf⟩ := sp_bd_so hf
      refine sp_callSi (As := [.int a2, .int a1]) (rest := []) (q := 29) hX (cnX12_isOf (sp_st hX)  h3) cwX12_284 rfl rfl rfl rfl (Nat.le_of_ble_eq_true rfl) (Nat.le_of_ble_eq_true rfl) (Nat.le_of_ble_eq_true rfl) (Nat.le_of_ble_eq_true rfl) (Nat.le_of_ble_eq_true rfl) dX12_isAngry_26 rfl ?_
      refine sp_if_ne (tgt := 36) (q := 32) hX dX12_isAngry_29 (by decide) rfl (fun hc => ?_) (fun hc => ?_)
      · rw [if_neg hc] at hf
        refine sp_drop (lv' := [none, none, none]) trivial ?_
        exact hX12_isAngry_36 hX hR hf
      · rw [if_pos hc] at hf
        refine sp_iconst (v := 1) (q := 33) hX dX12_isAngry_32 li_1 rfl ?_
        refine sp_goto (tgt := 37) hX dX12_isAngry_33 (by decide) ?_
        refine sp_drop (lv' := [none, none, none]) trivial ?_
        exact hX12_isAngry_37 hX hR hf
set_option maxRecDepth 100000 in
set_option maxHeartbeats 4000000 in
theorem cnX12_isAngry {l : Launch} (hst : l.stackTraces = false) {w : sp_Wd} {n : Nat}  {σ : sp_St} {a1 : Int32} {a2 : Int32} {τ : sp_St} {r : Int32}  (hf : X12_isAngry n σ a1 a2 = some (τ, r)) : sp_Ci shM l w yX12_isAngry cX12_isAngry 3 (some .boolean) rmX12_isAngry 0 0 σ [.ref (w.2.1 0), .int a1, .int a2] τ r :=
  sp_ci (own := RX12) (by decide) rfl hst (Nat.le_of_ble_eq_true rfl) rfl (fun X hX hw hl hR => by subst hw; subst hl; exact hX12_isAngry hX hR   hf)
def rmX12_fight : Room := { frames := 2, cells := 0, slots := 0, locals := 43 }
def X12_fight_134 (n : Nat) (k4 : sp_St → Int32 → Int32 → Option (sp_St)) (σ : sp_St) (z1 : Int32) (z2 : Int32) : Option (sp_St) :=
  sp_pl (z2 + 1) fun x1 =>
  k4 σ z1 x1
def X12_fight_128 (n : Nat) (k4 : sp_St → Int32 → Int32 → Option (sp_St)) (k18 : sp_St → Int32 → Int32 → Int32 → Option (sp_St)) (σ : sp_St) (z1 : Int32) (z2 : Int32) (z3 : Int32) : Option (sp_St) :=
  sp_pl (z3 + 1) fun x1 =>
  k18 σ z1 z2 x1
def X12_fight_18 (n : Nat) (k4 : sp_St → Int32 → Int32 → Option (sp_St)) : Nat → sp_St → Int32 → Int32 → Int32 → Option (sp_St)
  | 0, _, _, _, _ => none
  | f + 1, σ, z1, z2, z3 =>
    if (sp_g σ 3 ((2 : Int32))) ≤ z3 then
      X12_fight_134 n k4 σ z1 z2
    else
      sp_bd (X12_isAngry n σ z2 z1) fun σ2 v3 =>
      if v3 = 0 then
        X12_fight_128 n k4 (X12_fight_18 n k4 f) σ2 z1 z2 z3
      else
        sp_bd (X12_isAngry n σ2 z3 z1) fun σ5 v6 =>
        if v6 = 0 then
          X12_fight_128 n k4 (X12_fight_18 n k4 f) σ5 z1 z2 z3
        else
          sp_bd (X12_isFeud n σ5 z2 z3) fun σ8 v9 =>
          if v9 = 0 then
            X12_fight_128 n k4 (X12_fight_18 n k4 f) σ8 z1 z2 z3
          else
            sp_ck (sp_in z2 10) <|
            sp_ck (!decide (((2 : Int32)) = 0)) <|
            sp_ck (sp_in z2 10) <|
            sp_pl (sp_sa σ8 14 z2.toNatClampNeg ((sp_g σ8 14 z2) / ((2 : Int32)))) fun σ13 =>
            sp_ck (sp_in z3 10) <|
            sp_ck (!decide (((2 : Int32)) = 0)) <|
            sp_ck (sp_in z3 10) <|
            sp_pl (sp_sa σ13 14 z3.toNatClampNeg ((sp_g σ13 14 z3) / ((2 : Int32)))) fun σ18 =>
            sp_pl (z1 ||| ((((1 : Int32)) <<< (z2 &&& 31)) ||| (((1 : Int32)) <<< (z3 &&& 31)))) fun x20 =>
            sp_pl (sp_si σ18 0 34 ((σ18.1 0 34) + ((1 : Int32)))) fun σ22 =>
            sp_ck (sp_in z2 20) <|
            sp_ck (sp_in (sp_g σ22 7 z2) 6) <|
            sp_ck (sp_in (sp_g σ22 7 z2) 6) <|
            sp_pl (sp_sa σ22 24 (sp_g σ22 7 z2).toNatClampNeg ((sp_g σ22 24 (sp_g σ22 7 z2)) + ((1 : Int32)))) fun σ27 =>
            sp_ck (sp_in z3 20) <|
            sp_ck (sp_in (sp_g σ27 7 z3) 6) <|
            sp_ck (sp_in (sp_g σ27 7 z3) 6) <|
            sp_pl (sp_sa σ27 24 (sp_g σ27 7 z3).toNatClampNeg ((sp_g σ27 24 (sp_g σ27 7 z3)) + ((1 : Int32)))) fun σ32 =>
            X12_fight_128 n k4 (X12_fight_18 n k4 f) σ32 x20 z2 z3
def X12_fight_4 (n : Nat) : Nat → sp_St → Int32 → Int32 → Option (sp_St)
  | 0, _, _, _ => none
  | f + 1, σ, z1, z2 =>
    if (sp_g σ 3 ((2 : Int32))) ≤ z2 then
      some σ
    else
      sp_pl (z2 + ((1 : Int32))) fun x1 =>
      X12_fight_18 n (X12_fight_4 n f) n σ z1 z2 x1
def X12_fight (n : Nat)  (σ : sp_St)  : Option (sp_St) :=
  sp_pl ((0 : Int32)) fun x1 =>
  sp_pl ((0 : Int32)) fun x3 =>
  X12_fight_4 n n σ x1 x3
set_option maxRecDepth 100000 in
set_option maxHeartbeats 4000000 in
theorem hX12_fight_134 {X : sp_X} (hX : sp_OK shM X cX12_fight RX12 4 rmX12_fight) {τ : sp_St} (hR : sp_Rv shM X τ 0 0) {n : Nat}   {k4 : sp_St → Int32 → Int32 → Option (sp_St)} (hk4 : ∀ (σ : sp_St) (z1 : Int32) (z2 : Int32), k4 σ z1 z2 = some τ → sp_GG shM X σ 4 [some (.ref (sx_ad X 0)), some (.int z1), some (.int z2), none] [] 4 0 0) {σ : sp_St} {z1 : Int32} {z2 : Int32} (hf : X12_fight_134 n k4 σ z1 z2 = some τ) : sp_GG shM X σ 4 [some (.ref (sx_ad X 0)), some (.int z1), some (.int z2), none] [] 134 0 0 := by
  unfold X12_fight_134 at hf
  obtain ⟨x1, e2, hf⟩ := sp_pl_some hf
  refine sp_iinc (i := 2) (v := x1) (lv' := [some (.ref (sx_ad X 0)), some (.int z1), some (.int x1), none]) (q := 137) hX dX12_fight_134 rfl (by rw [e2, li_1]) (Nat.le_of_ble_eq_true rfl) rfl rfl rfl ?_
  refine sp_goto (tgt := 4) hX dX12_fight_137 (by decide) ?_
  exact hk4 σ z1 x1 hf
set_option maxRecDepth 100000 in
set_option maxHeartbeats 4000000 in
theorem hX12_fight_128 {X : sp_X} (hX : sp_OK shM X cX12_fight RX12 4 rmX12_fight) {τ : sp_St} (hR : sp_Rv shM X τ 0 0) {n : Nat}   {k4 : sp_St → Int32 → Int32 → Option (sp_St)} (hk4 : ∀ (σ : sp_St) (z1 : Int32) (z2 : Int32), k4 σ z1 z2 = some τ → sp_GG shM X σ 4 [some (.ref (sx_ad X 0)), some (.int z1), some (.int z2), none] [] 4 0 0) {k18 : sp_St → Int32 → Int32 → Int32 → Option (sp_St)} (hk18 : ∀ (σ : sp_St) (z1 : Int32) (z2 : Int32) (z3 : Int32), k18 σ z1 z2 z3 = some τ → sp_GG shM X σ 4 [some (.ref (sx_ad X 0)), some (.int z1), some (.int z2), some (.int z3)] [] 18 0 0) {σ : sp_St} {z1 : Int32} {z2 : Int32} {z3 : Int32} (hf : X12_fight_128 n k4 k18 σ z1 z2 z3 = some τ) : sp_GG shM X σ 4 [some (.ref (sx_ad X 0)), some (.int z1), some (.int z2), some (.int z3)] [] 128 0 0 := by
  unfold X12_fight_128 at hf
  obtain ⟨x1, e2, hf⟩ := sp_pl_some hf
  refine sp_iinc (i := 3) (v := x1) (lv' := [some (.ref (sx_ad X 0)), some (.int z1), some (.int z2), some (.int x1)]) (q := 131) hX dX12_fight_128 rfl (by rw [e2, li_1]) (Nat.le_of_ble_eq_true rfl) rfl rfl rfl ?_
  refine sp_goto (tgt := 18) hX dX12_fight_131 (by decide) ?_
  exact hk18 σ z1 z2 x1 hf
set_option maxRecDepth 100000 in
set_option maxHeartbeats 4000000 in
theorem hX12_fight_18 {X : sp_X} (hX : sp_OK shM X cX12_fight RX12 4 rmX12_fight) {τ : sp_St} (hR : sp_Rv shM X τ 0 0) {n : Nat}   {k4 : sp_St → Int32 → Int32 → Option (sp_St)} (hk4 : ∀ (σ : sp_St) (z1 : Int32) (z2 : Int32), k4 σ z1 z2 = some τ → sp_GG shM X σ 4 [some (.ref (sx_ad X 0)), some (.int z1), some (.int z2), none] [] 4 0 0) : ∀ (f : Nat) (σ : sp_St) (z1 : Int32) (z2 : Int32) (z3 : Int32), X12_fight_18 n k4 f σ z1 z2 z3 = some τ → sp_GG shM X σ 4 [some (.ref (sx_ad X 0)), some (.int z1), some (.int z2), some (.int z3)] [] 18 0 0 := by
  intro f
  induction f with
  | zero =>
    intro σ z1 z2 z3 hf
    rw [X12_fight_18] at hf
    cases hf
  | succ f ih =>
    intro σ z1 z2 z3 hf
    rw [X12_fight_18] at hf
    refine sp_iload_n (i := 3) (q := 19) hX dX12_fight_18 rfl rfl rfl ?_
    refine sp_aload_n (i := 0) (q := 20) hX dX12_fight_19 rfl rfl rfl ?_
    refine sp_gets (t := 3) (q := 23) hX flX12_33 fkX12_4 atM_0 srM_0_4 dX12_fight_20 rfl ?_
    refine sp_iconst (v := 2) (q := 24) hX dX12_fight_23 li_2 rfl ?_
    refine sp_iald (q := 25) hX arM_3 (by decide) dX12_fight_24 rfl ?_
    refine sp_icmp_ge (tgt := 134) (q := 28) hX dX12_fight_25 (by decide) rfl (fun hc => ?_) (fun hc => ?_)
    · rw [if_pos hc] at hf
      refine sp_drop (lv' := [some (.ref (sx_ad X 0)), some (.int z1), some (.int z2), none]) (And.intro rfl (And.intro rfl (And.intro rfl trivial))) ?_
      exact hX12_fight_134 hX hR hk4 hf
    · rw [if_neg hc] at hf
      refine sp_aload_n (i := 0) (q := 29) hX dX12_fight_28 rfl rfl rfl ?_
      refine sp_iload_n (i := 2) (q := 30) hX dX12_fight_29 rfl rfl rfl ?_
      refine sp_iload_n (i := 1) (q := 31) hX dX12_fight_30 rfl rfl rfl ?_
      obtain ⟨σ2, v3, h1, hf⟩ := sp_bd_so hf
      refine sp_callVi (As := [.int z2, .int z1]) (rest := []) (q := 34) hX (cnX12_isAngry (sp_st hX)  h1) cwX12_381 atM_0 rfl rfl rfl rfl rfl (Nat.le_of_ble_eq_true rfl) (Nat.le_of_ble_eq_true rfl) (Nat.le_of_ble_eq_true rfl) (Nat.le_of_ble_eq_true rfl) (Nat.le_of_ble_eq_true rfl) dX12_fight_31 rfl ?_
      refine sp_if_eq (tgt := 128) (q := 37) hX dX12_fight_34 (by decide) rfl (fun hc => ?_) (fun hc => ?_)
      · rw [if_pos hc] at hf
        exact hX12_fight_128 hX hR hk4 ih hf
      · rw [if_neg hc] at hf
        refine sp_aload_n (i := 0) (q := 38) hX dX12_fight_37 rfl rfl rfl ?_
        refine sp_iload_n (i := 3) (q := 39) hX dX12_fight_38 rfl rfl rfl ?_
        refine sp_iload_n (i := 1) (q := 40) hX dX12_fight_39 rfl rfl rfl ?_
        obtain ⟨σ5, v6, h4, hf⟩ := sp_bd_so hf
        refine sp_callVi (As := [.int z3, .int z1]) (rest := []) (q := 43) hX (cnX12_isAngry (sp_st hX)  h4) cwX12_381 atM_0 rfl rfl rfl rfl rfl (Nat.le_of_ble_eq_true rfl) (Nat.le_of_ble_eq_true rfl) (Nat.le_of_ble_eq_true rfl) (Nat.le_of_ble_eq_true rfl) (Nat.le_of_ble_eq_true rfl) dX12_fight_40 rfl ?_
        refine sp_if_eq (tgt := 128) (q := 46) hX dX12_fight_43 (by decide) rfl (fun hc => ?_) (fun hc => ?_)
        · rw [if_pos hc] at hf
          exact hX12_fight_128 hX hR hk4 ih hf
        · rw [if_neg hc] at hf
          refine sp_aload_n (i := 0) (q := 47) hX dX12_fight_46 rfl rfl rfl ?_
          refine sp_iload_n (i := 2) (q := 48) hX dX12_fight_47 rfl rfl rfl ?_
          refine sp_iload_n (i := 3) (q := 49) hX dX12_fight_48 rfl rfl rfl ?_
          obtain ⟨σ8, v9, h7, hf⟩ := sp_bd_so hf
          refine sp_callVi (As := [.int z2, .int z3]) (rest := []) (q := 52) hX (cnX12_isFeud (sp_st hX)  h7) cwX12_351 atM_0 rfl rfl rfl rfl rfl (Nat.le_of_ble_eq_true rfl) (Nat.le_of_ble_eq_true rfl) (Nat.le_of_ble_eq_true rfl) (Nat.le_of_ble_eq_true rfl) (Nat.le_of_ble_eq_true rfl) dX12_fight_49 rfl ?_
          refine sp_if_ne (tgt := 58) (q := 55) hX dX12_fight_52 (by decide) rfl (fun hc => ?_) (fun hc => ?_)
          · rw [if_neg hc] at hf
            refine sp_aload_n (i := 0) (q := 59) hX dX12_fight_58 rfl rfl rfl ?_
            refine sp_gets (t := 14) (q := 62) hX flX12_70 fkX12_26 atM_0 srM_0_26 dX12_fight_59 rfl ?_
            refine sp_iload_n (i := 2) (q := 63) hX dX12_fight_62 rfl rfl rfl ?_
            refine sp_dup2 (q := 64) hX dX12_fight_63 rfl rfl rfl ?_
            obtain ⟨h10, hf⟩ := sp_ck_some hf
            refine sp_iald (q := 65) hX arM_14 h10 dX12_fight_64 rfl ?_
            refine sp_iconst (v := 2) (q := 66) hX dX12_fight_65 li_2 rfl ?_
            obtain ⟨h11, hf⟩ := sp_ck_some hf
            refine sp_idiv (q := 67) hX dX12_fight_66 (sp_nz h11) rfl ?_
            obtain ⟨h12, hf⟩ := sp_ck_some hf
            obtain ⟨σ13, e14, hf⟩ := sp_pl_some hf
            refine sp_iast (q := 68) hX arM_14 h12 dX12_fight_67 rfl ?_
            refine sp_nms e14 ?_
            refine sp_aload_n (i := 0) (q := 69) hX dX12_fight_68 rfl rfl rfl ?_
            refine sp_gets (t := 14) (q := 72) hX flX12_70 fkX12_26 atM_0 srM_0_26 dX12_fight_69 rfl ?_
            refine sp_iload_n (i := 3) (q := 73) hX dX12_fight_72 rfl rfl rfl ?_
            refine sp_dup2 (q := 74) hX dX12_fight_73 rfl rfl rfl ?_
            obtain ⟨h15, hf⟩ := sp_ck_some hf
            refine sp_iald (q := 75) hX arM_14 h15 dX12_fight_74 rfl ?_
            refine sp_iconst (v := 2) (q := 76) hX dX12_fight_75 li_2 rfl ?_
            obtain ⟨h16, hf⟩ := sp_ck_some hf
            refine sp_idiv (q := 77) hX dX12_fight_76 (sp_nz h16) rfl ?_
            obtain ⟨h17, hf⟩ := sp_ck_some hf
            obtain ⟨σ18, e19, hf⟩ := sp_pl_some hf
            refine sp_iast (q := 78) hX arM_14 h17 dX12_fight_77 rfl ?_
            refine sp_nms e19 ?_
            refine sp_iload_n (i := 1) (q := 79) hX dX12_fight_78 rfl rfl rfl ?_
            refine sp_iconst (v := 1) (q := 80) hX dX12_fight_79 li_1 rfl ?_
            refine sp_iload_n (i := 2) (q := 81) hX dX12_fight_80 rfl rfl rfl ?_
            refine sp_ishl (q := 82) hX dX12_fight_81 rfl ?_
            refine sp_iconst (v := 1) (q := 83) hX dX12_fight_82 li_1 rfl ?_
            refine sp_iload_n (i := 3) (q := 84) hX dX12_fight_83 rfl rfl rfl ?_
            refine sp_ishl (q := 85) hX dX12_fight_84 rfl ?_
            refine sp_ior (q := 86) hX dX12_fight_85 rfl ?_
            refine sp_ior (q := 87) hX dX12_fight_86 rfl ?_
            obtain ⟨x20, e21, hf⟩ := sp_pl_some hf
            refine sp_nmi e21 ?_
            refine sp_istore_n (i := 1) (lv' := [some (.ref (sx_ad X 0)), some (.int x20), some (.int z2), some (.int z3)]) (q := 88) hX dX12_fight_87 rfl (Nat.le_of_ble_eq_true rfl) rfl rfl rfl ?_
            refine sp_aload_n (i := 0) (q := 89) hX dX12_fight_88 rfl rfl rfl ?_
            refine sp_dup (q := 90) hX dX12_fight_89 rfl rfl ?_
            refine sp_geti (q := 93) hX flX12_327 fkX12_34 atM_0 dX12_fight_90 rfl ?_
            refine sp_iconst (v := 1) (q := 94) hX dX12_fight_93 li_1 rfl ?_
            refine sp_iadd (q := 95) hX dX12_fight_94 rfl ?_
            obtain ⟨σ22, e23, hf⟩ := sp_pl_some hf
            refine sp_puti (q := 98) hX fpX12_327 fkX12_34 atM_0 dX12_fight_95 rfl ?_
            refine sp_nms e23 ?_
            refine sp_aload_n (i := 0) (q := 99) hX dX12_fight_98 rfl rfl rfl ?_
            refine sp_gets (t := 24) (q := 102) hX flX12_99 fkX12_40 atM_0 srM_0_40 dX12_fight_99 rfl ?_
            refine sp_aload_n (i := 0) (q := 103) hX dX12_fight_102 rfl rfl rfl ?_
            refine sp_gets (t := 7) (q := 106) hX flX12_46 fkX12_8 atM_0 srM_0_8 dX12_fight_103 rfl ?_
            refine sp_iload_n (i := 2) (q := 107) hX dX12_fight_106 rfl rfl rfl ?_
            obtain ⟨h24, hf⟩ := sp_ck_some hf
            refine sp_iald (q := 108) hX arM_7 h24 dX12_fight_107 rfl ?_
            refine sp_dup2 (q := 109) hX dX12_fight_108 rfl rfl rfl ?_
            obtain ⟨h25, hf⟩ := sp_ck_some hf
            refine sp_iald (q := 110) hX arM_24 h25 dX12_fight_109 rfl ?_
            refine sp_iconst (v := 1) (q := 111) hX dX12_fight_110 li_1 rfl ?_
            refine sp_iadd (q := 112) hX dX12_fight_111 rfl ?_
            obtain ⟨h26, hf⟩ := sp_ck_some hf
            obtain ⟨σ27, e28, hf⟩ := sp_pl_some hf
            refine sp_iast (q := 113) hX arM_24 h26 dX12_fight_112 rfl ?_
            refine sp_nms e28 ?_
            refine sp_aload_n (i := 0) (q := 114) hX dX12_fight_113 rfl rfl rfl ?_
            refine sp_gets (t := 24) (q := 117) hX flX12_99 fkX12_40 atM_0 srM_0_40 dX12_fight_114 rfl ?_
            refine sp_aload_n (i := 0) (q := 118) hX dX12_fight_117 rfl rfl rfl ?_
            refine sp_gets (t := 7) (q := 121) hX flX12_46 fkX12_8 atM_0 srM_0_8 dX12_fight_118 rfl ?_
            refine sp_iload_n (i := 3) (q := 122) hX dX12_fight_121 rfl rfl rfl ?_
            obtain ⟨h29, hf⟩ := sp_ck_some hf
            refine sp_iald (q := 123) hX arM_7 h29 dX12_fight_122 rfl ?_
            refine sp_dup2 (q := 124) hX dX12_fight_123 rfl rfl rfl ?_
            obtain ⟨h30, hf⟩ := sp_ck_some hf
            refine sp_iald (q := 125) hX arM_24 h30 dX12_fight_124 rfl ?_
            refine sp_iconst (v := 1) (q := 126) hX dX12_fight_125 li_1 rfl ?_
            refine sp_iadd (q := 127) hX dX12_fight_126 rfl ?_
            obtain ⟨h31, hf⟩ := sp_ck_some hf
            obtain ⟨σ32, e33, hf⟩ := sp_pl_some hf
            refine sp_iast (q := 128) hX arM_24 h31 dX12_fight_127 rfl ?_
            refine sp_nms e33 ?_
            exact hX12_fight_128 hX hR hk4 ih hf
          · rw [if_pos hc] at hf
            refine sp_goto (tgt := 128) hX dX12_fight_55 (by decide) ?_
            exact hX12_fight_128 hX hR hk4 ih hf
set_option maxRecDepth 100000 in
set_option maxHeartbeats 4000000 in
theorem hX12_fight_4 {X : sp_X} (hX : sp_OK shM X cX12_fight RX12 4 rmX12_fight) {τ : sp_St} (hR : sp_Rv shM X τ 0 0) {n : Nat}    : ∀ (f : Nat) (σ : sp_St) (z1 : Int32) (z2 : Int32), X12_fight_4 n f σ z1 z2 = some τ → sp_GG shM X σ 4 [some (.ref (sx_ad X 0)), some (.int z1), some (.int z2), none] [] 4 0 0 := by
  intro f
  induction f with
  | zero =>
    intro σ z1 z2 hf
    rw [X12_fight_4] at hf
    cases hf
  | succ f ih =>
    intro σ z1 z2 hf
    rw [X12_fight_4] at hf
    refine sp_iload_n (i := 2) (q := 5) hX dX12_fight_4 rfl rfl rfl ?_
    refine sp_aload_n (i := 0) (q := 6) hX dX12_fight_5 rfl rfl rfl ?_
    refine sp_gets (t := 3) (q := 9) hX flX12_33 fkX12_4 atM_0 srM_0_4 dX12_fight_6 rfl ?_
    refine sp_iconst (v := 2) (q := 10) hX dX12_fight_9 li_2 rfl ?_
    refine sp_iald (q := 11) hX arM_3 (by decide) dX12_fight_10 rfl ?_
    refine sp_icmp_ge (tgt := 140) (q := 14) hX dX12_fight_11 (by decide) rfl (fun hc => ?_) (fun hc => ?_)
    · rw [if_pos hc] at hf
      exact sp_vret hX hR dX12_fight_140 hf (Nat.le_of_ble_eq_true rfl) (Nat.le_of_ble_eq_true rfl)
    · rw [if_neg hc] at hf
      refine sp_iload_n (i := 2) (q := 15) hX dX12_fight_14 rfl rfl rfl ?_
      refine sp_iconst (v := 1) (q := 16) hX dX12_fight_15 li_1 rfl ?_
      refine sp_iadd (q := 17) hX dX12_fight_16 rfl ?_
      obtain ⟨x1, e2, hf⟩ := sp_pl_some hf
      refine sp_nmi e2 ?_
      refine sp_istore_n (i := 3) (lv' := [some (.ref (sx_ad X 0)), some (.int z1), some (.int z2), some (.int x1)]) (q := 18) hX dX12_fight_17 rfl (Nat.le_of_ble_eq_true rfl) rfl rfl rfl ?_
      exact hX12_fight_18 hX hR ih n σ z1 z2 x1 hf
set_option maxRecDepth 100000 in
set_option maxHeartbeats 4000000 in
theorem hX12_fight {X : sp_X} (hX : sp_OK shM X cX12_fight RX12 4 rmX12_fight) {τ : sp_St} (hR : sp_Rv shM X τ 0 0) {n : Nat}  {σ : sp_St}   (hf : X12_fight n σ = some τ) : sp_GG shM X σ 4 [some (.ref (sx_ad X 0)), none, none, none] [] 0 0 0 := by
  unfold X12_fight at hf
  refine sp_iconst (v := 0) (q := 1) hX dX12_fight_0 li_0 rfl ?_
  obtain ⟨x1, e2, hf⟩ := sp_pl_some hf
  refine sp_nmi e2 ?_
  refine sp_istore_n (i := 1) (lv' := [some (.ref (sx_ad X 0)), some (.int x1), none, none]) (q := 2) hX dX12_fight_1 rfl (Nat.le_of_ble_eq_true rfl) rfl rfl rfl ?_
  refine sp_iconst (v := 0) (q := 3) hX dX12_fight_2 li_0 rfl ?_
  obtain ⟨x3, e4, hf⟩ := sp_pl_some hf
  refine sp_nmi e4 ?_
  refine sp_istore_n (i := 2) (lv' := [some (.ref (sx_ad X 0)), some (.int x1), some (.int x3), none]) (q := 4) hX dX12_fight_3 rfl (Nat.le_of_ble_eq_true rfl) rfl rfl rfl ?_
  exact hX12_fight_4 hX hR n σ x1 x3 hf
set_option maxRecDepth 100000 in
set_option maxHeartbeats 4000000 in
theorem cnX12_fight {l : Launch} (hst : l.stackTraces = false) {w : sp_Wd} {n : Nat}  {σ : sp_St}  {τ : sp_St}  (hf : X12_fight n σ = some τ) : sp_Cv shM l w yX12_fight cX12_fight 4 rmX12_fight 0 0 σ [.ref (w.2.1 0)] τ :=
  sp_cv (own := RX12) (by decide) rfl hst (Nat.le_of_ble_eq_true rfl) rfl (fun X hX hw hl hR => by subst hw; subst hl; exact hX12_fight hX hR   hf)
def rmX12_aDay : Room := { frames := 5, cells := 0, slots := 0, locals := 111 }
def X12_aDay_66 (n : Nat) (σ : sp_St) : Option (sp_St) :=
  sp_bv (X12_fight n σ) fun σ2 =>
  sp_pl (sp_si σ2 0 33 ((σ2.1 0 33) + ((1 : Int32)))) fun σ3 =>
  some σ3
def X12_aDay_60 (n : Nat) (k6 : sp_St → Int32 → Option (sp_St)) (σ : sp_St) (z1 : Int32) : Option (sp_St) :=
  sp_pl (z1 + 1) fun x1 =>
  k6 σ x1
def X12_aDay_6 (n : Nat) : Nat → sp_St → Int32 → Option (sp_St)
  | 0, _, _ => none
  | f + 1, σ, z1 =>
    if (sp_g σ 3 ((1 : Int32))) ≤ z1 then
      X12_aDay_66 n σ
    else
      sp_ck (sp_in z1 10) <|
      if (sp_g σ 6 z1) ≤ 0 then
        X12_aDay_60 n (X12_aDay_6 n f) σ z1
      else
        sp_ck (sp_in z1 10) <|
        sp_ck (!decide ((sp_g σ 6 z1) = 0)) <|
        if (((σ.1 0 33) + ((1 : Int32))) - ((σ.1 0 33) + ((1 : Int32))) / (sp_g σ 6 z1) * (sp_g σ 6 z1)) = 0 then
          sp_ck (sp_in z1 5) <|
          if (sp_g σ 17 z1) ≤ 0 then
            X12_aDay_60 n (X12_aDay_6 n f) σ z1
          else
            sp_bd (X12_topOf n σ z1) fun σ6 v7 =>
            sp_bv (X12_takeOut n σ6 v7 ((0 : Int32))) fun σ9 =>
            X12_aDay_60 n (X12_aDay_6 n f) σ9 z1
        else
          X12_aDay_60 n (X12_aDay_6 n f) σ z1
def X12_aDay (n : Nat)  (σ : sp_St)  : Option (sp_St) :=
  sp_bv (X12_change n σ) fun σ2 =>
  sp_pl ((0 : Int32)) fun x3 =>
  X12_aDay_6 n n σ2 x3
set_option maxRecDepth 100000 in
set_option maxHeartbeats 4000000 in
theorem hX12_aDay_66 {X : sp_X} (hX : sp_OK shM X cX12_aDay RX12 2 rmX12_aDay) {τ : sp_St} (hR : sp_Rv shM X τ 0 0) {n : Nat}    {σ : sp_St} (hf : X12_aDay_66 n σ = some τ) : sp_GG shM X σ 2 [some (.ref (sx_ad X 0)), none] [] 66 0 0 := by
  unfold X12_aDay_66 at hf
  refine sp_aload_n (i := 0) (q := 67) hX dX12_aDay_66 rfl rfl rfl ?_
  obtain ⟨σ2, h1, hf⟩ := sp_bv_so hf
  refine sp_callVv (As := []) (rest := []) (q := 70) hX (cnX12_fight (sp_st hX)  h1) cwX12_390 atM_0 rfl rfl rfl rfl rfl (Nat.le_of_ble_eq_true rfl) (Nat.le_of_ble_eq_true rfl) (Nat.le_of_ble_eq_true rfl) (Nat.le_of_ble_eq_true rfl) (Nat.le_of_ble_eq_true rfl) dX12_aDay_67 rfl ?_
  refine sp_aload_n (i := 0) (q := 71) hX dX12_aDay_70 rfl rfl rfl ?_
  refine sp_dup (q := 72) hX dX12_aDay_71 rfl rfl ?_
  refine sp_geti (q := 75) hX flX12_325 fkX12_33 atM_0 dX12_aDay_72 rfl ?_
  refine sp_iconst (v := 1) (q := 76) hX dX12_aDay_75 li_1 rfl ?_
  refine sp_iadd (q := 77) hX dX12_aDay_76 rfl ?_
  obtain ⟨σ3, e4, hf⟩ := sp_pl_some hf
  refine sp_puti (q := 80) hX fpX12_325 fkX12_33 atM_0 dX12_aDay_77 rfl ?_
  refine sp_nms e4 ?_
  exact sp_vret hX hR dX12_aDay_80 hf (Nat.le_of_ble_eq_true rfl) (Nat.le_of_ble_eq_true rfl)
set_option maxRecDepth 100000 in
set_option maxHeartbeats 4000000 in
theorem hX12_aDay_60 {X : sp_X} (hX : sp_OK shM X cX12_aDay RX12 2 rmX12_aDay) {τ : sp_St} (hR : sp_Rv shM X τ 0 0) {n : Nat}   {k6 : sp_St → Int32 → Option (sp_St)} (hk6 : ∀ (σ : sp_St) (z1 : Int32), k6 σ z1 = some τ → sp_GG shM X σ 2 [some (.ref (sx_ad X 0)), some (.int z1)] [] 6 0 0) {σ : sp_St} {z1 : Int32} (hf : X12_aDay_60 n k6 σ z1 = some τ) : sp_GG shM X σ 2 [some (.ref (sx_ad X 0)), some (.int z1)] [] 60 0 0 := by
  unfold X12_aDay_60 at hf
  obtain ⟨x1, e2, hf⟩ := sp_pl_some hf
  refine sp_iinc (i := 1) (v := x1) (lv' := [some (.ref (sx_ad X 0)), some (.int x1)]) (q := 63) hX dX12_aDay_60 rfl (by rw [e2, li_1]) (Nat.le_of_ble_eq_true rfl) rfl rfl rfl ?_
  refine sp_goto (tgt := 6) hX dX12_aDay_63 (by decide) ?_
  exact hk6 σ x1 hf
set_option maxRecDepth 100000 in
set_option maxHeartbeats 4000000 in
theorem hX12_aDay_6 {X : sp_X} (hX : sp_OK shM X cX12_aDay RX12 2 rmX12_aDay) {τ : sp_St} (hR : sp_Rv shM X τ 0 0) {n : Nat}    : ∀ (f : Nat) (σ : sp_St) (z1 : Int32), X12_aDay_6 n f σ z1 = some τ → sp_GG shM X σ 2 [some (.ref (sx_ad X 0)), some (.int z1)] [] 6 0 0 := by
  intro f
  induction f with
  | zero =>
    intro σ z1 hf
    rw [X12_aDay_6] at hf
    cases hf
  | succ f ih =>
    intro σ z1 hf
    rw [X12_aDay_6] at hf
    refine sp_iload_n (i := 1) (q := 7) hX dX12_aDay_6 rfl rfl rfl ?_
    refine sp_aload_n (i := 0) (q := 8) hX dX12_aDay_7 rfl rfl rfl ?_
    refine sp_gets (t := 3) (q := 11) hX flX12_33 fkX12_4 atM_0 srM_0_4 dX12_aDay_8 rfl ?_
    refine sp_iconst (v := 1) (q := 12) hX dX12_aDay_11 li_1 rfl ?_
    refine sp_iald (q := 13) hX arM_3 (by decide) dX12_aDay_12 rfl ?_
    refine sp_icmp_ge (tgt := 66) (q := 16) hX dX12_aDay_13 (by decide) rfl (fun hc => ?_) (fun hc => ?_)
    · rw [if_pos hc] at hf
      refine sp_drop (lv' := [some (.ref (sx_ad X 0)), none]) (And.intro rfl trivial) ?_
      exact hX12_aDay_66 hX hR hf
    · rw [if_neg hc] at hf
      refine sp_aload_n (i := 0) (q := 17) hX dX12_aDay_16 rfl rfl rfl ?_
      refine sp_gets (t := 6) (q := 20) hX flX12_43 fkX12_7 atM_0 srM_0_7 dX12_aDay_17 rfl ?_
      refine sp_iload_n (i := 1) (q := 21) hX dX12_aDay_20 rfl rfl rfl ?_
      obtain ⟨h1, hf⟩ := sp_ck_some hf
      refine sp_iald (q := 22) hX arM_6 h1 dX12_aDay_21 rfl ?_
      refine sp_if_le (tgt := 60) (q := 25) hX dX12_aDay_22 (by decide) rfl (fun hc => ?_) (fun hc => ?_)
      · rw [if_pos hc] at hf
        exact hX12_aDay_60 hX hR ih hf
      · rw [if_neg hc] at hf
        refine sp_aload_n (i := 0) (q := 26) hX dX12_aDay_25 rfl rfl rfl ?_
        refine sp_geti (q := 29) hX flX12_325 fkX12_33 atM_0 dX12_aDay_26 rfl ?_
        refine sp_iconst (v := 1) (q := 30) hX dX12_aDay_29 li_1 rfl ?_
        refine sp_iadd (q := 31) hX dX12_aDay_30 rfl ?_
        refine sp_aload_n (i := 0) (q := 32) hX dX12_aDay_31 rfl rfl rfl ?_
        refine sp_gets (t := 6) (q := 35) hX flX12_43 fkX12_7 atM_0 srM_0_7 dX12_aDay_32 rfl ?_
        refine sp_iload_n (i := 1) (q := 36) hX dX12_aDay_35 rfl rfl rfl ?_
        obtain ⟨h2, hf⟩ := sp_ck_some hf
        refine sp_iald (q := 37) hX arM_6 h2 dX12_aDay_36 rfl ?_
        obtain ⟨h3, hf⟩ := sp_ck_some hf
        refine sp_irem (q := 38) hX dX12_aDay_37 (sp_nz h3) rfl ?_
        refine sp_if_ne (tgt := 60) (q := 41) hX dX12_aDay_38 (by decide) rfl (fun hc => ?_) (fun hc => ?_)
        · rw [if_neg hc] at hf
          exact hX12_aDay_60 hX hR ih hf
        · rw [if_pos hc] at hf
          refine sp_aload_n (i := 0) (q := 42) hX dX12_aDay_41 rfl rfl rfl ?_
          refine sp_gets (t := 17) (q := 45) hX flX12_78 fkX12_29 atM_0 srM_0_29 dX12_aDay_42 rfl ?_
          refine sp_iload_n (i := 1) (q := 46) hX dX12_aDay_45 rfl rfl rfl ?_
          obtain ⟨h4, hf⟩ := sp_ck_some hf
          refine sp_iald (q := 47) hX arM_17 h4 dX12_aDay_46 rfl ?_
          refine sp_if_le (tgt := 60) (q := 50) hX dX12_aDay_47 (by decide) rfl (fun hc => ?_) (fun hc => ?_)
          · rw [if_pos hc] at hf
            exact hX12_aDay_60 hX hR ih hf
          · rw [if_neg hc] at hf
            refine sp_aload_n (i := 0) (q := 51) hX dX12_aDay_50 rfl rfl rfl ?_
            refine sp_aload_n (i := 0) (q := 52) hX dX12_aDay_51 rfl rfl rfl ?_
            refine sp_iload_n (i := 1) (q := 53) hX dX12_aDay_52 rfl rfl rfl ?_
            obtain ⟨σ6, v7, h5, hf⟩ := sp_bd_so hf
            refine sp_callVi (As := [.int z1]) (rest := [.ref (sx_ad X 0)]) (q := 56) hX (cnX12_topOf (sp_st hX)  h5) cwX12_387 atM_0 rfl rfl rfl rfl rfl (Nat.le_of_ble_eq_true rfl) (Nat.le_of_ble_eq_true rfl) (Nat.le_of_ble_eq_true rfl) (Nat.le_of_ble_eq_true rfl) (Nat.le_of_ble_eq_true rfl) dX12_aDay_53 rfl ?_
            refine sp_iconst (v := 0) (q := 57) hX dX12_aDay_56 li_0 rfl ?_
            obtain ⟨σ9, h8, hf⟩ := sp_bv_so hf
            refine sp_callVv (As := [.int v7, .int ((0 : Int32))]) (rest := []) (q := 60) hX (cnX12_takeOut (sp_st hX)  h8) cwX12_377 atM_0 rfl rfl rfl rfl rfl (Nat.le_of_ble_eq_true rfl) (Nat.le_of_ble_eq_true rfl) (Nat.le_of_ble_eq_true rfl) (Nat.le_of_ble_eq_true rfl) (Nat.le_of_ble_eq_true rfl) dX12_aDay_57 rfl ?_
            exact hX12_aDay_60 hX hR ih hf
set_option maxRecDepth 100000 in
set_option maxHeartbeats 4000000 in
theorem hX12_aDay {X : sp_X} (hX : sp_OK shM X cX12_aDay RX12 2 rmX12_aDay) {τ : sp_St} (hR : sp_Rv shM X τ 0 0) {n : Nat}  {σ : sp_St}   (hf : X12_aDay n σ = some τ) : sp_GG shM X σ 2 [some (.ref (sx_ad X 0)), none] [] 0 0 0 := by
  unfold X12_aDay at hf
  refine sp_aload_n (i := 0) (q := 1) hX dX12_aDay_0 rfl rfl rfl ?_
  obtain ⟨σ2, h1, hf⟩ := sp_bv_so hf
  refine sp_callVv (As := []) (rest := []) (q := 4) hX (cnX12_change (sp_st hX)  h1) cwX12_384 atM_0 rfl rfl rfl rfl rfl (Nat.le_of_ble_eq_true rfl) (Nat.le_of_ble_eq_true rfl) (Nat.le_of_ble_eq_true rfl) (Nat.le_of_ble_eq_true rfl) (Nat.le_of_ble_eq_true rfl) dX12_aDay_1 rfl ?_
  refine sp_iconst (v := 0) (q := 5) hX dX12_aDay_4 li_0 rfl ?_
  obtain ⟨x3, e4, hf⟩ := sp_pl_some hf
  refine sp_nmi e4 ?_
  refine sp_istore_n (i := 1) (lv' := [some (.ref (sx_ad X 0)), some (.int x3)]) (q := 6) hX dX12_aDay_5 rfl (Nat.le_of_ble_eq_true rfl) rfl rfl rfl ?_
  exact hX12_aDay_6 hX hR n σ2 x3 hf
set_option maxRecDepth 100000 in
set_option maxHeartbeats 4000000 in
theorem cnX12_aDay {l : Launch} (hst : l.stackTraces = false) {w : sp_Wd} {n : Nat}  {σ : sp_St}  {τ : sp_St}  (hf : X12_aDay n σ = some τ) : sp_Cv shM l w yX12_aDay cX12_aDay 2 rmX12_aDay 0 0 σ [.ref (w.2.1 0)] τ :=
  sp_cv (own := RX12) (by decide) rfl hst (Nat.le_of_ble_eq_true rfl) rfl (fun X hX hw hl hR => by subst hw; subst hl; exact hX12_aDay hX hR   hf)
def rmX12_goOn : Room := { frames := 6, cells := 0, slots := 0, locals := 132 }
def X12_goOn_2 (n : Nat) : Nat → sp_St → Int32 → Int32 → Option (sp_St)
  | 0, _, _, _ => none
  | f + 1, σ, z1, z2 =>
    if z1 ≤ z2 then
      some σ
    else
      sp_bv (X12_aDay n σ) fun σ2 =>
      sp_pl (z2 + 1) fun x3 =>
      X12_goOn_2 n f σ2 z1 x3
def X12_goOn (n : Nat)  (σ : sp_St) (a1 : Int32) : Option (sp_St) :=
  sp_pl ((0 : Int32)) fun x1 =>
  X12_goOn_2 n n σ a1 x1
set_option maxRecDepth 100000 in
set_option maxHeartbeats 4000000 in
theorem hX12_goOn_2 {X : sp_X} (hX : sp_OK shM X cX12_goOn RX12 3 rmX12_goOn) {τ : sp_St} (hR : sp_Rv shM X τ 0 0) {n : Nat}    : ∀ (f : Nat) (σ : sp_St) (z1 : Int32) (z2 : Int32), X12_goOn_2 n f σ z1 z2 = some τ → sp_GG shM X σ 3 [some (.ref (sx_ad X 0)), some (.int z1), some (.int z2)] [] 2 0 0 := by
  intro f
  induction f with
  | zero =>
    intro σ z1 z2 hf
    rw [X12_goOn_2] at hf
    cases hf
  | succ f ih =>
    intro σ z1 z2 hf
    rw [X12_goOn_2] at hf
    refine sp_iload_n (i := 2) (q := 3) hX dX12_goOn_2 rfl rfl rfl ?_
    refine sp_iload_n (i := 1) (q := 4) hX dX12_goOn_3 rfl rfl rfl ?_
    refine sp_icmp_ge (tgt := 17) (q := 7) hX dX12_goOn_4 (by decide) rfl (fun hc => ?_) (fun hc => ?_)
    · rw [if_pos hc] at hf
      exact sp_vret hX hR dX12_goOn_17 hf (Nat.le_of_ble_eq_true rfl) (Nat.le_of_ble_eq_true rfl)
    · rw [if_neg hc] at hf
      refine sp_aload_n (i := 0) (q := 8) hX dX12_goOn_7 rfl rfl rfl ?_
      obtain ⟨σ2, h1, hf⟩ := sp_bv_so hf
      refine sp_callVv (As := []) (rest := []) (q := 11) hX (cnX12_aDay (sp_st hX)  h1) cwX12_393 atM_0 rfl rfl rfl rfl rfl (Nat.le_of_ble_eq_true rfl) (Nat.le_of_ble_eq_true rfl) (Nat.le_of_ble_eq_true rfl) (Nat.le_of_ble_eq_true rfl) (Nat.le_of_ble_eq_true rfl) dX12_goOn_8 rfl ?_
      obtain ⟨x3, e4, hf⟩ := sp_pl_some hf
      refine sp_iinc (i := 2) (v := x3) (lv' := [some (.ref (sx_ad X 0)), some (.int z1), some (.int x3)]) (q := 14) hX dX12_goOn_11 rfl (by rw [e4, li_1]) (Nat.le_of_ble_eq_true rfl) rfl rfl rfl ?_
      refine sp_goto (tgt := 2) hX dX12_goOn_14 (by decide) ?_
      exact ih σ2 z1 x3 hf
set_option maxRecDepth 100000 in
set_option maxHeartbeats 4000000 in
theorem hX12_goOn {X : sp_X} (hX : sp_OK shM X cX12_goOn RX12 3 rmX12_goOn) {τ : sp_St} (hR : sp_Rv shM X τ 0 0) {n : Nat}  {σ : sp_St} {a1 : Int32}  (hf : X12_goOn n σ a1 = some τ) : sp_GG shM X σ 3 [some (.ref (sx_ad X 0)), some (.int a1), none] [] 0 0 0 := by
  unfold X12_goOn at hf
  refine sp_iconst (v := 0) (q := 1) hX dX12_goOn_0 li_0 rfl ?_
  obtain ⟨x1, e2, hf⟩ := sp_pl_some hf
  refine sp_nmi e2 ?_
  refine sp_istore_n (i := 2) (lv' := [some (.ref (sx_ad X 0)), some (.int a1), some (.int x1)]) (q := 2) hX dX12_goOn_1 rfl (Nat.le_of_ble_eq_true rfl) rfl rfl rfl ?_
  exact hX12_goOn_2 hX hR n σ a1 x1 hf
set_option maxRecDepth 100000 in
set_option maxHeartbeats 4000000 in
theorem cnX12_goOn {l : Launch} (hst : l.stackTraces = false) {w : sp_Wd} {n : Nat}  {σ : sp_St} {a1 : Int32} {τ : sp_St}  (hf : X12_goOn n σ a1 = some τ) : sp_Cv shM l w yX12_goOn cX12_goOn 3 rmX12_goOn 0 0 σ [.ref (w.2.1 0), .int a1] τ :=
  sp_cv (own := RX12) (by decide) rfl hst (Nat.le_of_ble_eq_true rfl) rfl (fun X hX hw hl hR => by subst hw; subst hl; exact hX12_goOn hX hR   hf)
def rmX12_feudMany : Room := { frames := 1, cells := 0, slots := 0, locals := 22 }
def X12_feudMany_28 (n : Nat) (σ : sp_St) (z1 : Int32) : Option (sp_St × Int32) :=
  sp_ck (!decide (((2 : Int32)) = 0)) <|
  some (σ, z1 / ((2 : Int32)))
def X12_feudMany_4 (n : Nat) : Nat → sp_St → Int32 → Int32 → Option (sp_St × Int32)
  | 0, _, _, _ => none
  | f + 1, σ, z1, z2 =>
    if ((6 : Int32)) ≤ z2 then
      X12_feudMany_28 n σ z1
    else
      sp_ck (sp_in z2 6) <|
      sp_bd (X12_bitsOf n σ (sp_g σ 19 z2)) fun σ3 v4 =>
      sp_pl (z1 + v4) fun x5 =>
      sp_pl (z2 + 1) fun x7 =>
      X12_feudMany_4 n f σ3 x5 x7
def X12_feudMany (n : Nat)  (σ : sp_St)  : Option (sp_St × Int32) :=
  sp_pl ((0 : Int32)) fun x1 =>
  sp_pl ((0 : Int32)) fun x3 =>
  X12_feudMany_4 n n σ x1 x3
set_option maxRecDepth 100000 in
set_option maxHeartbeats 4000000 in
theorem hX12_feudMany_28 {X : sp_X} (hX : sp_OK shM X cX12_feudMany RX12 3 rmX12_feudMany) {τ : sp_St} {r : Int32} (hR : sp_Ri shM X (some .int) τ r 0 0) {n : Nat}    {σ : sp_St} {z1 : Int32} (hf : X12_feudMany_28 n σ z1 = some (τ, r)) : sp_GG shM X σ 3 [none, some (.int z1), none] [] 28 0 0 := by
  unfold X12_feudMany_28 at hf
  refine sp_iload_n (i := 1) (q := 29) hX dX12_feudMany_28 rfl rfl rfl ?_
  refine sp_iconst (v := 2) (q := 30) hX dX12_feudMany_29 li_2 rfl ?_
  obtain ⟨h1, hf⟩ := sp_ck_some hf
  refine sp_idiv (q := 31) hX dX12_feudMany_30 (sp_nz h1) rfl ?_
  exact sp_iret hX hR dX12_feudMany_31 hf (Nat.le_of_ble_eq_true rfl) (Nat.le_of_ble_eq_true rfl)
set_option maxRecDepth 100000 in
set_option maxHeartbeats 4000000 in
theorem hX12_feudMany_4 {X : sp_X} (hX : sp_OK shM X cX12_feudMany RX12 3 rmX12_feudMany) {τ : sp_St} {r : Int32} (hR : sp_Ri shM X (some .int) τ r 0 0) {n : Nat}    : ∀ (f : Nat) (σ : sp_St) (z1 : Int32) (z2 : Int32), X12_feudMany_4 n f σ z1 z2 = some (τ, r) → sp_GG shM X σ 3 [some (.ref (sx_ad X 0)), some (.int z1), some (.int z2)] [] 4 0 0 := by
  intro f
  induction f with
  | zero =>
    intro σ z1 z2 hf
    rw [X12_feudMany_4] at hf
    cases hf
  | succ f ih =>
    intro σ z1 z2 hf
    rw [X12_feudMany_4] at hf
    refine sp_iload_n (i := 2) (q := 5) hX dX12_feudMany_4 rfl rfl rfl ?_
    refine sp_bipush (v := 6) (q := 7) hX dX12_feudMany_5 lb_6 rfl ?_
    refine sp_icmp_ge (tgt := 28) (q := 10) hX dX12_feudMany_7 (by decide) rfl (fun hc => ?_) (fun hc => ?_)
    · rw [if_pos hc] at hf
      refine sp_drop (lv' := [none, some (.int z1), none]) (And.intro rfl trivial) ?_
      exact hX12_feudMany_28 hX hR hf
    · rw [if_neg hc] at hf
      refine sp_iload_n (i := 1) (q := 11) hX dX12_feudMany_10 rfl rfl rfl ?_
      refine sp_aload_n (i := 0) (q := 12) hX dX12_feudMany_11 rfl rfl rfl ?_
      refine sp_gets (t := 19) (q := 15) hX flX12_84 fkX12_31 atM_0 srM_0_31 dX12_feudMany_12 rfl ?_
      refine sp_iload_n (i := 2) (q := 16) hX dX12_feudMany_15 rfl rfl rfl ?_
      obtain ⟨h1, hf⟩ := sp_ck_some hf
      refine sp_iald (q := 17) hX arM_19 h1 dX12_feudMany_16 rfl ?_
      obtain ⟨σ3, v4, h2, hf⟩ := sp_bd_so hf
      refine sp_callSi (As := [.int (sp_g σ 19 z2)]) (rest := [.int z1]) (q := 20) hX (cnX12_bitsOf (sp_st hX)  h2) cwX12_364 rfl rfl rfl rfl (Nat.le_of_ble_eq_true rfl) (Nat.le_of_ble_eq_true rfl) (Nat.le_of_ble_eq_true rfl) (Nat.le_of_ble_eq_true rfl) (Nat.le_of_ble_eq_true rfl) dX12_feudMany_17 rfl ?_
      refine sp_iadd (q := 21) hX dX12_feudMany_20 rfl ?_
      obtain ⟨x5, e6, hf⟩ := sp_pl_some hf
      refine sp_nmi e6 ?_
      refine sp_istore_n (i := 1) (lv' := [some (.ref (sx_ad X 0)), some (.int x5), some (.int z2)]) (q := 22) hX dX12_feudMany_21 rfl (Nat.le_of_ble_eq_true rfl) rfl rfl rfl ?_
      obtain ⟨x7, e8, hf⟩ := sp_pl_some hf
      refine sp_iinc (i := 2) (v := x7) (lv' := [some (.ref (sx_ad X 0)), some (.int x5), some (.int x7)]) (q := 25) hX dX12_feudMany_22 rfl (by rw [e8, li_1]) (Nat.le_of_ble_eq_true rfl) rfl rfl rfl ?_
      refine sp_goto (tgt := 4) hX dX12_feudMany_25 (by decide) ?_
      exact ih σ3 x5 x7 hf
set_option maxRecDepth 100000 in
set_option maxHeartbeats 4000000 in
theorem hX12_feudMany {X : sp_X} (hX : sp_OK shM X cX12_feudMany RX12 3 rmX12_feudMany) {τ : sp_St} {r : Int32} (hR : sp_Ri shM X (some .int) τ r 0 0) {n : Nat}  {σ : sp_St}   (hf : X12_feudMany n σ = some (τ, r)) : sp_GG shM X σ 3 [some (.ref (sx_ad X 0)), none, none] [] 0 0 0 := by
  unfold X12_feudMany at hf
  refine sp_iconst (v := 0) (q := 1) hX dX12_feudMany_0 li_0 rfl ?_
  obtain ⟨x1, e2, hf⟩ := sp_pl_some hf
  refine sp_nmi e2 ?_
  refine sp_istore_n (i := 1) (lv' := [some (.ref (sx_ad X 0)), some (.int x1), none]) (q := 2) hX dX12_feudMany_1 rfl (Nat.le_of_ble_eq_true rfl) rfl rfl rfl ?_
  refine sp_iconst (v := 0) (q := 3) hX dX12_feudMany_2 li_0 rfl ?_
  obtain ⟨x3, e4, hf⟩ := sp_pl_some hf
  refine sp_nmi e4 ?_
  refine sp_istore_n (i := 2) (lv' := [some (.ref (sx_ad X 0)), some (.int x1), some (.int x3)]) (q := 4) hX dX12_feudMany_3 rfl (Nat.le_of_ble_eq_true rfl) rfl rfl rfl ?_
  exact hX12_feudMany_4 hX hR n σ x1 x3 hf
set_option maxRecDepth 100000 in
set_option maxHeartbeats 4000000 in
theorem cnX12_feudMany {l : Launch} (hst : l.stackTraces = false) {w : sp_Wd} {n : Nat}  {σ : sp_St}  {τ : sp_St} {r : Int32}  (hf : X12_feudMany n σ = some (τ, r)) : sp_Ci shM l w yX12_feudMany cX12_feudMany 3 (some .int) rmX12_feudMany 0 0 σ [.ref (w.2.1 0)] τ r :=
  sp_ci (own := RX12) (by decide) rfl hst (Nat.le_of_ble_eq_true rfl) rfl (fun X hX hw hl hR => by subst hw; subst hl; exact hX12_feudMany hX hR   hf)
def rmX12_count : Room := { frames := 2, cells := 0, slots := 0, locals := 44 }
def X12_count (n : Nat)  (σ : sp_St) (a1 : Int32) : Option (sp_St × Int32) :=
  sp_pl (sp_si σ 0 3 ((0 : Int32))) fun σ1 =>
  if a1 = 0 then
    sp_bd (X12_feudMany n σ1) fun σ4 v5 =>
    some (σ4, v5)
  else
    if a1 = 1 then
      sp_ck (sp_in a1 12) <|
      some (σ1, sp_g σ1 3 a1)
    else
      if a1 = 2 then
        sp_ck (sp_in a1 12) <|
        some (σ1, sp_g σ1 3 a1)
      else
        if a1 = 3 then
          sp_ck (sp_in a1 12) <|
          some (σ1, sp_g σ1 3 a1)
        else
          if a1 = 4 then
            some (σ1, σ1.1 0 33)
          else
            if a1 = 5 then
              sp_bd (X12_whereSet n σ1 (a1 - ((5 : Int32)))) fun σ15 v16 =>
              some (σ15, v16)
            else
              if a1 = 6 then
                sp_bd (X12_whereSet n σ1 (a1 - ((5 : Int32)))) fun σ19 v20 =>
                some (σ19, v20)
              else
                if a1 = 7 then
                  sp_bd (X12_whereSet n σ1 (a1 - ((5 : Int32)))) fun σ23 v24 =>
                  some (σ23, v24)
                else
                  if a1 = 8 then
                    some (σ1, σ1.1 0 34)
                  else
                    if a1 = 9 then
                      some (σ1, σ1.1 0 35)
                    else
                      if a1 = 10 then
                        some (σ1, σ1.1 0 36)
                      else
                        if a1 = 11 then
                          some (σ1, σ1.1 0 15)
                        else
                          if a1 = 12 then
                            sp_ck (sp_in (a1 - ((12 : Int32))) 3) <|
                            some (σ1, sp_g σ1 12 (a1 - ((12 : Int32))))
                          else
                            if a1 = 13 then
                              sp_ck (sp_in (a1 - ((12 : Int32))) 3) <|
                              some (σ1, sp_g σ1 12 (a1 - ((12 : Int32))))
                            else
                              if a1 = 14 then
                                sp_ck (sp_in (a1 - ((12 : Int32))) 3) <|
                                some (σ1, sp_g σ1 12 (a1 - ((12 : Int32))))
                              else
                                sp_bd (X12_fail n σ1 ((1 : Int32))) fun σ37 v38 =>
                                some (σ37, v38)
set_option maxRecDepth 100000 in
set_option maxHeartbeats 4000000 in
theorem hX12_count {X : sp_X} (hX : sp_OK shM X cX12_count RX12 2 rmX12_count) {τ : sp_St} {r : Int32} (hR : sp_Ri shM X (some .int) τ r 0 0) {n : Nat}  {σ : sp_St} {a1 : Int32}  (hf : X12_count n σ a1 = some (τ, r)) : sp_GG shM X σ 2 [some (.ref (sx_ad X 0)), some (.int a1)] [] 0 0 0 := by
  unfold X12_count at hf
  refine sp_aload_n (i := 0) (q := 1) hX dX12_count_0 rfl rfl rfl ?_
  refine sp_iconst (v := 0) (q := 2) hX dX12_count_1 li_0 rfl ?_
  obtain ⟨σ1, e2, hf⟩ := sp_pl_some hf
  refine sp_puti (q := 5) hX fpX12_158 fkX12_3 atM_0 dX12_count_2 rfl ?_
  refine sp_nms e2 ?_
  refine sp_iload_n (i := 1) (q := 6) hX dX12_count_5 rfl rfl rfl ?_
  by_cases h6 : a1 = 0
  · rw [if_pos h6] at hf
    refine sp_tblIn (off := 74) (tgt := 80) hX dX12_count_6 (by rw [h6]; decide) (by rw [h6]; decide) (by rw [h6]; decide +kernel) (by decide) ?_
    refine sp_aload_n (i := 0) (q := 81) hX dX12_count_80 rfl rfl rfl ?_
    obtain ⟨σ4, v5, h3, hf⟩ := sp_bd_so hf
    refine sp_callVi (As := []) (rest := []) (q := 84) hX (cnX12_feudMany (sp_st hX)  h3) cwX12_396 atM_0 rfl rfl rfl rfl rfl (Nat.le_of_ble_eq_true rfl) (Nat.le_of_ble_eq_true rfl) (Nat.le_of_ble_eq_true rfl) (Nat.le_of_ble_eq_true rfl) (Nat.le_of_ble_eq_true rfl) dX12_count_81 rfl ?_
    exact sp_iret hX hR dX12_count_84 hf (Nat.le_of_ble_eq_true rfl) (Nat.le_of_ble_eq_true rfl)
  · rw [if_neg h6] at hf
    by_cases h8 : a1 = 1
    · rw [if_pos h8] at hf
      refine sp_tblIn (off := 79) (tgt := 85) hX dX12_count_6 (by rw [h8]; decide) (by rw [h8]; decide) (by rw [h8]; decide +kernel) (by decide) ?_
      refine sp_aload_n (i := 0) (q := 86) hX dX12_count_85 rfl rfl rfl ?_
      refine sp_gets (t := 3) (q := 89) hX flX12_33 fkX12_4 atM_0 srM_0_4 dX12_count_86 rfl ?_
      refine sp_iload_n (i := 1) (q := 90) hX dX12_count_89 rfl rfl rfl ?_
      obtain ⟨h7, hf⟩ := sp_ck_some hf
      refine sp_iald (q := 91) hX arM_3 h7 dX12_count_90 rfl ?_
      exact sp_iret hX hR dX12_count_91 hf (Nat.le_of_ble_eq_true rfl) (Nat.le_of_ble_eq_true rfl)
    · rw [if_neg h8] at hf
      by_cases h10 : a1 = 2
      · rw [if_pos h10] at hf
        refine sp_tblIn (off := 79) (tgt := 85) hX dX12_count_6 (by rw [h10]; decide) (by rw [h10]; decide) (by rw [h10]; decide +kernel) (by decide) ?_
        refine sp_aload_n (i := 0) (q := 86) hX dX12_count_85 rfl rfl rfl ?_
        refine sp_gets (t := 3) (q := 89) hX flX12_33 fkX12_4 atM_0 srM_0_4 dX12_count_86 rfl ?_
        refine sp_iload_n (i := 1) (q := 90) hX dX12_count_89 rfl rfl rfl ?_
        obtain ⟨h9, hf⟩ := sp_ck_some hf
        refine sp_iald (q := 91) hX arM_3 h9 dX12_count_90 rfl ?_
        exact sp_iret hX hR dX12_count_91 hf (Nat.le_of_ble_eq_true rfl) (Nat.le_of_ble_eq_true rfl)
      · rw [if_neg h10] at hf
        by_cases h12 : a1 = 3
        · rw [if_pos h12] at hf
          refine sp_tblIn (off := 79) (tgt := 85) hX dX12_count_6 (by rw [h12]; decide) (by rw [h12]; decide) (by rw [h12]; decide +kernel) (by decide) ?_
          refine sp_aload_n (i := 0) (q := 86) hX dX12_count_85 rfl rfl rfl ?_
          refine sp_gets (t := 3) (q := 89) hX flX12_33 fkX12_4 atM_0 srM_0_4 dX12_count_86 rfl ?_
          refine sp_iload_n (i := 1) (q := 90) hX dX12_count_89 rfl rfl rfl ?_
          obtain ⟨h11, hf⟩ := sp_ck_some hf
          refine sp_iald (q := 91) hX arM_3 h11 dX12_count_90 rfl ?_
          exact sp_iret hX hR dX12_count_91 hf (Nat.le_of_ble_eq_true rfl) (Nat.le_of_ble_eq_true rfl)
        · rw [if_neg h12] at hf
          by_cases h13 : a1 = 4
          · rw [if_pos h13] at hf
            refine sp_tblIn (off := 86) (tgt := 92) hX dX12_count_6 (by rw [h13]; decide) (by rw [h13]; decide) (by rw [h13]; decide +kernel) (by decide) ?_
            refine sp_aload_n (i := 0) (q := 93) hX dX12_count_92 rfl rfl rfl ?_
            refine sp_geti (q := 96) hX flX12_325 fkX12_33 atM_0 dX12_count_93 rfl ?_
            exact sp_iret hX hR dX12_count_96 hf (Nat.le_of_ble_eq_true rfl) (Nat.le_of_ble_eq_true rfl)
          · rw [if_neg h13] at hf
            by_cases h17 : a1 = 5
            · rw [if_pos h17] at hf
              refine sp_tblIn (off := 91) (tgt := 97) hX dX12_count_6 (by rw [h17]; decide) (by rw [h17]; decide) (by rw [h17]; decide +kernel) (by decide) ?_
              refine sp_aload_n (i := 0) (q := 98) hX dX12_count_97 rfl rfl rfl ?_
              refine sp_iload_n (i := 1) (q := 99) hX dX12_count_98 rfl rfl rfl ?_
              refine sp_iconst (v := 5) (q := 100) hX dX12_count_99 li_5 rfl ?_
              refine sp_isub (q := 101) hX dX12_count_100 rfl ?_
              obtain ⟨σ15, v16, h14, hf⟩ := sp_bd_so hf
              refine sp_callVi (As := [.int (a1 - ((5 : Int32)))]) (rest := []) (q := 104) hX (cnX12_whereSet (sp_st hX)  h14) cwX12_348 atM_0 rfl rfl rfl rfl rfl (Nat.le_of_ble_eq_true rfl) (Nat.le_of_ble_eq_true rfl) (Nat.le_of_ble_eq_true rfl) (Nat.le_of_ble_eq_true rfl) (Nat.le_of_ble_eq_true rfl) dX12_count_101 rfl ?_
              exact sp_iret hX hR dX12_count_104 hf (Nat.le_of_ble_eq_true rfl) (Nat.le_of_ble_eq_true rfl)
            · rw [if_neg h17] at hf
              by_cases h21 : a1 = 6
              · rw [if_pos h21] at hf
                refine sp_tblIn (off := 91) (tgt := 97) hX dX12_count_6 (by rw [h21]; decide) (by rw [h21]; decide) (by rw [h21]; decide +kernel) (by decide) ?_
                refine sp_aload_n (i := 0) (q := 98) hX dX12_count_97 rfl rfl rfl ?_
                refine sp_iload_n (i := 1) (q := 99) hX dX12_count_98 rfl rfl rfl ?_
                refine sp_iconst (v := 5) (q := 100) hX dX12_count_99 li_5 rfl ?_
                refine sp_isub (q := 101) hX dX12_count_100 rfl ?_
                obtain ⟨σ19, v20, h18, hf⟩ := sp_bd_so hf
                refine sp_callVi (As := [.int (a1 - ((5 : Int32)))]) (rest := []) (q := 104) hX (cnX12_whereSet (sp_st hX)  h18) cwX12_348 atM_0 rfl rfl rfl rfl rfl (Nat.le_of_ble_eq_true rfl) (Nat.le_of_ble_eq_true rfl) (Nat.le_of_ble_eq_true rfl) (Nat.le_of_ble_eq_true rfl) (Nat.le_of_ble_eq_true rfl) dX12_count_101 rfl ?_
                exact sp_iret hX hR dX12_count_104 hf (Nat.le_of_ble_eq_true rfl) (Nat.le_of_ble_eq_true rfl)
              · rw [if_neg h21] at hf
                by_cases h25 : a1 = 7
                · rw [if_pos h25] at hf
                  refine sp_tblIn (off := 91) (tgt := 97) hX dX12_count_6 (by rw [h25]; decide) (by rw [h25]; decide) (by rw [h25]; decide +kernel) (by decide) ?_
                  refine sp_aload_n (i := 0) (q := 98) hX dX12_count_97 rfl rfl rfl ?_
                  refine sp_iload_n (i := 1) (q := 99) hX dX12_count_98 rfl rfl rfl ?_
                  refine sp_iconst (v := 5) (q := 100) hX dX12_count_99 li_5 rfl ?_
                  refine sp_isub (q := 101) hX dX12_count_100 rfl ?_
                  obtain ⟨σ23, v24, h22, hf⟩ := sp_bd_so hf
                  refine sp_callVi (As := [.int (a1 - ((5 : Int32)))]) (rest := []) (q := 104) hX (cnX12_whereSet (sp_st hX)  h22) cwX12_348 atM_0 rfl rfl rfl rfl rfl (Nat.le_of_ble_eq_true rfl) (Nat.le_of_ble_eq_true rfl) (Nat.le_of_ble_eq_true rfl) (Nat.le_of_ble_eq_true rfl) (Nat.le_of_ble_eq_true rfl) dX12_count_101 rfl ?_
                  exact sp_iret hX hR dX12_count_104 hf (Nat.le_of_ble_eq_true rfl) (Nat.le_of_ble_eq_true rfl)
                · rw [if_neg h25] at hf
                  by_cases h26 : a1 = 8
                  · rw [if_pos h26] at hf
                    refine sp_tblIn (off := 99) (tgt := 105) hX dX12_count_6 (by rw [h26]; decide) (by rw [h26]; decide) (by rw [h26]; decide +kernel) (by decide) ?_
                    refine sp_aload_n (i := 0) (q := 106) hX dX12_count_105 rfl rfl rfl ?_
                    refine sp_geti (q := 109) hX flX12_327 fkX12_34 atM_0 dX12_count_106 rfl ?_
                    exact sp_iret hX hR dX12_count_109 hf (Nat.le_of_ble_eq_true rfl) (Nat.le_of_ble_eq_true rfl)
                  · rw [if_neg h26] at hf
                    by_cases h27 : a1 = 9
                    · rw [if_pos h27] at hf
                      refine sp_tblIn (off := 104) (tgt := 110) hX dX12_count_6 (by rw [h27]; decide) (by rw [h27]; decide) (by rw [h27]; decide +kernel) (by decide) ?_
                      refine sp_aload_n (i := 0) (q := 111) hX dX12_count_110 rfl rfl rfl ?_
                      refine sp_geti (q := 114) hX flX12_330 fkX12_35 atM_0 dX12_count_111 rfl ?_
                      exact sp_iret hX hR dX12_count_114 hf (Nat.le_of_ble_eq_true rfl) (Nat.le_of_ble_eq_true rfl)
                    · rw [if_neg h27] at hf
                      by_cases h28 : a1 = 10
                      · rw [if_pos h28] at hf
                        refine sp_tblIn (off := 109) (tgt := 115) hX dX12_count_6 (by rw [h28]; decide) (by rw [h28]; decide) (by rw [h28]; decide +kernel) (by decide) ?_
                        refine sp_aload_n (i := 0) (q := 116) hX dX12_count_115 rfl rfl rfl ?_
                        refine sp_geti (q := 119) hX flX12_333 fkX12_36 atM_0 dX12_count_116 rfl ?_
                        exact sp_iret hX hR dX12_count_119 hf (Nat.le_of_ble_eq_true rfl) (Nat.le_of_ble_eq_true rfl)
                      · rw [if_neg h28] at hf
                        by_cases h29 : a1 = 11
                        · rw [if_pos h29] at hf
                          refine sp_tblIn (off := 114) (tgt := 120) hX dX12_count_6 (by rw [h29]; decide) (by rw [h29]; decide) (by rw [h29]; decide +kernel) (by decide) ?_
                          refine sp_aload_n (i := 0) (q := 121) hX dX12_count_120 rfl rfl rfl ?_
                          refine sp_geti (q := 124) hX flX12_167 fkX12_15 atM_0 dX12_count_121 rfl ?_
                          exact sp_iret hX hR dX12_count_124 hf (Nat.le_of_ble_eq_true rfl) (Nat.le_of_ble_eq_true rfl)
                        · rw [if_neg h29] at hf
                          by_cases h31 : a1 = 12
                          · rw [if_pos h31] at hf
                            refine sp_tblIn (off := 119) (tgt := 125) hX dX12_count_6 (by rw [h31]; decide) (by rw [h31]; decide) (by rw [h31]; decide +kernel) (by decide) ?_
                            refine sp_aload_n (i := 0) (q := 126) hX dX12_count_125 rfl rfl rfl ?_
                            refine sp_gets (t := 12) (q := 129) hX flX12_60 fkX12_13 atM_0 srM_0_13 dX12_count_126 rfl ?_
                            refine sp_iload_n (i := 1) (q := 130) hX dX12_count_129 rfl rfl rfl ?_
                            refine sp_bipush (v := 12) (q := 132) hX dX12_count_130 lb_12 rfl ?_
                            refine sp_isub (q := 133) hX dX12_count_132 rfl ?_
                            obtain ⟨h30, hf⟩ := sp_ck_some hf
                            refine sp_iald (q := 134) hX arM_12 h30 dX12_count_133 rfl ?_
                            exact sp_iret hX hR dX12_count_134 hf (Nat.le_of_ble_eq_true rfl) (Nat.le_of_ble_eq_true rfl)
                          · rw [if_neg h31] at hf
                            by_cases h33 : a1 = 13
                            · rw [if_pos h33] at hf
                              refine sp_tblIn (off := 119) (tgt := 125) hX dX12_count_6 (by rw [h33]; decide) (by rw [h33]; decide) (by rw [h33]; decide +kernel) (by decide) ?_
                              refine sp_aload_n (i := 0) (q := 126) hX dX12_count_125 rfl rfl rfl ?_
                              refine sp_gets (t := 12) (q := 129) hX flX12_60 fkX12_13 atM_0 srM_0_13 dX12_count_126 rfl ?_
                              refine sp_iload_n (i := 1) (q := 130) hX dX12_count_129 rfl rfl rfl ?_
                              refine sp_bipush (v := 12) (q := 132) hX dX12_count_130 lb_12 rfl ?_
                              refine sp_isub (q := 133) hX dX12_count_132 rfl ?_
                              obtain ⟨h32, hf⟩ := sp_ck_some hf
                              refine sp_iald (q := 134) hX arM_12 h32 dX12_count_133 rfl ?_
                              exact sp_iret hX hR dX12_count_134 hf (Nat.le_of_ble_eq_true rfl) (Nat.le_of_ble_eq_true rfl)
                            · rw [if_neg h33] at hf
                              by_cases h35 : a1 = 14
                              · rw [if_pos h35] at hf
                                refine sp_tblIn (off := 119) (tgt := 125) hX dX12_count_6 (by rw [h35]; decide) (by rw [h35]; decide) (by rw [h35]; decide +kernel) (by decide) ?_
                                refine sp_aload_n (i := 0) (q := 126) hX dX12_count_125 rfl rfl rfl ?_
                                refine sp_gets (t := 12) (q := 129) hX flX12_60 fkX12_13 atM_0 srM_0_13 dX12_count_126 rfl ?_
                                refine sp_iload_n (i := 1) (q := 130) hX dX12_count_129 rfl rfl rfl ?_
                                refine sp_bipush (v := 12) (q := 132) hX dX12_count_130 lb_12 rfl ?_
                                refine sp_isub (q := 133) hX dX12_count_132 rfl ?_
                                obtain ⟨h34, hf⟩ := sp_ck_some hf
                                refine sp_iald (q := 134) hX arM_12 h34 dX12_count_133 rfl ?_
                                exact sp_iret hX hR dX12_count_134 hf (Nat.le_of_ble_eq_true rfl) (Nat.le_of_ble_eq_true rfl)
                              · rw [if_neg h35] at hf
                                refine sp_tblOut (tgt := 135) hX dX12_count_6 (sp_swo (0) (14) (by decide) (fun kk hka hkb hke => by
                                  rcases (show kk = 0 ∨ kk = 1 ∨ kk = 2 ∨ kk = 3 ∨ kk = 4 ∨ kk = 5 ∨ kk = 6 ∨ kk = 7 ∨ kk = 8 ∨ kk = 9 ∨ kk = 10 ∨ kk = 11 ∨ kk = 12 ∨ kk = 13 ∨ kk = 14 by omega) with rfl | rfl | rfl | rfl | rfl | rfl | rfl | rfl | rfl | rfl | rfl | rfl | rfl | rfl | rfl
                                  · exact h6 (sp_i32 hke (by decide))
                                  · exact h8 (sp_i32 hke (by decide))
                                  · exact h10 (sp_i32 hke (by decide))
                                  · exact h12 (sp_i32 hke (by decide))
                                  · exact h13 (sp_i32 hke (by decide))
                                  · exact h17 (sp_i32 hke (by decide))
                                  · exact h21 (sp_i32 hke (by decide))
                                  · exact h25 (sp_i32 hke (by decide))
                                  · exact h26 (sp_i32 hke (by decide))
                                  · exact h27 (sp_i32 hke (by decide))
                                  · exact h28 (sp_i32 hke (by decide))
                                  · exact h29 (sp_i32 hke (by decide))
                                  · exact h31 (sp_i32 hke (by decide))
                                  · exact h33 (sp_i32 hke (by decide))
                                  · exact h35 (sp_i32 hke (by decide)))) (by decide) ?_
                                refine sp_aload_n (i := 0) (q := 136) hX dX12_count_135 rfl rfl rfl ?_
                                refine sp_iconst (v := 1) (q := 137) hX dX12_count_136 li_1 rfl ?_
                                obtain ⟨σ37, v38, h36, hf⟩ := sp_bd_so hf
                                refine sp_callVi (As := [.int ((1 : Int32))]) (rest := []) (q := 140) hX (cnX12_fail (sp_st hX)  h36) cwX12_312 atM_0 rfl rfl rfl rfl rfl (Nat.le_of_ble_eq_true rfl) (Nat.le_of_ble_eq_true rfl) (Nat.le_of_ble_eq_true rfl) (Nat.le_of_ble_eq_true rfl) (Nat.le_of_ble_eq_true rfl) dX12_count_137 rfl ?_
                                exact sp_iret hX hR dX12_count_140 hf (Nat.le_of_ble_eq_true rfl) (Nat.le_of_ble_eq_true rfl)
set_option maxRecDepth 100000 in
set_option maxHeartbeats 4000000 in
theorem cnX12_count {l : Launch} (hst : l.stackTraces = false) {w : sp_Wd} {n : Nat}  {σ : sp_St} {a1 : Int32} {τ : sp_St} {r : Int32}  (hf : X12_count n σ a1 = some (τ, r)) : sp_Ci shM l w yX12_count cX12_count 2 (some .int) rmX12_count 0 0 σ [.ref (w.2.1 0), .int a1] τ r :=
  sp_ci (own := RX12) (by decide) rfl hst (Nat.le_of_ble_eq_true rfl) rfl (fun X hX hw hl hR => by subst hw; subst hl; exact hX12_count hX hR   hf)
def rmX12_blade : Room := { frames := 4, cells := 0, slots := 0, locals := 90 }
def X12_blade (n : Nat)  (σ : sp_St) (a1 : Int32) (a2 : Int32) : Option (sp_St × Int32) :=
  sp_pl (sp_si σ 0 3 ((0 : Int32))) fun σ1 =>
  sp_bd (X12_isBlade n σ1 a1) fun σ4 v5 =>
  if v5 = 0 then
    sp_bd (X12_fail n σ4 ((1 : Int32))) fun σ30 v31 =>
    some (σ30, v31)
  else
    if a2 = 0 then
      sp_ck (sp_in a1 20) <|
      some (σ4, sp_g σ4 7 a1)
    else
      if a2 = 1 then
        sp_ck (sp_in a1 20) <|
        some (σ4, sp_g σ4 8 a1)
      else
        if a2 = 2 then
          sp_ck (sp_in a1 10) <|
          some (σ4, sp_g σ4 14 a1)
        else
          if a2 = 3 then
            sp_ck (sp_in a1 10) <|
            some (σ4, sp_g σ4 15 a1)
          else
            if a2 = 4 then
              sp_bd (X12_throatOf n σ4 a1) fun σ15 v16 =>
              some (σ15, v16)
            else
              if a2 = 5 then
                sp_bd (X12_foesOf n σ4 a1) fun σ19 v20 =>
                some (σ19, v20)
              else
                if a2 = 6 then
                  sp_bd (X12_changeOf n σ4 a1) fun σ23 v24 =>
                  some (σ23, v24)
                else
                  sp_bd (X12_fail n σ4 ((1 : Int32))) fun σ27 v28 =>
                  some (σ27, v28)
set_option maxRecDepth 100000 in
set_option maxHeartbeats 4000000 in
theorem hX12_blade {X : sp_X} (hX : sp_OK shM X cX12_blade RX12 3 rmX12_blade) {τ : sp_St} {r : Int32} (hR : sp_Ri shM X (some .int) τ r 0 0) {n : Nat}  {σ : sp_St} {a1 : Int32} {a2 : Int32}  (hf : X12_blade n σ a1 a2 = some (τ, r)) : sp_GG shM X σ 3 [some (.ref (sx_ad X 0)), some (.int a1), some (.int a2)] [] 0 0 0 := by
  unfold X12_blade at hf
  refine sp_aload_n (i := 0) (q := 1) hX dX12_blade_0 rfl rfl rfl ?_
  refine sp_iconst (v := 0) (q := 2) hX dX12_blade_1 li_0 rfl ?_
  obtain ⟨σ1, e2, hf⟩ := sp_pl_some hf
  refine sp_puti (q := 5) hX fpX12_158 fkX12_3 atM_0 dX12_blade_2 rfl ?_
  refine sp_nms e2 ?_
  refine sp_aload_n (i := 0) (q := 6) hX dX12_blade_5 rfl rfl rfl ?_
  refine sp_iload_n (i := 1) (q := 7) hX dX12_blade_6 rfl rfl rfl ?_
  obtain ⟨σ4, v5, h3, hf⟩ := sp_bd_so hf
  refine sp_callVi (As := [.int a1]) (rest := []) (q := 10) hX (cnX12_isBlade (sp_st hX)  h3) cwX12_399 atM_0 rfl rfl rfl rfl rfl (Nat.le_of_ble_eq_true rfl) (Nat.le_of_ble_eq_true rfl) (Nat.le_of_ble_eq_true rfl) (Nat.le_of_ble_eq_true rfl) (Nat.le_of_ble_eq_true rfl) dX12_blade_7 rfl ?_
  refine sp_if_ne (tgt := 19) (q := 13) hX dX12_blade_10 (by decide) rfl (fun hc => ?_) (fun hc => ?_)
  · rw [if_neg hc] at hf
    refine sp_iload_n (i := 2) (q := 20) hX dX12_blade_19 rfl rfl rfl ?_
    by_cases h7 : a2 = 0
    · rw [if_pos h7] at hf
      refine sp_tblIn (off := 44) (tgt := 64) hX dX12_blade_20 (by rw [h7]; decide) (by rw [h7]; decide) (by rw [h7]; decide +kernel) (by decide) ?_
      refine sp_aload_n (i := 0) (q := 65) hX dX12_blade_64 rfl rfl rfl ?_
      refine sp_gets (t := 7) (q := 68) hX flX12_46 fkX12_8 atM_0 srM_0_8 dX12_blade_65 rfl ?_
      refine sp_iload_n (i := 1) (q := 69) hX dX12_blade_68 rfl rfl rfl ?_
      obtain ⟨h6, hf⟩ := sp_ck_some hf
      refine sp_iald (q := 70) hX arM_7 h6 dX12_blade_69 rfl ?_
      exact sp_iret hX hR dX12_blade_70 hf (Nat.le_of_ble_eq_true rfl) (Nat.le_of_ble_eq_true rfl)
    · rw [if_neg h7] at hf
      by_cases h9 : a2 = 1
      · rw [if_pos h9] at hf
        refine sp_tblIn (off := 51) (tgt := 71) hX dX12_blade_20 (by rw [h9]; decide) (by rw [h9]; decide) (by rw [h9]; decide +kernel) (by decide) ?_
        refine sp_aload_n (i := 0) (q := 72) hX dX12_blade_71 rfl rfl rfl ?_
        refine sp_gets (t := 8) (q := 75) hX flX12_49 fkX12_9 atM_0 srM_0_9 dX12_blade_72 rfl ?_
        refine sp_iload_n (i := 1) (q := 76) hX dX12_blade_75 rfl rfl rfl ?_
        obtain ⟨h8, hf⟩ := sp_ck_some hf
        refine sp_iald (q := 77) hX arM_8 h8 dX12_blade_76 rfl ?_
        exact sp_iret hX hR dX12_blade_77 hf (Nat.le_of_ble_eq_true rfl) (Nat.le_of_ble_eq_true rfl)
      · rw [if_neg h9] at hf
        by_cases h11 : a2 = 2
        · rw [if_pos h11] at hf
          refine sp_tblIn (off := 58) (tgt := 78) hX dX12_blade_20 (by rw [h11]; decide) (by rw [h11]; decide) (by rw [h11]; decide +kernel) (by decide) ?_
          refine sp_aload_n (i := 0) (q := 79) hX dX12_blade_78 rfl rfl rfl ?_
          refine sp_gets (t := 14) (q := 82) hX flX12_70 fkX12_26 atM_0 srM_0_26 dX12_blade_79 rfl ?_
          refine sp_iload_n (i := 1) (q := 83) hX dX12_blade_82 rfl rfl rfl ?_
          obtain ⟨h10, hf⟩ := sp_ck_some hf
          refine sp_iald (q := 84) hX arM_14 h10 dX12_blade_83 rfl ?_
          exact sp_iret hX hR dX12_blade_84 hf (Nat.le_of_ble_eq_true rfl) (Nat.le_of_ble_eq_true rfl)
        · rw [if_neg h11] at hf
          by_cases h13 : a2 = 3
          · rw [if_pos h13] at hf
            refine sp_tblIn (off := 65) (tgt := 85) hX dX12_blade_20 (by rw [h13]; decide) (by rw [h13]; decide) (by rw [h13]; decide +kernel) (by decide) ?_
            refine sp_aload_n (i := 0) (q := 86) hX dX12_blade_85 rfl rfl rfl ?_
            refine sp_gets (t := 15) (q := 89) hX flX12_72 fkX12_27 atM_0 srM_0_27 dX12_blade_86 rfl ?_
            refine sp_iload_n (i := 1) (q := 90) hX dX12_blade_89 rfl rfl rfl ?_
            obtain ⟨h12, hf⟩ := sp_ck_some hf
            refine sp_iald (q := 91) hX arM_15 h12 dX12_blade_90 rfl ?_
            exact sp_iret hX hR dX12_blade_91 hf (Nat.le_of_ble_eq_true rfl) (Nat.le_of_ble_eq_true rfl)
          · rw [if_neg h13] at hf
            by_cases h17 : a2 = 4
            · rw [if_pos h17] at hf
              refine sp_tblIn (off := 72) (tgt := 92) hX dX12_blade_20 (by rw [h17]; decide) (by rw [h17]; decide) (by rw [h17]; decide +kernel) (by decide) ?_
              refine sp_aload_n (i := 0) (q := 93) hX dX12_blade_92 rfl rfl rfl ?_
              refine sp_iload_n (i := 1) (q := 94) hX dX12_blade_93 rfl rfl rfl ?_
              obtain ⟨σ15, v16, h14, hf⟩ := sp_bd_so hf
              refine sp_callVi (As := [.int a1]) (rest := []) (q := 97) hX (cnX12_throatOf (sp_st hX)  h14) cwX12_339 atM_0 rfl rfl rfl rfl rfl (Nat.le_of_ble_eq_true rfl) (Nat.le_of_ble_eq_true rfl) (Nat.le_of_ble_eq_true rfl) (Nat.le_of_ble_eq_true rfl) (Nat.le_of_ble_eq_true rfl) dX12_blade_94 rfl ?_
              exact sp_iret hX hR dX12_blade_97 hf (Nat.le_of_ble_eq_true rfl) (Nat.le_of_ble_eq_true rfl)
            · rw [if_neg h17] at hf
              by_cases h21 : a2 = 5
              · rw [if_pos h21] at hf
                refine sp_tblIn (off := 78) (tgt := 98) hX dX12_blade_20 (by rw [h21]; decide) (by rw [h21]; decide) (by rw [h21]; decide +kernel) (by decide) ?_
                refine sp_aload_n (i := 0) (q := 99) hX dX12_blade_98 rfl rfl rfl ?_
                refine sp_iload_n (i := 1) (q := 100) hX dX12_blade_99 rfl rfl rfl ?_
                obtain ⟨σ19, v20, h18, hf⟩ := sp_bd_so hf
                refine sp_callVi (As := [.int a1]) (rest := []) (q := 103) hX (cnX12_foesOf (sp_st hX)  h18) cwX12_358 atM_0 rfl rfl rfl rfl rfl (Nat.le_of_ble_eq_true rfl) (Nat.le_of_ble_eq_true rfl) (Nat.le_of_ble_eq_true rfl) (Nat.le_of_ble_eq_true rfl) (Nat.le_of_ble_eq_true rfl) dX12_blade_100 rfl ?_
                exact sp_iret hX hR dX12_blade_103 hf (Nat.le_of_ble_eq_true rfl) (Nat.le_of_ble_eq_true rfl)
              · rw [if_neg h21] at hf
                by_cases h25 : a2 = 6
                · rw [if_pos h25] at hf
                  refine sp_tblIn (off := 84) (tgt := 104) hX dX12_blade_20 (by rw [h25]; decide) (by rw [h25]; decide) (by rw [h25]; decide +kernel) (by decide) ?_
                  refine sp_aload_n (i := 0) (q := 105) hX dX12_blade_104 rfl rfl rfl ?_
                  refine sp_iload_n (i := 1) (q := 106) hX dX12_blade_105 rfl rfl rfl ?_
                  obtain ⟨σ23, v24, h22, hf⟩ := sp_bd_so hf
                  refine sp_callVi (As := [.int a1]) (rest := []) (q := 109) hX (cnX12_changeOf (sp_st hX)  h22) cwX12_374 atM_0 rfl rfl rfl rfl rfl (Nat.le_of_ble_eq_true rfl) (Nat.le_of_ble_eq_true rfl) (Nat.le_of_ble_eq_true rfl) (Nat.le_of_ble_eq_true rfl) (Nat.le_of_ble_eq_true rfl) dX12_blade_106 rfl ?_
                  exact sp_iret hX hR dX12_blade_109 hf (Nat.le_of_ble_eq_true rfl) (Nat.le_of_ble_eq_true rfl)
                · rw [if_neg h25] at hf
                  refine sp_tblOut (tgt := 110) hX dX12_blade_20 (sp_swo (0) (6) (by decide) (fun kk hka hkb hke => by
                    rcases (show kk = 0 ∨ kk = 1 ∨ kk = 2 ∨ kk = 3 ∨ kk = 4 ∨ kk = 5 ∨ kk = 6 by omega) with rfl | rfl | rfl | rfl | rfl | rfl | rfl
                    · exact h7 (sp_i32 hke (by decide))
                    · exact h9 (sp_i32 hke (by decide))
                    · exact h11 (sp_i32 hke (by decide))
                    · exact h13 (sp_i32 hke (by decide))
                    · exact h17 (sp_i32 hke (by decide))
                    · exact h21 (sp_i32 hke (by decide))
                    · exact h25 (sp_i32 hke (by decide)))) (by decide) ?_
                  refine sp_aload_n (i := 0) (q := 111) hX dX12_blade_110 rfl rfl rfl ?_
                  refine sp_iconst (v := 1) (q := 112) hX dX12_blade_111 li_1 rfl ?_
                  obtain ⟨σ27, v28, h26, hf⟩ := sp_bd_so hf
                  refine sp_callVi (As := [.int ((1 : Int32))]) (rest := []) (q := 115) hX (cnX12_fail (sp_st hX)  h26) cwX12_312 atM_0 rfl rfl rfl rfl rfl (Nat.le_of_ble_eq_true rfl) (Nat.le_of_ble_eq_true rfl) (Nat.le_of_ble_eq_true rfl) (Nat.le_of_ble_eq_true rfl) (Nat.le_of_ble_eq_true rfl) dX12_blade_112 rfl ?_
                  exact sp_iret hX hR dX12_blade_115 hf (Nat.le_of_ble_eq_true rfl) (Nat.le_of_ble_eq_true rfl)
  · rw [if_pos hc] at hf
    refine sp_aload_n (i := 0) (q := 14) hX dX12_blade_13 rfl rfl rfl ?_
    refine sp_iconst (v := 1) (q := 15) hX dX12_blade_14 li_1 rfl ?_
    obtain ⟨σ30, v31, h29, hf⟩ := sp_bd_so hf
    refine sp_callVi (As := [.int ((1 : Int32))]) (rest := []) (q := 18) hX (cnX12_fail (sp_st hX)  h29) cwX12_312 atM_0 rfl rfl rfl rfl rfl (Nat.le_of_ble_eq_true rfl) (Nat.le_of_ble_eq_true rfl) (Nat.le_of_ble_eq_true rfl) (Nat.le_of_ble_eq_true rfl) (Nat.le_of_ble_eq_true rfl) dX12_blade_15 rfl ?_
    exact sp_iret hX hR dX12_blade_18 hf (Nat.le_of_ble_eq_true rfl) (Nat.le_of_ble_eq_true rfl)
set_option maxRecDepth 100000 in
set_option maxHeartbeats 4000000 in
theorem cnX12_blade {l : Launch} (hst : l.stackTraces = false) {w : sp_Wd} {n : Nat}  {σ : sp_St} {a1 : Int32} {a2 : Int32} {τ : sp_St} {r : Int32}  (hf : X12_blade n σ a1 a2 = some (τ, r)) : sp_Ci shM l w yX12_blade cX12_blade 3 (some .int) rmX12_blade 0 0 σ [.ref (w.2.1 0), .int a1, .int a2] τ r :=
  sp_ci (own := RX12) (by decide) rfl hst (Nat.le_of_ble_eq_true rfl) rfl (fun X hX hw hl hR => by subst hw; subst hl; exact hX12_blade hX hR   hf)
def rmX12_throat : Room := { frames := 3, cells := 0, slots := 0, locals := 65 }
def X12_throat (n : Nat)  (σ : sp_St) (a1 : Int32) (a2 : Int32) : Option (sp_St × Int32) :=
  sp_pl (sp_si σ 0 3 ((0 : Int32))) fun σ1 =>
  sp_bd (X12_isThroat n σ1 a1) fun σ4 v5 =>
  if v5 = 0 then
    sp_bd (X12_fail n σ4 ((1 : Int32))) fun σ24 v25 =>
    some (σ24, v25)
  else
    if a2 = 0 then
      sp_ck (sp_in a1 5) <|
      some (σ4, sp_g σ4 16 a1)
    else
      if a2 = 1 then
        sp_ck (sp_in a1 10) <|
        some (σ4, sp_g σ4 6 a1)
      else
        if a2 = 2 then
          sp_bd (X12_leftOf n σ4 a1) fun σ11 v12 =>
          some (σ11, v12)
        else
          if a2 = 3 then
            sp_ck (sp_in a1 5) <|
            some (σ4, sp_g σ4 17 a1)
          else
            if a2 = 4 then
              sp_bd (X12_topOf n σ4 a1) fun σ17 v18 =>
              some (σ17, v18)
            else
              sp_bd (X12_fail n σ4 ((1 : Int32))) fun σ21 v22 =>
              some (σ21, v22)
set_option maxRecDepth 100000 in
set_option maxHeartbeats 4000000 in
theorem hX12_throat {X : sp_X} (hX : sp_OK shM X cX12_throat RX12 3 rmX12_throat) {τ : sp_St} {r : Int32} (hR : sp_Ri shM X (some .int) τ r 0 0) {n : Nat}  {σ : sp_St} {a1 : Int32} {a2 : Int32}  (hf : X12_throat n σ a1 a2 = some (τ, r)) : sp_GG shM X σ 3 [some (.ref (sx_ad X 0)), some (.int a1), some (.int a2)] [] 0 0 0 := by
  unfold X12_throat at hf
  refine sp_aload_n (i := 0) (q := 1) hX dX12_throat_0 rfl rfl rfl ?_
  refine sp_iconst (v := 0) (q := 2) hX dX12_throat_1 li_0 rfl ?_
  obtain ⟨σ1, e2, hf⟩ := sp_pl_some hf
  refine sp_puti (q := 5) hX fpX12_158 fkX12_3 atM_0 dX12_throat_2 rfl ?_
  refine sp_nms e2 ?_
  refine sp_aload_n (i := 0) (q := 6) hX dX12_throat_5 rfl rfl rfl ?_
  refine sp_iload_n (i := 1) (q := 7) hX dX12_throat_6 rfl rfl rfl ?_
  obtain ⟨σ4, v5, h3, hf⟩ := sp_bd_so hf
  refine sp_callVi (As := [.int a1]) (rest := []) (q := 10) hX (cnX12_isThroat (sp_st hX)  h3) cwX12_402 atM_0 rfl rfl rfl rfl rfl (Nat.le_of_ble_eq_true rfl) (Nat.le_of_ble_eq_true rfl) (Nat.le_of_ble_eq_true rfl) (Nat.le_of_ble_eq_true rfl) (Nat.le_of_ble_eq_true rfl) dX12_throat_7 rfl ?_
  refine sp_if_ne (tgt := 19) (q := 13) hX dX12_throat_10 (by decide) rfl (fun hc => ?_) (fun hc => ?_)
  · rw [if_neg hc] at hf
    refine sp_iload_n (i := 2) (q := 20) hX dX12_throat_19 rfl rfl rfl ?_
    by_cases h7 : a2 = 0
    · rw [if_pos h7] at hf
      refine sp_tblIn (off := 36) (tgt := 56) hX dX12_throat_20 (by rw [h7]; decide) (by rw [h7]; decide) (by rw [h7]; decide +kernel) (by decide) ?_
      refine sp_aload_n (i := 0) (q := 57) hX dX12_throat_56 rfl rfl rfl ?_
      refine sp_gets (t := 16) (q := 60) hX flX12_75 fkX12_28 atM_0 srM_0_28 dX12_throat_57 rfl ?_
      refine sp_iload_n (i := 1) (q := 61) hX dX12_throat_60 rfl rfl rfl ?_
      obtain ⟨h6, hf⟩ := sp_ck_some hf
      refine sp_iald (q := 62) hX arM_16 h6 dX12_throat_61 rfl ?_
      exact sp_iret hX hR dX12_throat_62 hf (Nat.le_of_ble_eq_true rfl) (Nat.le_of_ble_eq_true rfl)
    · rw [if_neg h7] at hf
      by_cases h9 : a2 = 1
      · rw [if_pos h9] at hf
        refine sp_tblIn (off := 43) (tgt := 63) hX dX12_throat_20 (by rw [h9]; decide) (by rw [h9]; decide) (by rw [h9]; decide +kernel) (by decide) ?_
        refine sp_aload_n (i := 0) (q := 64) hX dX12_throat_63 rfl rfl rfl ?_
        refine sp_gets (t := 6) (q := 67) hX flX12_43 fkX12_7 atM_0 srM_0_7 dX12_throat_64 rfl ?_
        refine sp_iload_n (i := 1) (q := 68) hX dX12_throat_67 rfl rfl rfl ?_
        obtain ⟨h8, hf⟩ := sp_ck_some hf
        refine sp_iald (q := 69) hX arM_6 h8 dX12_throat_68 rfl ?_
        exact sp_iret hX hR dX12_throat_69 hf (Nat.le_of_ble_eq_true rfl) (Nat.le_of_ble_eq_true rfl)
      · rw [if_neg h9] at hf
        by_cases h13 : a2 = 2
        · rw [if_pos h13] at hf
          refine sp_tblIn (off := 50) (tgt := 70) hX dX12_throat_20 (by rw [h13]; decide) (by rw [h13]; decide) (by rw [h13]; decide +kernel) (by decide) ?_
          refine sp_aload_n (i := 0) (q := 71) hX dX12_throat_70 rfl rfl rfl ?_
          refine sp_iload_n (i := 1) (q := 72) hX dX12_throat_71 rfl rfl rfl ?_
          obtain ⟨σ11, v12, h10, hf⟩ := sp_bd_so hf
          refine sp_callVi (As := [.int a1]) (rest := []) (q := 75) hX (cnX12_leftOf (sp_st hX)  h10) cwX12_405 atM_0 rfl rfl rfl rfl rfl (Nat.le_of_ble_eq_true rfl) (Nat.le_of_ble_eq_true rfl) (Nat.le_of_ble_eq_true rfl) (Nat.le_of_ble_eq_true rfl) (Nat.le_of_ble_eq_true rfl) dX12_throat_72 rfl ?_
          exact sp_iret hX hR dX12_throat_75 hf (Nat.le_of_ble_eq_true rfl) (Nat.le_of_ble_eq_true rfl)
        · rw [if_neg h13] at hf
          by_cases h15 : a2 = 3
          · rw [if_pos h15] at hf
            refine sp_tblIn (off := 56) (tgt := 76) hX dX12_throat_20 (by rw [h15]; decide) (by rw [h15]; decide) (by rw [h15]; decide +kernel) (by decide) ?_
            refine sp_aload_n (i := 0) (q := 77) hX dX12_throat_76 rfl rfl rfl ?_
            refine sp_gets (t := 17) (q := 80) hX flX12_78 fkX12_29 atM_0 srM_0_29 dX12_throat_77 rfl ?_
            refine sp_iload_n (i := 1) (q := 81) hX dX12_throat_80 rfl rfl rfl ?_
            obtain ⟨h14, hf⟩ := sp_ck_some hf
            refine sp_iald (q := 82) hX arM_17 h14 dX12_throat_81 rfl ?_
            exact sp_iret hX hR dX12_throat_82 hf (Nat.le_of_ble_eq_true rfl) (Nat.le_of_ble_eq_true rfl)
          · rw [if_neg h15] at hf
            by_cases h19 : a2 = 4
            · rw [if_pos h19] at hf
              refine sp_tblIn (off := 63) (tgt := 83) hX dX12_throat_20 (by rw [h19]; decide) (by rw [h19]; decide) (by rw [h19]; decide +kernel) (by decide) ?_
              refine sp_aload_n (i := 0) (q := 84) hX dX12_throat_83 rfl rfl rfl ?_
              refine sp_iload_n (i := 1) (q := 85) hX dX12_throat_84 rfl rfl rfl ?_
              obtain ⟨σ17, v18, h16, hf⟩ := sp_bd_so hf
              refine sp_callVi (As := [.int a1]) (rest := []) (q := 88) hX (cnX12_topOf (sp_st hX)  h16) cwX12_387 atM_0 rfl rfl rfl rfl rfl (Nat.le_of_ble_eq_true rfl) (Nat.le_of_ble_eq_true rfl) (Nat.le_of_ble_eq_true rfl) (Nat.le_of_ble_eq_true rfl) (Nat.le_of_ble_eq_true rfl) dX12_throat_85 rfl ?_
              exact sp_iret hX hR dX12_throat_88 hf (Nat.le_of_ble_eq_true rfl) (Nat.le_of_ble_eq_true rfl)
            · rw [if_neg h19] at hf
              refine sp_tblOut (tgt := 89) hX dX12_throat_20 (sp_swo (0) (4) (by decide) (fun kk hka hkb hke => by
                rcases (show kk = 0 ∨ kk = 1 ∨ kk = 2 ∨ kk = 3 ∨ kk = 4 by omega) with rfl | rfl | rfl | rfl | rfl
                · exact h7 (sp_i32 hke (by decide))
                · exact h9 (sp_i32 hke (by decide))
                · exact h13 (sp_i32 hke (by decide))
                · exact h15 (sp_i32 hke (by decide))
                · exact h19 (sp_i32 hke (by decide)))) (by decide) ?_
              refine sp_aload_n (i := 0) (q := 90) hX dX12_throat_89 rfl rfl rfl ?_
              refine sp_iconst (v := 1) (q := 91) hX dX12_throat_90 li_1 rfl ?_
              obtain ⟨σ21, v22, h20, hf⟩ := sp_bd_so hf
              refine sp_callVi (As := [.int ((1 : Int32))]) (rest := []) (q := 94) hX (cnX12_fail (sp_st hX)  h20) cwX12_312 atM_0 rfl rfl rfl rfl rfl (Nat.le_of_ble_eq_true rfl) (Nat.le_of_ble_eq_true rfl) (Nat.le_of_ble_eq_true rfl) (Nat.le_of_ble_eq_true rfl) (Nat.le_of_ble_eq_true rfl) dX12_throat_91 rfl ?_
              exact sp_iret hX hR dX12_throat_94 hf (Nat.le_of_ble_eq_true rfl) (Nat.le_of_ble_eq_true rfl)
  · rw [if_pos hc] at hf
    refine sp_aload_n (i := 0) (q := 14) hX dX12_throat_13 rfl rfl rfl ?_
    refine sp_iconst (v := 1) (q := 15) hX dX12_throat_14 li_1 rfl ?_
    obtain ⟨σ24, v25, h23, hf⟩ := sp_bd_so hf
    refine sp_callVi (As := [.int ((1 : Int32))]) (rest := []) (q := 18) hX (cnX12_fail (sp_st hX)  h23) cwX12_312 atM_0 rfl rfl rfl rfl rfl (Nat.le_of_ble_eq_true rfl) (Nat.le_of_ble_eq_true rfl) (Nat.le_of_ble_eq_true rfl) (Nat.le_of_ble_eq_true rfl) (Nat.le_of_ble_eq_true rfl) dX12_throat_15 rfl ?_
    exact sp_iret hX hR dX12_throat_18 hf (Nat.le_of_ble_eq_true rfl) (Nat.le_of_ble_eq_true rfl)
set_option maxRecDepth 100000 in
set_option maxHeartbeats 4000000 in
theorem cnX12_throat {l : Launch} (hst : l.stackTraces = false) {w : sp_Wd} {n : Nat}  {σ : sp_St} {a1 : Int32} {a2 : Int32} {τ : sp_St} {r : Int32}  (hf : X12_throat n σ a1 a2 = some (τ, r)) : sp_Ci shM l w yX12_throat cX12_throat 3 (some .int) rmX12_throat 0 0 σ [.ref (w.2.1 0), .int a1, .int a2] τ r :=
  sp_ci (own := RX12) (by decide) rfl hst (Nat.le_of_ble_eq_true rfl) rfl (fun X hX hw hl hR => by subst hw; subst hl; exact hX12_throat hX hR   hf)
def rmX12_feud : Room := { frames := 2, cells := 0, slots := 0, locals := 45 }
def X12_feud_37 (n : Nat) (σ : sp_St) (zs0 : Int32) : Option (sp_St × Int32) :=
  sp_ck (sp_zb zs0) <|
  some (σ, zs0)
def X12_feud_32 (n : Nat) (σ : sp_St) : Option (sp_St × Int32) :=
  sp_bd (X12_failing n σ ((1 : Int32))) fun σ2 v3 =>
  X12_feud_37 n σ2 v3
def X12_feud (n : Nat)  (σ : sp_St) (a1 : Int32) (a2 : Int32) : Option (sp_St × Int32) :=
  sp_pl (sp_si σ 0 3 ((0 : Int32))) fun σ1 =>
  sp_bd (X12_isHouse n σ1 a1) fun σ4 v5 =>
  if v5 = 0 then
    X12_feud_32 n σ4
  else
    sp_bd (X12_isHouse n σ4 a2) fun σ7 v8 =>
    if v8 = 0 then
      X12_feud_32 n σ7
    else
      sp_ck (sp_in a1 6) <|
      sp_bd (X12_isOf n σ7 (sp_g σ7 19 a1) a2) fun σ11 v12 =>
      X12_feud_37 n σ11 v12
set_option maxRecDepth 100000 in
set_option maxHeartbeats 4000000 in
theorem hX12_feud_37 {X : sp_X} (hX : sp_OK shM X cX12_feud RX12 3 rmX12_feud) {τ : sp_St} {r : Int32} (hR : sp_Ri shM X (some .boolean) τ r 0 0) {n : Nat}    {σ : sp_St} {zs0 : Int32} (hf : X12_feud_37 n σ zs0 = some (τ, r)) : sp_GG shM X σ 3 [none, none, none] [.int zs0] 37 0 0 := by
  unfold X12_feud_37 at hf
  obtain ⟨h1, hf⟩ := sp_ck_some hf
  exact sp_zret hX hR h1 dX12_feud_37 hf (Nat.le_of_ble_eq_true rfl) (Nat.le_of_ble_eq_true rfl)
set_option maxRecDepth 100000 in
set_option maxHeartbeats 4000000 in
theorem hX12_feud_32 {X : sp_X} (hX : sp_OK shM X cX12_feud RX12 3 rmX12_feud) {τ : sp_St} {r : Int32} (hR : sp_Ri shM X (some .boolean) τ r 0 0) {n : Nat}    {σ : sp_St} (hf : X12_feud_32 n σ = some (τ, r)) : sp_GG shM X σ 3 [some (.ref (sx_ad X 0)), none, none] [] 32 0 0 := by
  unfold X12_feud_32 at hf
  refine sp_aload_n (i := 0) (q := 33) hX dX12_feud_32 rfl rfl rfl ?_
  refine sp_iconst (v := 1) (q := 34) hX dX12_feud_33 li_1 rfl ?_
  obtain ⟨σ2, v3, h1, hf⟩ := sp_bd_so hf
  refine sp_callVi (As := [.int ((1 : Int32))]) (rest := []) (q := 37) hX (cnX12_failing (sp_st hX)  h1) cwX12_411 atM_0 rfl rfl rfl rfl rfl (Nat.le_of_ble_eq_true rfl) (Nat.le_of_ble_eq_true rfl) (Nat.le_of_ble_eq_true rfl) (Nat.le_of_ble_eq_true rfl) (Nat.le_of_ble_eq_true rfl) dX12_feud_34 rfl ?_
  refine sp_drop (lv' := [none, none, none]) trivial ?_
  exact hX12_feud_37 hX hR hf
set_option maxRecDepth 100000 in
set_option maxHeartbeats 4000000 in
theorem hX12_feud {X : sp_X} (hX : sp_OK shM X cX12_feud RX12 3 rmX12_feud) {τ : sp_St} {r : Int32} (hR : sp_Ri shM X (some .boolean) τ r 0 0) {n : Nat}  {σ : sp_St} {a1 : Int32} {a2 : Int32}  (hf : X12_feud n σ a1 a2 = some (τ, r)) : sp_GG shM X σ 3 [some (.ref (sx_ad X 0)), some (.int a1), some (.int a2)] [] 0 0 0 := by
  unfold X12_feud at hf
  refine sp_aload_n (i := 0) (q := 1) hX dX12_feud_0 rfl rfl rfl ?_
  refine sp_iconst (v := 0) (q := 2) hX dX12_feud_1 li_0 rfl ?_
  obtain ⟨σ1, e2, hf⟩ := sp_pl_some hf
  refine sp_puti (q := 5) hX fpX12_158 fkX12_3 atM_0 dX12_feud_2 rfl ?_
  refine sp_nms e2 ?_
  refine sp_iload_n (i := 1) (q := 6) hX dX12_feud_5 rfl rfl rfl ?_
  obtain ⟨σ4, v5, h3, hf⟩ := sp_bd_so hf
  refine sp_callSi (As := [.int a1]) (rest := []) (q := 9) hX (cnX12_isHouse (sp_st hX)  h3) cwX12_408 rfl rfl rfl rfl (Nat.le_of_ble_eq_true rfl) (Nat.le_of_ble_eq_true rfl) (Nat.le_of_ble_eq_true rfl) (Nat.le_of_ble_eq_true rfl) (Nat.le_of_ble_eq_true rfl) dX12_feud_6 rfl ?_
  refine sp_if_eq (tgt := 32) (q := 12) hX dX12_feud_9 (by decide) rfl (fun hc => ?_) (fun hc => ?_)
  · rw [if_pos hc] at hf
    refine sp_drop (lv' := [some (.ref (sx_ad X 0)), none, none]) (And.intro rfl trivial) ?_
    exact hX12_feud_32 hX hR hf
  · rw [if_neg hc] at hf
    refine sp_iload_n (i := 2) (q := 13) hX dX12_feud_12 rfl rfl rfl ?_
    obtain ⟨σ7, v8, h6, hf⟩ := sp_bd_so hf
    refine sp_callSi (As := [.int a2]) (rest := []) (q := 16) hX (cnX12_isHouse (sp_st hX)  h6) cwX12_408 rfl rfl rfl rfl (Nat.le_of_ble_eq_true rfl) (Nat.le_of_ble_eq_true rfl) (Nat.le_of_ble_eq_true rfl) (Nat.le_of_ble_eq_true rfl) (Nat.le_of_ble_eq_true rfl) dX12_feud_13 rfl ?_
    refine sp_if_eq (tgt := 32) (q := 19) hX dX12_feud_16 (by decide) rfl (fun hc => ?_) (fun hc => ?_)
    · rw [if_pos hc] at hf
      refine sp_drop (lv' := [some (.ref (sx_ad X 0)), none, none]) (And.intro rfl trivial) ?_
      exact hX12_feud_32 hX hR hf
    · rw [if_neg hc] at hf
      refine sp_aload_n (i := 0) (q := 20) hX dX12_feud_19 rfl rfl rfl ?_
      refine sp_gets (t := 19) (q := 23) hX flX12_84 fkX12_31 atM_0 srM_0_31 dX12_feud_20 rfl ?_
      refine sp_iload_n (i := 1) (q := 24) hX dX12_feud_23 rfl rfl rfl ?_
      obtain ⟨h9, hf⟩ := sp_ck_some hf
      refine sp_iald (q := 25) hX arM_19 h9 dX12_feud_24 rfl ?_
      refine sp_iload_n (i := 2) (q := 26) hX dX12_feud_25 rfl rfl rfl ?_
      obtain ⟨σ11, v12, h10, hf⟩ := sp_bd_so hf
      refine sp_callSi (As := [.int (sp_g σ7 19 a1), .int a2]) (rest := []) (q := 29) hX (cnX12_isOf (sp_st hX)  h10) cwX12_284 rfl rfl rfl rfl (Nat.le_of_ble_eq_true rfl) (Nat.le_of_ble_eq_true rfl) (Nat.le_of_ble_eq_true rfl) (Nat.le_of_ble_eq_true rfl) (Nat.le_of_ble_eq_true rfl) dX12_feud_26 rfl ?_
      refine sp_goto (tgt := 37) hX dX12_feud_29 (by decide) ?_
      refine sp_drop (lv' := [none, none, none]) trivial ?_
      exact hX12_feud_37 hX hR hf
set_option maxRecDepth 100000 in
set_option maxHeartbeats 4000000 in
theorem cnX12_feud {l : Launch} (hst : l.stackTraces = false) {w : sp_Wd} {n : Nat}  {σ : sp_St} {a1 : Int32} {a2 : Int32} {τ : sp_St} {r : Int32}  (hf : X12_feud n σ a1 a2 = some (τ, r)) : sp_Ci shM l w yX12_feud cX12_feud 3 (some .boolean) rmX12_feud 0 0 σ [.ref (w.2.1 0), .int a1, .int a2] τ r :=
  sp_ci (own := RX12) (by decide) rfl hst (Nat.le_of_ble_eq_true rfl) rfl (fun X hX hw hl hR => by subst hw; subst hl; exact hX12_feud hX hR   hf)
def rmX12_refuse : Room := { frames := 0, cells := 0, slots := 0, locals := 0 }
def X12_refuse (n : Nat)  (σ : sp_St) (a1 : Int32) : Option (sp_St × Int32) :=
  sp_ck (sp_in a1 3) <|
  sp_ck (sp_in a1 3) <|
  sp_pl (sp_sa σ 12 a1.toNatClampNeg ((sp_g σ 12 a1) + ((1 : Int32)))) fun σ3 =>
  some (σ3, (-1 : Int32))
set_option maxRecDepth 100000 in
set_option maxHeartbeats 4000000 in
theorem hX12_refuse {X : sp_X} (hX : sp_OK shM X cX12_refuse RX12 2 rmX12_refuse) {τ : sp_St} {r : Int32} (hR : sp_Ri shM X (some .int) τ r 0 0) {n : Nat}  {σ : sp_St} {a1 : Int32}  (hf : X12_refuse n σ a1 = some (τ, r)) : sp_GG shM X σ 2 [some (.ref (sx_ad X 0)), some (.int a1)] [] 0 0 0 := by
  unfold X12_refuse at hf
  refine sp_aload_n (i := 0) (q := 1) hX dX12_refuse_0 rfl rfl rfl ?_
  refine sp_gets (t := 12) (q := 4) hX flX12_60 fkX12_13 atM_0 srM_0_13 dX12_refuse_1 rfl ?_
  refine sp_iload_n (i := 1) (q := 5) hX dX12_refuse_4 rfl rfl rfl ?_
  refine sp_dup2 (q := 6) hX dX12_refuse_5 rfl rfl rfl ?_
  obtain ⟨h1, hf⟩ := sp_ck_some hf
  refine sp_iald (q := 7) hX arM_12 h1 dX12_refuse_6 rfl ?_
  refine sp_iconst (v := 1) (q := 8) hX dX12_refuse_7 li_1 rfl ?_
  refine sp_iadd (q := 9) hX dX12_refuse_8 rfl ?_
  obtain ⟨h2, hf⟩ := sp_ck_some hf
  obtain ⟨σ3, e4, hf⟩ := sp_pl_some hf
  refine sp_iast (q := 10) hX arM_12 h2 dX12_refuse_9 rfl ?_
  refine sp_nms e4 ?_
  refine sp_iconst (v := -1) (q := 11) hX dX12_refuse_10 li_m1 rfl ?_
  exact sp_iret hX hR dX12_refuse_11 hf (Nat.le_of_ble_eq_true rfl) (Nat.le_of_ble_eq_true rfl)
set_option maxRecDepth 100000 in
set_option maxHeartbeats 4000000 in
theorem cnX12_refuse {l : Launch} (hst : l.stackTraces = false) {w : sp_Wd} {n : Nat}  {σ : sp_St} {a1 : Int32} {τ : sp_St} {r : Int32}  (hf : X12_refuse n σ a1 = some (τ, r)) : sp_Ci shM l w yX12_refuse cX12_refuse 2 (some .int) rmX12_refuse 0 0 σ [.ref (w.2.1 0), .int a1] τ r :=
  sp_ci (own := RX12) (by decide) rfl hst (Nat.le_of_ble_eq_true rfl) rfl (fun X hX hw hl hR => by subst hw; subst hl; exact hX12_refuse hX hR   hf)
def rmX12_keep : Room := { frames := 1, cells := 0, slots := 0, locals := 24 }
def X12_keep_52 (n : Nat) (σ : sp_St) : Option (sp_St) :=
  sp_bv (X12_pack n σ 20 3520 (((88 : Int32)) * (σ.1 0 35))) fun σ2 =>
  sp_pl (sp_si σ2 0 35 ((σ2.1 0 35) + ((1 : Int32)))) fun σ3 =>
  some σ3
def X12_keep_42 (n : Nat) (σ : sp_St) : Option (sp_St) :=
  sp_pl (sp_si σ 0 35 ((σ.1 0 35) - ((1 : Int32)))) fun σ1 =>
  X12_keep_52 n σ1
def X12_keep_12 (n : Nat) : Nat → sp_St → Int32 → Option (sp_St)
  | 0, _, _ => none
  | f + 1, σ, z1 =>
    if ((3520 : Int32)) ≤ z1 then
      X12_keep_42 n σ
    else
      sp_ck (sp_in z1 3520) <|
      sp_ck (sp_in (z1 - ((88 : Int32))) 3520) <|
      sp_pl (sp_sa σ 20 (z1 - ((88 : Int32))).toNatClampNeg (sp_g σ 20 z1)) fun σ3 =>
      sp_pl (z1 + 1) fun x5 =>
      X12_keep_12 n f σ3 x5
def X12_keep (n : Nat)  (σ : sp_St)  : Option (sp_St) :=
  if (σ.1 0 35) = ((40 : Int32)) then
    sp_pl ((88 : Int32)) fun x1 =>
    X12_keep_12 n n σ x1
  else
    X12_keep_52 n σ
set_option maxRecDepth 100000 in
set_option maxHeartbeats 4000000 in
theorem hX12_keep_52 {X : sp_X} (hX : sp_OK shM X cX12_keep RX12 2 rmX12_keep) {τ : sp_St} (hR : sp_Rv shM X τ 0 0) {n : Nat}    {σ : sp_St} (hf : X12_keep_52 n σ = some τ) : sp_GG shM X σ 2 [some (.ref (sx_ad X 0)), none] [] 52 0 0 := by
  unfold X12_keep_52 at hf
  refine sp_aload_n (i := 0) (q := 53) hX dX12_keep_52 rfl rfl rfl ?_
  refine sp_aload_n (i := 0) (q := 54) hX dX12_keep_53 rfl rfl rfl ?_
  refine sp_gets (t := 20) (q := 57) hX flX12_87 fkX12_32 atM_0 srM_0_32 dX12_keep_54 rfl ?_
  refine sp_bipush (v := 88) (q := 59) hX dX12_keep_57 lb_88 rfl ?_
  refine sp_aload_n (i := 0) (q := 60) hX dX12_keep_59 rfl rfl rfl ?_
  refine sp_geti (q := 63) hX flX12_330 fkX12_35 atM_0 dX12_keep_60 rfl ?_
  refine sp_imul (q := 64) hX dX12_keep_63 rfl ?_
  obtain ⟨σ2, h1, hf⟩ := sp_bv_so hf
  refine sp_callVv (As := [.ref (sx_ad X 20), .int (((88 : Int32)) * (σ.1 0 35))]) (rest := []) (q := 67) hX (cnX12_pack (sp_st hX) arM_20 h1) cwX12_414 atM_0 rfl rfl rfl rfl rfl (Nat.le_of_ble_eq_true rfl) (Nat.le_of_ble_eq_true rfl) (Nat.le_of_ble_eq_true rfl) (Nat.le_of_ble_eq_true rfl) (Nat.le_of_ble_eq_true rfl) dX12_keep_64 rfl ?_
  refine sp_aload_n (i := 0) (q := 68) hX dX12_keep_67 rfl rfl rfl ?_
  refine sp_dup (q := 69) hX dX12_keep_68 rfl rfl ?_
  refine sp_geti (q := 72) hX flX12_330 fkX12_35 atM_0 dX12_keep_69 rfl ?_
  refine sp_iconst (v := 1) (q := 73) hX dX12_keep_72 li_1 rfl ?_
  refine sp_iadd (q := 74) hX dX12_keep_73 rfl ?_
  obtain ⟨σ3, e4, hf⟩ := sp_pl_some hf
  refine sp_puti (q := 77) hX fpX12_330 fkX12_35 atM_0 dX12_keep_74 rfl ?_
  refine sp_nms e4 ?_
  exact sp_vret hX hR dX12_keep_77 hf (Nat.le_of_ble_eq_true rfl) (Nat.le_of_ble_eq_true rfl)
set_option maxRecDepth 100000 in
set_option maxHeartbeats 4000000 in
theorem hX12_keep_42 {X : sp_X} (hX : sp_OK shM X cX12_keep RX12 2 rmX12_keep) {τ : sp_St} (hR : sp_Rv shM X τ 0 0) {n : Nat}    {σ : sp_St} (hf : X12_keep_42 n σ = some τ) : sp_GG shM X σ 2 [some (.ref (sx_ad X 0)), none] [] 42 0 0 := by
  unfold X12_keep_42 at hf
  refine sp_aload_n (i := 0) (q := 43) hX dX12_keep_42 rfl rfl rfl ?_
  refine sp_dup (q := 44) hX dX12_keep_43 rfl rfl ?_
  refine sp_geti (q := 47) hX flX12_330 fkX12_35 atM_0 dX12_keep_44 rfl ?_
  refine sp_iconst (v := 1) (q := 48) hX dX12_keep_47 li_1 rfl ?_
  refine sp_isub (q := 49) hX dX12_keep_48 rfl ?_
  obtain ⟨σ1, e2, hf⟩ := sp_pl_some hf
  refine sp_puti (q := 52) hX fpX12_330 fkX12_35 atM_0 dX12_keep_49 rfl ?_
  refine sp_nms e2 ?_
  exact hX12_keep_52 hX hR hf
set_option maxRecDepth 100000 in
set_option maxHeartbeats 4000000 in
theorem hX12_keep_12 {X : sp_X} (hX : sp_OK shM X cX12_keep RX12 2 rmX12_keep) {τ : sp_St} (hR : sp_Rv shM X τ 0 0) {n : Nat}    : ∀ (f : Nat) (σ : sp_St) (z1 : Int32), X12_keep_12 n f σ z1 = some τ → sp_GG shM X σ 2 [some (.ref (sx_ad X 0)), some (.int z1)] [] 12 0 0 := by
  intro f
  induction f with
  | zero =>
    intro σ z1 hf
    rw [X12_keep_12] at hf
    cases hf
  | succ f ih =>
    intro σ z1 hf
    rw [X12_keep_12] at hf
    refine sp_iload_n (i := 1) (q := 13) hX dX12_keep_12 rfl rfl rfl ?_
    refine sp_aload_n (i := 0) (q := 14) hX dX12_keep_13 rfl rfl rfl ?_
    refine sp_gets (t := 20) (q := 17) hX flX12_87 fkX12_32 atM_0 srM_0_32 dX12_keep_14 rfl ?_
    refine sp_aleni (v := (3520 : Int32)) (q := 18) hX arM_20 (by decide) dX12_keep_17 rfl ?_
    refine sp_icmp_ge (tgt := 42) (q := 21) hX dX12_keep_18 (by decide) rfl (fun hc => ?_) (fun hc => ?_)
    · rw [if_pos hc] at hf
      refine sp_drop (lv' := [some (.ref (sx_ad X 0)), none]) (And.intro rfl trivial) ?_
      exact hX12_keep_42 hX hR hf
    · rw [if_neg hc] at hf
      refine sp_aload_n (i := 0) (q := 22) hX dX12_keep_21 rfl rfl rfl ?_
      refine sp_gets (t := 20) (q := 25) hX flX12_87 fkX12_32 atM_0 srM_0_32 dX12_keep_22 rfl ?_
      refine sp_iload_n (i := 1) (q := 26) hX dX12_keep_25 rfl rfl rfl ?_
      refine sp_bipush (v := 88) (q := 28) hX dX12_keep_26 lb_88 rfl ?_
      refine sp_isub (q := 29) hX dX12_keep_28 rfl ?_
      refine sp_aload_n (i := 0) (q := 30) hX dX12_keep_29 rfl rfl rfl ?_
      refine sp_gets (t := 20) (q := 33) hX flX12_87 fkX12_32 atM_0 srM_0_32 dX12_keep_30 rfl ?_
      refine sp_iload_n (i := 1) (q := 34) hX dX12_keep_33 rfl rfl rfl ?_
      obtain ⟨h1, hf⟩ := sp_ck_some hf
      refine sp_iald (q := 35) hX arM_20 h1 dX12_keep_34 rfl ?_
      obtain ⟨h2, hf⟩ := sp_ck_some hf
      obtain ⟨σ3, e4, hf⟩ := sp_pl_some hf
      refine sp_iast (q := 36) hX arM_20 h2 dX12_keep_35 rfl ?_
      refine sp_nms e4 ?_
      obtain ⟨x5, e6, hf⟩ := sp_pl_some hf
      refine sp_iinc (i := 1) (v := x5) (lv' := [some (.ref (sx_ad X 0)), some (.int x5)]) (q := 39) hX dX12_keep_36 rfl (by rw [e6, li_1]) (Nat.le_of_ble_eq_true rfl) rfl rfl rfl ?_
      refine sp_goto (tgt := 12) hX dX12_keep_39 (by decide) ?_
      exact ih σ3 x5 hf
set_option maxRecDepth 100000 in
set_option maxHeartbeats 4000000 in
theorem hX12_keep {X : sp_X} (hX : sp_OK shM X cX12_keep RX12 2 rmX12_keep) {τ : sp_St} (hR : sp_Rv shM X τ 0 0) {n : Nat}  {σ : sp_St}   (hf : X12_keep n σ = some τ) : sp_GG shM X σ 2 [some (.ref (sx_ad X 0)), none] [] 0 0 0 := by
  unfold X12_keep at hf
  refine sp_aload_n (i := 0) (q := 1) hX dX12_keep_0 rfl rfl rfl ?_
  refine sp_geti (q := 4) hX flX12_330 fkX12_35 atM_0 dX12_keep_1 rfl ?_
  refine sp_bipush (v := 40) (q := 6) hX dX12_keep_4 lb_40 rfl ?_
  refine sp_icmp_ne (tgt := 52) (q := 9) hX dX12_keep_6 (by decide) rfl (fun hc => ?_) (fun hc => ?_)
  · rw [if_neg hc] at hf
    exact hX12_keep_52 hX hR hf
  · rw [if_pos hc] at hf
    refine sp_bipush (v := 88) (q := 11) hX dX12_keep_9 lb_88 rfl ?_
    obtain ⟨x1, e2, hf⟩ := sp_pl_some hf
    refine sp_nmi e2 ?_
    refine sp_istore_n (i := 1) (lv' := [some (.ref (sx_ad X 0)), some (.int x1)]) (q := 12) hX dX12_keep_11 rfl (Nat.le_of_ble_eq_true rfl) rfl rfl rfl ?_
    exact hX12_keep_12 hX hR n σ x1 hf
set_option maxRecDepth 100000 in
set_option maxHeartbeats 4000000 in
theorem cnX12_keep {l : Launch} (hst : l.stackTraces = false) {w : sp_Wd} {n : Nat}  {σ : sp_St}  {τ : sp_St}  (hf : X12_keep n σ = some τ) : sp_Cv shM l w yX12_keep cX12_keep 2 rmX12_keep 0 0 σ [.ref (w.2.1 0)] τ :=
  sp_cv (own := RX12) (by decide) rfl hst (Nat.le_of_ble_eq_true rfl) rfl (fun X hX hw hl hR => by subst hw; subst hl; exact hX12_keep hX hR   hf)
def rmX12_days : Room := { frames := 7, cells := 0, slots := 0, locals := 154 }
def X12_days_29 (n : Nat) (σ : sp_St) : Option (sp_St × Int32) :=
  sp_bd (X12_refuse n σ ((1 : Int32))) fun σ2 v3 =>
  some (σ2, v3)
def X12_days (n : Nat)  (σ : sp_St) (a1 : Int32) : Option (sp_St × Int32) :=
  sp_pl (sp_si σ 0 3 ((0 : Int32))) fun σ1 =>
  sp_bd (X12_isIn n σ1 a1.toInt64 ((1 : Int64)) ((20 : Int64))) fun σ4 v5 =>
  if v5 = 0 then
    X12_days_29 n σ4
  else
    if ((σ4.1 0 33) + a1) ≤ ((999 : Int32)) then
      sp_bv (X12_keep n σ4) fun σ7 =>
      sp_bv (X12_goOn n σ7 a1) fun σ9 =>
      some (σ9, σ9.1 0 33)
    else
      X12_days_29 n σ4
set_option maxRecDepth 100000 in
set_option maxHeartbeats 4000000 in
theorem hX12_days_29 {X : sp_X} (hX : sp_OK shM X cX12_days RX12 2 rmX12_days) {τ : sp_St} {r : Int32} (hR : sp_Ri shM X (some .int) τ r 0 0) {n : Nat}    {σ : sp_St} (hf : X12_days_29 n σ = some (τ, r)) : sp_GG shM X σ 2 [some (.ref (sx_ad X 0)), none] [] 29 0 0 := by
  unfold X12_days_29 at hf
  refine sp_aload_n (i := 0) (q := 30) hX dX12_days_29 rfl rfl rfl ?_
  refine sp_iconst (v := 1) (q := 31) hX dX12_days_30 li_1 rfl ?_
  obtain ⟨σ2, v3, h1, hf⟩ := sp_bd_so hf
  refine sp_callVi (As := [.int ((1 : Int32))]) (rest := []) (q := 34) hX (cnX12_refuse (sp_st hX)  h1) cwX12_420 atM_0 rfl rfl rfl rfl rfl (Nat.le_of_ble_eq_true rfl) (Nat.le_of_ble_eq_true rfl) (Nat.le_of_ble_eq_true rfl) (Nat.le_of_ble_eq_true rfl) (Nat.le_of_ble_eq_true rfl) dX12_days_31 rfl ?_
  exact sp_iret hX hR dX12_days_34 hf (Nat.le_of_ble_eq_true rfl) (Nat.le_of_ble_eq_true rfl)
set_option maxRecDepth 100000 in
set_option maxHeartbeats 4000000 in
theorem hX12_days {X : sp_X} (hX : sp_OK shM X cX12_days RX12 2 rmX12_days) {τ : sp_St} {r : Int32} (hR : sp_Ri shM X (some .int) τ r 0 0) {n : Nat}  {σ : sp_St} {a1 : Int32}  (hf : X12_days n σ a1 = some (τ, r)) : sp_GG shM X σ 2 [some (.ref (sx_ad X 0)), some (.int a1)] [] 0 0 0 := by
  unfold X12_days at hf
  refine sp_aload_n (i := 0) (q := 1) hX dX12_days_0 rfl rfl rfl ?_
  refine sp_iconst (v := 0) (q := 2) hX dX12_days_1 li_0 rfl ?_
  obtain ⟨σ1, e2, hf⟩ := sp_pl_some hf
  refine sp_puti (q := 5) hX fpX12_158 fkX12_3 atM_0 dX12_days_2 rfl ?_
  refine sp_nms e2 ?_
  refine sp_iload_n (i := 1) (q := 6) hX dX12_days_5 rfl rfl rfl ?_
  refine sp_i2l (q := 7) hX dX12_days_6 rfl ?_
  refine sp_lconst (v := 1) (q := 8) hX dX12_days_7 (by decide) rfl ?_
  refine sp_ldc2 (v := 20) (q := 11) hX wd_2028 dX12_days_8 rfl ?_
  obtain ⟨σ4, v5, h3, hf⟩ := sp_bd_so hf
  refine sp_callSi (As := [.long a1.toInt64, .long ((1 : Int64)), .long ((20 : Int64))]) (rest := []) (q := 14) hX (cnX12_isIn (sp_st hX)  h3) cwX12_161 rfl rfl rfl rfl (Nat.le_of_ble_eq_true rfl) (Nat.le_of_ble_eq_true rfl) (Nat.le_of_ble_eq_true rfl) (Nat.le_of_ble_eq_true rfl) (Nat.le_of_ble_eq_true rfl) dX12_days_11 rfl ?_
  refine sp_if_eq (tgt := 29) (q := 17) hX dX12_days_14 (by decide) rfl (fun hc => ?_) (fun hc => ?_)
  · rw [if_pos hc] at hf
    refine sp_drop (lv' := [some (.ref (sx_ad X 0)), none]) (And.intro rfl trivial) ?_
    exact hX12_days_29 hX hR hf
  · rw [if_neg hc] at hf
    refine sp_aload_n (i := 0) (q := 18) hX dX12_days_17 rfl rfl rfl ?_
    refine sp_geti (q := 21) hX flX12_325 fkX12_33 atM_0 dX12_days_18 rfl ?_
    refine sp_iload_n (i := 1) (q := 22) hX dX12_days_21 rfl rfl rfl ?_
    refine sp_iadd (q := 23) hX dX12_days_22 rfl ?_
    refine sp_sipush (v := 999) (q := 26) hX dX12_days_23 ls_999 rfl ?_
    refine sp_icmp_le (tgt := 35) (q := 29) hX dX12_days_26 (by decide) rfl (fun hc => ?_) (fun hc => ?_)
    · rw [if_pos hc] at hf
      refine sp_aload_n (i := 0) (q := 36) hX dX12_days_35 rfl rfl rfl ?_
      obtain ⟨σ7, h6, hf⟩ := sp_bv_so hf
      refine sp_callVv (As := []) (rest := []) (q := 39) hX (cnX12_keep (sp_st hX)  h6) cwX12_423 atM_0 rfl rfl rfl rfl rfl (Nat.le_of_ble_eq_true rfl) (Nat.le_of_ble_eq_true rfl) (Nat.le_of_ble_eq_true rfl) (Nat.le_of_ble_eq_true rfl) (Nat.le_of_ble_eq_true rfl) dX12_days_36 rfl ?_
      refine sp_aload_n (i := 0) (q := 40) hX dX12_days_39 rfl rfl rfl ?_
      refine sp_iload_n (i := 1) (q := 41) hX dX12_days_40 rfl rfl rfl ?_
      obtain ⟨σ9, h8, hf⟩ := sp_bv_so hf
      refine sp_callVv (As := [.int a1]) (rest := []) (q := 44) hX (cnX12_goOn (sp_st hX)  h8) cwX12_426 atM_0 rfl rfl rfl rfl rfl (Nat.le_of_ble_eq_true rfl) (Nat.le_of_ble_eq_true rfl) (Nat.le_of_ble_eq_true rfl) (Nat.le_of_ble_eq_true rfl) (Nat.le_of_ble_eq_true rfl) dX12_days_41 rfl ?_
      refine sp_aload_n (i := 0) (q := 45) hX dX12_days_44 rfl rfl rfl ?_
      refine sp_geti (q := 48) hX flX12_325 fkX12_33 atM_0 dX12_days_45 rfl ?_
      exact sp_iret hX hR dX12_days_48 hf (Nat.le_of_ble_eq_true rfl) (Nat.le_of_ble_eq_true rfl)
    · rw [if_neg hc] at hf
      refine sp_drop (lv' := [some (.ref (sx_ad X 0)), none]) (And.intro rfl trivial) ?_
      exact hX12_days_29 hX hR hf
set_option maxRecDepth 100000 in
set_option maxHeartbeats 4000000 in
theorem cnX12_days {l : Launch} (hst : l.stackTraces = false) {w : sp_Wd} {n : Nat}  {σ : sp_St} {a1 : Int32} {τ : sp_St} {r : Int32}  (hf : X12_days n σ a1 = some (τ, r)) : sp_Ci shM l w yX12_days cX12_days 2 (some .int) rmX12_days 0 0 σ [.ref (w.2.1 0), .int a1] τ r :=
  sp_ci (own := RX12) (by decide) rfl hst (Nat.le_of_ble_eq_true rfl) rfl (fun X hX hw hl hR => by subst hw; subst hl; exact hX12_days hX hR   hf)
