def rmX12_toSwallow : Room := { frames := 7, cells := 0, slots := 0, locals := 155 }
def X12_toSwallow_148 (n : Nat) (σ : sp_St) (zs0 : Int32) : Option (sp_St × Int32) :=
  some (σ, zs0)
def X12_toSwallow_143 (n : Nat) (σ : sp_St) : Option (sp_St × Int32) :=
  X12_toSwallow_148 n σ ((-1 : Int32))
def X12_toSwallow_125 (n : Nat) (σ : sp_St) (z1 : Int32) (z2 : Int32) (z3 : Int32) : Option (sp_St × Int32) :=
  if z1 = 0 then
    some (σ, z3)
  else
    if z3 = ((-1 : Int32)) then
      X12_toSwallow_143 n σ
    else
      if z2 = ((1000 : Int32)) then
        X12_toSwallow_143 n σ
      else
        X12_toSwallow_148 n σ z2
def X12_toSwallow_119 (n : Nat) (k39 : sp_St → Int32 → Int32 → Int32 → Int32 → Option (sp_St × Int32)) (σ : sp_St) (z1 : Int32) (z2 : Int32) (z3 : Int32) (z4 : Int32) : Option (sp_St × Int32) :=
  sp_pl (z4 + 1) fun x1 =>
  k39 σ z1 z2 z3 x1
def X12_toSwallow_70 (n : Nat) (k39 : sp_St → Int32 → Int32 → Int32 → Int32 → Option (sp_St × Int32)) (σ : sp_St) (z1 : Int32) (z2 : Int32) (z3 : Int32) (z4 : Int32) (zs0 : Int32) : Option (sp_St × Int32) :=
  if zs0 = ((-1 : Int32)) then
    X12_toSwallow_119 n k39 σ z1 z2 z3 z4
  else
    sp_bv (X12_putIn n σ z4 zs0) fun σ2 =>
    sp_bd (X12_peaceOf n σ2) fun σ4 v5 =>
    sp_bv (X12_unpack n σ4 25 88 ((0 : Int32))) fun σ7 =>
    if z2 < v5 then
      X12_toSwallow_119 n k39 σ7 z1 v5 z4 z4
    else
      X12_toSwallow_119 n k39 σ7 z1 z2 z3 z4
def X12_toSwallow_39 (n : Nat) : Nat → sp_St → Int32 → Int32 → Int32 → Int32 → Option (sp_St × Int32)
  | 0, _, _, _, _, _ => none
  | f + 1, σ, z1, z2, z3, z4 =>
    if (sp_g σ 3 ((2 : Int32))) ≤ z4 then
      X12_toSwallow_125 n σ z1 z2 z3
    else
      sp_ck (sp_in z4 10) <|
      if (sp_g σ 15 z4) = 0 then
        sp_bd (X12_firstRoom n σ z4) fun σ3 v4 =>
        X12_toSwallow_70 n (X12_toSwallow_39 n f) σ3 z1 z2 z3 z4 v4
      else
        X12_toSwallow_70 n (X12_toSwallow_39 n f) σ z1 z2 z3 z4 ((-1 : Int32))
def X12_toSwallow_14 (n : Nat) (σ : sp_St) : Option (sp_St × Int32) :=
  sp_bd (X12_fail n σ ((1 : Int32))) fun σ2 v3 =>
  some (σ2, v3)
def X12_toSwallow (n : Nat)  (σ : sp_St) (a1 : Int32) : Option (sp_St × Int32) :=
  sp_pl (sp_si σ 0 3 ((0 : Int32))) fun σ1 =>
  if a1 < 0 then
    X12_toSwallow_14 n σ1
  else
    if a1 ≤ ((1 : Int32)) then
      sp_bd (X12_peaceOf n σ1) fun σ4 v5 =>
      sp_pl ((-1 : Int32)) fun x6 =>
      sp_bv (X12_pack n σ4 25 88 ((0 : Int32))) fun σ9 =>
      sp_pl ((0 : Int32)) fun x10 =>
      X12_toSwallow_39 n n σ9 a1 v5 x6 x10
    else
      X12_toSwallow_14 n σ1
set_option maxRecDepth 100000 in
set_option maxHeartbeats 4000000 in
theorem hX12_toSwallow_148 {X : sp_X} (hX : sp_OK shM X cX12_toSwallow RX12 7 rmX12_toSwallow) {τ : sp_St} {r : Int32} (hR : sp_Ri shM X (some .int) τ r 0 0) {n : Nat}    {σ : sp_St} {zs0 : Int32} (hf : X12_toSwallow_148 n σ zs0 = some (τ, r)) : sp_GG shM X σ 7 [none, none, none, none, none, none, none] [.int zs0] 148 0 0 := by
  unfold X12_toSwallow_148 at hf
  exact sp_iret hX hR dX12_toSwallow_148 hf (Nat.le_of_ble_eq_true rfl) (Nat.le_of_ble_eq_true rfl)
set_option maxRecDepth 100000 in
set_option maxHeartbeats 4000000 in
theorem hX12_toSwallow_143 {X : sp_X} (hX : sp_OK shM X cX12_toSwallow RX12 7 rmX12_toSwallow) {τ : sp_St} {r : Int32} (hR : sp_Ri shM X (some .int) τ r 0 0) {n : Nat}    {σ : sp_St} (hf : X12_toSwallow_143 n σ = some (τ, r)) : sp_GG shM X σ 7 [none, none, none, none, none, none, none] [] 143 0 0 := by
  unfold X12_toSwallow_143 at hf
  refine sp_iconst (v := -1) (q := 144) hX dX12_toSwallow_143 li_m1 rfl ?_
  refine sp_goto (tgt := 148) hX dX12_toSwallow_144 (by decide) ?_
  exact hX12_toSwallow_148 hX hR hf
set_option maxRecDepth 100000 in
set_option maxHeartbeats 4000000 in
theorem hX12_toSwallow_125 {X : sp_X} (hX : sp_OK shM X cX12_toSwallow RX12 7 rmX12_toSwallow) {τ : sp_St} {r : Int32} (hR : sp_Ri shM X (some .int) τ r 0 0) {n : Nat}    {σ : sp_St} {z1 : Int32} {z2 : Int32} {z3 : Int32} (hf : X12_toSwallow_125 n σ z1 z2 z3 = some (τ, r)) : sp_GG shM X σ 7 [none, some (.int z1), some (.int z2), some (.int z3), none, none, none] [] 125 0 0 := by
  unfold X12_toSwallow_125 at hf
  refine sp_iload_n (i := 1) (q := 126) hX dX12_toSwallow_125 rfl rfl rfl ?_
  refine sp_if_ne (tgt := 131) (q := 129) hX dX12_toSwallow_126 (by decide) rfl (fun hc => ?_) (fun hc => ?_)
  · rw [if_neg hc] at hf
    refine sp_iload_n (i := 3) (q := 132) hX dX12_toSwallow_131 rfl rfl rfl ?_
    refine sp_iconst (v := -1) (q := 133) hX dX12_toSwallow_132 li_m1 rfl ?_
    refine sp_icmp_eq (tgt := 143) (q := 136) hX dX12_toSwallow_133 (by decide) rfl (fun hc => ?_) (fun hc => ?_)
    · rw [if_pos hc] at hf
      refine sp_drop (lv' := [none, none, none, none, none, none, none]) trivial ?_
      exact hX12_toSwallow_143 hX hR hf
    · rw [if_neg hc] at hf
      refine sp_iload_n (i := 2) (q := 137) hX dX12_toSwallow_136 rfl rfl rfl ?_
      refine sp_sipush (v := 1000) (q := 140) hX dX12_toSwallow_137 ls_1000 rfl ?_
      refine sp_icmp_ne (tgt := 147) (q := 143) hX dX12_toSwallow_140 (by decide) rfl (fun hc => ?_) (fun hc => ?_)
      · rw [if_neg hc] at hf
        refine sp_iload_n (i := 2) (q := 148) hX dX12_toSwallow_147 rfl rfl rfl ?_
        refine sp_drop (lv' := [none, none, none, none, none, none, none]) trivial ?_
        exact hX12_toSwallow_148 hX hR hf
      · rw [if_pos hc] at hf
        refine sp_drop (lv' := [none, none, none, none, none, none, none]) trivial ?_
        exact hX12_toSwallow_143 hX hR hf
  · rw [if_pos hc] at hf
    refine sp_iload_n (i := 3) (q := 130) hX dX12_toSwallow_129 rfl rfl rfl ?_
    exact sp_iret hX hR dX12_toSwallow_130 hf (Nat.le_of_ble_eq_true rfl) (Nat.le_of_ble_eq_true rfl)
set_option maxRecDepth 100000 in
set_option maxHeartbeats 4000000 in
theorem hX12_toSwallow_119 {X : sp_X} (hX : sp_OK shM X cX12_toSwallow RX12 7 rmX12_toSwallow) {τ : sp_St} {r : Int32} (hR : sp_Ri shM X (some .int) τ r 0 0) {n : Nat}   {k39 : sp_St → Int32 → Int32 → Int32 → Int32 → Option (sp_St × Int32)} (hk39 : ∀ (σ : sp_St) (z1 : Int32) (z2 : Int32) (z3 : Int32) (z4 : Int32), k39 σ z1 z2 z3 z4 = some (τ, r) → sp_GG shM X σ 7 [some (.ref (sx_ad X 0)), some (.int z1), some (.int z2), some (.int z3), some (.int z4), none, none] [] 39 0 0) {σ : sp_St} {z1 : Int32} {z2 : Int32} {z3 : Int32} {z4 : Int32} (hf : X12_toSwallow_119 n k39 σ z1 z2 z3 z4 = some (τ, r)) : sp_GG shM X σ 7 [some (.ref (sx_ad X 0)), some (.int z1), some (.int z2), some (.int z3), some (.int z4), none, none] [] 119 0 0 := by
  unfold X12_toSwallow_119 at hf
  obtain ⟨x1, e2, hf⟩ := sp_pl_some hf
  refine sp_iinc (i := 4) (v := x1) (lv' := [some (.ref (sx_ad X 0)), some (.int z1), some (.int z2), some (.int z3), some (.int x1), none, none]) (q := 122) hX dX12_toSwallow_119 rfl (by rw [e2, li_1]) (Nat.le_of_ble_eq_true rfl) rfl rfl rfl ?_
  refine sp_goto (tgt := 39) hX dX12_toSwallow_122 (by decide) ?_
  exact hk39 σ z1 z2 z3 x1 hf
set_option maxRecDepth 100000 in
set_option maxHeartbeats 4000000 in
theorem hX12_toSwallow_70 {X : sp_X} (hX : sp_OK shM X cX12_toSwallow RX12 7 rmX12_toSwallow) {τ : sp_St} {r : Int32} (hR : sp_Ri shM X (some .int) τ r 0 0) {n : Nat}   {k39 : sp_St → Int32 → Int32 → Int32 → Int32 → Option (sp_St × Int32)} (hk39 : ∀ (σ : sp_St) (z1 : Int32) (z2 : Int32) (z3 : Int32) (z4 : Int32), k39 σ z1 z2 z3 z4 = some (τ, r) → sp_GG shM X σ 7 [some (.ref (sx_ad X 0)), some (.int z1), some (.int z2), some (.int z3), some (.int z4), none, none] [] 39 0 0) {σ : sp_St} {z1 : Int32} {z2 : Int32} {z3 : Int32} {z4 : Int32} {zs0 : Int32} (hf : X12_toSwallow_70 n k39 σ z1 z2 z3 z4 zs0 = some (τ, r)) : sp_GG shM X σ 7 [some (.ref (sx_ad X 0)), some (.int z1), some (.int z2), some (.int z3), some (.int z4), none, none] [.int zs0] 70 0 0 := by
  unfold X12_toSwallow_70 at hf
  refine sp_istore (i := 5) (lv' := [some (.ref (sx_ad X 0)), some (.int z1), some (.int z2), some (.int z3), some (.int z4), some (.int zs0), none]) (q := 72) hX dX12_toSwallow_70 (Nat.le_of_ble_eq_true rfl) rfl rfl rfl ?_
  refine sp_iload (i := 5) (q := 74) hX dX12_toSwallow_72 rfl rfl ?_
  refine sp_iconst (v := -1) (q := 75) hX dX12_toSwallow_74 li_m1 rfl ?_
  refine sp_icmp_ne (tgt := 81) (q := 78) hX dX12_toSwallow_75 (by decide) rfl (fun hc => ?_) (fun hc => ?_)
  · rw [if_neg hc] at hf
    refine sp_aload_n (i := 0) (q := 82) hX dX12_toSwallow_81 rfl rfl rfl ?_
    refine sp_iload (i := 4) (q := 84) hX dX12_toSwallow_82 rfl rfl ?_
    refine sp_iload (i := 5) (q := 86) hX dX12_toSwallow_84 rfl rfl ?_
    obtain ⟨σ2, h1, hf⟩ := sp_bv_so hf
    refine sp_callVv (As := [.int z4, .int zs0]) (rest := []) (q := 89) hX (cnX12_putIn (sp_st hX)  h1) cwX12_429 atM_0 rfl rfl rfl rfl rfl (Nat.le_of_ble_eq_true rfl) (Nat.le_of_ble_eq_true rfl) (Nat.le_of_ble_eq_true rfl) (Nat.le_of_ble_eq_true rfl) (Nat.le_of_ble_eq_true rfl) dX12_toSwallow_86 rfl ?_
    refine sp_aload_n (i := 0) (q := 90) hX dX12_toSwallow_89 rfl rfl rfl ?_
    obtain ⟨σ4, v5, h3, hf⟩ := sp_bd_so hf
    refine sp_callVi (As := []) (rest := []) (q := 93) hX (cnX12_peaceOf (sp_st hX)  h3) cwX12_437 atM_0 rfl rfl rfl rfl rfl (Nat.le_of_ble_eq_true rfl) (Nat.le_of_ble_eq_true rfl) (Nat.le_of_ble_eq_true rfl) (Nat.le_of_ble_eq_true rfl) (Nat.le_of_ble_eq_true rfl) dX12_toSwallow_90 rfl ?_
    refine sp_istore (i := 6) (lv' := [some (.ref (sx_ad X 0)), some (.int z1), some (.int z2), some (.int z3), some (.int z4), some (.int zs0), some (.int v5)]) (q := 95) hX dX12_toSwallow_93 (Nat.le_of_ble_eq_true rfl) rfl rfl rfl ?_
    refine sp_aload_n (i := 0) (q := 96) hX dX12_toSwallow_95 rfl rfl rfl ?_
    refine sp_aload_n (i := 0) (q := 97) hX dX12_toSwallow_96 rfl rfl rfl ?_
    refine sp_gets (t := 25) (q := 100) hX flX12_102 fkX12_41 atM_0 srM_0_41 dX12_toSwallow_97 rfl ?_
    refine sp_iconst (v := 0) (q := 101) hX dX12_toSwallow_100 li_0 rfl ?_
    obtain ⟨σ7, h6, hf⟩ := sp_bv_so hf
    refine sp_callVv (As := [.ref (sx_ad X 25), .int ((0 : Int32))]) (rest := []) (q := 104) hX (cnX12_unpack (sp_st hX) arM_25 h6) cwX12_432 atM_0 rfl rfl rfl rfl rfl (Nat.le_of_ble_eq_true rfl) (Nat.le_of_ble_eq_true rfl) (Nat.le_of_ble_eq_true rfl) (Nat.le_of_ble_eq_true rfl) (Nat.le_of_ble_eq_true rfl) dX12_toSwallow_101 rfl ?_
    refine sp_iload (i := 6) (q := 106) hX dX12_toSwallow_104 rfl rfl ?_
    refine sp_iload_n (i := 2) (q := 107) hX dX12_toSwallow_106 rfl rfl rfl ?_
    refine sp_icmp_gt (tgt := 113) (q := 110) hX dX12_toSwallow_107 (by decide) rfl (fun hc => ?_) (fun hc => ?_)
    · rw [if_pos hc] at hf
      refine sp_iload (i := 4) (q := 115) hX dX12_toSwallow_113 rfl rfl ?_
      refine sp_istore_n (i := 3) (lv' := [some (.ref (sx_ad X 0)), some (.int z1), some (.int z2), some (.int z4), some (.int z4), some (.int zs0), some (.int v5)]) (q := 116) hX dX12_toSwallow_115 rfl (Nat.le_of_ble_eq_true rfl) rfl rfl rfl ?_
      refine sp_iload (i := 6) (q := 118) hX dX12_toSwallow_116 rfl rfl ?_
      refine sp_istore_n (i := 2) (lv' := [some (.ref (sx_ad X 0)), some (.int z1), some (.int v5), some (.int z4), some (.int z4), some (.int zs0), some (.int v5)]) (q := 119) hX dX12_toSwallow_118 rfl (Nat.le_of_ble_eq_true rfl) rfl rfl rfl ?_
      refine sp_drop (lv' := [some (.ref (sx_ad X 0)), some (.int z1), some (.int v5), some (.int z4), some (.int z4), none, none]) (And.intro rfl (And.intro rfl (And.intro rfl (And.intro rfl (And.intro rfl trivial))))) ?_
      exact hX12_toSwallow_119 hX hR hk39 hf
    · rw [if_neg hc] at hf
      refine sp_goto (tgt := 119) hX dX12_toSwallow_110 (by decide) ?_
      refine sp_drop (lv' := [some (.ref (sx_ad X 0)), some (.int z1), some (.int z2), some (.int z3), some (.int z4), none, none]) (And.intro rfl (And.intro rfl (And.intro rfl (And.intro rfl (And.intro rfl trivial))))) ?_
      exact hX12_toSwallow_119 hX hR hk39 hf
  · rw [if_pos hc] at hf
    refine sp_goto (tgt := 119) hX dX12_toSwallow_78 (by decide) ?_
    refine sp_drop (lv' := [some (.ref (sx_ad X 0)), some (.int z1), some (.int z2), some (.int z3), some (.int z4), none, none]) (And.intro rfl (And.intro rfl (And.intro rfl (And.intro rfl (And.intro rfl trivial))))) ?_
    exact hX12_toSwallow_119 hX hR hk39 hf
set_option maxRecDepth 100000 in
set_option maxHeartbeats 4000000 in
theorem hX12_toSwallow_39 {X : sp_X} (hX : sp_OK shM X cX12_toSwallow RX12 7 rmX12_toSwallow) {τ : sp_St} {r : Int32} (hR : sp_Ri shM X (some .int) τ r 0 0) {n : Nat}    : ∀ (f : Nat) (σ : sp_St) (z1 : Int32) (z2 : Int32) (z3 : Int32) (z4 : Int32), X12_toSwallow_39 n f σ z1 z2 z3 z4 = some (τ, r) → sp_GG shM X σ 7 [some (.ref (sx_ad X 0)), some (.int z1), some (.int z2), some (.int z3), some (.int z4), none, none] [] 39 0 0 := by
  intro f
  induction f with
  | zero =>
    intro σ z1 z2 z3 z4 hf
    rw [X12_toSwallow_39] at hf
    cases hf
  | succ f ih =>
    intro σ z1 z2 z3 z4 hf
    rw [X12_toSwallow_39] at hf
    refine sp_iload (i := 4) (q := 41) hX dX12_toSwallow_39 rfl rfl ?_
    refine sp_aload_n (i := 0) (q := 42) hX dX12_toSwallow_41 rfl rfl rfl ?_
    refine sp_gets (t := 3) (q := 45) hX flX12_33 fkX12_4 atM_0 srM_0_4 dX12_toSwallow_42 rfl ?_
    refine sp_iconst (v := 2) (q := 46) hX dX12_toSwallow_45 li_2 rfl ?_
    refine sp_iald (q := 47) hX arM_3 (by decide) dX12_toSwallow_46 rfl ?_
    refine sp_icmp_ge (tgt := 125) (q := 50) hX dX12_toSwallow_47 (by decide) rfl (fun hc => ?_) (fun hc => ?_)
    · rw [if_pos hc] at hf
      refine sp_drop (lv' := [none, some (.int z1), some (.int z2), some (.int z3), none, none, none]) (And.intro rfl (And.intro rfl (And.intro rfl trivial))) ?_
      exact hX12_toSwallow_125 hX hR hf
    · rw [if_neg hc] at hf
      refine sp_aload_n (i := 0) (q := 51) hX dX12_toSwallow_50 rfl rfl rfl ?_
      refine sp_gets (t := 15) (q := 54) hX flX12_72 fkX12_27 atM_0 srM_0_27 dX12_toSwallow_51 rfl ?_
      refine sp_iload (i := 4) (q := 56) hX dX12_toSwallow_54 rfl rfl ?_
      obtain ⟨h1, hf⟩ := sp_ck_some hf
      refine sp_iald (q := 57) hX arM_15 h1 dX12_toSwallow_56 rfl ?_
      refine sp_if_ne (tgt := 69) (q := 60) hX dX12_toSwallow_57 (by decide) rfl (fun hc => ?_) (fun hc => ?_)
      · rw [if_neg hc] at hf
        refine sp_iconst (v := -1) (q := 70) hX dX12_toSwallow_69 li_m1 rfl ?_
        exact hX12_toSwallow_70 hX hR ih hf
      · rw [if_pos hc] at hf
        refine sp_aload_n (i := 0) (q := 61) hX dX12_toSwallow_60 rfl rfl rfl ?_
        refine sp_iload (i := 4) (q := 63) hX dX12_toSwallow_61 rfl rfl ?_
        obtain ⟨σ3, v4, h2, hf⟩ := sp_bd_so hf
        refine sp_callVi (As := [.int z4]) (rest := []) (q := 66) hX (cnX12_firstRoom (sp_st hX)  h2) cwX12_451 atM_0 rfl rfl rfl rfl rfl (Nat.le_of_ble_eq_true rfl) (Nat.le_of_ble_eq_true rfl) (Nat.le_of_ble_eq_true rfl) (Nat.le_of_ble_eq_true rfl) (Nat.le_of_ble_eq_true rfl) dX12_toSwallow_63 rfl ?_
        refine sp_goto (tgt := 70) hX dX12_toSwallow_66 (by decide) ?_
        exact hX12_toSwallow_70 hX hR ih hf
set_option maxRecDepth 100000 in
set_option maxHeartbeats 4000000 in
theorem hX12_toSwallow_14 {X : sp_X} (hX : sp_OK shM X cX12_toSwallow RX12 7 rmX12_toSwallow) {τ : sp_St} {r : Int32} (hR : sp_Ri shM X (some .int) τ r 0 0) {n : Nat}    {σ : sp_St} (hf : X12_toSwallow_14 n σ = some (τ, r)) : sp_GG shM X σ 7 [some (.ref (sx_ad X 0)), none, none, none, none, none, none] [] 14 0 0 := by
  unfold X12_toSwallow_14 at hf
  refine sp_aload_n (i := 0) (q := 15) hX dX12_toSwallow_14 rfl rfl rfl ?_
  refine sp_iconst (v := 1) (q := 16) hX dX12_toSwallow_15 li_1 rfl ?_
  obtain ⟨σ2, v3, h1, hf⟩ := sp_bd_so hf
  refine sp_callVi (As := [.int ((1 : Int32))]) (rest := []) (q := 19) hX (cnX12_fail (sp_st hX)  h1) cwX12_312 atM_0 rfl rfl rfl rfl rfl (Nat.le_of_ble_eq_true rfl) (Nat.le_of_ble_eq_true rfl) (Nat.le_of_ble_eq_true rfl) (Nat.le_of_ble_eq_true rfl) (Nat.le_of_ble_eq_true rfl) dX12_toSwallow_16 rfl ?_
  exact sp_iret hX hR dX12_toSwallow_19 hf (Nat.le_of_ble_eq_true rfl) (Nat.le_of_ble_eq_true rfl)
set_option maxRecDepth 100000 in
set_option maxHeartbeats 4000000 in
theorem hX12_toSwallow {X : sp_X} (hX : sp_OK shM X cX12_toSwallow RX12 7 rmX12_toSwallow) {τ : sp_St} {r : Int32} (hR : sp_Ri shM X (some .int) τ r 0 0) {n : Nat}  {σ : sp_St} {a1 : Int32}  (hf : X12_toSwallow n σ a1 = some (τ, r)) : sp_GG shM X σ 7 [some (.ref (sx_ad X 0)), some (.int a1), none, none, none, none, none] [] 0 0 0 := by
  unfold X12_toSwallow at hf
  refine sp_aload_n (i := 0) (q := 1) hX dX12_toSwallow_0 rfl rfl rfl ?_
  refine sp_iconst (v := 0) (q := 2) hX dX12_toSwallow_1 li_0 rfl ?_
  obtain ⟨σ1, e2, hf⟩ := sp_pl_some hf
  refine sp_puti (q := 5) hX fpX12_158 fkX12_3 atM_0 dX12_toSwallow_2 rfl ?_
  refine sp_nms e2 ?_
  refine sp_iload_n (i := 1) (q := 6) hX dX12_toSwallow_5 rfl rfl rfl ?_
  refine sp_if_lt (tgt := 14) (q := 9) hX dX12_toSwallow_6 (by decide) rfl (fun hc => ?_) (fun hc => ?_)
  · rw [if_pos hc] at hf
    refine sp_drop (lv' := [some (.ref (sx_ad X 0)), none, none, none, none, none, none]) (And.intro rfl trivial) ?_
    exact hX12_toSwallow_14 hX hR hf
  · rw [if_neg hc] at hf
    refine sp_iload_n (i := 1) (q := 10) hX dX12_toSwallow_9 rfl rfl rfl ?_
    refine sp_iconst (v := 1) (q := 11) hX dX12_toSwallow_10 li_1 rfl ?_
    refine sp_icmp_le (tgt := 20) (q := 14) hX dX12_toSwallow_11 (by decide) rfl (fun hc => ?_) (fun hc => ?_)
    · rw [if_pos hc] at hf
      refine sp_aload_n (i := 0) (q := 21) hX dX12_toSwallow_20 rfl rfl rfl ?_
      obtain ⟨σ4, v5, h3, hf⟩ := sp_bd_so hf
      refine sp_callVi (As := []) (rest := []) (q := 24) hX (cnX12_peaceOf (sp_st hX)  h3) cwX12_437 atM_0 rfl rfl rfl rfl rfl (Nat.le_of_ble_eq_true rfl) (Nat.le_of_ble_eq_true rfl) (Nat.le_of_ble_eq_true rfl) (Nat.le_of_ble_eq_true rfl) (Nat.le_of_ble_eq_true rfl) dX12_toSwallow_21 rfl ?_
      refine sp_istore_n (i := 2) (lv' := [some (.ref (sx_ad X 0)), some (.int a1), some (.int v5), none, none, none, none]) (q := 25) hX dX12_toSwallow_24 rfl (Nat.le_of_ble_eq_true rfl) rfl rfl rfl ?_
      refine sp_iconst (v := -1) (q := 26) hX dX12_toSwallow_25 li_m1 rfl ?_
      obtain ⟨x6, e7, hf⟩ := sp_pl_some hf
      refine sp_nmi e7 ?_
      refine sp_istore_n (i := 3) (lv' := [some (.ref (sx_ad X 0)), some (.int a1), some (.int v5), some (.int x6), none, none, none]) (q := 27) hX dX12_toSwallow_26 rfl (Nat.le_of_ble_eq_true rfl) rfl rfl rfl ?_
      refine sp_aload_n (i := 0) (q := 28) hX dX12_toSwallow_27 rfl rfl rfl ?_
      refine sp_aload_n (i := 0) (q := 29) hX dX12_toSwallow_28 rfl rfl rfl ?_
      refine sp_gets (t := 25) (q := 32) hX flX12_102 fkX12_41 atM_0 srM_0_41 dX12_toSwallow_29 rfl ?_
      refine sp_iconst (v := 0) (q := 33) hX dX12_toSwallow_32 li_0 rfl ?_
      obtain ⟨σ9, h8, hf⟩ := sp_bv_so hf
      refine sp_callVv (As := [.ref (sx_ad X 25), .int ((0 : Int32))]) (rest := []) (q := 36) hX (cnX12_pack (sp_st hX) arM_25 h8) cwX12_414 atM_0 rfl rfl rfl rfl rfl (Nat.le_of_ble_eq_true rfl) (Nat.le_of_ble_eq_true rfl) (Nat.le_of_ble_eq_true rfl) (Nat.le_of_ble_eq_true rfl) (Nat.le_of_ble_eq_true rfl) dX12_toSwallow_33 rfl ?_
      refine sp_iconst (v := 0) (q := 37) hX dX12_toSwallow_36 li_0 rfl ?_
      obtain ⟨x10, e11, hf⟩ := sp_pl_some hf
      refine sp_nmi e11 ?_
      refine sp_istore (i := 4) (lv' := [some (.ref (sx_ad X 0)), some (.int a1), some (.int v5), some (.int x6), some (.int x10), none, none]) (q := 39) hX dX12_toSwallow_37 (Nat.le_of_ble_eq_true rfl) rfl rfl rfl ?_
      exact hX12_toSwallow_39 hX hR n σ9 a1 v5 x6 x10 hf
    · rw [if_neg hc] at hf
      refine sp_drop (lv' := [some (.ref (sx_ad X 0)), none, none, none, none, none, none]) (And.intro rfl trivial) ?_
      exact hX12_toSwallow_14 hX hR hf
set_option maxRecDepth 100000 in
set_option maxHeartbeats 4000000 in
theorem cnX12_toSwallow {l : Launch} (hst : l.stackTraces = false) {w : sp_Wd} {n : Nat}  {σ : sp_St} {a1 : Int32} {τ : sp_St} {r : Int32}  (hf : X12_toSwallow n σ a1 = some (τ, r)) : sp_Ci shM l w yX12_toSwallow cX12_toSwallow 7 (some .int) rmX12_toSwallow 0 0 σ [.ref (w.2.1 0), .int a1] τ r :=
  sp_ci (own := RX12) (by decide) rfl hst (Nat.le_of_ble_eq_true rfl) rfl (fun X hX hw hl hR => by subst hw; subst hl; exact hX12_toSwallow hX hR   hf)
def rmX12_camps : Room := { frames := 1, cells := 0, slots := 0, locals := 21 }
def X12_camps_121 (n : Nat) (σ : sp_St) (z1 : Int32) (z2 : Int32) : Option (sp_St × Int32) :=
  sp_pl (if (z1 &&& z2) = 0 then z1 else ((-1 : Int32))) fun v1 =>
  some (σ, v1)
def X12_camps_115 (n : Nat) (k11 : sp_St → Int32 → Int32 → Int32 → Option (sp_St × Int32)) (σ : sp_St) (z1 : Int32) (z2 : Int32) (z3 : Int32) : Option (sp_St × Int32) :=
  sp_pl (z3 + 1) fun x1 =>
  k11 σ z1 z2 x1
def X12_camps_109 (n : Nat) (k11 : sp_St → Int32 → Int32 → Int32 → Option (sp_St × Int32)) (k48 : sp_St → Int32 → Int32 → Int32 → Int32 → Option (sp_St × Int32)) (σ : sp_St) (z1 : Int32) (z2 : Int32) (z3 : Int32) (z4 : Int32) : Option (sp_St × Int32) :=
  sp_pl (z4 + 1) fun x1 =>
  k48 σ z1 z2 z3 x1
def X12_camps_103 (n : Nat) (k11 : sp_St → Int32 → Int32 → Int32 → Option (sp_St × Int32)) (k48 : sp_St → Int32 → Int32 → Int32 → Int32 → Option (sp_St × Int32)) (k58 : sp_St → Int32 → Int32 → Int32 → Int32 → Int32 → Option (sp_St × Int32)) (σ : sp_St) (z1 : Int32) (z2 : Int32) (z3 : Int32) (z4 : Int32) (z5 : Int32) : Option (sp_St × Int32) :=
  sp_pl (z5 + 1) fun x1 =>
  k58 σ z1 z2 z3 z4 x1
def X12_camps_84 (n : Nat) (k11 : sp_St → Int32 → Int32 → Int32 → Option (sp_St × Int32)) (k48 : sp_St → Int32 → Int32 → Int32 → Int32 → Option (sp_St × Int32)) (k58 : sp_St → Int32 → Int32 → Int32 → Int32 → Int32 → Option (sp_St × Int32)) (σ : sp_St) (z1 : Int32) (z2 : Int32) (z3 : Int32) (z4 : Int32) (z5 : Int32) : Option (sp_St × Int32) :=
  sp_bd (X12_isOf n σ z2 z5) fun σ2 v3 =>
  if v3 = 0 then
    X12_camps_103 n k11 k48 k58 σ2 z1 z2 z3 z4 z5
  else
    sp_ck (sp_in z5 6) <|
    sp_pl (z1 ||| (sp_g σ2 19 z5)) fun x5 =>
    X12_camps_103 n k11 k48 k58 σ2 x5 z2 z3 z4 z5
def X12_camps_58 (n : Nat) (k11 : sp_St → Int32 → Int32 → Int32 → Option (sp_St × Int32)) (k48 : sp_St → Int32 → Int32 → Int32 → Int32 → Option (sp_St × Int32)) : Nat → sp_St → Int32 → Int32 → Int32 → Int32 → Int32 → Option (sp_St × Int32)
  | 0, _, _, _, _, _, _ => none
  | f + 1, σ, z1, z2, z3, z4, z5 =>
    if ((6 : Int32)) ≤ z5 then
      X12_camps_109 n k11 k48 σ z1 z2 z3 z4
    else
      sp_bd (X12_isOf n σ z1 z5) fun σ2 v3 =>
      if v3 = 0 then
        X12_camps_84 n k11 k48 (X12_camps_58 n k11 k48 f) σ2 z1 z2 z3 z4 z5
      else
        sp_ck (sp_in z5 6) <|
        sp_pl (z2 ||| (sp_g σ2 19 z5)) fun x5 =>
        X12_camps_84 n k11 k48 (X12_camps_58 n k11 k48 f) σ2 z1 x5 z3 z4 z5
def X12_camps_48 (n : Nat) (k11 : sp_St → Int32 → Int32 → Int32 → Option (sp_St × Int32)) : Nat → sp_St → Int32 → Int32 → Int32 → Int32 → Option (sp_St × Int32)
  | 0, _, _, _, _, _ => none
  | f + 1, σ, z1, z2, z3, z4 =>
    if ((6 : Int32)) ≤ z4 then
      X12_camps_115 n k11 σ z1 z2 z3
    else
      sp_pl ((0 : Int32)) fun x1 =>
      X12_camps_58 n k11 (X12_camps_48 n k11 f) n σ z1 z2 z3 z4 x1
def X12_camps_11 (n : Nat) : Nat → sp_St → Int32 → Int32 → Int32 → Option (sp_St × Int32)
  | 0, _, _, _, _ => none
  | f + 1, σ, z1, z2, z3 =>
    if ((6 : Int32)) ≤ z3 then
      X12_camps_121 n σ z1 z2
    else
      sp_ck (sp_in z3 6) <|
      if (sp_g σ 19 z3) = 0 then
        X12_camps_115 n (X12_camps_11 n f) σ z1 z2 z3
      else
        sp_bd (X12_isOf n σ (z1 ||| z2) z3) fun σ3 v4 =>
        if v4 = 0 then
          sp_pl (z1 ||| (((1 : Int32)) <<< (z3 &&& 31))) fun x5 =>
          sp_pl ((0 : Int32)) fun x7 =>
          X12_camps_48 n (X12_camps_11 n f) n σ3 x5 z2 z3 x7
        else
          X12_camps_115 n (X12_camps_11 n f) σ3 z1 z2 z3
def X12_camps (n : Nat)  (σ : sp_St)  : Option (sp_St × Int32) :=
  sp_pl (sp_si σ 0 3 ((0 : Int32))) fun σ1 =>
  sp_pl ((0 : Int32)) fun x3 =>
  sp_pl ((0 : Int32)) fun x5 =>
  sp_pl ((0 : Int32)) fun x7 =>
  X12_camps_11 n n σ1 x3 x5 x7
set_option maxRecDepth 100000 in
set_option maxHeartbeats 4000000 in
theorem hX12_camps_121 {X : sp_X} (hX : sp_OK shM X cX12_camps RX12 6 rmX12_camps) {τ : sp_St} {r : Int32} (hR : sp_Ri shM X (some .int) τ r 0 0) {n : Nat}    {σ : sp_St} {z1 : Int32} {z2 : Int32} (hf : X12_camps_121 n σ z1 z2 = some (τ, r)) : sp_GG shM X σ 6 [none, some (.int z1), some (.int z2), none, none, none] [] 121 0 0 := by
  unfold X12_camps_121 at hf
  refine sp_iload_n (i := 1) (q := 122) hX dX12_camps_121 rfl rfl rfl ?_
  refine sp_iload_n (i := 2) (q := 123) hX dX12_camps_122 rfl rfl rfl ?_
  refine sp_iand (q := 124) hX dX12_camps_123 rfl ?_
  obtain ⟨v1, e2, hf⟩ := sp_pl_some hf
  have hj3 : sp_GG shM X σ 6 [none, some (.int z1), some (.int z2), none, none, none] [.int v1] 132 0 0 := by
    exact sp_iret hX hR dX12_camps_132 hf (Nat.le_of_ble_eq_true rfl) (Nat.le_of_ble_eq_true rfl)
  refine sp_if_eq (tgt := 131) (q := 127) hX dX12_camps_124 (by decide) rfl (fun hc => ?_) (fun hc => ?_)
  · refine sp_iload_n (i := 1) (q := 132) hX dX12_camps_131 rfl rfl rfl ?_
    exact sp_nmi (by rw [e2, if_pos hc]) hj3
  · refine sp_iconst (v := -1) (q := 128) hX dX12_camps_127 li_m1 rfl ?_
    refine sp_goto (tgt := 132) hX dX12_camps_128 (by decide) ?_
    exact sp_nmi (by rw [e2, if_neg hc]) hj3
set_option maxRecDepth 100000 in
set_option maxHeartbeats 4000000 in
theorem hX12_camps_115 {X : sp_X} (hX : sp_OK shM X cX12_camps RX12 6 rmX12_camps) {τ : sp_St} {r : Int32} (hR : sp_Ri shM X (some .int) τ r 0 0) {n : Nat}   {k11 : sp_St → Int32 → Int32 → Int32 → Option (sp_St × Int32)} (hk11 : ∀ (σ : sp_St) (z1 : Int32) (z2 : Int32) (z3 : Int32), k11 σ z1 z2 z3 = some (τ, r) → sp_GG shM X σ 6 [some (.ref (sx_ad X 0)), some (.int z1), some (.int z2), some (.int z3), none, none] [] 11 0 0) {σ : sp_St} {z1 : Int32} {z2 : Int32} {z3 : Int32} (hf : X12_camps_115 n k11 σ z1 z2 z3 = some (τ, r)) : sp_GG shM X σ 6 [some (.ref (sx_ad X 0)), some (.int z1), some (.int z2), some (.int z3), none, none] [] 115 0 0 := by
  unfold X12_camps_115 at hf
  obtain ⟨x1, e2, hf⟩ := sp_pl_some hf
  refine sp_iinc (i := 3) (v := x1) (lv' := [some (.ref (sx_ad X 0)), some (.int z1), some (.int z2), some (.int x1), none, none]) (q := 118) hX dX12_camps_115 rfl (by rw [e2, li_1]) (Nat.le_of_ble_eq_true rfl) rfl rfl rfl ?_
  refine sp_goto (tgt := 11) hX dX12_camps_118 (by decide) ?_
  exact hk11 σ z1 z2 x1 hf
set_option maxRecDepth 100000 in
set_option maxHeartbeats 4000000 in
theorem hX12_camps_109 {X : sp_X} (hX : sp_OK shM X cX12_camps RX12 6 rmX12_camps) {τ : sp_St} {r : Int32} (hR : sp_Ri shM X (some .int) τ r 0 0) {n : Nat}   {k11 : sp_St → Int32 → Int32 → Int32 → Option (sp_St × Int32)} (hk11 : ∀ (σ : sp_St) (z1 : Int32) (z2 : Int32) (z3 : Int32), k11 σ z1 z2 z3 = some (τ, r) → sp_GG shM X σ 6 [some (.ref (sx_ad X 0)), some (.int z1), some (.int z2), some (.int z3), none, none] [] 11 0 0) {k48 : sp_St → Int32 → Int32 → Int32 → Int32 → Option (sp_St × Int32)} (hk48 : ∀ (σ : sp_St) (z1 : Int32) (z2 : Int32) (z3 : Int32) (z4 : Int32), k48 σ z1 z2 z3 z4 = some (τ, r) → sp_GG shM X σ 6 [some (.ref (sx_ad X 0)), some (.int z1), some (.int z2), some (.int z3), some (.int z4), none] [] 48 0 0) {σ : sp_St} {z1 : Int32} {z2 : Int32} {z3 : Int32} {z4 : Int32} (hf : X12_camps_109 n k11 k48 σ z1 z2 z3 z4 = some (τ, r)) : sp_GG shM X σ 6 [some (.ref (sx_ad X 0)), some (.int z1), some (.int z2), some (.int z3), some (.int z4), none] [] 109 0 0 := by
  unfold X12_camps_109 at hf
  obtain ⟨x1, e2, hf⟩ := sp_pl_some hf
  refine sp_iinc (i := 4) (v := x1) (lv' := [some (.ref (sx_ad X 0)), some (.int z1), some (.int z2), some (.int z3), some (.int x1), none]) (q := 112) hX dX12_camps_109 rfl (by rw [e2, li_1]) (Nat.le_of_ble_eq_true rfl) rfl rfl rfl ?_
  refine sp_goto (tgt := 48) hX dX12_camps_112 (by decide) ?_
  exact hk48 σ z1 z2 z3 x1 hf
set_option maxRecDepth 100000 in
set_option maxHeartbeats 4000000 in
theorem hX12_camps_103 {X : sp_X} (hX : sp_OK shM X cX12_camps RX12 6 rmX12_camps) {τ : sp_St} {r : Int32} (hR : sp_Ri shM X (some .int) τ r 0 0) {n : Nat}   {k11 : sp_St → Int32 → Int32 → Int32 → Option (sp_St × Int32)} (hk11 : ∀ (σ : sp_St) (z1 : Int32) (z2 : Int32) (z3 : Int32), k11 σ z1 z2 z3 = some (τ, r) → sp_GG shM X σ 6 [some (.ref (sx_ad X 0)), some (.int z1), some (.int z2), some (.int z3), none, none] [] 11 0 0) {k48 : sp_St → Int32 → Int32 → Int32 → Int32 → Option (sp_St × Int32)} (hk48 : ∀ (σ : sp_St) (z1 : Int32) (z2 : Int32) (z3 : Int32) (z4 : Int32), k48 σ z1 z2 z3 z4 = some (τ, r) → sp_GG shM X σ 6 [some (.ref (sx_ad X 0)), some (.int z1), some (.int z2), some (.int z3), some (.int z4), none] [] 48 0 0) {k58 : sp_St → Int32 → Int32 → Int32 → Int32 → Int32 → Option (sp_St × Int32)} (hk58 : ∀ (σ : sp_St) (z1 : Int32) (z2 : Int32) (z3 : Int32) (z4 : Int32) (z5 : Int32), k58 σ z1 z2 z3 z4 z5 = some (τ, r) → sp_GG shM X σ 6 [some (.ref (sx_ad X 0)), some (.int z1), some (.int z2), some (.int z3), some (.int z4), some (.int z5)] [] 58 0 0) {σ : sp_St} {z1 : Int32} {z2 : Int32} {z3 : Int32} {z4 : Int32} {z5 : Int32} (hf : X12_camps_103 n k11 k48 k58 σ z1 z2 z3 z4 z5 = some (τ, r)) : sp_GG shM X σ 6 [some (.ref (sx_ad X 0)), some (.int z1), some (.int z2), some (.int z3), some (.int z4), some (.int z5)] [] 103 0 0 := by
  unfold X12_camps_103 at hf
  obtain ⟨x1, e2, hf⟩ := sp_pl_some hf
  refine sp_iinc (i := 5) (v := x1) (lv' := [some (.ref (sx_ad X 0)), some (.int z1), some (.int z2), some (.int z3), some (.int z4), some (.int x1)]) (q := 106) hX dX12_camps_103 rfl (by rw [e2, li_1]) (Nat.le_of_ble_eq_true rfl) rfl rfl rfl ?_
  refine sp_goto (tgt := 58) hX dX12_camps_106 (by decide) ?_
  exact hk58 σ z1 z2 z3 z4 x1 hf
set_option maxRecDepth 100000 in
set_option maxHeartbeats 4000000 in
theorem hX12_camps_84 {X : sp_X} (hX : sp_OK shM X cX12_camps RX12 6 rmX12_camps) {τ : sp_St} {r : Int32} (hR : sp_Ri shM X (some .int) τ r 0 0) {n : Nat}   {k11 : sp_St → Int32 → Int32 → Int32 → Option (sp_St × Int32)} (hk11 : ∀ (σ : sp_St) (z1 : Int32) (z2 : Int32) (z3 : Int32), k11 σ z1 z2 z3 = some (τ, r) → sp_GG shM X σ 6 [some (.ref (sx_ad X 0)), some (.int z1), some (.int z2), some (.int z3), none, none] [] 11 0 0) {k48 : sp_St → Int32 → Int32 → Int32 → Int32 → Option (sp_St × Int32)} (hk48 : ∀ (σ : sp_St) (z1 : Int32) (z2 : Int32) (z3 : Int32) (z4 : Int32), k48 σ z1 z2 z3 z4 = some (τ, r) → sp_GG shM X σ 6 [some (.ref (sx_ad X 0)), some (.int z1), some (.int z2), some (.int z3), some (.int z4), none] [] 48 0 0) {k58 : sp_St → Int32 → Int32 → Int32 → Int32 → Int32 → Option (sp_St × Int32)} (hk58 : ∀ (σ : sp_St) (z1 : Int32) (z2 : Int32) (z3 : Int32) (z4 : Int32) (z5 : Int32), k58 σ z1 z2 z3 z4 z5 = some (τ, r) → sp_GG shM X σ 6 [some (.ref (sx_ad X 0)), some (.int z1), some (.int z2), some (.int z3), some (.int z4), some (.int z5)] [] 58 0 0) {σ : sp_St} {z1 : Int32} {z2 : Int32} {z3 : Int32} {z4 : Int32} {z5 : Int32} (hf : X12_camps_84 n k11 k48 k58 σ z1 z2 z3 z4 z5 = some (τ, r)) : sp_GG shM X σ 6 [some (.ref (sx_ad X 0)), some (.int z1), some (.int z2), some (.int z3), some (.int z4), some (.int z5)] [] 84 0 0 := by
  unfold X12_camps_84 at hf
  refine sp_iload_n (i := 2) (q := 85) hX dX12_camps_84 rfl rfl rfl ?_
  refine sp_iload (i := 5) (q := 87) hX dX12_camps_85 rfl rfl ?_
  obtain ⟨σ2, v3, h1, hf⟩ := sp_bd_so hf
  refine sp_callSi (As := [.int z2, .int z5]) (rest := []) (q := 90) hX (cnX12_isOf (sp_st hX)  h1) cwX12_284 rfl rfl rfl rfl (Nat.le_of_ble_eq_true rfl) (Nat.le_of_ble_eq_true rfl) (Nat.le_of_ble_eq_true rfl) (Nat.le_of_ble_eq_true rfl) (Nat.le_of_ble_eq_true rfl) dX12_camps_87 rfl ?_
  refine sp_if_eq (tgt := 103) (q := 93) hX dX12_camps_90 (by decide) rfl (fun hc => ?_) (fun hc => ?_)
  · rw [if_pos hc] at hf
    exact hX12_camps_103 hX hR hk11 hk48 hk58 hf
  · rw [if_neg hc] at hf
    refine sp_iload_n (i := 1) (q := 94) hX dX12_camps_93 rfl rfl rfl ?_
    refine sp_aload_n (i := 0) (q := 95) hX dX12_camps_94 rfl rfl rfl ?_
    refine sp_gets (t := 19) (q := 98) hX flX12_84 fkX12_31 atM_0 srM_0_31 dX12_camps_95 rfl ?_
    refine sp_iload (i := 5) (q := 100) hX dX12_camps_98 rfl rfl ?_
    obtain ⟨h4, hf⟩ := sp_ck_some hf
    refine sp_iald (q := 101) hX arM_19 h4 dX12_camps_100 rfl ?_
    refine sp_ior (q := 102) hX dX12_camps_101 rfl ?_
    obtain ⟨x5, e6, hf⟩ := sp_pl_some hf
    refine sp_nmi e6 ?_
    refine sp_istore_n (i := 1) (lv' := [some (.ref (sx_ad X 0)), some (.int x5), some (.int z2), some (.int z3), some (.int z4), some (.int z5)]) (q := 103) hX dX12_camps_102 rfl (Nat.le_of_ble_eq_true rfl) rfl rfl rfl ?_
    exact hX12_camps_103 hX hR hk11 hk48 hk58 hf
set_option maxRecDepth 100000 in
set_option maxHeartbeats 4000000 in
theorem hX12_camps_58 {X : sp_X} (hX : sp_OK shM X cX12_camps RX12 6 rmX12_camps) {τ : sp_St} {r : Int32} (hR : sp_Ri shM X (some .int) τ r 0 0) {n : Nat}   {k11 : sp_St → Int32 → Int32 → Int32 → Option (sp_St × Int32)} (hk11 : ∀ (σ : sp_St) (z1 : Int32) (z2 : Int32) (z3 : Int32), k11 σ z1 z2 z3 = some (τ, r) → sp_GG shM X σ 6 [some (.ref (sx_ad X 0)), some (.int z1), some (.int z2), some (.int z3), none, none] [] 11 0 0) {k48 : sp_St → Int32 → Int32 → Int32 → Int32 → Option (sp_St × Int32)} (hk48 : ∀ (σ : sp_St) (z1 : Int32) (z2 : Int32) (z3 : Int32) (z4 : Int32), k48 σ z1 z2 z3 z4 = some (τ, r) → sp_GG shM X σ 6 [some (.ref (sx_ad X 0)), some (.int z1), some (.int z2), some (.int z3), some (.int z4), none] [] 48 0 0) : ∀ (f : Nat) (σ : sp_St) (z1 : Int32) (z2 : Int32) (z3 : Int32) (z4 : Int32) (z5 : Int32), X12_camps_58 n k11 k48 f σ z1 z2 z3 z4 z5 = some (τ, r) → sp_GG shM X σ 6 [some (.ref (sx_ad X 0)), some (.int z1), some (.int z2), some (.int z3), some (.int z4), some (.int z5)] [] 58 0 0 := by
  intro f
  induction f with
  | zero =>
    intro σ z1 z2 z3 z4 z5 hf
    rw [X12_camps_58] at hf
    cases hf
  | succ f ih =>
    intro σ z1 z2 z3 z4 z5 hf
    rw [X12_camps_58] at hf
    refine sp_iload (i := 5) (q := 60) hX dX12_camps_58 rfl rfl ?_
    refine sp_bipush (v := 6) (q := 62) hX dX12_camps_60 lb_6 rfl ?_
    refine sp_icmp_ge (tgt := 109) (q := 65) hX dX12_camps_62 (by decide) rfl (fun hc => ?_) (fun hc => ?_)
    · rw [if_pos hc] at hf
      refine sp_drop (lv' := [some (.ref (sx_ad X 0)), some (.int z1), some (.int z2), some (.int z3), some (.int z4), none]) (And.intro rfl (And.intro rfl (And.intro rfl (And.intro rfl (And.intro rfl trivial))))) ?_
      exact hX12_camps_109 hX hR hk11 hk48 hf
    · rw [if_neg hc] at hf
      refine sp_iload_n (i := 1) (q := 66) hX dX12_camps_65 rfl rfl rfl ?_
      refine sp_iload (i := 5) (q := 68) hX dX12_camps_66 rfl rfl ?_
      obtain ⟨σ2, v3, h1, hf⟩ := sp_bd_so hf
      refine sp_callSi (As := [.int z1, .int z5]) (rest := []) (q := 71) hX (cnX12_isOf (sp_st hX)  h1) cwX12_284 rfl rfl rfl rfl (Nat.le_of_ble_eq_true rfl) (Nat.le_of_ble_eq_true rfl) (Nat.le_of_ble_eq_true rfl) (Nat.le_of_ble_eq_true rfl) (Nat.le_of_ble_eq_true rfl) dX12_camps_68 rfl ?_
      refine sp_if_eq (tgt := 84) (q := 74) hX dX12_camps_71 (by decide) rfl (fun hc => ?_) (fun hc => ?_)
      · rw [if_pos hc] at hf
        exact hX12_camps_84 hX hR hk11 hk48 ih hf
      · rw [if_neg hc] at hf
        refine sp_iload_n (i := 2) (q := 75) hX dX12_camps_74 rfl rfl rfl ?_
        refine sp_aload_n (i := 0) (q := 76) hX dX12_camps_75 rfl rfl rfl ?_
        refine sp_gets (t := 19) (q := 79) hX flX12_84 fkX12_31 atM_0 srM_0_31 dX12_camps_76 rfl ?_
        refine sp_iload (i := 5) (q := 81) hX dX12_camps_79 rfl rfl ?_
        obtain ⟨h4, hf⟩ := sp_ck_some hf
        refine sp_iald (q := 82) hX arM_19 h4 dX12_camps_81 rfl ?_
        refine sp_ior (q := 83) hX dX12_camps_82 rfl ?_
        obtain ⟨x5, e6, hf⟩ := sp_pl_some hf
        refine sp_nmi e6 ?_
        refine sp_istore_n (i := 2) (lv' := [some (.ref (sx_ad X 0)), some (.int z1), some (.int x5), some (.int z3), some (.int z4), some (.int z5)]) (q := 84) hX dX12_camps_83 rfl (Nat.le_of_ble_eq_true rfl) rfl rfl rfl ?_
        exact hX12_camps_84 hX hR hk11 hk48 ih hf
set_option maxRecDepth 100000 in
set_option maxHeartbeats 4000000 in
theorem hX12_camps_48 {X : sp_X} (hX : sp_OK shM X cX12_camps RX12 6 rmX12_camps) {τ : sp_St} {r : Int32} (hR : sp_Ri shM X (some .int) τ r 0 0) {n : Nat}   {k11 : sp_St → Int32 → Int32 → Int32 → Option (sp_St × Int32)} (hk11 : ∀ (σ : sp_St) (z1 : Int32) (z2 : Int32) (z3 : Int32), k11 σ z1 z2 z3 = some (τ, r) → sp_GG shM X σ 6 [some (.ref (sx_ad X 0)), some (.int z1), some (.int z2), some (.int z3), none, none] [] 11 0 0) : ∀ (f : Nat) (σ : sp_St) (z1 : Int32) (z2 : Int32) (z3 : Int32) (z4 : Int32), X12_camps_48 n k11 f σ z1 z2 z3 z4 = some (τ, r) → sp_GG shM X σ 6 [some (.ref (sx_ad X 0)), some (.int z1), some (.int z2), some (.int z3), some (.int z4), none] [] 48 0 0 := by
  intro f
  induction f with
  | zero =>
    intro σ z1 z2 z3 z4 hf
    rw [X12_camps_48] at hf
    cases hf
  | succ f ih =>
    intro σ z1 z2 z3 z4 hf
    rw [X12_camps_48] at hf
    refine sp_iload (i := 4) (q := 50) hX dX12_camps_48 rfl rfl ?_
    refine sp_bipush (v := 6) (q := 52) hX dX12_camps_50 lb_6 rfl ?_
    refine sp_icmp_ge (tgt := 115) (q := 55) hX dX12_camps_52 (by decide) rfl (fun hc => ?_) (fun hc => ?_)
    · rw [if_pos hc] at hf
      refine sp_drop (lv' := [some (.ref (sx_ad X 0)), some (.int z1), some (.int z2), some (.int z3), none, none]) (And.intro rfl (And.intro rfl (And.intro rfl (And.intro rfl trivial)))) ?_
      exact hX12_camps_115 hX hR hk11 hf
    · rw [if_neg hc] at hf
      refine sp_iconst (v := 0) (q := 56) hX dX12_camps_55 li_0 rfl ?_
      obtain ⟨x1, e2, hf⟩ := sp_pl_some hf
      refine sp_nmi e2 ?_
      refine sp_istore (i := 5) (lv' := [some (.ref (sx_ad X 0)), some (.int z1), some (.int z2), some (.int z3), some (.int z4), some (.int x1)]) (q := 58) hX dX12_camps_56 (Nat.le_of_ble_eq_true rfl) rfl rfl rfl ?_
      exact hX12_camps_58 hX hR hk11 ih n σ z1 z2 z3 z4 x1 hf
set_option maxRecDepth 100000 in
set_option maxHeartbeats 4000000 in
theorem hX12_camps_11 {X : sp_X} (hX : sp_OK shM X cX12_camps RX12 6 rmX12_camps) {τ : sp_St} {r : Int32} (hR : sp_Ri shM X (some .int) τ r 0 0) {n : Nat}    : ∀ (f : Nat) (σ : sp_St) (z1 : Int32) (z2 : Int32) (z3 : Int32), X12_camps_11 n f σ z1 z2 z3 = some (τ, r) → sp_GG shM X σ 6 [some (.ref (sx_ad X 0)), some (.int z1), some (.int z2), some (.int z3), none, none] [] 11 0 0 := by
  intro f
  induction f with
  | zero =>
    intro σ z1 z2 z3 hf
    rw [X12_camps_11] at hf
    cases hf
  | succ f ih =>
    intro σ z1 z2 z3 hf
    rw [X12_camps_11] at hf
    refine sp_iload_n (i := 3) (q := 12) hX dX12_camps_11 rfl rfl rfl ?_
    refine sp_bipush (v := 6) (q := 14) hX dX12_camps_12 lb_6 rfl ?_
    refine sp_icmp_ge (tgt := 121) (q := 17) hX dX12_camps_14 (by decide) rfl (fun hc => ?_) (fun hc => ?_)
    · rw [if_pos hc] at hf
      refine sp_drop (lv' := [none, some (.int z1), some (.int z2), none, none, none]) (And.intro rfl (And.intro rfl trivial)) ?_
      exact hX12_camps_121 hX hR hf
    · rw [if_neg hc] at hf
      refine sp_aload_n (i := 0) (q := 18) hX dX12_camps_17 rfl rfl rfl ?_
      refine sp_gets (t := 19) (q := 21) hX flX12_84 fkX12_31 atM_0 srM_0_31 dX12_camps_18 rfl ?_
      refine sp_iload_n (i := 3) (q := 22) hX dX12_camps_21 rfl rfl rfl ?_
      obtain ⟨h1, hf⟩ := sp_ck_some hf
      refine sp_iald (q := 23) hX arM_19 h1 dX12_camps_22 rfl ?_
      refine sp_if_eq (tgt := 115) (q := 26) hX dX12_camps_23 (by decide) rfl (fun hc => ?_) (fun hc => ?_)
      · rw [if_pos hc] at hf
        exact hX12_camps_115 hX hR ih hf
      · rw [if_neg hc] at hf
        refine sp_iload_n (i := 1) (q := 27) hX dX12_camps_26 rfl rfl rfl ?_
        refine sp_iload_n (i := 2) (q := 28) hX dX12_camps_27 rfl rfl rfl ?_
        refine sp_ior (q := 29) hX dX12_camps_28 rfl ?_
        refine sp_iload_n (i := 3) (q := 30) hX dX12_camps_29 rfl rfl rfl ?_
        obtain ⟨σ3, v4, h2, hf⟩ := sp_bd_so hf
        refine sp_callSi (As := [.int (z1 ||| z2), .int z3]) (rest := []) (q := 33) hX (cnX12_isOf (sp_st hX)  h2) cwX12_284 rfl rfl rfl rfl (Nat.le_of_ble_eq_true rfl) (Nat.le_of_ble_eq_true rfl) (Nat.le_of_ble_eq_true rfl) (Nat.le_of_ble_eq_true rfl) (Nat.le_of_ble_eq_true rfl) dX12_camps_30 rfl ?_
        refine sp_if_eq (tgt := 39) (q := 36) hX dX12_camps_33 (by decide) rfl (fun hc => ?_) (fun hc => ?_)
        · rw [if_pos hc] at hf
          refine sp_iload_n (i := 1) (q := 40) hX dX12_camps_39 rfl rfl rfl ?_
          refine sp_iconst (v := 1) (q := 41) hX dX12_camps_40 li_1 rfl ?_
          refine sp_iload_n (i := 3) (q := 42) hX dX12_camps_41 rfl rfl rfl ?_
          refine sp_ishl (q := 43) hX dX12_camps_42 rfl ?_
          refine sp_ior (q := 44) hX dX12_camps_43 rfl ?_
          obtain ⟨x5, e6, hf⟩ := sp_pl_some hf
          refine sp_nmi e6 ?_
          refine sp_istore_n (i := 1) (lv' := [some (.ref (sx_ad X 0)), some (.int x5), some (.int z2), some (.int z3), none, none]) (q := 45) hX dX12_camps_44 rfl (Nat.le_of_ble_eq_true rfl) rfl rfl rfl ?_
          refine sp_iconst (v := 0) (q := 46) hX dX12_camps_45 li_0 rfl ?_
          obtain ⟨x7, e8, hf⟩ := sp_pl_some hf
          refine sp_nmi e8 ?_
          refine sp_istore (i := 4) (lv' := [some (.ref (sx_ad X 0)), some (.int x5), some (.int z2), some (.int z3), some (.int x7), none]) (q := 48) hX dX12_camps_46 (Nat.le_of_ble_eq_true rfl) rfl rfl rfl ?_
          exact hX12_camps_48 hX hR ih n σ3 x5 z2 z3 x7 hf
        · rw [if_neg hc] at hf
          refine sp_goto (tgt := 115) hX dX12_camps_36 (by decide) ?_
          exact hX12_camps_115 hX hR ih hf
set_option maxRecDepth 100000 in
set_option maxHeartbeats 4000000 in
theorem hX12_camps {X : sp_X} (hX : sp_OK shM X cX12_camps RX12 6 rmX12_camps) {τ : sp_St} {r : Int32} (hR : sp_Ri shM X (some .int) τ r 0 0) {n : Nat}  {σ : sp_St}   (hf : X12_camps n σ = some (τ, r)) : sp_GG shM X σ 6 [some (.ref (sx_ad X 0)), none, none, none, none, none] [] 0 0 0 := by
  unfold X12_camps at hf
  refine sp_aload_n (i := 0) (q := 1) hX dX12_camps_0 rfl rfl rfl ?_
  refine sp_iconst (v := 0) (q := 2) hX dX12_camps_1 li_0 rfl ?_
  obtain ⟨σ1, e2, hf⟩ := sp_pl_some hf
  refine sp_puti (q := 5) hX fpX12_158 fkX12_3 atM_0 dX12_camps_2 rfl ?_
  refine sp_nms e2 ?_
  refine sp_iconst (v := 0) (q := 6) hX dX12_camps_5 li_0 rfl ?_
  obtain ⟨x3, e4, hf⟩ := sp_pl_some hf
  refine sp_nmi e4 ?_
  refine sp_istore_n (i := 1) (lv' := [some (.ref (sx_ad X 0)), some (.int x3), none, none, none, none]) (q := 7) hX dX12_camps_6 rfl (Nat.le_of_ble_eq_true rfl) rfl rfl rfl ?_
  refine sp_iconst (v := 0) (q := 8) hX dX12_camps_7 li_0 rfl ?_
  obtain ⟨x5, e6, hf⟩ := sp_pl_some hf
  refine sp_nmi e6 ?_
  refine sp_istore_n (i := 2) (lv' := [some (.ref (sx_ad X 0)), some (.int x3), some (.int x5), none, none, none]) (q := 9) hX dX12_camps_8 rfl (Nat.le_of_ble_eq_true rfl) rfl rfl rfl ?_
  refine sp_iconst (v := 0) (q := 10) hX dX12_camps_9 li_0 rfl ?_
  obtain ⟨x7, e8, hf⟩ := sp_pl_some hf
  refine sp_nmi e8 ?_
  refine sp_istore_n (i := 3) (lv' := [some (.ref (sx_ad X 0)), some (.int x3), some (.int x5), some (.int x7), none, none]) (q := 11) hX dX12_camps_10 rfl (Nat.le_of_ble_eq_true rfl) rfl rfl rfl ?_
  exact hX12_camps_11 hX hR n σ1 x3 x5 x7 hf
set_option maxRecDepth 100000 in
set_option maxHeartbeats 4000000 in
theorem cnX12_camps {l : Launch} (hst : l.stackTraces = false) {w : sp_Wd} {n : Nat}  {σ : sp_St}  {τ : sp_St} {r : Int32}  (hf : X12_camps n σ = some (τ, r)) : sp_Ci shM l w yX12_camps cX12_camps 6 (some .int) rmX12_camps 0 0 σ [.ref (w.2.1 0)] τ r :=
  sp_ci (own := RX12) (by decide) rfl hst (Nat.le_of_ble_eq_true rfl) rfl (fun X hX hw hl hR => by subst hw; subst hl; exact hX12_camps hX hR   hf)
def rmX12_grudge : Room := { frames := 2, cells := 0, slots := 0, locals := 45 }
def X12_grudge_61 (n : Nat) (σ : sp_St) (z2 : Int32) : Option (sp_St × Int32) :=
  some (σ, z2)
def X12_grudge_53 (n : Nat) (k22 : sp_St → Int32 → Int32 → Int32 → Option (sp_St × Int32)) (σ : sp_St) (z1 : Int32) (z3 : Int32) (zs0 : Int32) (zs1 : Int32) : Option (sp_St × Int32) :=
  sp_pl (zs1 + zs0) fun x1 =>
  sp_pl (z3 + 1) fun x3 =>
  k22 σ z1 x1 x3
def X12_grudge_22 (n : Nat) : Nat → sp_St → Int32 → Int32 → Int32 → Option (sp_St × Int32)
  | 0, _, _, _, _ => none
  | f + 1, σ, z1, z2, z3 =>
    if (sp_g σ 3 ((2 : Int32))) ≤ z3 then
      X12_grudge_61 n σ z2
    else
      sp_ck (sp_in z3 20) <|
      if (sp_g σ 7 z3) = z1 then
        sp_ck (sp_in z3 10) <|
        X12_grudge_53 n (X12_grudge_22 n f) σ z1 z3 (sp_g σ 14 z3) z2
      else
        X12_grudge_53 n (X12_grudge_22 n f) σ z1 z3 ((0 : Int32)) z2
def X12_grudge (n : Nat)  (σ : sp_St) (a1 : Int32) : Option (sp_St × Int32) :=
  sp_pl (sp_si σ 0 3 ((0 : Int32))) fun σ1 =>
  sp_bd (X12_isHouse n σ1 a1) fun σ4 v5 =>
  if v5 = 0 then
    sp_bd (X12_fail n σ4 ((1 : Int32))) fun σ11 v12 =>
    some (σ11, v12)
  else
    sp_pl ((0 : Int32)) fun x6 =>
    sp_pl ((0 : Int32)) fun x8 =>
    X12_grudge_22 n n σ4 a1 x6 x8
set_option maxRecDepth 100000 in
set_option maxHeartbeats 4000000 in
theorem hX12_grudge_61 {X : sp_X} (hX : sp_OK shM X cX12_grudge RX12 4 rmX12_grudge) {τ : sp_St} {r : Int32} (hR : sp_Ri shM X (some .int) τ r 0 0) {n : Nat}    {σ : sp_St} {z2 : Int32} (hf : X12_grudge_61 n σ z2 = some (τ, r)) : sp_GG shM X σ 4 [none, none, some (.int z2), none] [] 61 0 0 := by
  unfold X12_grudge_61 at hf
  refine sp_iload_n (i := 2) (q := 62) hX dX12_grudge_61 rfl rfl rfl ?_
  exact sp_iret hX hR dX12_grudge_62 hf (Nat.le_of_ble_eq_true rfl) (Nat.le_of_ble_eq_true rfl)
set_option maxRecDepth 100000 in
set_option maxHeartbeats 4000000 in
theorem hX12_grudge_53 {X : sp_X} (hX : sp_OK shM X cX12_grudge RX12 4 rmX12_grudge) {τ : sp_St} {r : Int32} (hR : sp_Ri shM X (some .int) τ r 0 0) {n : Nat}   {k22 : sp_St → Int32 → Int32 → Int32 → Option (sp_St × Int32)} (hk22 : ∀ (σ : sp_St) (z1 : Int32) (z2 : Int32) (z3 : Int32), k22 σ z1 z2 z3 = some (τ, r) → sp_GG shM X σ 4 [some (.ref (sx_ad X 0)), some (.int z1), some (.int z2), some (.int z3)] [] 22 0 0) {σ : sp_St} {z1 : Int32} {z3 : Int32} {zs0 : Int32} {zs1 : Int32} (hf : X12_grudge_53 n k22 σ z1 z3 zs0 zs1 = some (τ, r)) : sp_GG shM X σ 4 [some (.ref (sx_ad X 0)), some (.int z1), none, some (.int z3)] [.int zs0, .int zs1] 53 0 0 := by
  unfold X12_grudge_53 at hf
  refine sp_iadd (q := 54) hX dX12_grudge_53 rfl ?_
  obtain ⟨x1, e2, hf⟩ := sp_pl_some hf
  refine sp_nmi e2 ?_
  refine sp_istore_n (i := 2) (lv' := [some (.ref (sx_ad X 0)), some (.int z1), some (.int x1), some (.int z3)]) (q := 55) hX dX12_grudge_54 rfl (Nat.le_of_ble_eq_true rfl) rfl rfl rfl ?_
  obtain ⟨x3, e4, hf⟩ := sp_pl_some hf
  refine sp_iinc (i := 3) (v := x3) (lv' := [some (.ref (sx_ad X 0)), some (.int z1), some (.int x1), some (.int x3)]) (q := 58) hX dX12_grudge_55 rfl (by rw [e4, li_1]) (Nat.le_of_ble_eq_true rfl) rfl rfl rfl ?_
  refine sp_goto (tgt := 22) hX dX12_grudge_58 (by decide) ?_
  exact hk22 σ z1 x1 x3 hf
set_option maxRecDepth 100000 in
set_option maxHeartbeats 4000000 in
theorem hX12_grudge_22 {X : sp_X} (hX : sp_OK shM X cX12_grudge RX12 4 rmX12_grudge) {τ : sp_St} {r : Int32} (hR : sp_Ri shM X (some .int) τ r 0 0) {n : Nat}    : ∀ (f : Nat) (σ : sp_St) (z1 : Int32) (z2 : Int32) (z3 : Int32), X12_grudge_22 n f σ z1 z2 z3 = some (τ, r) → sp_GG shM X σ 4 [some (.ref (sx_ad X 0)), some (.int z1), some (.int z2), some (.int z3)] [] 22 0 0 := by
  intro f
  induction f with
  | zero =>
    intro σ z1 z2 z3 hf
    rw [X12_grudge_22] at hf
    cases hf
  | succ f ih =>
    intro σ z1 z2 z3 hf
    rw [X12_grudge_22] at hf
    refine sp_iload_n (i := 3) (q := 23) hX dX12_grudge_22 rfl rfl rfl ?_
    refine sp_aload_n (i := 0) (q := 24) hX dX12_grudge_23 rfl rfl rfl ?_
    refine sp_gets (t := 3) (q := 27) hX flX12_33 fkX12_4 atM_0 srM_0_4 dX12_grudge_24 rfl ?_
    refine sp_iconst (v := 2) (q := 28) hX dX12_grudge_27 li_2 rfl ?_
    refine sp_iald (q := 29) hX arM_3 (by decide) dX12_grudge_28 rfl ?_
    refine sp_icmp_ge (tgt := 61) (q := 32) hX dX12_grudge_29 (by decide) rfl (fun hc => ?_) (fun hc => ?_)
    · rw [if_pos hc] at hf
      refine sp_drop (lv' := [none, none, some (.int z2), none]) (And.intro rfl trivial) ?_
      exact hX12_grudge_61 hX hR hf
    · rw [if_neg hc] at hf
      refine sp_iload_n (i := 2) (q := 33) hX dX12_grudge_32 rfl rfl rfl ?_
      refine sp_aload_n (i := 0) (q := 34) hX dX12_grudge_33 rfl rfl rfl ?_
      refine sp_gets (t := 7) (q := 37) hX flX12_46 fkX12_8 atM_0 srM_0_8 dX12_grudge_34 rfl ?_
      refine sp_iload_n (i := 3) (q := 38) hX dX12_grudge_37 rfl rfl rfl ?_
      obtain ⟨h1, hf⟩ := sp_ck_some hf
      refine sp_iald (q := 39) hX arM_7 h1 dX12_grudge_38 rfl ?_
      refine sp_iload_n (i := 1) (q := 40) hX dX12_grudge_39 rfl rfl rfl ?_
      refine sp_icmp_ne (tgt := 52) (q := 43) hX dX12_grudge_40 (by decide) rfl (fun hc => ?_) (fun hc => ?_)
      · rw [if_neg hc] at hf
        refine sp_iconst (v := 0) (q := 53) hX dX12_grudge_52 li_0 rfl ?_
        refine sp_drop (lv' := [some (.ref (sx_ad X 0)), some (.int z1), none, some (.int z3)]) (And.intro rfl (And.intro rfl (And.intro rfl trivial))) ?_
        exact hX12_grudge_53 hX hR ih hf
      · rw [if_pos hc] at hf
        refine sp_aload_n (i := 0) (q := 44) hX dX12_grudge_43 rfl rfl rfl ?_
        refine sp_gets (t := 14) (q := 47) hX flX12_70 fkX12_26 atM_0 srM_0_26 dX12_grudge_44 rfl ?_
        refine sp_iload_n (i := 3) (q := 48) hX dX12_grudge_47 rfl rfl rfl ?_
        obtain ⟨h2, hf⟩ := sp_ck_some hf
        refine sp_iald (q := 49) hX arM_14 h2 dX12_grudge_48 rfl ?_
        refine sp_goto (tgt := 53) hX dX12_grudge_49 (by decide) ?_
        refine sp_drop (lv' := [some (.ref (sx_ad X 0)), some (.int z1), none, some (.int z3)]) (And.intro rfl (And.intro rfl (And.intro rfl trivial))) ?_
        exact hX12_grudge_53 hX hR ih hf
set_option maxRecDepth 100000 in
set_option maxHeartbeats 4000000 in
theorem hX12_grudge {X : sp_X} (hX : sp_OK shM X cX12_grudge RX12 4 rmX12_grudge) {τ : sp_St} {r : Int32} (hR : sp_Ri shM X (some .int) τ r 0 0) {n : Nat}  {σ : sp_St} {a1 : Int32}  (hf : X12_grudge n σ a1 = some (τ, r)) : sp_GG shM X σ 4 [some (.ref (sx_ad X 0)), some (.int a1), none, none] [] 0 0 0 := by
  unfold X12_grudge at hf
  refine sp_aload_n (i := 0) (q := 1) hX dX12_grudge_0 rfl rfl rfl ?_
  refine sp_iconst (v := 0) (q := 2) hX dX12_grudge_1 li_0 rfl ?_
  obtain ⟨σ1, e2, hf⟩ := sp_pl_some hf
  refine sp_puti (q := 5) hX fpX12_158 fkX12_3 atM_0 dX12_grudge_2 rfl ?_
  refine sp_nms e2 ?_
  refine sp_iload_n (i := 1) (q := 6) hX dX12_grudge_5 rfl rfl rfl ?_
  obtain ⟨σ4, v5, h3, hf⟩ := sp_bd_so hf
  refine sp_callSi (As := [.int a1]) (rest := []) (q := 9) hX (cnX12_isHouse (sp_st hX)  h3) cwX12_408 rfl rfl rfl rfl (Nat.le_of_ble_eq_true rfl) (Nat.le_of_ble_eq_true rfl) (Nat.le_of_ble_eq_true rfl) (Nat.le_of_ble_eq_true rfl) (Nat.le_of_ble_eq_true rfl) dX12_grudge_6 rfl ?_
  refine sp_if_ne (tgt := 18) (q := 12) hX dX12_grudge_9 (by decide) rfl (fun hc => ?_) (fun hc => ?_)
  · rw [if_neg hc] at hf
    refine sp_iconst (v := 0) (q := 19) hX dX12_grudge_18 li_0 rfl ?_
    obtain ⟨x6, e7, hf⟩ := sp_pl_some hf
    refine sp_nmi e7 ?_
    refine sp_istore_n (i := 2) (lv' := [some (.ref (sx_ad X 0)), some (.int a1), some (.int x6), none]) (q := 20) hX dX12_grudge_19 rfl (Nat.le_of_ble_eq_true rfl) rfl rfl rfl ?_
    refine sp_iconst (v := 0) (q := 21) hX dX12_grudge_20 li_0 rfl ?_
    obtain ⟨x8, e9, hf⟩ := sp_pl_some hf
    refine sp_nmi e9 ?_
    refine sp_istore_n (i := 3) (lv' := [some (.ref (sx_ad X 0)), some (.int a1), some (.int x6), some (.int x8)]) (q := 22) hX dX12_grudge_21 rfl (Nat.le_of_ble_eq_true rfl) rfl rfl rfl ?_
    exact hX12_grudge_22 hX hR n σ4 a1 x6 x8 hf
  · rw [if_pos hc] at hf
    refine sp_aload_n (i := 0) (q := 13) hX dX12_grudge_12 rfl rfl rfl ?_
    refine sp_iconst (v := 1) (q := 14) hX dX12_grudge_13 li_1 rfl ?_
    obtain ⟨σ11, v12, h10, hf⟩ := sp_bd_so hf
    refine sp_callVi (As := [.int ((1 : Int32))]) (rest := []) (q := 17) hX (cnX12_fail (sp_st hX)  h10) cwX12_312 atM_0 rfl rfl rfl rfl rfl (Nat.le_of_ble_eq_true rfl) (Nat.le_of_ble_eq_true rfl) (Nat.le_of_ble_eq_true rfl) (Nat.le_of_ble_eq_true rfl) (Nat.le_of_ble_eq_true rfl) dX12_grudge_14 rfl ?_
    exact sp_iret hX hR dX12_grudge_17 hf (Nat.le_of_ble_eq_true rfl) (Nat.le_of_ble_eq_true rfl)
set_option maxRecDepth 100000 in
set_option maxHeartbeats 4000000 in
theorem cnX12_grudge {l : Launch} (hst : l.stackTraces = false) {w : sp_Wd} {n : Nat}  {σ : sp_St} {a1 : Int32} {τ : sp_St} {r : Int32}  (hf : X12_grudge n σ a1 = some (τ, r)) : sp_Ci shM l w yX12_grudge cX12_grudge 4 (some .int) rmX12_grudge 0 0 σ [.ref (w.2.1 0), .int a1] τ r :=
  sp_ci (own := RX12) (by decide) rfl hst (Nat.le_of_ble_eq_true rfl) rfl (fun X hX hw hl hR => by subst hw; subst hl; exact hX12_grudge hX hR   hf)
def rmX12_foes : Room := { frames := 2, cells := 0, slots := 0, locals := 45 }
def X12_foes_40 (n : Nat) (σ : sp_St) (zs0 : Int32) : Option (sp_St × Int32) :=
  some (σ, zs0)
def X12_foes_35 (n : Nat) (σ : sp_St) : Option (sp_St × Int32) :=
  sp_bd (X12_fail n σ ((1 : Int32))) fun σ2 v3 =>
  X12_foes_40 n σ2 v3
def X12_foes (n : Nat)  (σ : sp_St) (a1 : Int32) (a2 : Int32) : Option (sp_St × Int32) :=
  sp_pl (sp_si σ 0 3 ((0 : Int32))) fun σ1 =>
  sp_bd (X12_isHouse n σ1 a1) fun σ4 v5 =>
  if v5 = 0 then
    X12_foes_35 n σ4
  else
    sp_bd (X12_isHouse n σ4 a2) fun σ7 v8 =>
    if v8 = 0 then
      X12_foes_35 n σ7
    else
      sp_ck (sp_in a1 6) <|
      sp_ck (sp_in a2 6) <|
      X12_foes_40 n σ7 ((sp_g σ7 19 a1) &&& (sp_g σ7 19 a2))
set_option maxRecDepth 100000 in
set_option maxHeartbeats 4000000 in
theorem hX12_foes_40 {X : sp_X} (hX : sp_OK shM X cX12_foes RX12 3 rmX12_foes) {τ : sp_St} {r : Int32} (hR : sp_Ri shM X (some .int) τ r 0 0) {n : Nat}    {σ : sp_St} {zs0 : Int32} (hf : X12_foes_40 n σ zs0 = some (τ, r)) : sp_GG shM X σ 3 [none, none, none] [.int zs0] 40 0 0 := by
  unfold X12_foes_40 at hf
  exact sp_iret hX hR dX12_foes_40 hf (Nat.le_of_ble_eq_true rfl) (Nat.le_of_ble_eq_true rfl)
set_option maxRecDepth 100000 in
set_option maxHeartbeats 4000000 in
theorem hX12_foes_35 {X : sp_X} (hX : sp_OK shM X cX12_foes RX12 3 rmX12_foes) {τ : sp_St} {r : Int32} (hR : sp_Ri shM X (some .int) τ r 0 0) {n : Nat}    {σ : sp_St} (hf : X12_foes_35 n σ = some (τ, r)) : sp_GG shM X σ 3 [some (.ref (sx_ad X 0)), none, none] [] 35 0 0 := by
  unfold X12_foes_35 at hf
  refine sp_aload_n (i := 0) (q := 36) hX dX12_foes_35 rfl rfl rfl ?_
  refine sp_iconst (v := 1) (q := 37) hX dX12_foes_36 li_1 rfl ?_
  obtain ⟨σ2, v3, h1, hf⟩ := sp_bd_so hf
  refine sp_callVi (As := [.int ((1 : Int32))]) (rest := []) (q := 40) hX (cnX12_fail (sp_st hX)  h1) cwX12_312 atM_0 rfl rfl rfl rfl rfl (Nat.le_of_ble_eq_true rfl) (Nat.le_of_ble_eq_true rfl) (Nat.le_of_ble_eq_true rfl) (Nat.le_of_ble_eq_true rfl) (Nat.le_of_ble_eq_true rfl) dX12_foes_37 rfl ?_
  refine sp_drop (lv' := [none, none, none]) trivial ?_
  exact hX12_foes_40 hX hR hf
set_option maxRecDepth 100000 in
set_option maxHeartbeats 4000000 in
theorem hX12_foes {X : sp_X} (hX : sp_OK shM X cX12_foes RX12 3 rmX12_foes) {τ : sp_St} {r : Int32} (hR : sp_Ri shM X (some .int) τ r 0 0) {n : Nat}  {σ : sp_St} {a1 : Int32} {a2 : Int32}  (hf : X12_foes n σ a1 a2 = some (τ, r)) : sp_GG shM X σ 3 [some (.ref (sx_ad X 0)), some (.int a1), some (.int a2)] [] 0 0 0 := by
  unfold X12_foes at hf
  refine sp_aload_n (i := 0) (q := 1) hX dX12_foes_0 rfl rfl rfl ?_
  refine sp_iconst (v := 0) (q := 2) hX dX12_foes_1 li_0 rfl ?_
  obtain ⟨σ1, e2, hf⟩ := sp_pl_some hf
  refine sp_puti (q := 5) hX fpX12_158 fkX12_3 atM_0 dX12_foes_2 rfl ?_
  refine sp_nms e2 ?_
  refine sp_iload_n (i := 1) (q := 6) hX dX12_foes_5 rfl rfl rfl ?_
  obtain ⟨σ4, v5, h3, hf⟩ := sp_bd_so hf
  refine sp_callSi (As := [.int a1]) (rest := []) (q := 9) hX (cnX12_isHouse (sp_st hX)  h3) cwX12_408 rfl rfl rfl rfl (Nat.le_of_ble_eq_true rfl) (Nat.le_of_ble_eq_true rfl) (Nat.le_of_ble_eq_true rfl) (Nat.le_of_ble_eq_true rfl) (Nat.le_of_ble_eq_true rfl) dX12_foes_6 rfl ?_
  refine sp_if_eq (tgt := 35) (q := 12) hX dX12_foes_9 (by decide) rfl (fun hc => ?_) (fun hc => ?_)
  · rw [if_pos hc] at hf
    refine sp_drop (lv' := [some (.ref (sx_ad X 0)), none, none]) (And.intro rfl trivial) ?_
    exact hX12_foes_35 hX hR hf
  · rw [if_neg hc] at hf
    refine sp_iload_n (i := 2) (q := 13) hX dX12_foes_12 rfl rfl rfl ?_
    obtain ⟨σ7, v8, h6, hf⟩ := sp_bd_so hf
    refine sp_callSi (As := [.int a2]) (rest := []) (q := 16) hX (cnX12_isHouse (sp_st hX)  h6) cwX12_408 rfl rfl rfl rfl (Nat.le_of_ble_eq_true rfl) (Nat.le_of_ble_eq_true rfl) (Nat.le_of_ble_eq_true rfl) (Nat.le_of_ble_eq_true rfl) (Nat.le_of_ble_eq_true rfl) dX12_foes_13 rfl ?_
    refine sp_if_eq (tgt := 35) (q := 19) hX dX12_foes_16 (by decide) rfl (fun hc => ?_) (fun hc => ?_)
    · rw [if_pos hc] at hf
      refine sp_drop (lv' := [some (.ref (sx_ad X 0)), none, none]) (And.intro rfl trivial) ?_
      exact hX12_foes_35 hX hR hf
    · rw [if_neg hc] at hf
      refine sp_aload_n (i := 0) (q := 20) hX dX12_foes_19 rfl rfl rfl ?_
      refine sp_gets (t := 19) (q := 23) hX flX12_84 fkX12_31 atM_0 srM_0_31 dX12_foes_20 rfl ?_
      refine sp_iload_n (i := 1) (q := 24) hX dX12_foes_23 rfl rfl rfl ?_
      obtain ⟨h9, hf⟩ := sp_ck_some hf
      refine sp_iald (q := 25) hX arM_19 h9 dX12_foes_24 rfl ?_
      refine sp_aload_n (i := 0) (q := 26) hX dX12_foes_25 rfl rfl rfl ?_
      refine sp_gets (t := 19) (q := 29) hX flX12_84 fkX12_31 atM_0 srM_0_31 dX12_foes_26 rfl ?_
      refine sp_iload_n (i := 2) (q := 30) hX dX12_foes_29 rfl rfl rfl ?_
      obtain ⟨h10, hf⟩ := sp_ck_some hf
      refine sp_iald (q := 31) hX arM_19 h10 dX12_foes_30 rfl ?_
      refine sp_iand (q := 32) hX dX12_foes_31 rfl ?_
      refine sp_goto (tgt := 40) hX dX12_foes_32 (by decide) ?_
      refine sp_drop (lv' := [none, none, none]) trivial ?_
      exact hX12_foes_40 hX hR hf
set_option maxRecDepth 100000 in
set_option maxHeartbeats 4000000 in
theorem cnX12_foes {l : Launch} (hst : l.stackTraces = false) {w : sp_Wd} {n : Nat}  {σ : sp_St} {a1 : Int32} {a2 : Int32} {τ : sp_St} {r : Int32}  (hf : X12_foes n σ a1 a2 = some (τ, r)) : sp_Ci shM l w yX12_foes cX12_foes 3 (some .int) rmX12_foes 0 0 σ [.ref (w.2.1 0), .int a1, .int a2] τ r :=
  sp_ci (own := RX12) (by decide) rfl hst (Nat.le_of_ble_eq_true rfl) rfl (fun X hX hw hl hR => by subst hw; subst hl; exact hX12_foes hX hR   hf)
def rmX12_parts : Room := { frames := 1, cells := 0, slots := 0, locals := 21 }
def X12_parts_110 (n : Nat) (σ : sp_St) (z2 : Int32) : Option (sp_St × Int32) :=
  some (σ, z2)
def X12_parts_104 (n : Nat) (k11 : sp_St → Int32 → Int32 → Int32 → Option (sp_St × Int32)) (σ : sp_St) (z1 : Int32) (z2 : Int32) (z3 : Int32) : Option (sp_St × Int32) :=
  sp_pl (z3 + 1) fun x1 =>
  k11 σ z1 z2 x1
def X12_parts_96 (n : Nat) (k11 : sp_St → Int32 → Int32 → Int32 → Option (sp_St × Int32)) (σ : sp_St) (z1 : Int32) (z2 : Int32) (z3 : Int32) (z4 : Int32) : Option (sp_St × Int32) :=
  sp_pl (z1 ||| z4) fun x1 =>
  sp_pl (z2 + 1) fun x3 =>
  X12_parts_104 n k11 σ x1 x3 z3
def X12_parts_90 (n : Nat) (k11 : sp_St → Int32 → Int32 → Int32 → Option (sp_St × Int32)) (k45 : sp_St → Int32 → Int32 → Int32 → Int32 → Int32 → Option (sp_St × Int32)) (σ : sp_St) (z1 : Int32) (z2 : Int32) (z3 : Int32) (z4 : Int32) (z5 : Int32) : Option (sp_St × Int32) :=
  sp_pl (z5 + 1) fun x1 =>
  k45 σ z1 z2 z3 z4 x1
def X12_parts_84 (n : Nat) (k11 : sp_St → Int32 → Int32 → Int32 → Option (sp_St × Int32)) (k45 : sp_St → Int32 → Int32 → Int32 → Int32 → Int32 → Option (sp_St × Int32)) (k55 : sp_St → Int32 → Int32 → Int32 → Int32 → Int32 → Int32 → Option (sp_St × Int32)) (σ : sp_St) (z1 : Int32) (z2 : Int32) (z3 : Int32) (z4 : Int32) (z5 : Int32) (z6 : Int32) : Option (sp_St × Int32) :=
  sp_pl (z6 + 1) fun x1 =>
  k55 σ z1 z2 z3 z4 z5 x1
def X12_parts_55 (n : Nat) (k11 : sp_St → Int32 → Int32 → Int32 → Option (sp_St × Int32)) (k45 : sp_St → Int32 → Int32 → Int32 → Int32 → Int32 → Option (sp_St × Int32)) : Nat → sp_St → Int32 → Int32 → Int32 → Int32 → Int32 → Int32 → Option (sp_St × Int32)
  | 0, _, _, _, _, _, _, _ => none
  | f + 1, σ, z1, z2, z3, z4, z5, z6 =>
    if ((6 : Int32)) ≤ z6 then
      X12_parts_90 n k11 k45 σ z1 z2 z3 z4 z5
    else
      sp_bd (X12_isOf n σ z4 z6) fun σ2 v3 =>
      if v3 = 0 then
        X12_parts_84 n k11 k45 (X12_parts_55 n k11 k45 f) σ2 z1 z2 z3 z4 z5 z6
      else
        sp_ck (sp_in z6 6) <|
        sp_pl (z4 ||| (sp_g σ2 19 z6)) fun x5 =>
        X12_parts_84 n k11 k45 (X12_parts_55 n k11 k45 f) σ2 z1 z2 z3 x5 z5 z6
def X12_parts_45 (n : Nat) (k11 : sp_St → Int32 → Int32 → Int32 → Option (sp_St × Int32)) : Nat → sp_St → Int32 → Int32 → Int32 → Int32 → Int32 → Option (sp_St × Int32)
  | 0, _, _, _, _, _, _ => none
  | f + 1, σ, z1, z2, z3, z4, z5 =>
    if ((6 : Int32)) ≤ z5 then
      X12_parts_96 n k11 σ z1 z2 z3 z4
    else
      sp_pl ((0 : Int32)) fun x1 =>
      X12_parts_55 n k11 (X12_parts_45 n k11 f) n σ z1 z2 z3 z4 z5 x1
def X12_parts_11 (n : Nat) : Nat → sp_St → Int32 → Int32 → Int32 → Option (sp_St × Int32)
  | 0, _, _, _, _ => none
  | f + 1, σ, z1, z2, z3 =>
    if ((6 : Int32)) ≤ z3 then
      X12_parts_110 n σ z2
    else
      sp_ck (sp_in z3 6) <|
      if (sp_g σ 19 z3) = 0 then
        X12_parts_104 n (X12_parts_11 n f) σ z1 z2 z3
      else
        sp_bd (X12_isOf n σ z1 z3) fun σ3 v4 =>
        if v4 = 0 then
          sp_pl (((1 : Int32)) <<< (z3 &&& 31)) fun x5 =>
          sp_pl ((0 : Int32)) fun x7 =>
          X12_parts_45 n (X12_parts_11 n f) n σ3 z1 z2 z3 x5 x7
        else
          X12_parts_104 n (X12_parts_11 n f) σ3 z1 z2 z3
def X12_parts (n : Nat)  (σ : sp_St)  : Option (sp_St × Int32) :=
  sp_pl (sp_si σ 0 3 ((0 : Int32))) fun σ1 =>
  sp_pl ((0 : Int32)) fun x3 =>
  sp_pl ((0 : Int32)) fun x5 =>
  sp_pl ((0 : Int32)) fun x7 =>
  X12_parts_11 n n σ1 x3 x5 x7
set_option maxRecDepth 100000 in
set_option maxHeartbeats 4000000 in
theorem hX12_parts_110 {X : sp_X} (hX : sp_OK shM X cX12_parts RX12 7 rmX12_parts) {τ : sp_St} {r : Int32} (hR : sp_Ri shM X (some .int) τ r 0 0) {n : Nat}    {σ : sp_St} {z2 : Int32} (hf : X12_parts_110 n σ z2 = some (τ, r)) : sp_GG shM X σ 7 [none, none, some (.int z2), none, none, none, none] [] 110 0 0 := by
  unfold X12_parts_110 at hf
  refine sp_iload_n (i := 2) (q := 111) hX dX12_parts_110 rfl rfl rfl ?_
  exact sp_iret hX hR dX12_parts_111 hf (Nat.le_of_ble_eq_true rfl) (Nat.le_of_ble_eq_true rfl)
set_option maxRecDepth 100000 in
set_option maxHeartbeats 4000000 in
theorem hX12_parts_104 {X : sp_X} (hX : sp_OK shM X cX12_parts RX12 7 rmX12_parts) {τ : sp_St} {r : Int32} (hR : sp_Ri shM X (some .int) τ r 0 0) {n : Nat}   {k11 : sp_St → Int32 → Int32 → Int32 → Option (sp_St × Int32)} (hk11 : ∀ (σ : sp_St) (z1 : Int32) (z2 : Int32) (z3 : Int32), k11 σ z1 z2 z3 = some (τ, r) → sp_GG shM X σ 7 [some (.ref (sx_ad X 0)), some (.int z1), some (.int z2), some (.int z3), none, none, none] [] 11 0 0) {σ : sp_St} {z1 : Int32} {z2 : Int32} {z3 : Int32} (hf : X12_parts_104 n k11 σ z1 z2 z3 = some (τ, r)) : sp_GG shM X σ 7 [some (.ref (sx_ad X 0)), some (.int z1), some (.int z2), some (.int z3), none, none, none] [] 104 0 0 := by
  unfold X12_parts_104 at hf
  obtain ⟨x1, e2, hf⟩ := sp_pl_some hf
  refine sp_iinc (i := 3) (v := x1) (lv' := [some (.ref (sx_ad X 0)), some (.int z1), some (.int z2), some (.int x1), none, none, none]) (q := 107) hX dX12_parts_104 rfl (by rw [e2, li_1]) (Nat.le_of_ble_eq_true rfl) rfl rfl rfl ?_
  refine sp_goto (tgt := 11) hX dX12_parts_107 (by decide) ?_
  exact hk11 σ z1 z2 x1 hf
set_option maxRecDepth 100000 in
set_option maxHeartbeats 4000000 in
theorem hX12_parts_96 {X : sp_X} (hX : sp_OK shM X cX12_parts RX12 7 rmX12_parts) {τ : sp_St} {r : Int32} (hR : sp_Ri shM X (some .int) τ r 0 0) {n : Nat}   {k11 : sp_St → Int32 → Int32 → Int32 → Option (sp_St × Int32)} (hk11 : ∀ (σ : sp_St) (z1 : Int32) (z2 : Int32) (z3 : Int32), k11 σ z1 z2 z3 = some (τ, r) → sp_GG shM X σ 7 [some (.ref (sx_ad X 0)), some (.int z1), some (.int z2), some (.int z3), none, none, none] [] 11 0 0) {σ : sp_St} {z1 : Int32} {z2 : Int32} {z3 : Int32} {z4 : Int32} (hf : X12_parts_96 n k11 σ z1 z2 z3 z4 = some (τ, r)) : sp_GG shM X σ 7 [some (.ref (sx_ad X 0)), some (.int z1), some (.int z2), some (.int z3), some (.int z4), none, none] [] 96 0 0 := by
  unfold X12_parts_96 at hf
  refine sp_iload_n (i := 1) (q := 97) hX dX12_parts_96 rfl rfl rfl ?_
  refine sp_iload (i := 4) (q := 99) hX dX12_parts_97 rfl rfl ?_
  refine sp_ior (q := 100) hX dX12_parts_99 rfl ?_
  obtain ⟨x1, e2, hf⟩ := sp_pl_some hf
  refine sp_nmi e2 ?_
  refine sp_istore_n (i := 1) (lv' := [some (.ref (sx_ad X 0)), some (.int x1), some (.int z2), some (.int z3), some (.int z4), none, none]) (q := 101) hX dX12_parts_100 rfl (Nat.le_of_ble_eq_true rfl) rfl rfl rfl ?_
  obtain ⟨x3, e4, hf⟩ := sp_pl_some hf
  refine sp_iinc (i := 2) (v := x3) (lv' := [some (.ref (sx_ad X 0)), some (.int x1), some (.int x3), some (.int z3), some (.int z4), none, none]) (q := 104) hX dX12_parts_101 rfl (by rw [e4, li_1]) (Nat.le_of_ble_eq_true rfl) rfl rfl rfl ?_
  refine sp_drop (lv' := [some (.ref (sx_ad X 0)), some (.int x1), some (.int x3), some (.int z3), none, none, none]) (And.intro rfl (And.intro rfl (And.intro rfl (And.intro rfl trivial)))) ?_
  exact hX12_parts_104 hX hR hk11 hf
set_option maxRecDepth 100000 in
set_option maxHeartbeats 4000000 in
theorem hX12_parts_90 {X : sp_X} (hX : sp_OK shM X cX12_parts RX12 7 rmX12_parts) {τ : sp_St} {r : Int32} (hR : sp_Ri shM X (some .int) τ r 0 0) {n : Nat}   {k11 : sp_St → Int32 → Int32 → Int32 → Option (sp_St × Int32)} (hk11 : ∀ (σ : sp_St) (z1 : Int32) (z2 : Int32) (z3 : Int32), k11 σ z1 z2 z3 = some (τ, r) → sp_GG shM X σ 7 [some (.ref (sx_ad X 0)), some (.int z1), some (.int z2), some (.int z3), none, none, none] [] 11 0 0) {k45 : sp_St → Int32 → Int32 → Int32 → Int32 → Int32 → Option (sp_St × Int32)} (hk45 : ∀ (σ : sp_St) (z1 : Int32) (z2 : Int32) (z3 : Int32) (z4 : Int32) (z5 : Int32), k45 σ z1 z2 z3 z4 z5 = some (τ, r) → sp_GG shM X σ 7 [some (.ref (sx_ad X 0)), some (.int z1), some (.int z2), some (.int z3), some (.int z4), some (.int z5), none] [] 45 0 0) {σ : sp_St} {z1 : Int32} {z2 : Int32} {z3 : Int32} {z4 : Int32} {z5 : Int32} (hf : X12_parts_90 n k11 k45 σ z1 z2 z3 z4 z5 = some (τ, r)) : sp_GG shM X σ 7 [some (.ref (sx_ad X 0)), some (.int z1), some (.int z2), some (.int z3), some (.int z4), some (.int z5), none] [] 90 0 0 := by
  unfold X12_parts_90 at hf
  obtain ⟨x1, e2, hf⟩ := sp_pl_some hf
  refine sp_iinc (i := 5) (v := x1) (lv' := [some (.ref (sx_ad X 0)), some (.int z1), some (.int z2), some (.int z3), some (.int z4), some (.int x1), none]) (q := 93) hX dX12_parts_90 rfl (by rw [e2, li_1]) (Nat.le_of_ble_eq_true rfl) rfl rfl rfl ?_
  refine sp_goto (tgt := 45) hX dX12_parts_93 (by decide) ?_
  exact hk45 σ z1 z2 z3 z4 x1 hf
set_option maxRecDepth 100000 in
set_option maxHeartbeats 4000000 in
theorem hX12_parts_84 {X : sp_X} (hX : sp_OK shM X cX12_parts RX12 7 rmX12_parts) {τ : sp_St} {r : Int32} (hR : sp_Ri shM X (some .int) τ r 0 0) {n : Nat}   {k11 : sp_St → Int32 → Int32 → Int32 → Option (sp_St × Int32)} (hk11 : ∀ (σ : sp_St) (z1 : Int32) (z2 : Int32) (z3 : Int32), k11 σ z1 z2 z3 = some (τ, r) → sp_GG shM X σ 7 [some (.ref (sx_ad X 0)), some (.int z1), some (.int z2), some (.int z3), none, none, none] [] 11 0 0) {k45 : sp_St → Int32 → Int32 → Int32 → Int32 → Int32 → Option (sp_St × Int32)} (hk45 : ∀ (σ : sp_St) (z1 : Int32) (z2 : Int32) (z3 : Int32) (z4 : Int32) (z5 : Int32), k45 σ z1 z2 z3 z4 z5 = some (τ, r) → sp_GG shM X σ 7 [some (.ref (sx_ad X 0)), some (.int z1), some (.int z2), some (.int z3), some (.int z4), some (.int z5), none] [] 45 0 0) {k55 : sp_St → Int32 → Int32 → Int32 → Int32 → Int32 → Int32 → Option (sp_St × Int32)} (hk55 : ∀ (σ : sp_St) (z1 : Int32) (z2 : Int32) (z3 : Int32) (z4 : Int32) (z5 : Int32) (z6 : Int32), k55 σ z1 z2 z3 z4 z5 z6 = some (τ, r) → sp_GG shM X σ 7 [some (.ref (sx_ad X 0)), some (.int z1), some (.int z2), some (.int z3), some (.int z4), some (.int z5), some (.int z6)] [] 55 0 0) {σ : sp_St} {z1 : Int32} {z2 : Int32} {z3 : Int32} {z4 : Int32} {z5 : Int32} {z6 : Int32} (hf : X12_parts_84 n k11 k45 k55 σ z1 z2 z3 z4 z5 z6 = some (τ, r)) : sp_GG shM X σ 7 [some (.ref (sx_ad X 0)), some (.int z1), some (.int z2), some (.int z3), some (.int z4), some (.int z5), some (.int z6)] [] 84 0 0 := by
  unfold X12_parts_84 at hf
  obtain ⟨x1, e2, hf⟩ := sp_pl_some hf
  refine sp_iinc (i := 6) (v := x1) (lv' := [some (.ref (sx_ad X 0)), some (.int z1), some (.int z2), some (.int z3), some (.int z4), some (.int z5), some (.int x1)]) (q := 87) hX dX12_parts_84 rfl (by rw [e2, li_1]) (Nat.le_of_ble_eq_true rfl) rfl rfl rfl ?_
  refine sp_goto (tgt := 55) hX dX12_parts_87 (by decide) ?_
  exact hk55 σ z1 z2 z3 z4 z5 x1 hf
set_option maxRecDepth 100000 in
set_option maxHeartbeats 4000000 in
theorem hX12_parts_55 {X : sp_X} (hX : sp_OK shM X cX12_parts RX12 7 rmX12_parts) {τ : sp_St} {r : Int32} (hR : sp_Ri shM X (some .int) τ r 0 0) {n : Nat}   {k11 : sp_St → Int32 → Int32 → Int32 → Option (sp_St × Int32)} (hk11 : ∀ (σ : sp_St) (z1 : Int32) (z2 : Int32) (z3 : Int32), k11 σ z1 z2 z3 = some (τ, r) → sp_GG shM X σ 7 [some (.ref (sx_ad X 0)), some (.int z1), some (.int z2), some (.int z3), none, none, none] [] 11 0 0) {k45 : sp_St → Int32 → Int32 → Int32 → Int32 → Int32 → Option (sp_St × Int32)} (hk45 : ∀ (σ : sp_St) (z1 : Int32) (z2 : Int32) (z3 : Int32) (z4 : Int32) (z5 : Int32), k45 σ z1 z2 z3 z4 z5 = some (τ, r) → sp_GG shM X σ 7 [some (.ref (sx_ad X 0)), some (.int z1), some (.int z2), some (.int z3), some (.int z4), some (.int z5), none] [] 45 0 0) : ∀ (f : Nat) (σ : sp_St) (z1 : Int32) (z2 : Int32) (z3 : Int32) (z4 : Int32) (z5 : Int32) (z6 : Int32), X12_parts_55 n k11 k45 f σ z1 z2 z3 z4 z5 z6 = some (τ, r) → sp_GG shM X σ 7 [some (.ref (sx_ad X 0)), some (.int z1), some (.int z2), some (.int z3), some (.int z4), some (.int z5), some (.int z6)] [] 55 0 0 := by
  intro f
  induction f with
  | zero =>
    intro σ z1 z2 z3 z4 z5 z6 hf
    rw [X12_parts_55] at hf
    cases hf
  | succ f ih =>
    intro σ z1 z2 z3 z4 z5 z6 hf
    rw [X12_parts_55] at hf
    refine sp_iload (i := 6) (q := 57) hX dX12_parts_55 rfl rfl ?_
    refine sp_bipush (v := 6) (q := 59) hX dX12_parts_57 lb_6 rfl ?_
    refine sp_icmp_ge (tgt := 90) (q := 62) hX dX12_parts_59 (by decide) rfl (fun hc => ?_) (fun hc => ?_)
    · rw [if_pos hc] at hf
      refine sp_drop (lv' := [some (.ref (sx_ad X 0)), some (.int z1), some (.int z2), some (.int z3), some (.int z4), some (.int z5), none]) (And.intro rfl (And.intro rfl (And.intro rfl (And.intro rfl (And.intro rfl (And.intro rfl trivial)))))) ?_
      exact hX12_parts_90 hX hR hk11 hk45 hf
    · rw [if_neg hc] at hf
      refine sp_iload (i := 4) (q := 64) hX dX12_parts_62 rfl rfl ?_
      refine sp_iload (i := 6) (q := 66) hX dX12_parts_64 rfl rfl ?_
      obtain ⟨σ2, v3, h1, hf⟩ := sp_bd_so hf
      refine sp_callSi (As := [.int z4, .int z6]) (rest := []) (q := 69) hX (cnX12_isOf (sp_st hX)  h1) cwX12_284 rfl rfl rfl rfl (Nat.le_of_ble_eq_true rfl) (Nat.le_of_ble_eq_true rfl) (Nat.le_of_ble_eq_true rfl) (Nat.le_of_ble_eq_true rfl) (Nat.le_of_ble_eq_true rfl) dX12_parts_66 rfl ?_
      refine sp_if_eq (tgt := 84) (q := 72) hX dX12_parts_69 (by decide) rfl (fun hc => ?_) (fun hc => ?_)
      · rw [if_pos hc] at hf
        exact hX12_parts_84 hX hR hk11 hk45 ih hf
      · rw [if_neg hc] at hf
        refine sp_iload (i := 4) (q := 74) hX dX12_parts_72 rfl rfl ?_
        refine sp_aload_n (i := 0) (q := 75) hX dX12_parts_74 rfl rfl rfl ?_
        refine sp_gets (t := 19) (q := 78) hX flX12_84 fkX12_31 atM_0 srM_0_31 dX12_parts_75 rfl ?_
        refine sp_iload (i := 6) (q := 80) hX dX12_parts_78 rfl rfl ?_
        obtain ⟨h4, hf⟩ := sp_ck_some hf
        refine sp_iald (q := 81) hX arM_19 h4 dX12_parts_80 rfl ?_
        refine sp_ior (q := 82) hX dX12_parts_81 rfl ?_
        obtain ⟨x5, e6, hf⟩ := sp_pl_some hf
        refine sp_nmi e6 ?_
        refine sp_istore (i := 4) (lv' := [some (.ref (sx_ad X 0)), some (.int z1), some (.int z2), some (.int z3), some (.int x5), some (.int z5), some (.int z6)]) (q := 84) hX dX12_parts_82 (Nat.le_of_ble_eq_true rfl) rfl rfl rfl ?_
        exact hX12_parts_84 hX hR hk11 hk45 ih hf
set_option maxRecDepth 100000 in
set_option maxHeartbeats 4000000 in
theorem hX12_parts_45 {X : sp_X} (hX : sp_OK shM X cX12_parts RX12 7 rmX12_parts) {τ : sp_St} {r : Int32} (hR : sp_Ri shM X (some .int) τ r 0 0) {n : Nat}   {k11 : sp_St → Int32 → Int32 → Int32 → Option (sp_St × Int32)} (hk11 : ∀ (σ : sp_St) (z1 : Int32) (z2 : Int32) (z3 : Int32), k11 σ z1 z2 z3 = some (τ, r) → sp_GG shM X σ 7 [some (.ref (sx_ad X 0)), some (.int z1), some (.int z2), some (.int z3), none, none, none] [] 11 0 0) : ∀ (f : Nat) (σ : sp_St) (z1 : Int32) (z2 : Int32) (z3 : Int32) (z4 : Int32) (z5 : Int32), X12_parts_45 n k11 f σ z1 z2 z3 z4 z5 = some (τ, r) → sp_GG shM X σ 7 [some (.ref (sx_ad X 0)), some (.int z1), some (.int z2), some (.int z3), some (.int z4), some (.int z5), none] [] 45 0 0 := by
  intro f
  induction f with
  | zero =>
    intro σ z1 z2 z3 z4 z5 hf
    rw [X12_parts_45] at hf
    cases hf
  | succ f ih =>
    intro σ z1 z2 z3 z4 z5 hf
    rw [X12_parts_45] at hf
    refine sp_iload (i := 5) (q := 47) hX dX12_parts_45 rfl rfl ?_
    refine sp_bipush (v := 6) (q := 49) hX dX12_parts_47 lb_6 rfl ?_
    refine sp_icmp_ge (tgt := 96) (q := 52) hX dX12_parts_49 (by decide) rfl (fun hc => ?_) (fun hc => ?_)
    · rw [if_pos hc] at hf
      refine sp_drop (lv' := [some (.ref (sx_ad X 0)), some (.int z1), some (.int z2), some (.int z3), some (.int z4), none, none]) (And.intro rfl (And.intro rfl (And.intro rfl (And.intro rfl (And.intro rfl trivial))))) ?_
      exact hX12_parts_96 hX hR hk11 hf
    · rw [if_neg hc] at hf
      refine sp_iconst (v := 0) (q := 53) hX dX12_parts_52 li_0 rfl ?_
      obtain ⟨x1, e2, hf⟩ := sp_pl_some hf
      refine sp_nmi e2 ?_
      refine sp_istore (i := 6) (lv' := [some (.ref (sx_ad X 0)), some (.int z1), some (.int z2), some (.int z3), some (.int z4), some (.int z5), some (.int x1)]) (q := 55) hX dX12_parts_53 (Nat.le_of_ble_eq_true rfl) rfl rfl rfl ?_
      exact hX12_parts_55 hX hR hk11 ih n σ z1 z2 z3 z4 z5 x1 hf
set_option maxRecDepth 100000 in
set_option maxHeartbeats 4000000 in
theorem hX12_parts_11 {X : sp_X} (hX : sp_OK shM X cX12_parts RX12 7 rmX12_parts) {τ : sp_St} {r : Int32} (hR : sp_Ri shM X (some .int) τ r 0 0) {n : Nat}    : ∀ (f : Nat) (σ : sp_St) (z1 : Int32) (z2 : Int32) (z3 : Int32), X12_parts_11 n f σ z1 z2 z3 = some (τ, r) → sp_GG shM X σ 7 [some (.ref (sx_ad X 0)), some (.int z1), some (.int z2), some (.int z3), none, none, none] [] 11 0 0 := by
  intro f
  induction f with
  | zero =>
    intro σ z1 z2 z3 hf
    rw [X12_parts_11] at hf
    cases hf
  | succ f ih =>
    intro σ z1 z2 z3 hf
    rw [X12_parts_11] at hf
    refine sp_iload_n (i := 3) (q := 12) hX dX12_parts_11 rfl rfl rfl ?_
    refine sp_bipush (v := 6) (q := 14) hX dX12_parts_12 lb_6 rfl ?_
    refine sp_icmp_ge (tgt := 110) (q := 17) hX dX12_parts_14 (by decide) rfl (fun hc => ?_) (fun hc => ?_)
    · rw [if_pos hc] at hf
      refine sp_drop (lv' := [none, none, some (.int z2), none, none, none, none]) (And.intro rfl trivial) ?_
      exact hX12_parts_110 hX hR hf
    · rw [if_neg hc] at hf
      refine sp_aload_n (i := 0) (q := 18) hX dX12_parts_17 rfl rfl rfl ?_
      refine sp_gets (t := 19) (q := 21) hX flX12_84 fkX12_31 atM_0 srM_0_31 dX12_parts_18 rfl ?_
      refine sp_iload_n (i := 3) (q := 22) hX dX12_parts_21 rfl rfl rfl ?_
      obtain ⟨h1, hf⟩ := sp_ck_some hf
      refine sp_iald (q := 23) hX arM_19 h1 dX12_parts_22 rfl ?_
      refine sp_if_eq (tgt := 104) (q := 26) hX dX12_parts_23 (by decide) rfl (fun hc => ?_) (fun hc => ?_)
      · rw [if_pos hc] at hf
        exact hX12_parts_104 hX hR ih hf
      · rw [if_neg hc] at hf
        refine sp_iload_n (i := 1) (q := 27) hX dX12_parts_26 rfl rfl rfl ?_
        refine sp_iload_n (i := 3) (q := 28) hX dX12_parts_27 rfl rfl rfl ?_
        obtain ⟨σ3, v4, h2, hf⟩ := sp_bd_so hf
        refine sp_callSi (As := [.int z1, .int z3]) (rest := []) (q := 31) hX (cnX12_isOf (sp_st hX)  h2) cwX12_284 rfl rfl rfl rfl (Nat.le_of_ble_eq_true rfl) (Nat.le_of_ble_eq_true rfl) (Nat.le_of_ble_eq_true rfl) (Nat.le_of_ble_eq_true rfl) (Nat.le_of_ble_eq_true rfl) dX12_parts_28 rfl ?_
        refine sp_if_eq (tgt := 37) (q := 34) hX dX12_parts_31 (by decide) rfl (fun hc => ?_) (fun hc => ?_)
        · rw [if_pos hc] at hf
          refine sp_iconst (v := 1) (q := 38) hX dX12_parts_37 li_1 rfl ?_
          refine sp_iload_n (i := 3) (q := 39) hX dX12_parts_38 rfl rfl rfl ?_
          refine sp_ishl (q := 40) hX dX12_parts_39 rfl ?_
          obtain ⟨x5, e6, hf⟩ := sp_pl_some hf
          refine sp_nmi e6 ?_
          refine sp_istore (i := 4) (lv' := [some (.ref (sx_ad X 0)), some (.int z1), some (.int z2), some (.int z3), some (.int x5), none, none]) (q := 42) hX dX12_parts_40 (Nat.le_of_ble_eq_true rfl) rfl rfl rfl ?_
          refine sp_iconst (v := 0) (q := 43) hX dX12_parts_42 li_0 rfl ?_
          obtain ⟨x7, e8, hf⟩ := sp_pl_some hf
          refine sp_nmi e8 ?_
          refine sp_istore (i := 5) (lv' := [some (.ref (sx_ad X 0)), some (.int z1), some (.int z2), some (.int z3), some (.int x5), some (.int x7), none]) (q := 45) hX dX12_parts_43 (Nat.le_of_ble_eq_true rfl) rfl rfl rfl ?_
          exact hX12_parts_45 hX hR ih n σ3 z1 z2 z3 x5 x7 hf
        · rw [if_neg hc] at hf
          refine sp_goto (tgt := 104) hX dX12_parts_34 (by decide) ?_
          exact hX12_parts_104 hX hR ih hf
set_option maxRecDepth 100000 in
set_option maxHeartbeats 4000000 in
theorem hX12_parts {X : sp_X} (hX : sp_OK shM X cX12_parts RX12 7 rmX12_parts) {τ : sp_St} {r : Int32} (hR : sp_Ri shM X (some .int) τ r 0 0) {n : Nat}  {σ : sp_St}   (hf : X12_parts n σ = some (τ, r)) : sp_GG shM X σ 7 [some (.ref (sx_ad X 0)), none, none, none, none, none, none] [] 0 0 0 := by
  unfold X12_parts at hf
  refine sp_aload_n (i := 0) (q := 1) hX dX12_parts_0 rfl rfl rfl ?_
  refine sp_iconst (v := 0) (q := 2) hX dX12_parts_1 li_0 rfl ?_
  obtain ⟨σ1, e2, hf⟩ := sp_pl_some hf
  refine sp_puti (q := 5) hX fpX12_158 fkX12_3 atM_0 dX12_parts_2 rfl ?_
  refine sp_nms e2 ?_
  refine sp_iconst (v := 0) (q := 6) hX dX12_parts_5 li_0 rfl ?_
  obtain ⟨x3, e4, hf⟩ := sp_pl_some hf
  refine sp_nmi e4 ?_
  refine sp_istore_n (i := 1) (lv' := [some (.ref (sx_ad X 0)), some (.int x3), none, none, none, none, none]) (q := 7) hX dX12_parts_6 rfl (Nat.le_of_ble_eq_true rfl) rfl rfl rfl ?_
  refine sp_iconst (v := 0) (q := 8) hX dX12_parts_7 li_0 rfl ?_
  obtain ⟨x5, e6, hf⟩ := sp_pl_some hf
  refine sp_nmi e6 ?_
  refine sp_istore_n (i := 2) (lv' := [some (.ref (sx_ad X 0)), some (.int x3), some (.int x5), none, none, none, none]) (q := 9) hX dX12_parts_8 rfl (Nat.le_of_ble_eq_true rfl) rfl rfl rfl ?_
  refine sp_iconst (v := 0) (q := 10) hX dX12_parts_9 li_0 rfl ?_
  obtain ⟨x7, e8, hf⟩ := sp_pl_some hf
  refine sp_nmi e8 ?_
  refine sp_istore_n (i := 3) (lv' := [some (.ref (sx_ad X 0)), some (.int x3), some (.int x5), some (.int x7), none, none, none]) (q := 11) hX dX12_parts_10 rfl (Nat.le_of_ble_eq_true rfl) rfl rfl rfl ?_
  exact hX12_parts_11 hX hR n σ1 x3 x5 x7 hf
set_option maxRecDepth 100000 in
set_option maxHeartbeats 4000000 in
theorem cnX12_parts {l : Launch} (hst : l.stackTraces = false) {w : sp_Wd} {n : Nat}  {σ : sp_St}  {τ : sp_St} {r : Int32}  (hf : X12_parts n σ = some (τ, r)) : sp_Ci shM l w yX12_parts cX12_parts 7 (some .int) rmX12_parts 0 0 σ [.ref (w.2.1 0)] τ r :=
  sp_ci (own := RX12) (by decide) rfl hst (Nat.le_of_ble_eq_true rfl) rfl (fun X hX hw hl hR => by subst hw; subst hl; exact hX12_parts hX hR   hf)
def rmX12_calm : Room := { frames := 7, cells := 0, slots := 0, locals := 154 }
def X12_calm (n : Nat)  (σ : sp_St) (a1 : Int32) : Option (sp_St × Int32) :=
  sp_pl (sp_si σ 0 3 ((0 : Int32))) fun σ1 =>
  sp_bd (X12_isIn n σ1 a1.toInt64 ((0 : Int64)) ((60 : Int64))) fun σ4 v5 =>
  if v5 = 0 then
    sp_bd (X12_fail n σ4 ((1 : Int32))) fun σ16 v17 =>
    some (σ16, v17)
  else
    sp_bv (X12_pack n σ4 25 88 ((0 : Int32))) fun σ7 =>
    sp_bv (X12_goOn n σ7 a1) fun σ9 =>
    sp_bd (X12_whereSet n σ9 ((2 : Int32))) fun σ11 v12 =>
    sp_bv (X12_unpack n σ11 25 88 ((0 : Int32))) fun σ14 =>
    some (σ14, v12)
set_option maxRecDepth 100000 in
set_option maxHeartbeats 4000000 in
theorem hX12_calm {X : sp_X} (hX : sp_OK shM X cX12_calm RX12 3 rmX12_calm) {τ : sp_St} {r : Int32} (hR : sp_Ri shM X (some .int) τ r 0 0) {n : Nat}  {σ : sp_St} {a1 : Int32}  (hf : X12_calm n σ a1 = some (τ, r)) : sp_GG shM X σ 3 [some (.ref (sx_ad X 0)), some (.int a1), none] [] 0 0 0 := by
  unfold X12_calm at hf
  refine sp_aload_n (i := 0) (q := 1) hX dX12_calm_0 rfl rfl rfl ?_
  refine sp_iconst (v := 0) (q := 2) hX dX12_calm_1 li_0 rfl ?_
  obtain ⟨σ1, e2, hf⟩ := sp_pl_some hf
  refine sp_puti (q := 5) hX fpX12_158 fkX12_3 atM_0 dX12_calm_2 rfl ?_
  refine sp_nms e2 ?_
  refine sp_iload_n (i := 1) (q := 6) hX dX12_calm_5 rfl rfl rfl ?_
  refine sp_i2l (q := 7) hX dX12_calm_6 rfl ?_
  refine sp_lconst (v := 0) (q := 8) hX dX12_calm_7 (by decide) rfl ?_
  refine sp_ldc2 (v := 60) (q := 11) hX wd_2097 dX12_calm_8 rfl ?_
  obtain ⟨σ4, v5, h3, hf⟩ := sp_bd_so hf
  refine sp_callSi (As := [.long a1.toInt64, .long ((0 : Int64)), .long ((60 : Int64))]) (rest := []) (q := 14) hX (cnX12_isIn (sp_st hX)  h3) cwX12_161 rfl rfl rfl rfl (Nat.le_of_ble_eq_true rfl) (Nat.le_of_ble_eq_true rfl) (Nat.le_of_ble_eq_true rfl) (Nat.le_of_ble_eq_true rfl) (Nat.le_of_ble_eq_true rfl) dX12_calm_11 rfl ?_
  refine sp_if_ne (tgt := 23) (q := 17) hX dX12_calm_14 (by decide) rfl (fun hc => ?_) (fun hc => ?_)
  · rw [if_neg hc] at hf
    refine sp_aload_n (i := 0) (q := 24) hX dX12_calm_23 rfl rfl rfl ?_
    refine sp_aload_n (i := 0) (q := 25) hX dX12_calm_24 rfl rfl rfl ?_
    refine sp_gets (t := 25) (q := 28) hX flX12_102 fkX12_41 atM_0 srM_0_41 dX12_calm_25 rfl ?_
    refine sp_iconst (v := 0) (q := 29) hX dX12_calm_28 li_0 rfl ?_
    obtain ⟨σ7, h6, hf⟩ := sp_bv_so hf
    refine sp_callVv (As := [.ref (sx_ad X 25), .int ((0 : Int32))]) (rest := []) (q := 32) hX (cnX12_pack (sp_st hX) arM_25 h6) cwX12_414 atM_0 rfl rfl rfl rfl rfl (Nat.le_of_ble_eq_true rfl) (Nat.le_of_ble_eq_true rfl) (Nat.le_of_ble_eq_true rfl) (Nat.le_of_ble_eq_true rfl) (Nat.le_of_ble_eq_true rfl) dX12_calm_29 rfl ?_
    refine sp_aload_n (i := 0) (q := 33) hX dX12_calm_32 rfl rfl rfl ?_
    refine sp_iload_n (i := 1) (q := 34) hX dX12_calm_33 rfl rfl rfl ?_
    obtain ⟨σ9, h8, hf⟩ := sp_bv_so hf
    refine sp_callVv (As := [.int a1]) (rest := []) (q := 37) hX (cnX12_goOn (sp_st hX)  h8) cwX12_426 atM_0 rfl rfl rfl rfl rfl (Nat.le_of_ble_eq_true rfl) (Nat.le_of_ble_eq_true rfl) (Nat.le_of_ble_eq_true rfl) (Nat.le_of_ble_eq_true rfl) (Nat.le_of_ble_eq_true rfl) dX12_calm_34 rfl ?_
    refine sp_aload_n (i := 0) (q := 38) hX dX12_calm_37 rfl rfl rfl ?_
    refine sp_iconst (v := 2) (q := 39) hX dX12_calm_38 li_2 rfl ?_
    obtain ⟨σ11, v12, h10, hf⟩ := sp_bd_so hf
    refine sp_callVi (As := [.int ((2 : Int32))]) (rest := []) (q := 42) hX (cnX12_whereSet (sp_st hX)  h10) cwX12_348 atM_0 rfl rfl rfl rfl rfl (Nat.le_of_ble_eq_true rfl) (Nat.le_of_ble_eq_true rfl) (Nat.le_of_ble_eq_true rfl) (Nat.le_of_ble_eq_true rfl) (Nat.le_of_ble_eq_true rfl) dX12_calm_39 rfl ?_
    refine sp_istore_n (i := 2) (lv' := [some (.ref (sx_ad X 0)), some (.int a1), some (.int v12)]) (q := 43) hX dX12_calm_42 rfl (Nat.le_of_ble_eq_true rfl) rfl rfl rfl ?_
    refine sp_aload_n (i := 0) (q := 44) hX dX12_calm_43 rfl rfl rfl ?_
    refine sp_aload_n (i := 0) (q := 45) hX dX12_calm_44 rfl rfl rfl ?_
    refine sp_gets (t := 25) (q := 48) hX flX12_102 fkX12_41 atM_0 srM_0_41 dX12_calm_45 rfl ?_
    refine sp_iconst (v := 0) (q := 49) hX dX12_calm_48 li_0 rfl ?_
    obtain ⟨σ14, h13, hf⟩ := sp_bv_so hf
    refine sp_callVv (As := [.ref (sx_ad X 25), .int ((0 : Int32))]) (rest := []) (q := 52) hX (cnX12_unpack (sp_st hX) arM_25 h13) cwX12_432 atM_0 rfl rfl rfl rfl rfl (Nat.le_of_ble_eq_true rfl) (Nat.le_of_ble_eq_true rfl) (Nat.le_of_ble_eq_true rfl) (Nat.le_of_ble_eq_true rfl) (Nat.le_of_ble_eq_true rfl) dX12_calm_49 rfl ?_
    refine sp_iload_n (i := 2) (q := 53) hX dX12_calm_52 rfl rfl rfl ?_
    exact sp_iret hX hR dX12_calm_53 hf (Nat.le_of_ble_eq_true rfl) (Nat.le_of_ble_eq_true rfl)
  · rw [if_pos hc] at hf
    refine sp_aload_n (i := 0) (q := 18) hX dX12_calm_17 rfl rfl rfl ?_
    refine sp_iconst (v := 1) (q := 19) hX dX12_calm_18 li_1 rfl ?_
    obtain ⟨σ16, v17, h15, hf⟩ := sp_bd_so hf
    refine sp_callVi (As := [.int ((1 : Int32))]) (rest := []) (q := 22) hX (cnX12_fail (sp_st hX)  h15) cwX12_312 atM_0 rfl rfl rfl rfl rfl (Nat.le_of_ble_eq_true rfl) (Nat.le_of_ble_eq_true rfl) (Nat.le_of_ble_eq_true rfl) (Nat.le_of_ble_eq_true rfl) (Nat.le_of_ble_eq_true rfl) dX12_calm_19 rfl ?_
    exact sp_iret hX hR dX12_calm_22 hf (Nat.le_of_ble_eq_true rfl) (Nat.le_of_ble_eq_true rfl)
set_option maxRecDepth 100000 in
set_option maxHeartbeats 4000000 in
theorem cnX12_calm {l : Launch} (hst : l.stackTraces = false) {w : sp_Wd} {n : Nat}  {σ : sp_St} {a1 : Int32} {τ : sp_St} {r : Int32}  (hf : X12_calm n σ a1 = some (τ, r)) : sp_Ci shM l w yX12_calm cX12_calm 3 (some .int) rmX12_calm 0 0 σ [.ref (w.2.1 0), .int a1] τ r :=
  sp_ci (own := RX12) (by decide) rfl hst (Nat.le_of_ble_eq_true rfl) rfl (fun X hX hw hl hR => by subst hw; subst hl; exact hX12_calm hX hR   hf)
def rmX12_lacks : Room := { frames := 3, cells := 0, slots := 0, locals := 65 }
def X12_lacks_81 (n : Nat) (σ : sp_St) (z2 : Int32) : Option (sp_St × Int32) :=
  some (σ, z2)
def X12_lacks_44 (n : Nat) : Nat → sp_St → Int32 → Int32 → Int32 → Option (sp_St × Int32)
  | 0, _, _, _, _ => none
  | f + 1, σ, z1, z2, z3 =>
    if (sp_g σ 3 ((1 : Int32))) ≤ z3 then
      X12_lacks_81 n σ z2
    else
      sp_ck (sp_in z1 20) <|
      sp_bd (X12_leftOf n σ z3) fun σ3 v4 =>
      sp_pl (sp_max ((0 : Int32)) ((sp_g σ 8 z1) - v4)) fun v5 =>
      sp_pl (sp_min z2 v5) fun v7 =>
      sp_pl (z3 + 1) fun x9 =>
      X12_lacks_44 n f σ3 z1 v7 x9
def X12_lacks_37 (n : Nat) (σ : sp_St) : Option (sp_St × Int32) :=
  some (σ, (-1 : Int32))
def X12_lacks (n : Nat)  (σ : sp_St) (a1 : Int32) : Option (sp_St × Int32) :=
  sp_pl (sp_si σ 0 3 ((0 : Int32))) fun σ1 =>
  sp_bd (X12_isBlade n σ1 a1) fun σ4 v5 =>
  if v5 = 0 then
    sp_bd (X12_fail n σ4 ((1 : Int32))) fun σ12 v13 =>
    some (σ12, v13)
  else
    sp_ck (sp_in a1 10) <|
    if (sp_g σ4 15 a1) = 0 then
      if (sp_g σ4 3 ((1 : Int32))) = 0 then
        X12_lacks_37 n σ4
      else
        sp_pl ((100000 : Int32)) fun x7 =>
        sp_pl ((0 : Int32)) fun x9 =>
        X12_lacks_44 n n σ4 a1 x7 x9
    else
      X12_lacks_37 n σ4
set_option maxRecDepth 100000 in
set_option maxHeartbeats 4000000 in
theorem hX12_lacks_81 {X : sp_X} (hX : sp_OK shM X cX12_lacks RX12 4 rmX12_lacks) {τ : sp_St} {r : Int32} (hR : sp_Ri shM X (some .int) τ r 0 0) {n : Nat}    {σ : sp_St} {z2 : Int32} (hf : X12_lacks_81 n σ z2 = some (τ, r)) : sp_GG shM X σ 4 [none, none, some (.int z2), none] [] 81 0 0 := by
  unfold X12_lacks_81 at hf
  refine sp_iload_n (i := 2) (q := 82) hX dX12_lacks_81 rfl rfl rfl ?_
  exact sp_iret hX hR dX12_lacks_82 hf (Nat.le_of_ble_eq_true rfl) (Nat.le_of_ble_eq_true rfl)
set_option maxRecDepth 100000 in
set_option maxHeartbeats 4000000 in
theorem hX12_lacks_44 {X : sp_X} (hX : sp_OK shM X cX12_lacks RX12 4 rmX12_lacks) {τ : sp_St} {r : Int32} (hR : sp_Ri shM X (some .int) τ r 0 0) {n : Nat}    : ∀ (f : Nat) (σ : sp_St) (z1 : Int32) (z2 : Int32) (z3 : Int32), X12_lacks_44 n f σ z1 z2 z3 = some (τ, r) → sp_GG shM X σ 4 [some (.ref (sx_ad X 0)), some (.int z1), some (.int z2), some (.int z3)] [] 44 0 0 := by
  intro f
  induction f with
  | zero =>
    intro σ z1 z2 z3 hf
    rw [X12_lacks_44] at hf
    cases hf
  | succ f ih =>
    intro σ z1 z2 z3 hf
    rw [X12_lacks_44] at hf
    refine sp_iload_n (i := 3) (q := 45) hX dX12_lacks_44 rfl rfl rfl ?_
    refine sp_aload_n (i := 0) (q := 46) hX dX12_lacks_45 rfl rfl rfl ?_
    refine sp_gets (t := 3) (q := 49) hX flX12_33 fkX12_4 atM_0 srM_0_4 dX12_lacks_46 rfl ?_
    refine sp_iconst (v := 1) (q := 50) hX dX12_lacks_49 li_1 rfl ?_
    refine sp_iald (q := 51) hX arM_3 (by decide) dX12_lacks_50 rfl ?_
    refine sp_icmp_ge (tgt := 81) (q := 54) hX dX12_lacks_51 (by decide) rfl (fun hc => ?_) (fun hc => ?_)
    · rw [if_pos hc] at hf
      refine sp_drop (lv' := [none, none, some (.int z2), none]) (And.intro rfl trivial) ?_
      exact hX12_lacks_81 hX hR hf
    · rw [if_neg hc] at hf
      refine sp_iload_n (i := 2) (q := 55) hX dX12_lacks_54 rfl rfl rfl ?_
      refine sp_iconst (v := 0) (q := 56) hX dX12_lacks_55 li_0 rfl ?_
      refine sp_aload_n (i := 0) (q := 57) hX dX12_lacks_56 rfl rfl rfl ?_
      refine sp_gets (t := 8) (q := 60) hX flX12_49 fkX12_9 atM_0 srM_0_9 dX12_lacks_57 rfl ?_
      refine sp_iload_n (i := 1) (q := 61) hX dX12_lacks_60 rfl rfl rfl ?_
      obtain ⟨h1, hf⟩ := sp_ck_some hf
      refine sp_iald (q := 62) hX arM_8 h1 dX12_lacks_61 rfl ?_
      refine sp_aload_n (i := 0) (q := 63) hX dX12_lacks_62 rfl rfl rfl ?_
      refine sp_iload_n (i := 3) (q := 64) hX dX12_lacks_63 rfl rfl rfl ?_
      obtain ⟨σ3, v4, h2, hf⟩ := sp_bd_so hf
      refine sp_callVi (As := [.int z3]) (rest := [.int (sp_g σ 8 z1), .int ((0 : Int32)), .int z2]) (q := 67) hX (cnX12_leftOf (sp_st hX)  h2) cwX12_405 atM_0 rfl rfl rfl rfl rfl (Nat.le_of_ble_eq_true rfl) (Nat.le_of_ble_eq_true rfl) (Nat.le_of_ble_eq_true rfl) (Nat.le_of_ble_eq_true rfl) (Nat.le_of_ble_eq_true rfl) dX12_lacks_64 rfl ?_
      refine sp_isub (q := 68) hX dX12_lacks_67 rfl ?_
      obtain ⟨v5, e6, hf⟩ := sp_pl_some hf
      refine sp_mmax (q := 71) hX wd_1991 wd_656 wd_144 wd_657 (Nat.le_of_ble_eq_true rfl) (Nat.le_of_ble_eq_true rfl) (Nat.le_of_ble_eq_true rfl) (Nat.le_of_ble_eq_true rfl) dX12_lacks_68 rfl ?_
      refine sp_nmi e6 ?_
      obtain ⟨v7, e8, hf⟩ := sp_pl_some hf
      refine sp_mmin (q := 74) hX wd_1825 wd_607 wd_144 wd_608 (Nat.le_of_ble_eq_true rfl) (Nat.le_of_ble_eq_true rfl) (Nat.le_of_ble_eq_true rfl) (Nat.le_of_ble_eq_true rfl) dX12_lacks_71 rfl ?_
      refine sp_nmi e8 ?_
      refine sp_istore_n (i := 2) (lv' := [some (.ref (sx_ad X 0)), some (.int z1), some (.int v7), some (.int z3)]) (q := 75) hX dX12_lacks_74 rfl (Nat.le_of_ble_eq_true rfl) rfl rfl rfl ?_
      obtain ⟨x9, e10, hf⟩ := sp_pl_some hf
      refine sp_iinc (i := 3) (v := x9) (lv' := [some (.ref (sx_ad X 0)), some (.int z1), some (.int v7), some (.int x9)]) (q := 78) hX dX12_lacks_75 rfl (by rw [e10, li_1]) (Nat.le_of_ble_eq_true rfl) rfl rfl rfl ?_
      refine sp_goto (tgt := 44) hX dX12_lacks_78 (by decide) ?_
      exact ih σ3 z1 v7 x9 hf
set_option maxRecDepth 100000 in
set_option maxHeartbeats 4000000 in
theorem hX12_lacks_37 {X : sp_X} (hX : sp_OK shM X cX12_lacks RX12 4 rmX12_lacks) {τ : sp_St} {r : Int32} (hR : sp_Ri shM X (some .int) τ r 0 0) {n : Nat}    {σ : sp_St} (hf : X12_lacks_37 n σ = some (τ, r)) : sp_GG shM X σ 4 [none, none, none, none] [] 37 0 0 := by
  unfold X12_lacks_37 at hf
  refine sp_iconst (v := -1) (q := 38) hX dX12_lacks_37 li_m1 rfl ?_
  exact sp_iret hX hR dX12_lacks_38 hf (Nat.le_of_ble_eq_true rfl) (Nat.le_of_ble_eq_true rfl)
set_option maxRecDepth 100000 in
set_option maxHeartbeats 4000000 in
theorem hX12_lacks {X : sp_X} (hX : sp_OK shM X cX12_lacks RX12 4 rmX12_lacks) {τ : sp_St} {r : Int32} (hR : sp_Ri shM X (some .int) τ r 0 0) {n : Nat}  {σ : sp_St} {a1 : Int32}  (hf : X12_lacks n σ a1 = some (τ, r)) : sp_GG shM X σ 4 [some (.ref (sx_ad X 0)), some (.int a1), none, none] [] 0 0 0 := by
  unfold X12_lacks at hf
  refine sp_aload_n (i := 0) (q := 1) hX dX12_lacks_0 rfl rfl rfl ?_
  refine sp_iconst (v := 0) (q := 2) hX dX12_lacks_1 li_0 rfl ?_
  obtain ⟨σ1, e2, hf⟩ := sp_pl_some hf
  refine sp_puti (q := 5) hX fpX12_158 fkX12_3 atM_0 dX12_lacks_2 rfl ?_
  refine sp_nms e2 ?_
  refine sp_aload_n (i := 0) (q := 6) hX dX12_lacks_5 rfl rfl rfl ?_
  refine sp_iload_n (i := 1) (q := 7) hX dX12_lacks_6 rfl rfl rfl ?_
  obtain ⟨σ4, v5, h3, hf⟩ := sp_bd_so hf
  refine sp_callVi (As := [.int a1]) (rest := []) (q := 10) hX (cnX12_isBlade (sp_st hX)  h3) cwX12_399 atM_0 rfl rfl rfl rfl rfl (Nat.le_of_ble_eq_true rfl) (Nat.le_of_ble_eq_true rfl) (Nat.le_of_ble_eq_true rfl) (Nat.le_of_ble_eq_true rfl) (Nat.le_of_ble_eq_true rfl) dX12_lacks_7 rfl ?_
  refine sp_if_ne (tgt := 19) (q := 13) hX dX12_lacks_10 (by decide) rfl (fun hc => ?_) (fun hc => ?_)
  · rw [if_neg hc] at hf
    refine sp_aload_n (i := 0) (q := 20) hX dX12_lacks_19 rfl rfl rfl ?_
    refine sp_gets (t := 15) (q := 23) hX flX12_72 fkX12_27 atM_0 srM_0_27 dX12_lacks_20 rfl ?_
    refine sp_iload_n (i := 1) (q := 24) hX dX12_lacks_23 rfl rfl rfl ?_
    obtain ⟨h6, hf⟩ := sp_ck_some hf
    refine sp_iald (q := 25) hX arM_15 h6 dX12_lacks_24 rfl ?_
    refine sp_if_ne (tgt := 37) (q := 28) hX dX12_lacks_25 (by decide) rfl (fun hc => ?_) (fun hc => ?_)
    · rw [if_neg hc] at hf
      refine sp_drop (lv' := [none, none, none, none]) trivial ?_
      exact hX12_lacks_37 hX hR hf
    · rw [if_pos hc] at hf
      refine sp_aload_n (i := 0) (q := 29) hX dX12_lacks_28 rfl rfl rfl ?_
      refine sp_gets (t := 3) (q := 32) hX flX12_33 fkX12_4 atM_0 srM_0_4 dX12_lacks_29 rfl ?_
      refine sp_iconst (v := 1) (q := 33) hX dX12_lacks_32 li_1 rfl ?_
      refine sp_iald (q := 34) hX arM_3 (by decide) dX12_lacks_33 rfl ?_
      refine sp_if_ne (tgt := 39) (q := 37) hX dX12_lacks_34 (by decide) rfl (fun hc => ?_) (fun hc => ?_)
      · rw [if_neg hc] at hf
        refine sp_ldc (v := 100000) (q := 41) hX wd_1824 dX12_lacks_39 rfl ?_
        obtain ⟨x7, e8, hf⟩ := sp_pl_some hf
        refine sp_nmi e8 ?_
        refine sp_istore_n (i := 2) (lv' := [some (.ref (sx_ad X 0)), some (.int a1), some (.int x7), none]) (q := 42) hX dX12_lacks_41 rfl (Nat.le_of_ble_eq_true rfl) rfl rfl rfl ?_
        refine sp_iconst (v := 0) (q := 43) hX dX12_lacks_42 li_0 rfl ?_
        obtain ⟨x9, e10, hf⟩ := sp_pl_some hf
        refine sp_nmi e10 ?_
        refine sp_istore_n (i := 3) (lv' := [some (.ref (sx_ad X 0)), some (.int a1), some (.int x7), some (.int x9)]) (q := 44) hX dX12_lacks_43 rfl (Nat.le_of_ble_eq_true rfl) rfl rfl rfl ?_
        exact hX12_lacks_44 hX hR n σ4 a1 x7 x9 hf
      · rw [if_pos hc] at hf
        refine sp_drop (lv' := [none, none, none, none]) trivial ?_
        exact hX12_lacks_37 hX hR hf
  · rw [if_pos hc] at hf
    refine sp_aload_n (i := 0) (q := 14) hX dX12_lacks_13 rfl rfl rfl ?_
    refine sp_iconst (v := 1) (q := 15) hX dX12_lacks_14 li_1 rfl ?_
    obtain ⟨σ12, v13, h11, hf⟩ := sp_bd_so hf
    refine sp_callVi (As := [.int ((1 : Int32))]) (rest := []) (q := 18) hX (cnX12_fail (sp_st hX)  h11) cwX12_312 atM_0 rfl rfl rfl rfl rfl (Nat.le_of_ble_eq_true rfl) (Nat.le_of_ble_eq_true rfl) (Nat.le_of_ble_eq_true rfl) (Nat.le_of_ble_eq_true rfl) (Nat.le_of_ble_eq_true rfl) dX12_lacks_15 rfl ?_
    exact sp_iret hX hR dX12_lacks_18 hf (Nat.le_of_ble_eq_true rfl) (Nat.le_of_ble_eq_true rfl)
set_option maxRecDepth 100000 in
set_option maxHeartbeats 4000000 in
theorem cnX12_lacks {l : Launch} (hst : l.stackTraces = false) {w : sp_Wd} {n : Nat}  {σ : sp_St} {a1 : Int32} {τ : sp_St} {r : Int32}  (hf : X12_lacks n σ a1 = some (τ, r)) : sp_Ci shM l w yX12_lacks cX12_lacks 4 (some .int) rmX12_lacks 0 0 σ [.ref (w.2.1 0), .int a1] τ r :=
  sp_ci (own := RX12) (by decide) rfl hst (Nat.le_of_ble_eq_true rfl) rfl (fun X hX hw hl hR => by subst hw; subst hl; exact hX12_lacks hX hR   hf)
def rmX12_above : Room := { frames := 2, cells := 0, slots := 0, locals := 47 }
def X12_above_41 (n : Nat) (σ : sp_St) (zs0 : Int32) : Option (sp_St × Int32) :=
  some (σ, zs0)
def X12_above (n : Nat)  (σ : sp_St) (a1 : Int32) : Option (sp_St × Int32) :=
  sp_pl (sp_si σ 0 3 ((0 : Int32))) fun σ1 =>
  sp_bd (X12_isBlade n σ1 a1) fun σ4 v5 =>
  if v5 = 0 then
    sp_bd (X12_fail n σ4 ((1 : Int32))) fun σ14 v15 =>
    some (σ14, v15)
  else
    sp_ck (sp_in a1 10) <|
    if (sp_g σ4 15 a1) = ((1 : Int32)) then
      sp_bd (X12_aboveSet n σ4 a1) fun σ8 v9 =>
      sp_bd (X12_bitsOf n σ8 v9) fun σ11 v12 =>
      X12_above_41 n σ11 v12
    else
      X12_above_41 n σ4 ((-1 : Int32))
set_option maxRecDepth 100000 in
set_option maxHeartbeats 4000000 in
theorem hX12_above_41 {X : sp_X} (hX : sp_OK shM X cX12_above RX12 2 rmX12_above) {τ : sp_St} {r : Int32} (hR : sp_Ri shM X (some .int) τ r 0 0) {n : Nat}    {σ : sp_St} {zs0 : Int32} (hf : X12_above_41 n σ zs0 = some (τ, r)) : sp_GG shM X σ 2 [none, none] [.int zs0] 41 0 0 := by
  unfold X12_above_41 at hf
  exact sp_iret hX hR dX12_above_41 hf (Nat.le_of_ble_eq_true rfl) (Nat.le_of_ble_eq_true rfl)
set_option maxRecDepth 100000 in
set_option maxHeartbeats 4000000 in
theorem hX12_above {X : sp_X} (hX : sp_OK shM X cX12_above RX12 2 rmX12_above) {τ : sp_St} {r : Int32} (hR : sp_Ri shM X (some .int) τ r 0 0) {n : Nat}  {σ : sp_St} {a1 : Int32}  (hf : X12_above n σ a1 = some (τ, r)) : sp_GG shM X σ 2 [some (.ref (sx_ad X 0)), some (.int a1)] [] 0 0 0 := by
  unfold X12_above at hf
  refine sp_aload_n (i := 0) (q := 1) hX dX12_above_0 rfl rfl rfl ?_
  refine sp_iconst (v := 0) (q := 2) hX dX12_above_1 li_0 rfl ?_
  obtain ⟨σ1, e2, hf⟩ := sp_pl_some hf
  refine sp_puti (q := 5) hX fpX12_158 fkX12_3 atM_0 dX12_above_2 rfl ?_
  refine sp_nms e2 ?_
  refine sp_aload_n (i := 0) (q := 6) hX dX12_above_5 rfl rfl rfl ?_
  refine sp_iload_n (i := 1) (q := 7) hX dX12_above_6 rfl rfl rfl ?_
  obtain ⟨σ4, v5, h3, hf⟩ := sp_bd_so hf
  refine sp_callVi (As := [.int a1]) (rest := []) (q := 10) hX (cnX12_isBlade (sp_st hX)  h3) cwX12_399 atM_0 rfl rfl rfl rfl rfl (Nat.le_of_ble_eq_true rfl) (Nat.le_of_ble_eq_true rfl) (Nat.le_of_ble_eq_true rfl) (Nat.le_of_ble_eq_true rfl) (Nat.le_of_ble_eq_true rfl) dX12_above_7 rfl ?_
  refine sp_if_ne (tgt := 19) (q := 13) hX dX12_above_10 (by decide) rfl (fun hc => ?_) (fun hc => ?_)
  · rw [if_neg hc] at hf
    refine sp_aload_n (i := 0) (q := 20) hX dX12_above_19 rfl rfl rfl ?_
    refine sp_gets (t := 15) (q := 23) hX flX12_72 fkX12_27 atM_0 srM_0_27 dX12_above_20 rfl ?_
    refine sp_iload_n (i := 1) (q := 24) hX dX12_above_23 rfl rfl rfl ?_
    obtain ⟨h6, hf⟩ := sp_ck_some hf
    refine sp_iald (q := 25) hX arM_15 h6 dX12_above_24 rfl ?_
    refine sp_iconst (v := 1) (q := 26) hX dX12_above_25 li_1 rfl ?_
    refine sp_icmp_ne (tgt := 40) (q := 29) hX dX12_above_26 (by decide) rfl (fun hc => ?_) (fun hc => ?_)
    · rw [if_neg hc] at hf
      refine sp_iconst (v := -1) (q := 41) hX dX12_above_40 li_m1 rfl ?_
      refine sp_drop (lv' := [none, none]) trivial ?_
      exact hX12_above_41 hX hR hf
    · rw [if_pos hc] at hf
      refine sp_aload_n (i := 0) (q := 30) hX dX12_above_29 rfl rfl rfl ?_
      refine sp_iload_n (i := 1) (q := 31) hX dX12_above_30 rfl rfl rfl ?_
      obtain ⟨σ8, v9, h7, hf⟩ := sp_bd_so hf
      refine sp_callVi (As := [.int a1]) (rest := []) (q := 34) hX (cnX12_aboveSet (sp_st hX)  h7) cwX12_361 atM_0 rfl rfl rfl rfl rfl (Nat.le_of_ble_eq_true rfl) (Nat.le_of_ble_eq_true rfl) (Nat.le_of_ble_eq_true rfl) (Nat.le_of_ble_eq_true rfl) (Nat.le_of_ble_eq_true rfl) dX12_above_31 rfl ?_
      obtain ⟨σ11, v12, h10, hf⟩ := sp_bd_so hf
      refine sp_callSi (As := [.int v9]) (rest := []) (q := 37) hX (cnX12_bitsOf (sp_st hX)  h10) cwX12_364 rfl rfl rfl rfl (Nat.le_of_ble_eq_true rfl) (Nat.le_of_ble_eq_true rfl) (Nat.le_of_ble_eq_true rfl) (Nat.le_of_ble_eq_true rfl) (Nat.le_of_ble_eq_true rfl) dX12_above_34 rfl ?_
      refine sp_goto (tgt := 41) hX dX12_above_37 (by decide) ?_
      refine sp_drop (lv' := [none, none]) trivial ?_
      exact hX12_above_41 hX hR hf
  · rw [if_pos hc] at hf
    refine sp_aload_n (i := 0) (q := 14) hX dX12_above_13 rfl rfl rfl ?_
    refine sp_iconst (v := 1) (q := 15) hX dX12_above_14 li_1 rfl ?_
    obtain ⟨σ14, v15, h13, hf⟩ := sp_bd_so hf
    refine sp_callVi (As := [.int ((1 : Int32))]) (rest := []) (q := 18) hX (cnX12_fail (sp_st hX)  h13) cwX12_312 atM_0 rfl rfl rfl rfl rfl (Nat.le_of_ble_eq_true rfl) (Nat.le_of_ble_eq_true rfl) (Nat.le_of_ble_eq_true rfl) (Nat.le_of_ble_eq_true rfl) (Nat.le_of_ble_eq_true rfl) dX12_above_15 rfl ?_
    exact sp_iret hX hR dX12_above_18 hf (Nat.le_of_ble_eq_true rfl) (Nat.le_of_ble_eq_true rfl)
set_option maxRecDepth 100000 in
set_option maxHeartbeats 4000000 in
theorem cnX12_above {l : Launch} (hst : l.stackTraces = false) {w : sp_Wd} {n : Nat}  {σ : sp_St} {a1 : Int32} {τ : sp_St} {r : Int32}  (hf : X12_above n σ a1 = some (τ, r)) : sp_Ci shM l w yX12_above cX12_above 2 (some .int) rmX12_above 0 0 σ [.ref (w.2.1 0), .int a1] τ r :=
  sp_ci (own := RX12) (by decide) rfl hst (Nat.le_of_ble_eq_true rfl) rfl (fun X hX hw hl hR => by subst hw; subst hl; exact hX12_above hX hR   hf)
def rmX12_hiccup : Room := { frames := 2, cells := 0, slots := 0, locals := 46 }
def X12_hiccup_50 (n : Nat) (σ : sp_St) (zs0 : Int32) : Option (sp_St × Int32) :=
  some (σ, zs0)
def X12_hiccup (n : Nat)  (σ : sp_St) (a1 : Int32) : Option (sp_St × Int32) :=
  sp_pl (sp_si σ 0 3 ((0 : Int32))) fun σ1 =>
  sp_bd (X12_isThroat n σ1 a1) fun σ4 v5 =>
  if v5 = 0 then
    sp_bd (X12_fail n σ4 ((1 : Int32))) fun σ11 v12 =>
    some (σ11, v12)
  else
    sp_ck (sp_in a1 10) <|
    if (sp_g σ4 6 a1) = 0 then
      X12_hiccup_50 n σ4 ((-1 : Int32))
    else
      sp_ck (sp_in a1 10) <|
      sp_ck (sp_in a1 10) <|
      sp_ck (!decide ((sp_g σ4 6 a1) = 0)) <|
      X12_hiccup_50 n σ4 ((sp_g σ4 6 a1) - ((σ4.1 0 33) - (σ4.1 0 33) / (sp_g σ4 6 a1) * (sp_g σ4 6 a1)))
set_option maxRecDepth 100000 in
set_option maxHeartbeats 4000000 in
theorem hX12_hiccup_50 {X : sp_X} (hX : sp_OK shM X cX12_hiccup RX12 2 rmX12_hiccup) {τ : sp_St} {r : Int32} (hR : sp_Ri shM X (some .int) τ r 0 0) {n : Nat}    {σ : sp_St} {zs0 : Int32} (hf : X12_hiccup_50 n σ zs0 = some (τ, r)) : sp_GG shM X σ 2 [none, none] [.int zs0] 50 0 0 := by
  unfold X12_hiccup_50 at hf
  exact sp_iret hX hR dX12_hiccup_50 hf (Nat.le_of_ble_eq_true rfl) (Nat.le_of_ble_eq_true rfl)
set_option maxRecDepth 100000 in
set_option maxHeartbeats 4000000 in
theorem hX12_hiccup {X : sp_X} (hX : sp_OK shM X cX12_hiccup RX12 2 rmX12_hiccup) {τ : sp_St} {r : Int32} (hR : sp_Ri shM X (some .int) τ r 0 0) {n : Nat}  {σ : sp_St} {a1 : Int32}  (hf : X12_hiccup n σ a1 = some (τ, r)) : sp_GG shM X σ 2 [some (.ref (sx_ad X 0)), some (.int a1)] [] 0 0 0 := by
  unfold X12_hiccup at hf
  refine sp_aload_n (i := 0) (q := 1) hX dX12_hiccup_0 rfl rfl rfl ?_
  refine sp_iconst (v := 0) (q := 2) hX dX12_hiccup_1 li_0 rfl ?_
  obtain ⟨σ1, e2, hf⟩ := sp_pl_some hf
  refine sp_puti (q := 5) hX fpX12_158 fkX12_3 atM_0 dX12_hiccup_2 rfl ?_
  refine sp_nms e2 ?_
  refine sp_aload_n (i := 0) (q := 6) hX dX12_hiccup_5 rfl rfl rfl ?_
  refine sp_iload_n (i := 1) (q := 7) hX dX12_hiccup_6 rfl rfl rfl ?_
  obtain ⟨σ4, v5, h3, hf⟩ := sp_bd_so hf
  refine sp_callVi (As := [.int a1]) (rest := []) (q := 10) hX (cnX12_isThroat (sp_st hX)  h3) cwX12_402 atM_0 rfl rfl rfl rfl rfl (Nat.le_of_ble_eq_true rfl) (Nat.le_of_ble_eq_true rfl) (Nat.le_of_ble_eq_true rfl) (Nat.le_of_ble_eq_true rfl) (Nat.le_of_ble_eq_true rfl) dX12_hiccup_7 rfl ?_
  refine sp_if_ne (tgt := 19) (q := 13) hX dX12_hiccup_10 (by decide) rfl (fun hc => ?_) (fun hc => ?_)
  · rw [if_neg hc] at hf
    refine sp_aload_n (i := 0) (q := 20) hX dX12_hiccup_19 rfl rfl rfl ?_
    refine sp_gets (t := 6) (q := 23) hX flX12_43 fkX12_7 atM_0 srM_0_7 dX12_hiccup_20 rfl ?_
    refine sp_iload_n (i := 1) (q := 24) hX dX12_hiccup_23 rfl rfl rfl ?_
    obtain ⟨h6, hf⟩ := sp_ck_some hf
    refine sp_iald (q := 25) hX arM_6 h6 dX12_hiccup_24 rfl ?_
    refine sp_if_ne (tgt := 32) (q := 28) hX dX12_hiccup_25 (by decide) rfl (fun hc => ?_) (fun hc => ?_)
    · rw [if_neg hc] at hf
      refine sp_aload_n (i := 0) (q := 33) hX dX12_hiccup_32 rfl rfl rfl ?_
      refine sp_gets (t := 6) (q := 36) hX flX12_43 fkX12_7 atM_0 srM_0_7 dX12_hiccup_33 rfl ?_
      refine sp_iload_n (i := 1) (q := 37) hX dX12_hiccup_36 rfl rfl rfl ?_
      obtain ⟨h7, hf⟩ := sp_ck_some hf
      refine sp_iald (q := 38) hX arM_6 h7 dX12_hiccup_37 rfl ?_
      refine sp_aload_n (i := 0) (q := 39) hX dX12_hiccup_38 rfl rfl rfl ?_
      refine sp_geti (q := 42) hX flX12_325 fkX12_33 atM_0 dX12_hiccup_39 rfl ?_
      refine sp_aload_n (i := 0) (q := 43) hX dX12_hiccup_42 rfl rfl rfl ?_
      refine sp_gets (t := 6) (q := 46) hX flX12_43 fkX12_7 atM_0 srM_0_7 dX12_hiccup_43 rfl ?_
      refine sp_iload_n (i := 1) (q := 47) hX dX12_hiccup_46 rfl rfl rfl ?_
      obtain ⟨h8, hf⟩ := sp_ck_some hf
      refine sp_iald (q := 48) hX arM_6 h8 dX12_hiccup_47 rfl ?_
      obtain ⟨h9, hf⟩ := sp_ck_some hf
      refine sp_irem (q := 49) hX dX12_hiccup_48 (sp_nz h9) rfl ?_
      refine sp_isub (q := 50) hX dX12_hiccup_49 rfl ?_
      refine sp_drop (lv' := [none, none]) trivial ?_
      exact hX12_hiccup_50 hX hR hf
    · rw [if_pos hc] at hf
      refine sp_iconst (v := -1) (q := 29) hX dX12_hiccup_28 li_m1 rfl ?_
      refine sp_goto (tgt := 50) hX dX12_hiccup_29 (by decide) ?_
      refine sp_drop (lv' := [none, none]) trivial ?_
      exact hX12_hiccup_50 hX hR hf
  · rw [if_pos hc] at hf
    refine sp_aload_n (i := 0) (q := 14) hX dX12_hiccup_13 rfl rfl rfl ?_
    refine sp_iconst (v := 1) (q := 15) hX dX12_hiccup_14 li_1 rfl ?_
    obtain ⟨σ11, v12, h10, hf⟩ := sp_bd_so hf
    refine sp_callVi (As := [.int ((1 : Int32))]) (rest := []) (q := 18) hX (cnX12_fail (sp_st hX)  h10) cwX12_312 atM_0 rfl rfl rfl rfl rfl (Nat.le_of_ble_eq_true rfl) (Nat.le_of_ble_eq_true rfl) (Nat.le_of_ble_eq_true rfl) (Nat.le_of_ble_eq_true rfl) (Nat.le_of_ble_eq_true rfl) dX12_hiccup_15 rfl ?_
    exact sp_iret hX hR dX12_hiccup_18 hf (Nat.le_of_ble_eq_true rfl) (Nat.le_of_ble_eq_true rfl)
set_option maxRecDepth 100000 in
set_option maxHeartbeats 4000000 in
theorem cnX12_hiccup {l : Launch} (hst : l.stackTraces = false) {w : sp_Wd} {n : Nat}  {σ : sp_St} {a1 : Int32} {τ : sp_St} {r : Int32}  (hf : X12_hiccup n σ a1 = some (τ, r)) : sp_Ci shM l w yX12_hiccup cX12_hiccup 2 (some .int) rmX12_hiccup 0 0 σ [.ref (w.2.1 0), .int a1] τ r :=
  sp_ci (own := RX12) (by decide) rfl hst (Nat.le_of_ble_eq_true rfl) rfl (fun X hX hw hl hR => by subst hw; subst hl; exact hX12_hiccup hX hR   hf)
def rmX12_see : Room := { frames := 2, cells := 0, slots := 0, locals := 46 }
def X12_see_52 (n : Nat) (σ : sp_St) : Option (sp_St × Int32) :=
  sp_bd (X12_refuse n σ ((2 : Int32))) fun σ2 v3 =>
  some (σ2, v3)
def X12_see (n : Nat)  (σ : sp_St) (a1 : Int32) (a2 : Int32) (a3 : Int32) : Option (sp_St × Int32) :=
  sp_pl (sp_si σ 0 3 ((0 : Int32))) fun σ1 =>
  sp_bd (X12_isBlade n σ1 a1) fun σ4 v5 =>
  if v5 = 0 then
    sp_bd (X12_fail n σ4 ((1 : Int32))) fun σ24 v25 =>
    some (σ24, v25)
  else
    if (σ4.1 0 36) = ((8 : Int32)) then
      X12_see_52 n σ4
    else
      sp_bd (X12_isIn n σ4 a2.toInt64 ((0 : Int64)) ((30 : Int64))) fun σ7 v8 =>
      if v8 = 0 then
        X12_see_52 n σ7
      else
        sp_bd (X12_isIn n σ7 a3.toInt64 ((0 : Int64)) ((99 : Int64))) fun σ10 v11 =>
        if v11 = 0 then
          X12_see_52 n σ10
        else
          sp_ck (sp_in (σ10.1 0 36) 8) <|
          sp_pl (sp_sa σ10 29 (σ10.1 0 36).toNatClampNeg a1) fun σ13 =>
          sp_ck (sp_in (σ13.1 0 36) 8) <|
          sp_pl (sp_sa σ13 30 (σ13.1 0 36).toNatClampNeg a2) fun σ16 =>
          sp_ck (sp_in (σ16.1 0 36) 8) <|
          sp_pl (sp_sa σ16 31 (σ16.1 0 36).toNatClampNeg a3) fun σ19 =>
          sp_pl (sp_si σ19 0 36 ((σ19.1 0 36) + ((1 : Int32)))) fun σ21 =>
          some (σ21, σ21.1 0 36)
set_option maxRecDepth 100000 in
set_option maxHeartbeats 4000000 in
theorem hX12_see_52 {X : sp_X} (hX : sp_OK shM X cX12_see RX12 4 rmX12_see) {τ : sp_St} {r : Int32} (hR : sp_Ri shM X (some .int) τ r 0 0) {n : Nat}    {σ : sp_St} (hf : X12_see_52 n σ = some (τ, r)) : sp_GG shM X σ 4 [some (.ref (sx_ad X 0)), none, none, none] [] 52 0 0 := by
  unfold X12_see_52 at hf
  refine sp_aload_n (i := 0) (q := 53) hX dX12_see_52 rfl rfl rfl ?_
  refine sp_iconst (v := 2) (q := 54) hX dX12_see_53 li_2 rfl ?_
  obtain ⟨σ2, v3, h1, hf⟩ := sp_bd_so hf
  refine sp_callVi (As := [.int ((2 : Int32))]) (rest := []) (q := 57) hX (cnX12_refuse (sp_st hX)  h1) cwX12_420 atM_0 rfl rfl rfl rfl rfl (Nat.le_of_ble_eq_true rfl) (Nat.le_of_ble_eq_true rfl) (Nat.le_of_ble_eq_true rfl) (Nat.le_of_ble_eq_true rfl) (Nat.le_of_ble_eq_true rfl) dX12_see_54 rfl ?_
  exact sp_iret hX hR dX12_see_57 hf (Nat.le_of_ble_eq_true rfl) (Nat.le_of_ble_eq_true rfl)
set_option maxRecDepth 100000 in
set_option maxHeartbeats 4000000 in
theorem hX12_see {X : sp_X} (hX : sp_OK shM X cX12_see RX12 4 rmX12_see) {τ : sp_St} {r : Int32} (hR : sp_Ri shM X (some .int) τ r 0 0) {n : Nat}  {σ : sp_St} {a1 : Int32} {a2 : Int32} {a3 : Int32}  (hf : X12_see n σ a1 a2 a3 = some (τ, r)) : sp_GG shM X σ 4 [some (.ref (sx_ad X 0)), some (.int a1), some (.int a2), some (.int a3)] [] 0 0 0 := by
  unfold X12_see at hf
  refine sp_aload_n (i := 0) (q := 1) hX dX12_see_0 rfl rfl rfl ?_
  refine sp_iconst (v := 0) (q := 2) hX dX12_see_1 li_0 rfl ?_
  obtain ⟨σ1, e2, hf⟩ := sp_pl_some hf
  refine sp_puti (q := 5) hX fpX12_158 fkX12_3 atM_0 dX12_see_2 rfl ?_
  refine sp_nms e2 ?_
  refine sp_aload_n (i := 0) (q := 6) hX dX12_see_5 rfl rfl rfl ?_
  refine sp_iload_n (i := 1) (q := 7) hX dX12_see_6 rfl rfl rfl ?_
  obtain ⟨σ4, v5, h3, hf⟩ := sp_bd_so hf
  refine sp_callVi (As := [.int a1]) (rest := []) (q := 10) hX (cnX12_isBlade (sp_st hX)  h3) cwX12_399 atM_0 rfl rfl rfl rfl rfl (Nat.le_of_ble_eq_true rfl) (Nat.le_of_ble_eq_true rfl) (Nat.le_of_ble_eq_true rfl) (Nat.le_of_ble_eq_true rfl) (Nat.le_of_ble_eq_true rfl) dX12_see_7 rfl ?_
  refine sp_if_ne (tgt := 19) (q := 13) hX dX12_see_10 (by decide) rfl (fun hc => ?_) (fun hc => ?_)
  · rw [if_neg hc] at hf
    refine sp_aload_n (i := 0) (q := 20) hX dX12_see_19 rfl rfl rfl ?_
    refine sp_geti (q := 23) hX flX12_333 fkX12_36 atM_0 dX12_see_20 rfl ?_
    refine sp_bipush (v := 8) (q := 25) hX dX12_see_23 lb_8 rfl ?_
    refine sp_icmp_eq (tgt := 52) (q := 28) hX dX12_see_25 (by decide) rfl (fun hc => ?_) (fun hc => ?_)
    · rw [if_pos hc] at hf
      refine sp_drop (lv' := [some (.ref (sx_ad X 0)), none, none, none]) (And.intro rfl trivial) ?_
      exact hX12_see_52 hX hR hf
    · rw [if_neg hc] at hf
      refine sp_iload_n (i := 2) (q := 29) hX dX12_see_28 rfl rfl rfl ?_
      refine sp_i2l (q := 30) hX dX12_see_29 rfl ?_
      refine sp_lconst (v := 0) (q := 31) hX dX12_see_30 (by decide) rfl ?_
      refine sp_ldc2 (v := 30) (q := 34) hX wd_2195 dX12_see_31 rfl ?_
      obtain ⟨σ7, v8, h6, hf⟩ := sp_bd_so hf
      refine sp_callSi (As := [.long a2.toInt64, .long ((0 : Int64)), .long ((30 : Int64))]) (rest := []) (q := 37) hX (cnX12_isIn (sp_st hX)  h6) cwX12_161 rfl rfl rfl rfl (Nat.le_of_ble_eq_true rfl) (Nat.le_of_ble_eq_true rfl) (Nat.le_of_ble_eq_true rfl) (Nat.le_of_ble_eq_true rfl) (Nat.le_of_ble_eq_true rfl) dX12_see_34 rfl ?_
      refine sp_if_eq (tgt := 52) (q := 40) hX dX12_see_37 (by decide) rfl (fun hc => ?_) (fun hc => ?_)
      · rw [if_pos hc] at hf
        refine sp_drop (lv' := [some (.ref (sx_ad X 0)), none, none, none]) (And.intro rfl trivial) ?_
        exact hX12_see_52 hX hR hf
      · rw [if_neg hc] at hf
        refine sp_iload_n (i := 3) (q := 41) hX dX12_see_40 rfl rfl rfl ?_
        refine sp_i2l (q := 42) hX dX12_see_41 rfl ?_
        refine sp_lconst (v := 0) (q := 43) hX dX12_see_42 (by decide) rfl ?_
        refine sp_ldc2 (v := 99) (q := 46) hX wd_2196 dX12_see_43 rfl ?_
        obtain ⟨σ10, v11, h9, hf⟩ := sp_bd_so hf
        refine sp_callSi (As := [.long a3.toInt64, .long ((0 : Int64)), .long ((99 : Int64))]) (rest := []) (q := 49) hX (cnX12_isIn (sp_st hX)  h9) cwX12_161 rfl rfl rfl rfl (Nat.le_of_ble_eq_true rfl) (Nat.le_of_ble_eq_true rfl) (Nat.le_of_ble_eq_true rfl) (Nat.le_of_ble_eq_true rfl) (Nat.le_of_ble_eq_true rfl) dX12_see_46 rfl ?_
        refine sp_if_ne (tgt := 58) (q := 52) hX dX12_see_49 (by decide) rfl (fun hc => ?_) (fun hc => ?_)
        · rw [if_neg hc] at hf
          refine sp_aload_n (i := 0) (q := 59) hX dX12_see_58 rfl rfl rfl ?_
          refine sp_gets (t := 29) (q := 62) hX flX12_116 fkX12_45 atM_0 srM_0_45 dX12_see_59 rfl ?_
          refine sp_aload_n (i := 0) (q := 63) hX dX12_see_62 rfl rfl rfl ?_
          refine sp_geti (q := 66) hX flX12_333 fkX12_36 atM_0 dX12_see_63 rfl ?_
          refine sp_iload_n (i := 1) (q := 67) hX dX12_see_66 rfl rfl rfl ?_
          obtain ⟨h12, hf⟩ := sp_ck_some hf
          obtain ⟨σ13, e14, hf⟩ := sp_pl_some hf
          refine sp_iast (q := 68) hX arM_29 h12 dX12_see_67 rfl ?_
          refine sp_nms e14 ?_
          refine sp_aload_n (i := 0) (q := 69) hX dX12_see_68 rfl rfl rfl ?_
          refine sp_gets (t := 30) (q := 72) hX flX12_119 fkX12_46 atM_0 srM_0_46 dX12_see_69 rfl ?_
          refine sp_aload_n (i := 0) (q := 73) hX dX12_see_72 rfl rfl rfl ?_
          refine sp_geti (q := 76) hX flX12_333 fkX12_36 atM_0 dX12_see_73 rfl ?_
          refine sp_iload_n (i := 2) (q := 77) hX dX12_see_76 rfl rfl rfl ?_
          obtain ⟨h15, hf⟩ := sp_ck_some hf
          obtain ⟨σ16, e17, hf⟩ := sp_pl_some hf
          refine sp_iast (q := 78) hX arM_30 h15 dX12_see_77 rfl ?_
          refine sp_nms e17 ?_
          refine sp_aload_n (i := 0) (q := 79) hX dX12_see_78 rfl rfl rfl ?_
          refine sp_gets (t := 31) (q := 82) hX flX12_122 fkX12_47 atM_0 srM_0_47 dX12_see_79 rfl ?_
          refine sp_aload_n (i := 0) (q := 83) hX dX12_see_82 rfl rfl rfl ?_
          refine sp_geti (q := 86) hX flX12_333 fkX12_36 atM_0 dX12_see_83 rfl ?_
          refine sp_iload_n (i := 3) (q := 87) hX dX12_see_86 rfl rfl rfl ?_
          obtain ⟨h18, hf⟩ := sp_ck_some hf
          obtain ⟨σ19, e20, hf⟩ := sp_pl_some hf
          refine sp_iast (q := 88) hX arM_31 h18 dX12_see_87 rfl ?_
          refine sp_nms e20 ?_
          refine sp_aload_n (i := 0) (q := 89) hX dX12_see_88 rfl rfl rfl ?_
          refine sp_dup (q := 90) hX dX12_see_89 rfl rfl ?_
          refine sp_geti (q := 93) hX flX12_333 fkX12_36 atM_0 dX12_see_90 rfl ?_
          refine sp_iconst (v := 1) (q := 94) hX dX12_see_93 li_1 rfl ?_
          refine sp_iadd (q := 95) hX dX12_see_94 rfl ?_
          obtain ⟨σ21, e22, hf⟩ := sp_pl_some hf
          refine sp_puti (q := 98) hX fpX12_333 fkX12_36 atM_0 dX12_see_95 rfl ?_
          refine sp_nms e22 ?_
          refine sp_aload_n (i := 0) (q := 99) hX dX12_see_98 rfl rfl rfl ?_
          refine sp_geti (q := 102) hX flX12_333 fkX12_36 atM_0 dX12_see_99 rfl ?_
          exact sp_iret hX hR dX12_see_102 hf (Nat.le_of_ble_eq_true rfl) (Nat.le_of_ble_eq_true rfl)
        · rw [if_pos hc] at hf
          refine sp_drop (lv' := [some (.ref (sx_ad X 0)), none, none, none]) (And.intro rfl trivial) ?_
          exact hX12_see_52 hX hR hf
  · rw [if_pos hc] at hf
    refine sp_aload_n (i := 0) (q := 14) hX dX12_see_13 rfl rfl rfl ?_
    refine sp_iconst (v := 1) (q := 15) hX dX12_see_14 li_1 rfl ?_
    obtain ⟨σ24, v25, h23, hf⟩ := sp_bd_so hf
    refine sp_callVi (As := [.int ((1 : Int32))]) (rest := []) (q := 18) hX (cnX12_fail (sp_st hX)  h23) cwX12_312 atM_0 rfl rfl rfl rfl rfl (Nat.le_of_ble_eq_true rfl) (Nat.le_of_ble_eq_true rfl) (Nat.le_of_ble_eq_true rfl) (Nat.le_of_ble_eq_true rfl) (Nat.le_of_ble_eq_true rfl) dX12_see_15 rfl ?_
    exact sp_iret hX hR dX12_see_18 hf (Nat.le_of_ble_eq_true rfl) (Nat.le_of_ble_eq_true rfl)
set_option maxRecDepth 100000 in
set_option maxHeartbeats 4000000 in
theorem cnX12_see {l : Launch} (hst : l.stackTraces = false) {w : sp_Wd} {n : Nat}  {σ : sp_St} {a1 : Int32} {a2 : Int32} {a3 : Int32} {τ : sp_St} {r : Int32}  (hf : X12_see n σ a1 a2 a3 = some (τ, r)) : sp_Ci shM l w yX12_see cX12_see 4 (some .int) rmX12_see 0 0 σ [.ref (w.2.1 0), .int a1, .int a2, .int a3] τ r :=
  sp_ci (own := RX12) (by decide) rfl hst (Nat.le_of_ble_eq_true rfl) rfl (fun X hX hw hl hR => by subst hw; subst hl; exact hX12_see hX hR   hf)
