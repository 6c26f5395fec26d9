def rmX12_city : Room := { frames := 113, cells := 0, slots := 0, locals := 5265 }
def X12_city_135 (n : Nat) (σ : sp_St) : Option (sp_St × Int32) :=
  if (σ.1 0 22) = 0 then
    sp_bv (X12_takeOver n σ) fun σ2 =>
    some (σ2, (0 : Int32))
  else
    sp_pl (sp_si σ 0 24 (σ.1 0 23)) fun σ3 =>
    sp_pl (sp_sa σ3 12 ((0 : Int32)).toNatClampNeg ((sp_g σ3 12 ((0 : Int32))) + ((1 : Int32)))) fun σ5 =>
    some (σ5, σ5.1 0 22)
def X12_city_112 (n : Nat) : Nat → sp_St → Int32 → Option (sp_St × Int32)
  | 0, _, _ => none
  | f + 1, σ, z2 =>
    if (σ.1 0 22) = 0 then
      if (σ.1 0 18) = 0 then
        X12_city_135 n σ
      else
        sp_bd (X12_readLine n σ z2) fun σ2 v3 =>
        X12_city_112 n f σ2 v3
    else
      X12_city_135 n σ
def X12_city_106 (n : Nat) (σ : sp_St) : Option (sp_St × Int32) :=
  sp_bv (X12_stepOn n σ) fun σ2 =>
  sp_pl ((0 : Int32)) fun x3 =>
  X12_city_112 n n σ2 x3
def X12_city_84 (n : Nat) : Nat → sp_St → Int32 → Option (sp_St × Int32)
  | 0, _, _ => none
  | f + 1, σ, z2 =>
    if ((6 : Int32)) ≤ z2 then
      X12_city_106 n σ
    else
      sp_ck (sp_in (((6 : Int32)) + z2) 12) <|
      sp_pl (sp_sa σ 4 (((6 : Int32)) + z2).toNatClampNeg ((0 : Int32))) fun σ2 =>
      sp_pl (z2 + 1) fun x4 =>
      X12_city_84 n f σ2 x4
def X12_city_82 (n : Nat) (σ : sp_St) : Option (sp_St × Int32) :=
  sp_pl ((0 : Int32)) fun x1 =>
  X12_city_84 n n σ x1
def X12_city_50 (n : Nat) : Nat → sp_St → Int32 → Option (sp_St × Int32)
  | 0, _, _ => none
  | f + 1, σ, z2 =>
    if ((6 : Int32)) ≤ z2 then
      X12_city_82 n σ
    else
      sp_pl (if z2 = ((3 : Int32)) then ((50 : Int32)) else ((0 : Int32))) fun v1 =>
      sp_ck (sp_in (((6 : Int32)) + z2) 12) <|
      sp_pl (sp_sa σ 3 (((6 : Int32)) + z2).toNatClampNeg v1) fun σ4 =>
      sp_pl (z2 + 1) fun x6 =>
      X12_city_50 n f σ4 x6
def X12_city_17 (n : Nat) (σ : sp_St) : Option (sp_St × Int32) :=
  sp_bd (X12_fail n σ ((1 : Int32))) fun σ2 v3 =>
  some (σ2, v3)
def X12_city (n : Nat)  (σ : sp_St) (a1 : Int32) : Option (sp_St × Int32) :=
  sp_pl (sp_si σ 0 3 ((0 : Int32))) fun σ1 =>
  if a1 < 0 then
    X12_city_17 n σ1
  else
    if a1 ≤ (σ1.1 0 15) then
      sp_pl (sp_si σ1 0 15 ((0 : Int32))) fun σ3 =>
      sp_pl (sp_si σ3 0 17 a1) fun σ5 =>
      sp_pl (sp_si σ5 0 16 ((0 : Int32))) fun σ7 =>
      sp_pl (sp_si σ7 0 22 ((0 : Int32))) fun σ9 =>
      sp_pl (sp_si σ9 0 24 ((-1 : Int32))) fun σ11 =>
      sp_pl ((0 : Int32)) fun x13 =>
      X12_city_50 n n σ11 x13
    else
      X12_city_17 n σ1
set_option maxRecDepth 100000 in
set_option maxHeartbeats 4000000 in
theorem hX12_city_135 {X : sp_X} (hX : sp_OK shM X cX12_city RX12 3 rmX12_city) {τ : sp_St} {r : Int32} (hR : sp_Ri shM X (some .int) τ r 0 0) {n : Nat}    {σ : sp_St} (hf : X12_city_135 n σ = some (τ, r)) : sp_GG shM X σ 3 [some (.ref (sx_ad X 0)), none, none] [] 135 0 0 := by
  unfold X12_city_135 at hf
  refine sp_aload_n (i := 0) (q := 136) hX dX12_city_135 rfl rfl rfl ?_
  refine sp_geti (q := 139) hX flX12_209 fkX12_22 atM_0 dX12_city_136 rfl ?_
  refine sp_if_eq (tgt := 165) (q := 142) hX dX12_city_139 (by decide) rfl (fun hc => ?_) (fun hc => ?_)
  · rw [if_pos hc] at hf
    refine sp_aload_n (i := 0) (q := 166) hX dX12_city_165 rfl rfl rfl ?_
    obtain ⟨σ2, h1, hf⟩ := sp_bv_so hf
    refine sp_callVv (As := []) (rest := []) (q := 169) hX (cnX12_takeOver (sp_st hX)  h1) cwX12_318 atM_0 rfl rfl rfl rfl rfl (Nat.le_of_ble_eq_true rfl) (Nat.le_of_ble_eq_true rfl) (Nat.le_of_ble_eq_true rfl) (Nat.le_of_ble_eq_true rfl) (Nat.le_of_ble_eq_true rfl) dX12_city_166 rfl ?_
    refine sp_iconst (v := 0) (q := 170) hX dX12_city_169 li_0 rfl ?_
    exact sp_iret hX hR dX12_city_170 hf (Nat.le_of_ble_eq_true rfl) (Nat.le_of_ble_eq_true rfl)
  · rw [if_neg hc] at hf
    refine sp_aload_n (i := 0) (q := 143) hX dX12_city_142 rfl rfl rfl ?_
    refine sp_aload_n (i := 0) (q := 144) hX dX12_city_143 rfl rfl rfl ?_
    refine sp_geti (q := 147) hX flX12_212 fkX12_23 atM_0 dX12_city_144 rfl ?_
    obtain ⟨σ3, e4, hf⟩ := sp_pl_some hf
    refine sp_puti (q := 150) hX fpX12_66 fkX12_24 atM_0 dX12_city_147 rfl ?_
    refine sp_nms e4 ?_
    refine sp_aload_n (i := 0) (q := 151) hX dX12_city_150 rfl rfl rfl ?_
    refine sp_gets (t := 12) (q := 154) hX flX12_60 fkX12_13 atM_0 srM_0_13 dX12_city_151 rfl ?_
    refine sp_iconst (v := 0) (q := 155) hX dX12_city_154 li_0 rfl ?_
    refine sp_dup2 (q := 156) hX dX12_city_155 rfl rfl rfl ?_
    refine sp_iald (q := 157) hX arM_12 (by decide) dX12_city_156 rfl ?_
    refine sp_iconst (v := 1) (q := 158) hX dX12_city_157 li_1 rfl ?_
    refine sp_iadd (q := 159) hX dX12_city_158 rfl ?_
    obtain ⟨σ5, e6, hf⟩ := sp_pl_some hf
    refine sp_iast (q := 160) hX arM_12 (by decide) dX12_city_159 rfl ?_
    refine sp_nms e6 ?_
    refine sp_aload_n (i := 0) (q := 161) hX dX12_city_160 rfl rfl rfl ?_
    refine sp_geti (q := 164) hX flX12_209 fkX12_22 atM_0 dX12_city_161 rfl ?_
    exact sp_iret hX hR dX12_city_164 hf (Nat.le_of_ble_eq_true rfl) (Nat.le_of_ble_eq_true rfl)
set_option maxRecDepth 100000 in
set_option maxHeartbeats 4000000 in
theorem hX12_city_112 {X : sp_X} (hX : sp_OK shM X cX12_city RX12 3 rmX12_city) {τ : sp_St} {r : Int32} (hR : sp_Ri shM X (some .int) τ r 0 0) {n : Nat}    : ∀ (f : Nat) (σ : sp_St) (z2 : Int32), X12_city_112 n f σ z2 = some (τ, r) → sp_GG shM X σ 3 [some (.ref (sx_ad X 0)), none, some (.int z2)] [] 112 0 0 := by
  intro f
  induction f with
  | zero =>
    intro σ z2 hf
    rw [X12_city_112] at hf
    cases hf
  | succ f ih =>
    intro σ z2 hf
    rw [X12_city_112] at hf
    refine sp_aload_n (i := 0) (q := 113) hX dX12_city_112 rfl rfl rfl ?_
    refine sp_geti (q := 116) hX flX12_209 fkX12_22 atM_0 dX12_city_113 rfl ?_
    refine sp_if_ne (tgt := 135) (q := 119) hX dX12_city_116 (by decide) rfl (fun hc => ?_) (fun hc => ?_)
    · rw [if_neg hc] at hf
      refine sp_drop (lv' := [some (.ref (sx_ad X 0)), none, none]) (And.intro rfl trivial) ?_
      exact hX12_city_135 hX hR hf
    · rw [if_pos hc] at hf
      refine sp_aload_n (i := 0) (q := 120) hX dX12_city_119 rfl rfl rfl ?_
      refine sp_geti (q := 123) hX flX12_183 fkX12_18 atM_0 dX12_city_120 rfl ?_
      refine sp_if_eq (tgt := 135) (q := 126) hX dX12_city_123 (by decide) rfl (fun hc => ?_) (fun hc => ?_)
      · rw [if_pos hc] at hf
        refine sp_drop (lv' := [some (.ref (sx_ad X 0)), none, none]) (And.intro rfl trivial) ?_
        exact hX12_city_135 hX hR hf
      · rw [if_neg hc] at hf
        refine sp_aload_n (i := 0) (q := 127) hX dX12_city_126 rfl rfl rfl ?_
        refine sp_iload_n (i := 2) (q := 128) hX dX12_city_127 rfl rfl rfl ?_
        obtain ⟨σ2, v3, h1, hf⟩ := sp_bd_so hf
        refine sp_callVi (As := [.int z2]) (rest := []) (q := 131) hX (cnX12_readLine (sp_st hX)  h1) cwX12_315 atM_0 rfl rfl rfl rfl rfl (Nat.le_of_ble_eq_true rfl) (Nat.le_of_ble_eq_true rfl) (Nat.le_of_ble_eq_true rfl) (Nat.le_of_ble_eq_true rfl) (Nat.le_of_ble_eq_true rfl) dX12_city_128 rfl ?_
        refine sp_istore_n (i := 2) (lv' := [some (.ref (sx_ad X 0)), none, some (.int v3)]) (q := 132) hX dX12_city_131 rfl (Nat.le_of_ble_eq_true rfl) rfl rfl rfl ?_
        refine sp_goto (tgt := 112) hX dX12_city_132 (by decide) ?_
        exact ih σ2 v3 hf
set_option maxRecDepth 100000 in
set_option maxHeartbeats 4000000 in
theorem hX12_city_106 {X : sp_X} (hX : sp_OK shM X cX12_city RX12 3 rmX12_city) {τ : sp_St} {r : Int32} (hR : sp_Ri shM X (some .int) τ r 0 0) {n : Nat}    {σ : sp_St} (hf : X12_city_106 n σ = some (τ, r)) : sp_GG shM X σ 3 [some (.ref (sx_ad X 0)), none, none] [] 106 0 0 := by
  unfold X12_city_106 at hf
  refine sp_aload_n (i := 0) (q := 107) hX dX12_city_106 rfl rfl rfl ?_
  obtain ⟨σ2, h1, hf⟩ := sp_bv_so hf
  refine sp_callVv (As := []) (rest := []) (q := 110) hX (cnX12_stepOn (sp_st hX)  h1) cwX12_233 atM_0 rfl rfl rfl rfl rfl (Nat.le_of_ble_eq_true rfl) (Nat.le_of_ble_eq_true rfl) (Nat.le_of_ble_eq_true rfl) (Nat.le_of_ble_eq_true rfl) (Nat.le_of_ble_eq_true rfl) dX12_city_107 rfl ?_
  refine sp_iconst (v := 0) (q := 111) hX dX12_city_110 li_0 rfl ?_
  obtain ⟨x3, e4, hf⟩ := sp_pl_some hf
  refine sp_nmi e4 ?_
  refine sp_istore_n (i := 2) (lv' := [some (.ref (sx_ad X 0)), none, some (.int x3)]) (q := 112) hX dX12_city_111 rfl (Nat.le_of_ble_eq_true rfl) rfl rfl rfl ?_
  exact hX12_city_112 hX hR n σ2 x3 hf
set_option maxRecDepth 100000 in
set_option maxHeartbeats 4000000 in
theorem hX12_city_84 {X : sp_X} (hX : sp_OK shM X cX12_city RX12 3 rmX12_city) {τ : sp_St} {r : Int32} (hR : sp_Ri shM X (some .int) τ r 0 0) {n : Nat}    : ∀ (f : Nat) (σ : sp_St) (z2 : Int32), X12_city_84 n f σ z2 = some (τ, r) → sp_GG shM X σ 3 [some (.ref (sx_ad X 0)), none, some (.int z2)] [] 84 0 0 := by
  intro f
  induction f with
  | zero =>
    intro σ z2 hf
    rw [X12_city_84] at hf
    cases hf
  | succ f ih =>
    intro σ z2 hf
    rw [X12_city_84] at hf
    refine sp_iload_n (i := 2) (q := 85) hX dX12_city_84 rfl rfl rfl ?_
    refine sp_bipush (v := 6) (q := 87) hX dX12_city_85 lb_6 rfl ?_
    refine sp_icmp_ge (tgt := 106) (q := 90) hX dX12_city_87 (by decide) rfl (fun hc => ?_) (fun hc => ?_)
    · rw [if_pos hc] at hf
      refine sp_drop (lv' := [some (.ref (sx_ad X 0)), none, none]) (And.intro rfl trivial) ?_
      exact hX12_city_106 hX hR hf
    · rw [if_neg hc] at hf
      refine sp_aload_n (i := 0) (q := 91) hX dX12_city_90 rfl rfl rfl ?_
      refine sp_gets (t := 4) (q := 94) hX flX12_37 fkX12_5 atM_0 srM_0_5 dX12_city_91 rfl ?_
      refine sp_bipush (v := 6) (q := 96) hX dX12_city_94 lb_6 rfl ?_
      refine sp_iload_n (i := 2) (q := 97) hX dX12_city_96 rfl rfl rfl ?_
      refine sp_iadd (q := 98) hX dX12_city_97 rfl ?_
      refine sp_iconst (v := 0) (q := 99) hX dX12_city_98 li_0 rfl ?_
      obtain ⟨h1, hf⟩ := sp_ck_some hf
      obtain ⟨σ2, e3, hf⟩ := sp_pl_some hf
      refine sp_iast (q := 100) hX arM_4 h1 dX12_city_99 rfl ?_
      refine sp_nms e3 ?_
      obtain ⟨x4, e5, hf⟩ := sp_pl_some hf
      refine sp_iinc (i := 2) (v := x4) (lv' := [some (.ref (sx_ad X 0)), none, some (.int x4)]) (q := 103) hX dX12_city_100 rfl (by rw [e5, li_1]) (Nat.le_of_ble_eq_true rfl) rfl rfl rfl ?_
      refine sp_goto (tgt := 84) hX dX12_city_103 (by decide) ?_
      exact ih σ2 x4 hf
set_option maxRecDepth 100000 in
set_option maxHeartbeats 4000000 in
theorem hX12_city_82 {X : sp_X} (hX : sp_OK shM X cX12_city RX12 3 rmX12_city) {τ : sp_St} {r : Int32} (hR : sp_Ri shM X (some .int) τ r 0 0) {n : Nat}    {σ : sp_St} (hf : X12_city_82 n σ = some (τ, r)) : sp_GG shM X σ 3 [some (.ref (sx_ad X 0)), none, none] [] 82 0 0 := by
  unfold X12_city_82 at hf
  refine sp_iconst (v := 0) (q := 83) hX dX12_city_82 li_0 rfl ?_
  obtain ⟨x1, e2, hf⟩ := sp_pl_some hf
  refine sp_nmi e2 ?_
  refine sp_istore_n (i := 2) (lv' := [some (.ref (sx_ad X 0)), none, some (.int x1)]) (q := 84) hX dX12_city_83 rfl (Nat.le_of_ble_eq_true rfl) rfl rfl rfl ?_
  exact hX12_city_84 hX hR n σ x1 hf
set_option maxRecDepth 100000 in
set_option maxHeartbeats 4000000 in
theorem hX12_city_50 {X : sp_X} (hX : sp_OK shM X cX12_city RX12 3 rmX12_city) {τ : sp_St} {r : Int32} (hR : sp_Ri shM X (some .int) τ r 0 0) {n : Nat}    : ∀ (f : Nat) (σ : sp_St) (z2 : Int32), X12_city_50 n f σ z2 = some (τ, r) → sp_GG shM X σ 3 [some (.ref (sx_ad X 0)), none, some (.int z2)] [] 50 0 0 := by
  intro f
  induction f with
  | zero =>
    intro σ z2 hf
    rw [X12_city_50] at hf
    cases hf
  | succ f ih =>
    intro σ z2 hf
    rw [X12_city_50] at hf
    refine sp_iload_n (i := 2) (q := 51) hX dX12_city_50 rfl rfl rfl ?_
    refine sp_bipush (v := 6) (q := 53) hX dX12_city_51 lb_6 rfl ?_
    refine sp_icmp_ge (tgt := 82) (q := 56) hX dX12_city_53 (by decide) rfl (fun hc => ?_) (fun hc => ?_)
    · rw [if_pos hc] at hf
      refine sp_drop (lv' := [some (.ref (sx_ad X 0)), none, none]) (And.intro rfl trivial) ?_
      exact hX12_city_82 hX hR hf
    · rw [if_neg hc] at hf
      refine sp_aload_n (i := 0) (q := 57) hX dX12_city_56 rfl rfl rfl ?_
      refine sp_gets (t := 3) (q := 60) hX flX12_33 fkX12_4 atM_0 srM_0_4 dX12_city_57 rfl ?_
      refine sp_bipush (v := 6) (q := 62) hX dX12_city_60 lb_6 rfl ?_
      refine sp_iload_n (i := 2) (q := 63) hX dX12_city_62 rfl rfl rfl ?_
      refine sp_iadd (q := 64) hX dX12_city_63 rfl ?_
      refine sp_iload_n (i := 2) (q := 65) hX dX12_city_64 rfl rfl rfl ?_
      refine sp_iconst (v := 3) (q := 66) hX dX12_city_65 li_3 rfl ?_
      obtain ⟨v1, e2, hf⟩ := sp_pl_some hf
      have hj8 : sp_GG shM X σ 3 [some (.ref (sx_ad X 0)), none, some (.int z2)] [.int v1, .int (((6 : Int32)) + z2), .ref (sx_ad X 3)] 75 0 0 := by
        obtain ⟨h3, hf⟩ := sp_ck_some hf
        obtain ⟨σ4, e5, hf⟩ := sp_pl_some hf
        refine sp_iast (q := 76) hX arM_3 h3 dX12_city_75 rfl ?_
        refine sp_nms e5 ?_
        obtain ⟨x6, e7, hf⟩ := sp_pl_some hf
        refine sp_iinc (i := 2) (v := x6) (lv' := [some (.ref (sx_ad X 0)), none, some (.int x6)]) (q := 79) hX dX12_city_76 rfl (by rw [e7, li_1]) (Nat.le_of_ble_eq_true rfl) rfl rfl rfl ?_
        refine sp_goto (tgt := 50) hX dX12_city_79 (by decide) ?_
        exact ih σ4 x6 hf
      refine sp_icmp_ne (tgt := 74) (q := 69) hX dX12_city_66 (by decide) rfl (fun hc => ?_) (fun hc => ?_)
      · refine sp_iconst (v := 0) (q := 75) hX dX12_city_74 li_0 rfl ?_
        exact sp_nmi (by rw [e2, if_neg hc]) hj8
      · refine sp_bipush (v := 50) (q := 71) hX dX12_city_69 lb_50 rfl ?_
        refine sp_goto (tgt := 75) hX dX12_city_71 (by decide) ?_
        exact sp_nmi (by rw [e2, if_pos hc]) hj8
set_option maxRecDepth 100000 in
set_option maxHeartbeats 4000000 in
theorem hX12_city_17 {X : sp_X} (hX : sp_OK shM X cX12_city RX12 3 rmX12_city) {τ : sp_St} {r : Int32} (hR : sp_Ri shM X (some .int) τ r 0 0) {n : Nat}    {σ : sp_St} (hf : X12_city_17 n σ = some (τ, r)) : sp_GG shM X σ 3 [some (.ref (sx_ad X 0)), none, none] [] 17 0 0 := by
  unfold X12_city_17 at hf
  refine sp_aload_n (i := 0) (q := 18) hX dX12_city_17 rfl rfl rfl ?_
  refine sp_iconst (v := 1) (q := 19) hX dX12_city_18 li_1 rfl ?_
  obtain ⟨σ2, v3, h1, hf⟩ := sp_bd_so hf
  refine sp_callVi (As := [.int ((1 : Int32))]) (rest := []) (q := 22) hX (cnX12_fail (sp_st hX)  h1) cwX12_312 atM_0 rfl rfl rfl rfl rfl (Nat.le_of_ble_eq_true rfl) (Nat.le_of_ble_eq_true rfl) (Nat.le_of_ble_eq_true rfl) (Nat.le_of_ble_eq_true rfl) (Nat.le_of_ble_eq_true rfl) dX12_city_19 rfl ?_
  exact sp_iret hX hR dX12_city_22 hf (Nat.le_of_ble_eq_true rfl) (Nat.le_of_ble_eq_true rfl)
set_option maxRecDepth 100000 in
set_option maxHeartbeats 4000000 in
theorem hX12_city {X : sp_X} (hX : sp_OK shM X cX12_city RX12 3 rmX12_city) {τ : sp_St} {r : Int32} (hR : sp_Ri shM X (some .int) τ r 0 0) {n : Nat}  {σ : sp_St} {a1 : Int32}  (hf : X12_city n σ a1 = some (τ, r)) : sp_GG shM X σ 3 [some (.ref (sx_ad X 0)), some (.int a1), none] [] 0 0 0 := by
  unfold X12_city at hf
  refine sp_aload_n (i := 0) (q := 1) hX dX12_city_0 rfl rfl rfl ?_
  refine sp_iconst (v := 0) (q := 2) hX dX12_city_1 li_0 rfl ?_
  obtain ⟨σ1, e2, hf⟩ := sp_pl_some hf
  refine sp_puti (q := 5) hX fpX12_158 fkX12_3 atM_0 dX12_city_2 rfl ?_
  refine sp_nms e2 ?_
  refine sp_iload_n (i := 1) (q := 6) hX dX12_city_5 rfl rfl rfl ?_
  refine sp_if_lt (tgt := 17) (q := 9) hX dX12_city_6 (by decide) rfl (fun hc => ?_) (fun hc => ?_)
  · rw [if_pos hc] at hf
    refine sp_drop (lv' := [some (.ref (sx_ad X 0)), none, none]) (And.intro rfl trivial) ?_
    exact hX12_city_17 hX hR hf
  · rw [if_neg hc] at hf
    refine sp_iload_n (i := 1) (q := 10) hX dX12_city_9 rfl rfl rfl ?_
    refine sp_aload_n (i := 0) (q := 11) hX dX12_city_10 rfl rfl rfl ?_
    refine sp_geti (q := 14) hX flX12_167 fkX12_15 atM_0 dX12_city_11 rfl ?_
    refine sp_icmp_le (tgt := 23) (q := 17) hX dX12_city_14 (by decide) rfl (fun hc => ?_) (fun hc => ?_)
    · rw [if_pos hc] at hf
      refine sp_aload_n (i := 0) (q := 24) hX dX12_city_23 rfl rfl rfl ?_
      refine sp_iconst (v := 0) (q := 25) hX dX12_city_24 li_0 rfl ?_
      obtain ⟨σ3, e4, hf⟩ := sp_pl_some hf
      refine sp_puti (q := 28) hX fpX12_167 fkX12_15 atM_0 dX12_city_25 rfl ?_
      refine sp_nms e4 ?_
      refine sp_aload_n (i := 0) (q := 29) hX dX12_city_28 rfl rfl rfl ?_
      refine sp_iload_n (i := 1) (q := 30) hX dX12_city_29 rfl rfl rfl ?_
      obtain ⟨σ5, e6, hf⟩ := sp_pl_some hf
      refine sp_puti (q := 33) hX fpX12_170 fkX12_17 atM_0 dX12_city_30 rfl ?_
      refine sp_nms e6 ?_
      refine sp_aload_n (i := 0) (q := 34) hX dX12_city_33 rfl rfl rfl ?_
      refine sp_iconst (v := 0) (q := 35) hX dX12_city_34 li_0 rfl ?_
      obtain ⟨σ7, e8, hf⟩ := sp_pl_some hf
      refine sp_puti (q := 38) hX fpX12_173 fkX12_16 atM_0 dX12_city_35 rfl ?_
      refine sp_nms e8 ?_
      refine sp_aload_n (i := 0) (q := 39) hX dX12_city_38 rfl rfl rfl ?_
      refine sp_iconst (v := 0) (q := 40) hX dX12_city_39 li_0 rfl ?_
      obtain ⟨σ9, e10, hf⟩ := sp_pl_some hf
      refine sp_puti (q := 43) hX fpX12_209 fkX12_22 atM_0 dX12_city_40 rfl ?_
      refine sp_nms e10 ?_
      refine sp_aload_n (i := 0) (q := 44) hX dX12_city_43 rfl rfl rfl ?_
      refine sp_iconst (v := -1) (q := 45) hX dX12_city_44 li_m1 rfl ?_
      obtain ⟨σ11, e12, hf⟩ := sp_pl_some hf
      refine sp_puti (q := 48) hX fpX12_66 fkX12_24 atM_0 dX12_city_45 rfl ?_
      refine sp_nms e12 ?_
      refine sp_iconst (v := 0) (q := 49) hX dX12_city_48 li_0 rfl ?_
      obtain ⟨x13, e14, hf⟩ := sp_pl_some hf
      refine sp_nmi e14 ?_
      refine sp_istore_n (i := 2) (lv' := [some (.ref (sx_ad X 0)), some (.int a1), some (.int x13)]) (q := 50) hX dX12_city_49 rfl (Nat.le_of_ble_eq_true rfl) rfl rfl rfl ?_
      refine sp_drop (lv' := [some (.ref (sx_ad X 0)), none, some (.int x13)]) (And.intro rfl (And.intro rfl trivial)) ?_
      exact hX12_city_50 hX hR n σ11 x13 hf
    · rw [if_neg hc] at hf
      refine sp_drop (lv' := [some (.ref (sx_ad X 0)), none, none]) (And.intro rfl trivial) ?_
      exact hX12_city_17 hX hR hf
set_option maxRecDepth 100000 in
set_option maxHeartbeats 4000000 in
theorem cnX12_city {l : Launch} (hst : l.stackTraces = false) {w : sp_Wd} {n : Nat}  {σ : sp_St} {a1 : Int32} {τ : sp_St} {r : Int32}  (hf : X12_city n σ a1 = some (τ, r)) : sp_Ci shM l w yX12_city cX12_city 3 (some .int) rmX12_city 0 0 σ [.ref (w.2.1 0), .int a1] τ r :=
  sp_ci (own := RX12) (by decide) rfl hst (Nat.le_of_ble_eq_true rfl) rfl (fun X hX hw hl hR => by subst hw; subst hl; exact hX12_city hX hR   hf)
def rmX12_couples : Room := { frames := 111, cells := 0, slots := 0, locals := 5224 }
def X12_couples (n : Nat)  (σ : sp_St)  : Option (sp_St × Int32) :=
  sp_pl (sp_si σ 0 3 ((0 : Int32))) fun σ1 =>
  sp_bd (X12_couplesOf 8 n σ1 ((63 : Int32))) fun σ4 v5 =>
  some (σ4, v5)
set_option maxRecDepth 100000 in
set_option maxHeartbeats 4000000 in
theorem hX12_couples {X : sp_X} (hX : sp_OK shM X cX12_couples RX12 1 rmX12_couples) {τ : sp_St} {r : Int32} (hR : sp_Ri shM X (some .int) τ r 0 0) {n : Nat}  {σ : sp_St}   (hf : X12_couples n σ = some (τ, r)) : sp_GG shM X σ 1 [some (.ref (sx_ad X 0))] [] 0 0 0 := by
  unfold X12_couples at hf
  refine sp_aload_n (i := 0) (q := 1) hX dX12_couples_0 rfl rfl rfl ?_
  refine sp_iconst (v := 0) (q := 2) hX dX12_couples_1 li_0 rfl ?_
  obtain ⟨σ1, e2, hf⟩ := sp_pl_some hf
  refine sp_puti (q := 5) hX fpX12_158 fkX12_3 atM_0 dX12_couples_2 rfl ?_
  refine sp_nms e2 ?_
  refine sp_aload_n (i := 0) (q := 6) hX dX12_couples_5 rfl rfl rfl ?_
  refine sp_bipush (v := 63) (q := 8) hX dX12_couples_6 lb_63 rfl ?_
  obtain ⟨σ4, v5, h3, hf⟩ := sp_bd_so hf
  refine sp_callVi (As := [.int ((63 : Int32))]) (rest := []) (q := 11) hX (cnX12_couplesOf (sp_st hX) 8 h3) cwX12_454 atM_0 rfl rfl rfl rfl rfl (Nat.le_of_ble_eq_true rfl) (Nat.le_of_ble_eq_true rfl) (Nat.le_of_ble_eq_true rfl) (Nat.le_of_ble_eq_true rfl) (Nat.le_of_ble_eq_true rfl) dX12_couples_8 rfl ?_
  exact sp_iret hX hR dX12_couples_11 hf (Nat.le_of_ble_eq_true rfl) (Nat.le_of_ble_eq_true rfl)
set_option maxRecDepth 100000 in
set_option maxHeartbeats 4000000 in
theorem cnX12_couples {l : Launch} (hst : l.stackTraces = false) {w : sp_Wd} {n : Nat}  {σ : sp_St}  {τ : sp_St} {r : Int32}  (hf : X12_couples n σ = some (τ, r)) : sp_Ci shM l w yX12_couples cX12_couples 1 (some .int) rmX12_couples 0 0 σ [.ref (w.2.1 0)] τ r :=
  sp_ci (own := RX12) (by decide) rfl hst (Nat.le_of_ble_eq_true rfl) rfl (fun X hX hw hl hR => by subst hw; subst hl; exact hX12_couples hX hR   hf)
