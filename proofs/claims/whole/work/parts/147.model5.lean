def rmX12_tellMost : Room := { frames := 3, cells := 0, slots := 0, locals := 65 }
def X12_tellMost_172 (n : Nat) (k41 : sp_St → Int32 → Int32 → Option (sp_St)) (σ : sp_St) (z1 : Int32) (z2 : Int32) : Option (sp_St) :=
  sp_pl (z2 + (-1)) fun x1 =>
  k41 σ z1 x1
def X12_tellMost_166 (n : Nat) (k41 : sp_St → Int32 → Int32 → Option (sp_St)) (k54 : sp_St → Int32 → Int32 → Int32 → Int32 → Option (sp_St)) (σ : sp_St) (z1 : Int32) (z2 : Int32) (z3 : Int32) (z4 : Int32) : Option (sp_St) :=
  sp_pl (z4 + 1) fun x1 =>
  k54 σ z1 z2 z3 x1
def X12_tellMost_152 (n : Nat) (k41 : sp_St → Int32 → Int32 → Option (sp_St)) (k54 : sp_St → Int32 → Int32 → Int32 → Int32 → Option (sp_St)) (σ : sp_St) (z1 : Int32) (z2 : Int32) (z3 : Int32) (z4 : Int32) (z5 : Int32) : Option (sp_St) :=
  sp_ck (sp_in ((z2 <<< (((10 : Int32)) &&& 31)) + z4) 6144) <|
  sp_pl (sp_sa σ 27 ((z2 <<< (((10 : Int32)) &&& 31)) + z4).toNatClampNeg z5) fun σ2 =>
  X12_tellMost_166 n k41 k54 σ2 z1 z2 z3 z4
def X12_tellMost_140 (n : Nat) (k41 : sp_St → Int32 → Int32 → Option (sp_St)) (k54 : sp_St → Int32 → Int32 → Int32 → Int32 → Option (sp_St)) (k92 : sp_St → Int32 → Int32 → Int32 → Int32 → Int32 → Int32 → Option (sp_St)) (σ : sp_St) (z1 : Int32) (z2 : Int32) (z3 : Int32) (z4 : Int32) (z5 : Int32) (z6 : Int32) : Option (sp_St) :=
  sp_pl ((z6 - ((1 : Int32))) &&& z4) fun x1 =>
  k92 σ z1 z2 z3 z4 z5 x1
def X12_tellMost_92 (n : Nat) (k41 : sp_St → Int32 → Int32 → Option (sp_St)) (k54 : sp_St → Int32 → Int32 → Int32 → Int32 → Option (sp_St)) : Nat → sp_St → Int32 → Int32 → Int32 → Int32 → Int32 → Int32 → Option (sp_St)
  | 0, _, _, _, _, _, _, _ => none
  | f + 1, σ, z1, z2, z3, z4, z5, z6 =>
    if z6 ≤ 0 then
      X12_tellMost_152 n k41 k54 σ z1 z2 z3 z4 z5
    else
      sp_bd (X12_lengths n σ z6) fun σ2 v3 =>
      if z3 < v3 then
        X12_tellMost_140 n k41 k54 (X12_tellMost_92 n k41 k54 f) σ2 z1 z2 z3 z4 z5 z6
      else
        sp_bd (X12_angers n σ2 z6) fun σ5 v6 =>
        sp_ck (sp_in (((z2 + ((1 : Int32))) <<< (((10 : Int32)) &&& 31)) + (z4 &&& (z6 ^^^ ((-1 : Int32))))) 6144) <|
        sp_pl (sp_max z5 (v6 + (sp_g σ5 27 (((z2 + ((1 : Int32))) <<< (((10 : Int32)) &&& 31)) + (z4 &&& (z6 ^^^ ((-1 : Int32)))))))) fun v8 =>
        X12_tellMost_140 n k41 k54 (X12_tellMost_92 n k41 k54 f) σ5 z1 z2 z3 z4 v8 z6
def X12_tellMost_54 (n : Nat) (k41 : sp_St → Int32 → Int32 → Option (sp_St)) : Nat → sp_St → Int32 → Int32 → Int32 → Int32 → Option (sp_St)
  | 0, _, _, _, _, _ => none
  | f + 1, σ, z1, z2, z3, z4 =>
    if z1 < z4 then
      X12_tellMost_172 n k41 σ z1 z2
    else
      if (z4 &&& (z1 ^^^ ((-1 : Int32)))) = 0 then
        sp_ck (sp_in (((z2 + ((1 : Int32))) <<< (((10 : Int32)) &&& 31)) + z4) 6144) <|
        sp_pl (sp_g σ 27 (((z2 + ((1 : Int32))) <<< (((10 : Int32)) &&& 31)) + z4)) fun x2 =>
        X12_tellMost_92 n k41 (X12_tellMost_54 n k41 f) n σ z1 z2 z3 z4 x2 z4
      else
        X12_tellMost_166 n k41 (X12_tellMost_54 n k41 f) σ z1 z2 z3 z4
def X12_tellMost_41 (n : Nat) : Nat → sp_St → Int32 → Int32 → Option (sp_St)
  | 0, _, _, _ => none
  | f + 1, σ, z1, z2 =>
    if z2 < 0 then
      some σ
    else
      sp_bd (X12_leftOf n σ z2) fun σ2 v3 =>
      sp_pl ((0 : Int32)) fun x4 =>
      X12_tellMost_54 n (X12_tellMost_41 n f) n σ2 z1 z2 v3 x4
def X12_tellMost_32 (n : Nat) (σ : sp_St) (z1 : Int32) : Option (sp_St) :=
  sp_pl ((sp_g σ 3 ((1 : Int32))) - ((1 : Int32))) fun x1 =>
  X12_tellMost_41 n n σ z1 x1
def X12_tellMost_2 (n : Nat) : Nat → sp_St → Int32 → Int32 → Option (sp_St)
  | 0, _, _, _ => none
  | f + 1, σ, z1, z2 =>
    if ((1024 : Int32)) ≤ z2 then
      X12_tellMost_32 n σ z1
    else
      sp_ck (sp_in (((sp_g σ 3 ((1 : Int32))) <<< (((10 : Int32)) &&& 31)) + z2) 6144) <|
      sp_pl (sp_sa σ 27 (((sp_g σ 3 ((1 : Int32))) <<< (((10 : Int32)) &&& 31)) + z2).toNatClampNeg ((0 : Int32))) fun σ2 =>
      sp_pl (z2 + 1) fun x4 =>
      X12_tellMost_2 n f σ2 z1 x4
def X12_tellMost (n : Nat)  (σ : sp_St) (a1 : Int32) : Option (sp_St) :=
  sp_pl ((0 : Int32)) fun x1 =>
  X12_tellMost_2 n n σ a1 x1
set_option maxRecDepth 100000 in
set_option maxHeartbeats 4000000 in
theorem hX12_tellMost_172 {X : sp_X} (hX : sp_OK shM X cX12_tellMost RX12 7 rmX12_tellMost) {τ : sp_St} (hR : sp_Rv shM X τ 0 0) {n : Nat}   {k41 : sp_St → Int32 → Int32 → Option (sp_St)} (hk41 : ∀ (σ : sp_St) (z1 : Int32) (z2 : Int32), k41 σ z1 z2 = some τ → sp_GG shM X σ 7 [some (.ref (sx_ad X 0)), some (.int z1), some (.int z2), none, none, none, none] [] 41 0 0) {σ : sp_St} {z1 : Int32} {z2 : Int32} (hf : X12_tellMost_172 n k41 σ z1 z2 = some τ) : sp_GG shM X σ 7 [some (.ref (sx_ad X 0)), some (.int z1), some (.int z2), none, none, none, none] [] 172 0 0 := by
  unfold X12_tellMost_172 at hf
  obtain ⟨x1, e2, hf⟩ := sp_pl_some hf
  refine sp_iinc (i := 2) (v := x1) (lv' := [some (.ref (sx_ad X 0)), some (.int z1), some (.int x1), none, none, none, none]) (q := 175) hX dX12_tellMost_172 rfl (by rw [e2, li_m1]) (Nat.le_of_ble_eq_true rfl) rfl rfl rfl ?_
  refine sp_goto (tgt := 41) hX dX12_tellMost_175 (by decide) ?_
  exact hk41 σ z1 x1 hf
set_option maxRecDepth 100000 in
set_option maxHeartbeats 4000000 in
theorem hX12_tellMost_166 {X : sp_X} (hX : sp_OK shM X cX12_tellMost RX12 7 rmX12_tellMost) {τ : sp_St} (hR : sp_Rv shM X τ 0 0) {n : Nat}   {k41 : sp_St → Int32 → Int32 → Option (sp_St)} (hk41 : ∀ (σ : sp_St) (z1 : Int32) (z2 : Int32), k41 σ z1 z2 = some τ → sp_GG shM X σ 7 [some (.ref (sx_ad X 0)), some (.int z1), some (.int z2), none, none, none, none] [] 41 0 0) {k54 : sp_St → Int32 → Int32 → Int32 → Int32 → Option (sp_St)} (hk54 : ∀ (σ : sp_St) (z1 : Int32) (z2 : Int32) (z3 : Int32) (z4 : Int32), k54 σ z1 z2 z3 z4 = some τ → sp_GG shM X σ 7 [some (.ref (sx_ad X 0)), some (.int z1), some (.int z2), some (.int z3), some (.int z4), none, none] [] 54 0 0) {σ : sp_St} {z1 : Int32} {z2 : Int32} {z3 : Int32} {z4 : Int32} (hf : X12_tellMost_166 n k41 k54 σ z1 z2 z3 z4 = some τ) : sp_GG shM X σ 7 [some (.ref (sx_ad X 0)), some (.int z1), some (.int z2), some (.int z3), some (.int z4), none, none] [] 166 0 0 := by
  unfold X12_tellMost_166 at hf
  obtain ⟨x1, e2, hf⟩ := sp_pl_some hf
  refine sp_iinc (i := 4) (v := x1) (lv' := [some (.ref (sx_ad X 0)), some (.int z1), some (.int z2), some (.int z3), some (.int x1), none, none]) (q := 169) hX dX12_tellMost_166 rfl (by rw [e2, li_1]) (Nat.le_of_ble_eq_true rfl) rfl rfl rfl ?_
  refine sp_goto (tgt := 54) hX dX12_tellMost_169 (by decide) ?_
  exact hk54 σ z1 z2 z3 x1 hf
set_option maxRecDepth 100000 in
set_option maxHeartbeats 4000000 in
theorem hX12_tellMost_152 {X : sp_X} (hX : sp_OK shM X cX12_tellMost RX12 7 rmX12_tellMost) {τ : sp_St} (hR : sp_Rv shM X τ 0 0) {n : Nat}   {k41 : sp_St → Int32 → Int32 → Option (sp_St)} (hk41 : ∀ (σ : sp_St) (z1 : Int32) (z2 : Int32), k41 σ z1 z2 = some τ → sp_GG shM X σ 7 [some (.ref (sx_ad X 0)), some (.int z1), some (.int z2), none, none, none, none] [] 41 0 0) {k54 : sp_St → Int32 → Int32 → Int32 → Int32 → Option (sp_St)} (hk54 : ∀ (σ : sp_St) (z1 : Int32) (z2 : Int32) (z3 : Int32) (z4 : Int32), k54 σ z1 z2 z3 z4 = some τ → sp_GG shM X σ 7 [some (.ref (sx_ad X 0)), some (.int z1), some (.int z2), some (.int z3), some (.int z4), none, none] [] 54 0 0) {σ : sp_St} {z1 : Int32} {z2 : Int32} {z3 : Int32} {z4 : Int32} {z5 : Int32} (hf : X12_tellMost_152 n k41 k54 σ z1 z2 z3 z4 z5 = some τ) : sp_GG shM X σ 7 [some (.ref (sx_ad X 0)), some (.int z1), some (.int z2), some (.int z3), some (.int z4), some (.int z5), none] [] 152 0 0 := by
  unfold X12_tellMost_152 at hf
  refine sp_aload_n (i := 0) (q := 153) hX dX12_tellMost_152 rfl rfl rfl ?_
  refine sp_gets (t := 27) (q := 156) hX flX12_108 fkX12_43 atM_0 srM_0_43 dX12_tellMost_153 rfl ?_
  refine sp_iload_n (i := 2) (q := 157) hX dX12_tellMost_156 rfl rfl rfl ?_
  refine sp_bipush (v := 10) (q := 159) hX dX12_tellMost_157 lb_10 rfl ?_
  refine sp_ishl (q := 160) hX dX12_tellMost_159 rfl ?_
  refine sp_iload (i := 4) (q := 162) hX dX12_tellMost_160 rfl rfl ?_
  refine sp_iadd (q := 163) hX dX12_tellMost_162 rfl ?_
  refine sp_iload (i := 5) (q := 165) hX dX12_tellMost_163 rfl rfl ?_
  obtain ⟨h1, hf⟩ := sp_ck_some hf
  obtain ⟨σ2, e3, hf⟩ := sp_pl_some hf
  refine sp_iast (q := 166) hX arM_27 h1 dX12_tellMost_165 rfl ?_
  refine sp_nms e3 ?_
  refine sp_drop (lv' := [some (.ref (sx_ad X 0)), some (.int z1), some (.int z2), some (.int z3), some (.int z4), none, none]) (And.intro rfl (And.intro rfl (And.intro rfl (And.intro rfl (And.intro rfl trivial))))) ?_
  exact hX12_tellMost_166 hX hR hk41 hk54 hf
set_option maxRecDepth 100000 in
set_option maxHeartbeats 4000000 in
theorem hX12_tellMost_140 {X : sp_X} (hX : sp_OK shM X cX12_tellMost RX12 7 rmX12_tellMost) {τ : sp_St} (hR : sp_Rv shM X τ 0 0) {n : Nat}   {k41 : sp_St → Int32 → Int32 → Option (sp_St)} (hk41 : ∀ (σ : sp_St) (z1 : Int32) (z2 : Int32), k41 σ z1 z2 = some τ → sp_GG shM X σ 7 [some (.ref (sx_ad X 0)), some (.int z1), some (.int z2), none, none, none, none] [] 41 0 0) {k54 : sp_St → Int32 → Int32 → Int32 → Int32 → Option (sp_St)} (hk54 : ∀ (σ : sp_St) (z1 : Int32) (z2 : Int32) (z3 : Int32) (z4 : Int32), k54 σ z1 z2 z3 z4 = some τ → sp_GG shM X σ 7 [some (.ref (sx_ad X 0)), some (.int z1), some (.int z2), some (.int z3), some (.int z4), none, none] [] 54 0 0) {k92 : sp_St → Int32 → Int32 → Int32 → Int32 → Int32 → Int32 → Option (sp_St)} (hk92 : ∀ (σ : sp_St) (z1 : Int32) (z2 : Int32) (z3 : Int32) (z4 : Int32) (z5 : Int32) (z6 : Int32), k92 σ z1 z2 z3 z4 z5 z6 = some τ → sp_GG shM X σ 7 [some (.ref (sx_ad X 0)), some (.int z1), some (.int z2), some (.int z3), some (.int z4), some (.int z5), some (.int z6)] [] 92 0 0) {σ : sp_St} {z1 : Int32} {z2 : Int32} {z3 : Int32} {z4 : Int32} {z5 : Int32} {z6 : Int32} (hf : X12_tellMost_140 n k41 k54 k92 σ z1 z2 z3 z4 z5 z6 = some τ) : sp_GG shM X σ 7 [some (.ref (sx_ad X 0)), some (.int z1), some (.int z2), some (.int z3), some (.int z4), some (.int z5), some (.int z6)] [] 140 0 0 := by
  unfold X12_tellMost_140 at hf
  refine sp_iload (i := 6) (q := 142) hX dX12_tellMost_140 rfl rfl ?_
  refine sp_iconst (v := 1) (q := 143) hX dX12_tellMost_142 li_1 rfl ?_
  refine sp_isub (q := 144) hX dX12_tellMost_143 rfl ?_
  refine sp_iload (i := 4) (q := 146) hX dX12_tellMost_144 rfl rfl ?_
  refine sp_iand (q := 147) hX dX12_tellMost_146 rfl ?_
  obtain ⟨x1, e2, hf⟩ := sp_pl_some hf
  refine sp_nmi e2 ?_
  refine sp_istore (i := 6) (lv' := [some (.ref (sx_ad X 0)), some (.int z1), some (.int z2), some (.int z3), some (.int z4), some (.int z5), some (.int x1)]) (q := 149) hX dX12_tellMost_147 (Nat.le_of_ble_eq_true rfl) rfl rfl rfl ?_
  refine sp_goto (tgt := 92) hX dX12_tellMost_149 (by decide) ?_
  exact hk92 σ z1 z2 z3 z4 z5 x1 hf
set_option maxRecDepth 100000 in
set_option maxHeartbeats 4000000 in
theorem hX12_tellMost_92 {X : sp_X} (hX : sp_OK shM X cX12_tellMost RX12 7 rmX12_tellMost) {τ : sp_St} (hR : sp_Rv shM X τ 0 0) {n : Nat}   {k41 : sp_St → Int32 → Int32 → Option (sp_St)} (hk41 : ∀ (σ : sp_St) (z1 : Int32) (z2 : Int32), k41 σ z1 z2 = some τ → sp_GG shM X σ 7 [some (.ref (sx_ad X 0)), some (.int z1), some (.int z2), none, none, none, none] [] 41 0 0) {k54 : sp_St → Int32 → Int32 → Int32 → Int32 → Option (sp_St)} (hk54 : ∀ (σ : sp_St) (z1 : Int32) (z2 : Int32) (z3 : Int32) (z4 : Int32), k54 σ z1 z2 z3 z4 = some τ → sp_GG shM X σ 7 [some (.ref (sx_ad X 0)), some (.int z1), some (.int z2), some (.int z3), some (.int z4), none, none] [] 54 0 0) : ∀ (f : Nat) (σ : sp_St) (z1 : Int32) (z2 : Int32) (z3 : Int32) (z4 : Int32) (z5 : Int32) (z6 : Int32), X12_tellMost_92 n k41 k54 f σ z1 z2 z3 z4 z5 z6 = some τ → sp_GG shM X σ 7 [some (.ref (sx_ad X 0)), some (.int z1), some (.int z2), some (.int z3), some (.int z4), some (.int z5), some (.int z6)] [] 92 0 0 := by
  intro f
  induction f with
  | zero =>
    intro σ z1 z2 z3 z4 z5 z6 hf
    rw [X12_tellMost_92] at hf
    cases hf
  | succ f ih =>
    intro σ z1 z2 z3 z4 z5 z6 hf
    rw [X12_tellMost_92] at hf
    refine sp_iload (i := 6) (q := 94) hX dX12_tellMost_92 rfl rfl ?_
    refine sp_if_le (tgt := 152) (q := 97) hX dX12_tellMost_94 (by decide) rfl (fun hc => ?_) (fun hc => ?_)
    · rw [if_pos hc] at hf
      refine sp_drop (lv' := [some (.ref (sx_ad X 0)), some (.int z1), some (.int z2), some (.int z3), some (.int z4), some (.int z5), none]) (And.intro rfl (And.intro rfl (And.intro rfl (And.intro rfl (And.intro rfl (And.intro rfl trivial)))))) ?_
      exact hX12_tellMost_152 hX hR hk41 hk54 hf
    · rw [if_neg hc] at hf
      refine sp_aload_n (i := 0) (q := 98) hX dX12_tellMost_97 rfl rfl rfl ?_
      refine sp_iload (i := 6) (q := 100) hX dX12_tellMost_98 rfl rfl ?_
      obtain ⟨σ2, v3, h1, hf⟩ := sp_bd_so hf
      refine sp_callVi (As := [.int z6]) (rest := []) (q := 103) hX (cnX12_lengths (sp_st hX)  h1) cwX12_345 atM_0 rfl rfl rfl rfl rfl (Nat.le_of_ble_eq_true rfl) (Nat.le_of_ble_eq_true rfl) (Nat.le_of_ble_eq_true rfl) (Nat.le_of_ble_eq_true rfl) (Nat.le_of_ble_eq_true rfl) dX12_tellMost_100 rfl ?_
      refine sp_iload_n (i := 3) (q := 104) hX dX12_tellMost_103 rfl rfl rfl ?_
      refine sp_icmp_gt (tgt := 140) (q := 107) hX dX12_tellMost_104 (by decide) rfl (fun hc => ?_) (fun hc => ?_)
      · rw [if_pos hc] at hf
        exact hX12_tellMost_140 hX hR hk41 hk54 ih hf
      · rw [if_neg hc] at hf
        refine sp_iload (i := 5) (q := 109) hX dX12_tellMost_107 rfl rfl ?_
        refine sp_aload_n (i := 0) (q := 110) hX dX12_tellMost_109 rfl rfl rfl ?_
        refine sp_iload (i := 6) (q := 112) hX dX12_tellMost_110 rfl rfl ?_
        obtain ⟨σ5, v6, h4, hf⟩ := sp_bd_so hf
        refine sp_callVi (As := [.int z6]) (rest := [.int z5]) (q := 115) hX (cnX12_angers (sp_st hX)  h4) cwX12_440 atM_0 rfl rfl rfl rfl rfl (Nat.le_of_ble_eq_true rfl) (Nat.le_of_ble_eq_true rfl) (Nat.le_of_ble_eq_true rfl) (Nat.le_of_ble_eq_true rfl) (Nat.le_of_ble_eq_true rfl) dX12_tellMost_112 rfl ?_
        refine sp_aload_n (i := 0) (q := 116) hX dX12_tellMost_115 rfl rfl rfl ?_
        refine sp_gets (t := 27) (q := 119) hX flX12_108 fkX12_43 atM_0 srM_0_43 dX12_tellMost_116 rfl ?_
        refine sp_iload_n (i := 2) (q := 120) hX dX12_tellMost_119 rfl rfl rfl ?_
        refine sp_iconst (v := 1) (q := 121) hX dX12_tellMost_120 li_1 rfl ?_
        refine sp_iadd (q := 122) hX dX12_tellMost_121 rfl ?_
        refine sp_bipush (v := 10) (q := 124) hX dX12_tellMost_122 lb_10 rfl ?_
        refine sp_ishl (q := 125) hX dX12_tellMost_124 rfl ?_
        refine sp_iload (i := 4) (q := 127) hX dX12_tellMost_125 rfl rfl ?_
        refine sp_iload (i := 6) (q := 129) hX dX12_tellMost_127 rfl rfl ?_
        refine sp_iconst (v := -1) (q := 130) hX dX12_tellMost_129 li_m1 rfl ?_
        refine sp_ixor (q := 131) hX dX12_tellMost_130 rfl ?_
        refine sp_iand (q := 132) hX dX12_tellMost_131 rfl ?_
        refine sp_iadd (q := 133) hX dX12_tellMost_132 rfl ?_
        obtain ⟨h7, hf⟩ := sp_ck_some hf
        refine sp_iald (q := 134) hX arM_27 h7 dX12_tellMost_133 rfl ?_
        refine sp_iadd (q := 135) hX dX12_tellMost_134 rfl ?_
        obtain ⟨v8, e9, hf⟩ := sp_pl_some hf
        refine sp_mmax (q := 138) hX wd_1991 wd_656 wd_144 wd_657 (Nat.le_of_ble_eq_true rfl) (Nat.le_of_ble_eq_true rfl) (Nat.le_of_ble_eq_true rfl) (Nat.le_of_ble_eq_true rfl) dX12_tellMost_135 rfl ?_
        refine sp_nmi e9 ?_
        refine sp_istore (i := 5) (lv' := [some (.ref (sx_ad X 0)), some (.int z1), some (.int z2), some (.int z3), some (.int z4), some (.int v8), some (.int z6)]) (q := 140) hX dX12_tellMost_138 (Nat.le_of_ble_eq_true rfl) rfl rfl rfl ?_
        exact hX12_tellMost_140 hX hR hk41 hk54 ih hf
set_option maxRecDepth 100000 in
set_option maxHeartbeats 4000000 in
theorem hX12_tellMost_54 {X : sp_X} (hX : sp_OK shM X cX12_tellMost RX12 7 rmX12_tellMost) {τ : sp_St} (hR : sp_Rv shM X τ 0 0) {n : Nat}   {k41 : sp_St → Int32 → Int32 → Option (sp_St)} (hk41 : ∀ (σ : sp_St) (z1 : Int32) (z2 : Int32), k41 σ z1 z2 = some τ → sp_GG shM X σ 7 [some (.ref (sx_ad X 0)), some (.int z1), some (.int z2), none, none, none, none] [] 41 0 0) : ∀ (f : Nat) (σ : sp_St) (z1 : Int32) (z2 : Int32) (z3 : Int32) (z4 : Int32), X12_tellMost_54 n k41 f σ z1 z2 z3 z4 = some τ → sp_GG shM X σ 7 [some (.ref (sx_ad X 0)), some (.int z1), some (.int z2), some (.int z3), some (.int z4), none, none] [] 54 0 0 := by
  intro f
  induction f with
  | zero =>
    intro σ z1 z2 z3 z4 hf
    rw [X12_tellMost_54] at hf
    cases hf
  | succ f ih =>
    intro σ z1 z2 z3 z4 hf
    rw [X12_tellMost_54] at hf
    refine sp_iload (i := 4) (q := 56) hX dX12_tellMost_54 rfl rfl ?_
    refine sp_iload_n (i := 1) (q := 57) hX dX12_tellMost_56 rfl rfl rfl ?_
    refine sp_icmp_gt (tgt := 172) (q := 60) hX dX12_tellMost_57 (by decide) rfl (fun hc => ?_) (fun hc => ?_)
    · rw [if_pos hc] at hf
      refine sp_drop (lv' := [some (.ref (sx_ad X 0)), some (.int z1), some (.int z2), none, none, none, none]) (And.intro rfl (And.intro rfl (And.intro rfl trivial))) ?_
      exact hX12_tellMost_172 hX hR hk41 hf
    · rw [if_neg hc] at hf
      refine sp_iload (i := 4) (q := 62) hX dX12_tellMost_60 rfl rfl ?_
      refine sp_iload_n (i := 1) (q := 63) hX dX12_tellMost_62 rfl rfl rfl ?_
      refine sp_iconst (v := -1) (q := 64) hX dX12_tellMost_63 li_m1 rfl ?_
      refine sp_ixor (q := 65) hX dX12_tellMost_64 rfl ?_
      refine sp_iand (q := 66) hX dX12_tellMost_65 rfl ?_
      refine sp_if_eq (tgt := 72) (q := 69) hX dX12_tellMost_66 (by decide) rfl (fun hc => ?_) (fun hc => ?_)
      · rw [if_pos hc] at hf
        refine sp_aload_n (i := 0) (q := 73) hX dX12_tellMost_72 rfl rfl rfl ?_
        refine sp_gets (t := 27) (q := 76) hX flX12_108 fkX12_43 atM_0 srM_0_43 dX12_tellMost_73 rfl ?_
        refine sp_iload_n (i := 2) (q := 77) hX dX12_tellMost_76 rfl rfl rfl ?_
        refine sp_iconst (v := 1) (q := 78) hX dX12_tellMost_77 li_1 rfl ?_
        refine sp_iadd (q := 79) hX dX12_tellMost_78 rfl ?_
        refine sp_bipush (v := 10) (q := 81) hX dX12_tellMost_79 lb_10 rfl ?_
        refine sp_ishl (q := 82) hX dX12_tellMost_81 rfl ?_
        refine sp_iload (i := 4) (q := 84) hX dX12_tellMost_82 rfl rfl ?_
        refine sp_iadd (q := 85) hX dX12_tellMost_84 rfl ?_
        obtain ⟨h1, hf⟩ := sp_ck_some hf
        refine sp_iald (q := 86) hX arM_27 h1 dX12_tellMost_85 rfl ?_
        obtain ⟨x2, e3, hf⟩ := sp_pl_some hf
        refine sp_nmi e3 ?_
        refine sp_istore (i := 5) (lv' := [some (.ref (sx_ad X 0)), some (.int z1), some (.int z2), some (.int z3), some (.int z4), some (.int x2), none]) (q := 88) hX dX12_tellMost_86 (Nat.le_of_ble_eq_true rfl) rfl rfl rfl ?_
        refine sp_iload (i := 4) (q := 90) hX dX12_tellMost_88 rfl rfl ?_
        refine sp_istore (i := 6) (lv' := [some (.ref (sx_ad X 0)), some (.int z1), some (.int z2), some (.int z3), some (.int z4), some (.int x2), some (.int z4)]) (q := 92) hX dX12_tellMost_90 (Nat.le_of_ble_eq_true rfl) rfl rfl rfl ?_
        exact hX12_tellMost_92 hX hR hk41 ih n σ z1 z2 z3 z4 x2 z4 hf
      · rw [if_neg hc] at hf
        refine sp_goto (tgt := 166) hX dX12_tellMost_69 (by decide) ?_
        exact hX12_tellMost_166 hX hR hk41 ih hf
set_option maxRecDepth 100000 in
set_option maxHeartbeats 4000000 in
theorem hX12_tellMost_41 {X : sp_X} (hX : sp_OK shM X cX12_tellMost RX12 7 rmX12_tellMost) {τ : sp_St} (hR : sp_Rv shM X τ 0 0) {n : Nat}    : ∀ (f : Nat) (σ : sp_St) (z1 : Int32) (z2 : Int32), X12_tellMost_41 n f σ z1 z2 = some τ → sp_GG shM X σ 7 [some (.ref (sx_ad X 0)), some (.int z1), some (.int z2), none, none, none, none] [] 41 0 0 := by
  intro f
  induction f with
  | zero =>
    intro σ z1 z2 hf
    rw [X12_tellMost_41] at hf
    cases hf
  | succ f ih =>
    intro σ z1 z2 hf
    rw [X12_tellMost_41] at hf
    refine sp_iload_n (i := 2) (q := 42) hX dX12_tellMost_41 rfl rfl rfl ?_
    refine sp_if_lt (tgt := 178) (q := 45) hX dX12_tellMost_42 (by decide) rfl (fun hc => ?_) (fun hc => ?_)
    · rw [if_pos hc] at hf
      exact sp_vret hX hR dX12_tellMost_178 hf (Nat.le_of_ble_eq_true rfl) (Nat.le_of_ble_eq_true rfl)
    · rw [if_neg hc] at hf
      refine sp_aload_n (i := 0) (q := 46) hX dX12_tellMost_45 rfl rfl rfl ?_
      refine sp_iload_n (i := 2) (q := 47) hX dX12_tellMost_46 rfl rfl rfl ?_
      obtain ⟨σ2, v3, h1, hf⟩ := sp_bd_so hf
      refine sp_callVi (As := [.int z2]) (rest := []) (q := 50) hX (cnX12_leftOf (sp_st hX)  h1) cwX12_405 atM_0 rfl rfl rfl rfl rfl (Nat.le_of_ble_eq_true rfl) (Nat.le_of_ble_eq_true rfl) (Nat.le_of_ble_eq_true rfl) (Nat.le_of_ble_eq_true rfl) (Nat.le_of_ble_eq_true rfl) dX12_tellMost_47 rfl ?_
      refine sp_istore_n (i := 3) (lv' := [some (.ref (sx_ad X 0)), some (.int z1), some (.int z2), some (.int v3), none, none, none]) (q := 51) hX dX12_tellMost_50 rfl (Nat.le_of_ble_eq_true rfl) rfl rfl rfl ?_
      refine sp_iconst (v := 0) (q := 52) hX dX12_tellMost_51 li_0 rfl ?_
      obtain ⟨x4, e5, hf⟩ := sp_pl_some hf
      refine sp_nmi e5 ?_
      refine sp_istore (i := 4) (lv' := [some (.ref (sx_ad X 0)), some (.int z1), some (.int z2), some (.int v3), some (.int x4), none, none]) (q := 54) hX dX12_tellMost_52 (Nat.le_of_ble_eq_true rfl) rfl rfl rfl ?_
      exact hX12_tellMost_54 hX hR ih n σ2 z1 z2 v3 x4 hf
set_option maxRecDepth 100000 in
set_option maxHeartbeats 4000000 in
theorem hX12_tellMost_32 {X : sp_X} (hX : sp_OK shM X cX12_tellMost RX12 7 rmX12_tellMost) {τ : sp_St} (hR : sp_Rv shM X τ 0 0) {n : Nat}    {σ : sp_St} {z1 : Int32} (hf : X12_tellMost_32 n σ z1 = some τ) : sp_GG shM X σ 7 [some (.ref (sx_ad X 0)), some (.int z1), none, none, none, none, none] [] 32 0 0 := by
  unfold X12_tellMost_32 at hf
  refine sp_aload_n (i := 0) (q := 33) hX dX12_tellMost_32 rfl rfl rfl ?_
  refine sp_gets (t := 3) (q := 36) hX flX12_33 fkX12_4 atM_0 srM_0_4 dX12_tellMost_33 rfl ?_
  refine sp_iconst (v := 1) (q := 37) hX dX12_tellMost_36 li_1 rfl ?_
  refine sp_iald (q := 38) hX arM_3 (by decide) dX12_tellMost_37 rfl ?_
  refine sp_iconst (v := 1) (q := 39) hX dX12_tellMost_38 li_1 rfl ?_
  refine sp_isub (q := 40) hX dX12_tellMost_39 rfl ?_
  obtain ⟨x1, e2, hf⟩ := sp_pl_some hf
  refine sp_nmi e2 ?_
  refine sp_istore_n (i := 2) (lv' := [some (.ref (sx_ad X 0)), some (.int z1), some (.int x1), none, none, none, none]) (q := 41) hX dX12_tellMost_40 rfl (Nat.le_of_ble_eq_true rfl) rfl rfl rfl ?_
  exact hX12_tellMost_41 hX hR n σ z1 x1 hf
set_option maxRecDepth 100000 in
set_option maxHeartbeats 4000000 in
theorem hX12_tellMost_2 {X : sp_X} (hX : sp_OK shM X cX12_tellMost RX12 7 rmX12_tellMost) {τ : sp_St} (hR : sp_Rv shM X τ 0 0) {n : Nat}    : ∀ (f : Nat) (σ : sp_St) (z1 : Int32) (z2 : Int32), X12_tellMost_2 n f σ z1 z2 = some τ → sp_GG shM X σ 7 [some (.ref (sx_ad X 0)), some (.int z1), some (.int z2), none, none, none, none] [] 2 0 0 := by
  intro f
  induction f with
  | zero =>
    intro σ z1 z2 hf
    rw [X12_tellMost_2] at hf
    cases hf
  | succ f ih =>
    intro σ z1 z2 hf
    rw [X12_tellMost_2] at hf
    refine sp_iload_n (i := 2) (q := 3) hX dX12_tellMost_2 rfl rfl rfl ?_
    refine sp_sipush (v := 1024) (q := 6) hX dX12_tellMost_3 ls_1024 rfl ?_
    refine sp_icmp_ge (tgt := 32) (q := 9) hX dX12_tellMost_6 (by decide) rfl (fun hc => ?_) (fun hc => ?_)
    · rw [if_pos hc] at hf
      refine sp_drop (lv' := [some (.ref (sx_ad X 0)), some (.int z1), none, none, none, none, none]) (And.intro rfl (And.intro rfl trivial)) ?_
      exact hX12_tellMost_32 hX hR hf
    · rw [if_neg hc] at hf
      refine sp_aload_n (i := 0) (q := 10) hX dX12_tellMost_9 rfl rfl rfl ?_
      refine sp_gets (t := 27) (q := 13) hX flX12_108 fkX12_43 atM_0 srM_0_43 dX12_tellMost_10 rfl ?_
      refine sp_aload_n (i := 0) (q := 14) hX dX12_tellMost_13 rfl rfl rfl ?_
      refine sp_gets (t := 3) (q := 17) hX flX12_33 fkX12_4 atM_0 srM_0_4 dX12_tellMost_14 rfl ?_
      refine sp_iconst (v := 1) (q := 18) hX dX12_tellMost_17 li_1 rfl ?_
      refine sp_iald (q := 19) hX arM_3 (by decide) dX12_tellMost_18 rfl ?_
      refine sp_bipush (v := 10) (q := 21) hX dX12_tellMost_19 lb_10 rfl ?_
      refine sp_ishl (q := 22) hX dX12_tellMost_21 rfl ?_
      refine sp_iload_n (i := 2) (q := 23) hX dX12_tellMost_22 rfl rfl rfl ?_
      refine sp_iadd (q := 24) hX dX12_tellMost_23 rfl ?_
      refine sp_iconst (v := 0) (q := 25) hX dX12_tellMost_24 li_0 rfl ?_
      obtain ⟨h1, hf⟩ := sp_ck_some hf
      obtain ⟨σ2, e3, hf⟩ := sp_pl_some hf
      refine sp_iast (q := 26) hX arM_27 h1 dX12_tellMost_25 rfl ?_
      refine sp_nms e3 ?_
      obtain ⟨x4, e5, hf⟩ := sp_pl_some hf
      refine sp_iinc (i := 2) (v := x4) (lv' := [some (.ref (sx_ad X 0)), some (.int z1), some (.int x4), none, none, none, none]) (q := 29) hX dX12_tellMost_26 rfl (by rw [e5, li_1]) (Nat.le_of_ble_eq_true rfl) rfl rfl rfl ?_
      refine sp_goto (tgt := 2) hX dX12_tellMost_29 (by decide) ?_
      exact ih σ2 z1 x4 hf
set_option maxRecDepth 100000 in
set_option maxHeartbeats 4000000 in
theorem hX12_tellMost {X : sp_X} (hX : sp_OK shM X cX12_tellMost RX12 7 rmX12_tellMost) {τ : sp_St} (hR : sp_Rv shM X τ 0 0) {n : Nat}  {σ : sp_St} {a1 : Int32}  (hf : X12_tellMost n σ a1 = some τ) : sp_GG shM X σ 7 [some (.ref (sx_ad X 0)), some (.int a1), none, none, none, none, none] [] 0 0 0 := by
  unfold X12_tellMost at hf
  refine sp_iconst (v := 0) (q := 1) hX dX12_tellMost_0 li_0 rfl ?_
  obtain ⟨x1, e2, hf⟩ := sp_pl_some hf
  refine sp_nmi e2 ?_
  refine sp_istore_n (i := 2) (lv' := [some (.ref (sx_ad X 0)), some (.int a1), some (.int x1), none, none, none, none]) (q := 2) hX dX12_tellMost_1 rfl (Nat.le_of_ble_eq_true rfl) rfl rfl rfl ?_
  exact hX12_tellMost_2 hX hR n σ a1 x1 hf
set_option maxRecDepth 100000 in
set_option maxHeartbeats 4000000 in
theorem cnX12_tellMost {l : Launch} (hst : l.stackTraces = false) {w : sp_Wd} {n : Nat}  {σ : sp_St} {a1 : Int32} {τ : sp_St}  (hf : X12_tellMost n σ a1 = some τ) : sp_Cv shM l w yX12_tellMost cX12_tellMost 7 rmX12_tellMost 0 0 σ [.ref (w.2.1 0), .int a1] τ :=
  sp_cv (own := RX12) (by decide) rfl hst (Nat.le_of_ble_eq_true rfl) rfl (fun X hX hw hl hR => by subst hw; subst hl; exact hX12_tellMost hX hR   hf)
def rmX12_goingTo : Room := { frames := 3, cells := 0, slots := 0, locals := 65 }
def X12_goingTo_73 (n : Nat) (σ : sp_St) (z2 : Int32) : Option (sp_St × Int32) :=
  some (σ, z2)
def X12_goingTo_67 (n : Nat) (k2 : sp_St → Int32 → Int32 → Int32 → Option (sp_St × Int32)) (σ : sp_St) (z1 : Int32) (z2 : Int32) (z3 : Int32) : Option (sp_St × Int32) :=
  sp_pl (z3 + 1) fun x1 =>
  k2 σ z1 z2 x1
def X12_goingTo_65 (n : Nat) (σ : sp_St) (z3 : Int32) : Option (sp_St × Int32) :=
  some (σ, z3)
def X12_goingTo_2 (n : Nat) : Nat → sp_St → Int32 → Int32 → Int32 → Option (sp_St × Int32)
  | 0, _, _, _, _ => none
  | f + 1, σ, z1, z2, z3 =>
    if z2 ≤ z3 then
      X12_goingTo_73 n σ z2
    else
      if (z3 &&& (z2 ^^^ ((-1 : Int32)))) = 0 then
        sp_bd (X12_lengths n σ z3) fun σ2 v3 =>
        sp_bd (X12_leftOf n σ2 z1) fun σ5 v6 =>
        if v6 < v3 then
          X12_goingTo_67 n (X12_goingTo_2 n f) σ5 z1 z2 z3
        else
          sp_bd (X12_angers n σ5 z3) fun σ8 v9 =>
          sp_ck (sp_in (((z1 + ((1 : Int32))) <<< (((10 : Int32)) &&& 31)) + (z2 &&& (z3 ^^^ ((-1 : Int32))))) 6144) <|
          sp_ck (sp_in ((z1 <<< (((10 : Int32)) &&& 31)) + z2) 6144) <|
          if (v9 + (sp_g σ8 27 (((z1 + ((1 : Int32))) <<< (((10 : Int32)) &&& 31)) + (z2 &&& (z3 ^^^ ((-1 : Int32))))))) = (sp_g σ8 27 ((z1 <<< (((10 : Int32)) &&& 31)) + z2)) then
            X12_goingTo_65 n σ8 z3
          else
            X12_goingTo_67 n (X12_goingTo_2 n f) σ8 z1 z2 z3
      else
        X12_goingTo_67 n (X12_goingTo_2 n f) σ z1 z2 z3
def X12_goingTo (n : Nat)  (σ : sp_St) (a1 : Int32) (a2 : Int32) : Option (sp_St × Int32) :=
  sp_pl ((0 : Int32)) fun x1 =>
  X12_goingTo_2 n n σ a1 a2 x1
set_option maxRecDepth 100000 in
set_option maxHeartbeats 4000000 in
theorem hX12_goingTo_73 {X : sp_X} (hX : sp_OK shM X cX12_goingTo RX12 4 rmX12_goingTo) {τ : sp_St} {r : Int32} (hR : sp_Ri shM X (some .int) τ r 0 0) {n : Nat}    {σ : sp_St} {z2 : Int32} (hf : X12_goingTo_73 n σ z2 = some (τ, r)) : sp_GG shM X σ 4 [none, none, some (.int z2), none] [] 73 0 0 := by
  unfold X12_goingTo_73 at hf
  refine sp_iload_n (i := 2) (q := 74) hX dX12_goingTo_73 rfl rfl rfl ?_
  exact sp_iret hX hR dX12_goingTo_74 hf (Nat.le_of_ble_eq_true rfl) (Nat.le_of_ble_eq_true rfl)
set_option maxRecDepth 100000 in
set_option maxHeartbeats 4000000 in
theorem hX12_goingTo_67 {X : sp_X} (hX : sp_OK shM X cX12_goingTo RX12 4 rmX12_goingTo) {τ : sp_St} {r : Int32} (hR : sp_Ri shM X (some .int) τ r 0 0) {n : Nat}   {k2 : sp_St → Int32 → Int32 → Int32 → Option (sp_St × Int32)} (hk2 : ∀ (σ : sp_St) (z1 : Int32) (z2 : Int32) (z3 : Int32), k2 σ z1 z2 z3 = some (τ, r) → sp_GG shM X σ 4 [some (.ref (sx_ad X 0)), some (.int z1), some (.int z2), some (.int z3)] [] 2 0 0) {σ : sp_St} {z1 : Int32} {z2 : Int32} {z3 : Int32} (hf : X12_goingTo_67 n k2 σ z1 z2 z3 = some (τ, r)) : sp_GG shM X σ 4 [some (.ref (sx_ad X 0)), some (.int z1), some (.int z2), some (.int z3)] [] 67 0 0 := by
  unfold X12_goingTo_67 at hf
  obtain ⟨x1, e2, hf⟩ := sp_pl_some hf
  refine sp_iinc (i := 3) (v := x1) (lv' := [some (.ref (sx_ad X 0)), some (.int z1), some (.int z2), some (.int x1)]) (q := 70) hX dX12_goingTo_67 rfl (by rw [e2, li_1]) (Nat.le_of_ble_eq_true rfl) rfl rfl rfl ?_
  refine sp_goto (tgt := 2) hX dX12_goingTo_70 (by decide) ?_
  exact hk2 σ z1 z2 x1 hf
set_option maxRecDepth 100000 in
set_option maxHeartbeats 4000000 in
theorem hX12_goingTo_65 {X : sp_X} (hX : sp_OK shM X cX12_goingTo RX12 4 rmX12_goingTo) {τ : sp_St} {r : Int32} (hR : sp_Ri shM X (some .int) τ r 0 0) {n : Nat}    {σ : sp_St} {z3 : Int32} (hf : X12_goingTo_65 n σ z3 = some (τ, r)) : sp_GG shM X σ 4 [none, none, none, some (.int z3)] [] 65 0 0 := by
  unfold X12_goingTo_65 at hf
  refine sp_iload_n (i := 3) (q := 66) hX dX12_goingTo_65 rfl rfl rfl ?_
  exact sp_iret hX hR dX12_goingTo_66 hf (Nat.le_of_ble_eq_true rfl) (Nat.le_of_ble_eq_true rfl)
set_option maxRecDepth 100000 in
set_option maxHeartbeats 4000000 in
theorem hX12_goingTo_2 {X : sp_X} (hX : sp_OK shM X cX12_goingTo RX12 4 rmX12_goingTo) {τ : sp_St} {r : Int32} (hR : sp_Ri shM X (some .int) τ r 0 0) {n : Nat}    : ∀ (f : Nat) (σ : sp_St) (z1 : Int32) (z2 : Int32) (z3 : Int32), X12_goingTo_2 n f σ z1 z2 z3 = some (τ, r) → sp_GG shM X σ 4 [some (.ref (sx_ad X 0)), some (.int z1), some (.int z2), some (.int z3)] [] 2 0 0 := by
  intro f
  induction f with
  | zero =>
    intro σ z1 z2 z3 hf
    rw [X12_goingTo_2] at hf
    cases hf
  | succ f ih =>
    intro σ z1 z2 z3 hf
    rw [X12_goingTo_2] at hf
    refine sp_iload_n (i := 3) (q := 3) hX dX12_goingTo_2 rfl rfl rfl ?_
    refine sp_iload_n (i := 2) (q := 4) hX dX12_goingTo_3 rfl rfl rfl ?_
    refine sp_icmp_ge (tgt := 73) (q := 7) hX dX12_goingTo_4 (by decide) rfl (fun hc => ?_) (fun hc => ?_)
    · rw [if_pos hc] at hf
      refine sp_drop (lv' := [none, none, some (.int z2), none]) (And.intro rfl trivial) ?_
      exact hX12_goingTo_73 hX hR hf
    · rw [if_neg hc] at hf
      refine sp_iload_n (i := 3) (q := 8) hX dX12_goingTo_7 rfl rfl rfl ?_
      refine sp_iload_n (i := 2) (q := 9) hX dX12_goingTo_8 rfl rfl rfl ?_
      refine sp_iconst (v := -1) (q := 10) hX dX12_goingTo_9 li_m1 rfl ?_
      refine sp_ixor (q := 11) hX dX12_goingTo_10 rfl ?_
      refine sp_iand (q := 12) hX dX12_goingTo_11 rfl ?_
      refine sp_if_ne (tgt := 67) (q := 15) hX dX12_goingTo_12 (by decide) rfl (fun hc => ?_) (fun hc => ?_)
      · rw [if_neg hc] at hf
        exact hX12_goingTo_67 hX hR ih hf
      · rw [if_pos hc] at hf
        refine sp_aload_n (i := 0) (q := 16) hX dX12_goingTo_15 rfl rfl rfl ?_
        refine sp_iload_n (i := 3) (q := 17) hX dX12_goingTo_16 rfl rfl rfl ?_
        obtain ⟨σ2, v3, h1, hf⟩ := sp_bd_so hf
        refine sp_callVi (As := [.int z3]) (rest := []) (q := 20) hX (cnX12_lengths (sp_st hX)  h1) cwX12_345 atM_0 rfl rfl rfl rfl rfl (Nat.le_of_ble_eq_true rfl) (Nat.le_of_ble_eq_true rfl) (Nat.le_of_ble_eq_true rfl) (Nat.le_of_ble_eq_true rfl) (Nat.le_of_ble_eq_true rfl) dX12_goingTo_17 rfl ?_
        refine sp_aload_n (i := 0) (q := 21) hX dX12_goingTo_20 rfl rfl rfl ?_
        refine sp_iload_n (i := 1) (q := 22) hX dX12_goingTo_21 rfl rfl rfl ?_
        obtain ⟨σ5, v6, h4, hf⟩ := sp_bd_so hf
        refine sp_callVi (As := [.int z1]) (rest := [.int v3]) (q := 25) hX (cnX12_leftOf (sp_st hX)  h4) cwX12_405 atM_0 rfl rfl rfl rfl rfl (Nat.le_of_ble_eq_true rfl) (Nat.le_of_ble_eq_true rfl) (Nat.le_of_ble_eq_true rfl) (Nat.le_of_ble_eq_true rfl) (Nat.le_of_ble_eq_true rfl) dX12_goingTo_22 rfl ?_
        refine sp_icmp_gt (tgt := 67) (q := 28) hX dX12_goingTo_25 (by decide) rfl (fun hc => ?_) (fun hc => ?_)
        · rw [if_pos hc] at hf
          exact hX12_goingTo_67 hX hR ih hf
        · rw [if_neg hc] at hf
          refine sp_aload_n (i := 0) (q := 29) hX dX12_goingTo_28 rfl rfl rfl ?_
          refine sp_iload_n (i := 3) (q := 30) hX dX12_goingTo_29 rfl rfl rfl ?_
          obtain ⟨σ8, v9, h7, hf⟩ := sp_bd_so hf
          refine sp_callVi (As := [.int z3]) (rest := []) (q := 33) hX (cnX12_angers (sp_st hX)  h7) cwX12_440 atM_0 rfl rfl rfl rfl rfl (Nat.le_of_ble_eq_true rfl) (Nat.le_of_ble_eq_true rfl) (Nat.le_of_ble_eq_true rfl) (Nat.le_of_ble_eq_true rfl) (Nat.le_of_ble_eq_true rfl) dX12_goingTo_30 rfl ?_
          refine sp_aload_n (i := 0) (q := 34) hX dX12_goingTo_33 rfl rfl rfl ?_
          refine sp_gets (t := 27) (q := 37) hX flX12_108 fkX12_43 atM_0 srM_0_43 dX12_goingTo_34 rfl ?_
          refine sp_iload_n (i := 1) (q := 38) hX dX12_goingTo_37 rfl rfl rfl ?_
          refine sp_iconst (v := 1) (q := 39) hX dX12_goingTo_38 li_1 rfl ?_
          refine sp_iadd (q := 40) hX dX12_goingTo_39 rfl ?_
          refine sp_bipush (v := 10) (q := 42) hX dX12_goingTo_40 lb_10 rfl ?_
          refine sp_ishl (q := 43) hX dX12_goingTo_42 rfl ?_
          refine sp_iload_n (i := 2) (q := 44) hX dX12_goingTo_43 rfl rfl rfl ?_
          refine sp_iload_n (i := 3) (q := 45) hX dX12_goingTo_44 rfl rfl rfl ?_
          refine sp_iconst (v := -1) (q := 46) hX dX12_goingTo_45 li_m1 rfl ?_
          refine sp_ixor (q := 47) hX dX12_goingTo_46 rfl ?_
          refine sp_iand (q := 48) hX dX12_goingTo_47 rfl ?_
          refine sp_iadd (q := 49) hX dX12_goingTo_48 rfl ?_
          obtain ⟨h10, hf⟩ := sp_ck_some hf
          refine sp_iald (q := 50) hX arM_27 h10 dX12_goingTo_49 rfl ?_
          refine sp_iadd (q := 51) hX dX12_goingTo_50 rfl ?_
          refine sp_aload_n (i := 0) (q := 52) hX dX12_goingTo_51 rfl rfl rfl ?_
          refine sp_gets (t := 27) (q := 55) hX flX12_108 fkX12_43 atM_0 srM_0_43 dX12_goingTo_52 rfl ?_
          refine sp_iload_n (i := 1) (q := 56) hX dX12_goingTo_55 rfl rfl rfl ?_
          refine sp_bipush (v := 10) (q := 58) hX dX12_goingTo_56 lb_10 rfl ?_
          refine sp_ishl (q := 59) hX dX12_goingTo_58 rfl ?_
          refine sp_iload_n (i := 2) (q := 60) hX dX12_goingTo_59 rfl rfl rfl ?_
          refine sp_iadd (q := 61) hX dX12_goingTo_60 rfl ?_
          obtain ⟨h11, hf⟩ := sp_ck_some hf
          refine sp_iald (q := 62) hX arM_27 h11 dX12_goingTo_61 rfl ?_
          refine sp_icmp_ne (tgt := 67) (q := 65) hX dX12_goingTo_62 (by decide) rfl (fun hc => ?_) (fun hc => ?_)
          · rw [if_neg hc] at hf
            exact hX12_goingTo_67 hX hR ih hf
          · rw [if_pos hc] at hf
            refine sp_drop (lv' := [none, none, none, some (.int z3)]) (And.intro rfl trivial) ?_
            exact hX12_goingTo_65 hX hR hf
set_option maxRecDepth 100000 in
set_option maxHeartbeats 4000000 in
theorem hX12_goingTo {X : sp_X} (hX : sp_OK shM X cX12_goingTo RX12 4 rmX12_goingTo) {τ : sp_St} {r : Int32} (hR : sp_Ri shM X (some .int) τ r 0 0) {n : Nat}  {σ : sp_St} {a1 : Int32} {a2 : Int32}  (hf : X12_goingTo n σ a1 a2 = some (τ, r)) : sp_GG shM X σ 4 [some (.ref (sx_ad X 0)), some (.int a1), some (.int a2), none] [] 0 0 0 := by
  unfold X12_goingTo at hf
  refine sp_iconst (v := 0) (q := 1) hX dX12_goingTo_0 li_0 rfl ?_
  obtain ⟨x1, e2, hf⟩ := sp_pl_some hf
  refine sp_nmi e2 ?_
  refine sp_istore_n (i := 3) (lv' := [some (.ref (sx_ad X 0)), some (.int a1), some (.int a2), some (.int x1)]) (q := 2) hX dX12_goingTo_1 rfl (Nat.le_of_ble_eq_true rfl) rfl rfl rfl ?_
  exact hX12_goingTo_2 hX hR n σ a1 a2 x1 hf
set_option maxRecDepth 100000 in
set_option maxHeartbeats 4000000 in
theorem cnX12_goingTo {l : Launch} (hst : l.stackTraces = false) {w : sp_Wd} {n : Nat}  {σ : sp_St} {a1 : Int32} {a2 : Int32} {τ : sp_St} {r : Int32}  (hf : X12_goingTo n σ a1 a2 = some (τ, r)) : sp_Ci shM l w yX12_goingTo cX12_goingTo 4 (some .int) rmX12_goingTo 0 0 σ [.ref (w.2.1 0), .int a1, .int a2] τ r :=
  sp_ci (own := RX12) (by decide) rfl hst (Nat.le_of_ble_eq_true rfl) rfl (fun X hX hw hl hR => by subst hw; subst hl; exact hX12_goingTo hX hR   hf)
def rmX12_takeIn : Room := { frames := 4, cells := 0, slots := 0, locals := 91 }
def X12_takeIn_104 (n : Nat) (σ : sp_St) : Option (sp_St × Int32) :=
  some (σ, (-1 : Int32))
def X12_takeIn_88 (n : Nat) (σ : sp_St) (z4 : Int32) : Option (sp_St × Int32) :=
  some (σ, z4)
def X12_takeIn_59 (n : Nat) : Nat → sp_St → Int32 → Int32 → Int32 → Option (sp_St × Int32)
  | 0, _, _, _, _ => none
  | f + 1, σ, z1, z3, z4 =>
    if (sp_g σ 3 ((1 : Int32))) ≤ z4 then
      X12_takeIn_104 n σ
    else
      sp_bd (X12_goingTo n σ z4 z3) fun σ2 v3 =>
      sp_bd (X12_isOf n σ2 v3 z1) fun σ5 v6 =>
      if v6 = 0 then
        sp_pl (z3 &&& (v3 ^^^ ((-1 : Int32)))) fun x7 =>
        sp_pl (z4 + 1) fun x9 =>
        X12_takeIn_59 n f σ5 z1 x7 x9
      else
        X12_takeIn_88 n σ5 z4
def X12_takeIn (n : Nat)  (σ : sp_St) (a1 : Int32) : Option (sp_St × Int32) :=
  sp_pl (sp_si σ 0 3 ((0 : Int32))) fun σ1 =>
  sp_bd (X12_isIn n σ1 a1.toInt64 ((-1 : Int64)) (((sp_g σ1 3 ((2 : Int32))) - ((1 : Int32))).toInt64)) fun σ4 v5 =>
  if v5 = 0 then
    sp_bd (X12_fail n σ4 ((1 : Int32))) fun σ15 v16 =>
    some (σ15, v16)
  else
    sp_bd (X12_whereSet n σ4 ((0 : Int32))) fun σ7 v8 =>
    sp_bv (X12_tellMost n σ7 v8) fun σ10 =>
    if a1 = ((-1 : Int32)) then
      sp_ck (sp_in v8 6144) <|
      some (σ10, sp_g σ10 27 v8)
    else
      sp_pl ((0 : Int32)) fun x11 =>
      X12_takeIn_59 n n σ10 a1 v8 x11
set_option maxRecDepth 100000 in
set_option maxHeartbeats 4000000 in
theorem hX12_takeIn_104 {X : sp_X} (hX : sp_OK shM X cX12_takeIn RX12 6 rmX12_takeIn) {τ : sp_St} {r : Int32} (hR : sp_Ri shM X (some .int) τ r 0 0) {n : Nat}    {σ : sp_St} (hf : X12_takeIn_104 n σ = some (τ, r)) : sp_GG shM X σ 6 [none, none, none, none, none, none] [] 104 0 0 := by
  unfold X12_takeIn_104 at hf
  refine sp_iconst (v := -1) (q := 105) hX dX12_takeIn_104 li_m1 rfl ?_
  exact sp_iret hX hR dX12_takeIn_105 hf (Nat.le_of_ble_eq_true rfl) (Nat.le_of_ble_eq_true rfl)
set_option maxRecDepth 100000 in
set_option maxHeartbeats 4000000 in
theorem hX12_takeIn_88 {X : sp_X} (hX : sp_OK shM X cX12_takeIn RX12 6 rmX12_takeIn) {τ : sp_St} {r : Int32} (hR : sp_Ri shM X (some .int) τ r 0 0) {n : Nat}    {σ : sp_St} {z4 : Int32} (hf : X12_takeIn_88 n σ z4 = some (τ, r)) : sp_GG shM X σ 6 [none, none, none, none, some (.int z4), none] [] 88 0 0 := by
  unfold X12_takeIn_88 at hf
  refine sp_iload (i := 4) (q := 90) hX dX12_takeIn_88 rfl rfl ?_
  exact sp_iret hX hR dX12_takeIn_90 hf (Nat.le_of_ble_eq_true rfl) (Nat.le_of_ble_eq_true rfl)
set_option maxRecDepth 100000 in
set_option maxHeartbeats 4000000 in
theorem hX12_takeIn_59 {X : sp_X} (hX : sp_OK shM X cX12_takeIn RX12 6 rmX12_takeIn) {τ : sp_St} {r : Int32} (hR : sp_Ri shM X (some .int) τ r 0 0) {n : Nat}    : ∀ (f : Nat) (σ : sp_St) (z1 : Int32) (z3 : Int32) (z4 : Int32), X12_takeIn_59 n f σ z1 z3 z4 = some (τ, r) → sp_GG shM X σ 6 [some (.ref (sx_ad X 0)), some (.int z1), none, some (.int z3), some (.int z4), none] [] 59 0 0 := by
  intro f
  induction f with
  | zero =>
    intro σ z1 z3 z4 hf
    rw [X12_takeIn_59] at hf
    cases hf
  | succ f ih =>
    intro σ z1 z3 z4 hf
    rw [X12_takeIn_59] at hf
    refine sp_iload (i := 4) (q := 61) hX dX12_takeIn_59 rfl rfl ?_
    refine sp_aload_n (i := 0) (q := 62) hX dX12_takeIn_61 rfl rfl rfl ?_
    refine sp_gets (t := 3) (q := 65) hX flX12_33 fkX12_4 atM_0 srM_0_4 dX12_takeIn_62 rfl ?_
    refine sp_iconst (v := 1) (q := 66) hX dX12_takeIn_65 li_1 rfl ?_
    refine sp_iald (q := 67) hX arM_3 (by decide) dX12_takeIn_66 rfl ?_
    refine sp_icmp_ge (tgt := 104) (q := 70) hX dX12_takeIn_67 (by decide) rfl (fun hc => ?_) (fun hc => ?_)
    · rw [if_pos hc] at hf
      refine sp_drop (lv' := [none, none, none, none, none, none]) trivial ?_
      exact hX12_takeIn_104 hX hR hf
    · rw [if_neg hc] at hf
      refine sp_aload_n (i := 0) (q := 71) hX dX12_takeIn_70 rfl rfl rfl ?_
      refine sp_iload (i := 4) (q := 73) hX dX12_takeIn_71 rfl rfl ?_
      refine sp_iload_n (i := 3) (q := 74) hX dX12_takeIn_73 rfl rfl rfl ?_
      obtain ⟨σ2, v3, h1, hf⟩ := sp_bd_so hf
      refine sp_callVi (As := [.int z4, .int z3]) (rest := []) (q := 77) hX (cnX12_goingTo (sp_st hX)  h1) cwX12_448 atM_0 rfl rfl rfl rfl rfl (Nat.le_of_ble_eq_true rfl) (Nat.le_of_ble_eq_true rfl) (Nat.le_of_ble_eq_true rfl) (Nat.le_of_ble_eq_true rfl) (Nat.le_of_ble_eq_true rfl) dX12_takeIn_74 rfl ?_
      refine sp_istore (i := 5) (lv' := [some (.ref (sx_ad X 0)), some (.int z1), none, some (.int z3), some (.int z4), some (.int v3)]) (q := 79) hX dX12_takeIn_77 (Nat.le_of_ble_eq_true rfl) rfl rfl rfl ?_
      refine sp_iload (i := 5) (q := 81) hX dX12_takeIn_79 rfl rfl ?_
      refine sp_iload_n (i := 1) (q := 82) hX dX12_takeIn_81 rfl rfl rfl ?_
      obtain ⟨σ5, v6, h4, hf⟩ := sp_bd_so hf
      refine sp_callSi (As := [.int v3, .int z1]) (rest := []) (q := 85) hX (cnX12_isOf (sp_st hX)  h4) cwX12_284 rfl rfl rfl rfl (Nat.le_of_ble_eq_true rfl) (Nat.le_of_ble_eq_true rfl) (Nat.le_of_ble_eq_true rfl) (Nat.le_of_ble_eq_true rfl) (Nat.le_of_ble_eq_true rfl) dX12_takeIn_82 rfl ?_
      refine sp_if_eq (tgt := 91) (q := 88) hX dX12_takeIn_85 (by decide) rfl (fun hc => ?_) (fun hc => ?_)
      · rw [if_pos hc] at hf
        refine sp_iload_n (i := 3) (q := 92) hX dX12_takeIn_91 rfl rfl rfl ?_
        refine sp_iload (i := 5) (q := 94) hX dX12_takeIn_92 rfl rfl ?_
        refine sp_iconst (v := -1) (q := 95) hX dX12_takeIn_94 li_m1 rfl ?_
        refine sp_ixor (q := 96) hX dX12_takeIn_95 rfl ?_
        refine sp_iand (q := 97) hX dX12_takeIn_96 rfl ?_
        obtain ⟨x7, e8, hf⟩ := sp_pl_some hf
        refine sp_nmi e8 ?_
        refine sp_istore_n (i := 3) (lv' := [some (.ref (sx_ad X 0)), some (.int z1), none, some (.int x7), some (.int z4), some (.int v3)]) (q := 98) hX dX12_takeIn_97 rfl (Nat.le_of_ble_eq_true rfl) rfl rfl rfl ?_
        obtain ⟨x9, e10, hf⟩ := sp_pl_some hf
        refine sp_iinc (i := 4) (v := x9) (lv' := [some (.ref (sx_ad X 0)), some (.int z1), none, some (.int x7), some (.int x9), some (.int v3)]) (q := 101) hX dX12_takeIn_98 rfl (by rw [e10, li_1]) (Nat.le_of_ble_eq_true rfl) rfl rfl rfl ?_
        refine sp_goto (tgt := 59) hX dX12_takeIn_101 (by decide) ?_
        refine sp_drop (lv' := [some (.ref (sx_ad X 0)), some (.int z1), none, some (.int x7), some (.int x9), none]) (And.intro rfl (And.intro rfl (And.intro rfl (And.intro rfl trivial)))) ?_
        exact ih σ5 z1 x7 x9 hf
      · rw [if_neg hc] at hf
        refine sp_drop (lv' := [none, none, none, none, some (.int z4), none]) (And.intro rfl trivial) ?_
        exact hX12_takeIn_88 hX hR hf
set_option maxRecDepth 100000 in
set_option maxHeartbeats 4000000 in
theorem hX12_takeIn {X : sp_X} (hX : sp_OK shM X cX12_takeIn RX12 6 rmX12_takeIn) {τ : sp_St} {r : Int32} (hR : sp_Ri shM X (some .int) τ r 0 0) {n : Nat}  {σ : sp_St} {a1 : Int32}  (hf : X12_takeIn n σ a1 = some (τ, r)) : sp_GG shM X σ 6 [some (.ref (sx_ad X 0)), some (.int a1), none, none, none, none] [] 0 0 0 := by
  unfold X12_takeIn at hf
  refine sp_aload_n (i := 0) (q := 1) hX dX12_takeIn_0 rfl rfl rfl ?_
  refine sp_iconst (v := 0) (q := 2) hX dX12_takeIn_1 li_0 rfl ?_
  obtain ⟨σ1, e2, hf⟩ := sp_pl_some hf
  refine sp_puti (q := 5) hX fpX12_158 fkX12_3 atM_0 dX12_takeIn_2 rfl ?_
  refine sp_nms e2 ?_
  refine sp_iload_n (i := 1) (q := 6) hX dX12_takeIn_5 rfl rfl rfl ?_
  refine sp_i2l (q := 7) hX dX12_takeIn_6 rfl ?_
  refine sp_ldc2 (v := -1) (q := 10) hX wd_2122 dX12_takeIn_7 rfl ?_
  refine sp_aload_n (i := 0) (q := 11) hX dX12_takeIn_10 rfl rfl rfl ?_
  refine sp_gets (t := 3) (q := 14) hX flX12_33 fkX12_4 atM_0 srM_0_4 dX12_takeIn_11 rfl ?_
  refine sp_iconst (v := 2) (q := 15) hX dX12_takeIn_14 li_2 rfl ?_
  refine sp_iald (q := 16) hX arM_3 (by decide) dX12_takeIn_15 rfl ?_
  refine sp_iconst (v := 1) (q := 17) hX dX12_takeIn_16 li_1 rfl ?_
  refine sp_isub (q := 18) hX dX12_takeIn_17 rfl ?_
  refine sp_i2l (q := 19) hX dX12_takeIn_18 rfl ?_
  obtain ⟨σ4, v5, h3, hf⟩ := sp_bd_so hf
  refine sp_callSi (As := [.long a1.toInt64, .long ((-1 : Int64)), .long (((sp_g σ1 3 ((2 : Int32))) - ((1 : Int32))).toInt64)]) (rest := []) (q := 22) hX (cnX12_isIn (sp_st hX)  h3) cwX12_161 rfl rfl rfl rfl (Nat.le_of_ble_eq_true rfl) (Nat.le_of_ble_eq_true rfl) (Nat.le_of_ble_eq_true rfl) (Nat.le_of_ble_eq_true rfl) (Nat.le_of_ble_eq_true rfl) dX12_takeIn_19 rfl ?_
  refine sp_if_ne (tgt := 31) (q := 25) hX dX12_takeIn_22 (by decide) rfl (fun hc => ?_) (fun hc => ?_)
  · rw [if_neg hc] at hf
    refine sp_aload_n (i := 0) (q := 32) hX dX12_takeIn_31 rfl rfl rfl ?_
    refine sp_iconst (v := 0) (q := 33) hX dX12_takeIn_32 li_0 rfl ?_
    obtain ⟨σ7, v8, h6, hf⟩ := sp_bd_so hf
    refine sp_callVi (As := [.int ((0 : Int32))]) (rest := []) (q := 36) hX (cnX12_whereSet (sp_st hX)  h6) cwX12_348 atM_0 rfl rfl rfl rfl rfl (Nat.le_of_ble_eq_true rfl) (Nat.le_of_ble_eq_true rfl) (Nat.le_of_ble_eq_true rfl) (Nat.le_of_ble_eq_true rfl) (Nat.le_of_ble_eq_true rfl) dX12_takeIn_33 rfl ?_
    refine sp_istore_n (i := 2) (lv' := [some (.ref (sx_ad X 0)), some (.int a1), some (.int v8), none, none, none]) (q := 37) hX dX12_takeIn_36 rfl (Nat.le_of_ble_eq_true rfl) rfl rfl rfl ?_
    refine sp_aload_n (i := 0) (q := 38) hX dX12_takeIn_37 rfl rfl rfl ?_
    refine sp_iload_n (i := 2) (q := 39) hX dX12_takeIn_38 rfl rfl rfl ?_
    obtain ⟨σ10, h9, hf⟩ := sp_bv_so hf
    refine sp_callVv (As := [.int v8]) (rest := []) (q := 42) hX (cnX12_tellMost (sp_st hX)  h9) cwX12_445 atM_0 rfl rfl rfl rfl rfl (Nat.le_of_ble_eq_true rfl) (Nat.le_of_ble_eq_true rfl) (Nat.le_of_ble_eq_true rfl) (Nat.le_of_ble_eq_true rfl) (Nat.le_of_ble_eq_true rfl) dX12_takeIn_39 rfl ?_
    refine sp_iload_n (i := 1) (q := 43) hX dX12_takeIn_42 rfl rfl rfl ?_
    refine sp_iconst (v := -1) (q := 44) hX dX12_takeIn_43 li_m1 rfl ?_
    refine sp_icmp_ne (tgt := 54) (q := 47) hX dX12_takeIn_44 (by decide) rfl (fun hc => ?_) (fun hc => ?_)
    · rw [if_neg hc] at hf
      refine sp_iload_n (i := 2) (q := 55) hX dX12_takeIn_54 rfl rfl rfl ?_
      refine sp_istore_n (i := 3) (lv' := [some (.ref (sx_ad X 0)), some (.int a1), some (.int v8), some (.int v8), none, none]) (q := 56) hX dX12_takeIn_55 rfl (Nat.le_of_ble_eq_true rfl) rfl rfl rfl ?_
      refine sp_iconst (v := 0) (q := 57) hX dX12_takeIn_56 li_0 rfl ?_
      obtain ⟨x11, e12, hf⟩ := sp_pl_some hf
      refine sp_nmi e12 ?_
      refine sp_istore (i := 4) (lv' := [some (.ref (sx_ad X 0)), some (.int a1), some (.int v8), some (.int v8), some (.int x11), none]) (q := 59) hX dX12_takeIn_57 (Nat.le_of_ble_eq_true rfl) rfl rfl rfl ?_
      refine sp_drop (lv' := [some (.ref (sx_ad X 0)), some (.int a1), none, some (.int v8), some (.int x11), none]) (And.intro rfl (And.intro rfl (And.intro rfl (And.intro rfl trivial)))) ?_
      exact hX12_takeIn_59 hX hR n σ10 a1 v8 x11 hf
    · rw [if_pos hc] at hf
      refine sp_aload_n (i := 0) (q := 48) hX dX12_takeIn_47 rfl rfl rfl ?_
      refine sp_gets (t := 27) (q := 51) hX flX12_108 fkX12_43 atM_0 srM_0_43 dX12_takeIn_48 rfl ?_
      refine sp_iload_n (i := 2) (q := 52) hX dX12_takeIn_51 rfl rfl rfl ?_
      obtain ⟨h13, hf⟩ := sp_ck_some hf
      refine sp_iald (q := 53) hX arM_27 h13 dX12_takeIn_52 rfl ?_
      exact sp_iret hX hR dX12_takeIn_53 hf (Nat.le_of_ble_eq_true rfl) (Nat.le_of_ble_eq_true rfl)
  · rw [if_pos hc] at hf
    refine sp_aload_n (i := 0) (q := 26) hX dX12_takeIn_25 rfl rfl rfl ?_
    refine sp_iconst (v := 1) (q := 27) hX dX12_takeIn_26 li_1 rfl ?_
    obtain ⟨σ15, v16, h14, hf⟩ := sp_bd_so hf
    refine sp_callVi (As := [.int ((1 : Int32))]) (rest := []) (q := 30) hX (cnX12_fail (sp_st hX)  h14) cwX12_312 atM_0 rfl rfl rfl rfl rfl (Nat.le_of_ble_eq_true rfl) (Nat.le_of_ble_eq_true rfl) (Nat.le_of_ble_eq_true rfl) (Nat.le_of_ble_eq_true rfl) (Nat.le_of_ble_eq_true rfl) dX12_takeIn_27 rfl ?_
    exact sp_iret hX hR dX12_takeIn_30 hf (Nat.le_of_ble_eq_true rfl) (Nat.le_of_ble_eq_true rfl)
set_option maxRecDepth 100000 in
set_option maxHeartbeats 4000000 in
theorem cnX12_takeIn {l : Launch} (hst : l.stackTraces = false) {w : sp_Wd} {n : Nat}  {σ : sp_St} {a1 : Int32} {τ : sp_St} {r : Int32}  (hf : X12_takeIn n σ a1 = some (τ, r)) : sp_Ci shM l w yX12_takeIn cX12_takeIn 6 (some .int) rmX12_takeIn 0 0 σ [.ref (w.2.1 0), .int a1] τ r :=
  sp_ci (own := RX12) (by decide) rfl hst (Nat.le_of_ble_eq_true rfl) rfl (fun X hX hw hl hR => by subst hw; subst hl; exact hX12_takeIn hX hR   hf)
def rmX12_throats : Room := { frames := 3, cells := 0, slots := 0, locals := 65 }
def X12_throats_255 (n : Nat) (σ : sp_St) (z2 : Int32) : Option (sp_St × Int32) :=
  some (σ, z2)
def X12_throats_249 (n : Nat) (k15 : sp_St → Int32 → Int32 → Int32 → Option (sp_St × Int32)) (σ : sp_St) (z1 : Int32) (z2 : Int32) (z3 : Int32) : Option (sp_St × Int32) :=
  sp_pl (z3 + 1) fun x1 =>
  k15 σ z1 z2 x1
def X12_throats_247 (n : Nat) (k15 : sp_St → Int32 → Int32 → Int32 → Option (sp_St × Int32)) (σ : sp_St) (z1 : Int32) (z3 : Int32) : Option (sp_St × Int32) :=
  X12_throats_249 n k15 σ z1 z3 z3
def X12_throats_217 (n : Nat) (k15 : sp_St → Int32 → Int32 → Int32 → Option (sp_St × Int32)) (σ : sp_St) (z1 : Int32) (z2 : Int32) (z3 : Int32) : Option (sp_St × Int32) :=
  sp_ck (sp_in ((z3 <<< (((10 : Int32)) &&& 31)) + z1) 32768) <|
  if (sp_g σ 28 ((z3 <<< (((10 : Int32)) &&& 31)) + z1)) = 0 then
    X12_throats_249 n k15 σ z1 z2 z3
  else
    if z2 = ((-1 : Int32)) then
      X12_throats_247 n k15 σ z1 z3
    else
      sp_bd (X12_bitsOf n σ z3) fun σ3 v4 =>
      sp_bd (X12_bitsOf n σ3 z2) fun σ6 v7 =>
      if v7 ≤ v4 then
        X12_throats_249 n k15 σ6 z1 z2 z3
      else
        X12_throats_247 n k15 σ6 z1 z3
def X12_throats_211 (n : Nat) (k15 : sp_St → Int32 → Int32 → Int32 → Option (sp_St × Int32)) (k62 : sp_St → Int32 → Int32 → Int32 → Int32 → Int32 → Int32 → Option (sp_St × Int32)) (σ : sp_St) (z1 : Int32) (z2 : Int32) (z3 : Int32) (z4 : Int32) (z5 : Int32) (z6 : Int32) : Option (sp_St × Int32) :=
  sp_pl (z6 + 1) fun x1 =>
  k62 σ z1 z2 z3 z4 z5 x1
def X12_throats_195 (n : Nat) (k15 : sp_St → Int32 → Int32 → Int32 → Option (sp_St × Int32)) (k62 : sp_St → Int32 → Int32 → Int32 → Int32 → Int32 → Int32 → Option (sp_St × Int32)) (σ : sp_St) (z1 : Int32) (z2 : Int32) (z3 : Int32) (z4 : Int32) (z5 : Int32) (z6 : Int32) (zs0 : Int32) : Option (sp_St × Int32) :=
  sp_ck (sp_in ((z3 <<< (((10 : Int32)) &&& 31)) + z6) 32768) <|
  sp_ck (sp_zb zs0) <|
  sp_pl (sp_sa σ 28 ((z3 <<< (((10 : Int32)) &&& 31)) + z6).toNatClampNeg zs0) fun σ3 =>
  X12_throats_211 n k15 k62 σ3 z1 z2 z3 z4 z5 z6
def X12_throats_194 (n : Nat) (k15 : sp_St → Int32 → Int32 → Int32 → Option (sp_St × Int32)) (k62 : sp_St → Int32 → Int32 → Int32 → Int32 → Int32 → Int32 → Option (sp_St × Int32)) (σ : sp_St) (z1 : Int32) (z2 : Int32) (z3 : Int32) (z4 : Int32) (z5 : Int32) (z6 : Int32) : Option (sp_St × Int32) :=
  X12_throats_195 n k15 k62 σ z1 z2 z3 z4 z5 z6 ((0 : Int32))
def X12_throats_190 (n : Nat) (k15 : sp_St → Int32 → Int32 → Int32 → Option (sp_St × Int32)) (k62 : sp_St → Int32 → Int32 → Int32 → Int32 → Int32 → Int32 → Option (sp_St × Int32)) (σ : sp_St) (z1 : Int32) (z2 : Int32) (z3 : Int32) (z4 : Int32) (z5 : Int32) (z6 : Int32) : Option (sp_St × Int32) :=
  X12_throats_195 n k15 k62 σ z1 z2 z3 z4 z5 z6 ((1 : Int32))
def X12_throats_165 (n : Nat) (k15 : sp_St → Int32 → Int32 → Int32 → Option (sp_St × Int32)) (k62 : sp_St → Int32 → Int32 → Int32 → Int32 → Int32 → Int32 → Option (sp_St × Int32)) (σ : sp_St) (z1 : Int32) (z2 : Int32) (z3 : Int32) (z4 : Int32) (z5 : Int32) (z6 : Int32) (z7 : Int32) : Option (sp_St × Int32) :=
  if z7 = 0 then
    if z3 ≤ 0 then
      X12_throats_194 n k15 k62 σ z1 z2 z3 z4 z5 z6
    else
      sp_ck (sp_in ((z5 <<< (((10 : Int32)) &&& 31)) + z6) 32768) <|
      if (sp_g σ 28 ((z5 <<< (((10 : Int32)) &&& 31)) + z6)) = 0 then
        X12_throats_194 n k15 k62 σ z1 z2 z3 z4 z5 z6
      else
        X12_throats_190 n k15 k62 σ z1 z2 z3 z4 z5 z6
  else
    X12_throats_190 n k15 k62 σ z1 z2 z3 z4 z5 z6
def X12_throats_151 (n : Nat) (k15 : sp_St → Int32 → Int32 → Int32 → Option (sp_St × Int32)) (k62 : sp_St → Int32 → Int32 → Int32 → Int32 → Int32 → Int32 → Option (sp_St × Int32)) (k96 : sp_St → Int32 → Int32 → Int32 → Int32 → Int32 → Int32 → Int32 → Int32 → Option (sp_St × Int32)) (σ : sp_St) (z1 : Int32) (z2 : Int32) (z3 : Int32) (z4 : Int32) (z5 : Int32) (z6 : Int32) (z8 : Int32) (zs0 : Int32) : Option (sp_St × Int32) :=
  sp_pl ((z8 - ((1 : Int32))) &&& z6) fun x1 =>
  k96 σ z1 z2 z3 z4 z5 z6 zs0 x1
def X12_throats_150 (n : Nat) (k15 : sp_St → Int32 → Int32 → Int32 → Option (sp_St × Int32)) (k62 : sp_St → Int32 → Int32 → Int32 → Int32 → Int32 → Int32 → Option (sp_St × Int32)) (k96 : sp_St → Int32 → Int32 → Int32 → Int32 → Int32 → Int32 → Int32 → Int32 → Option (sp_St × Int32)) (σ : sp_St) (z1 : Int32) (z2 : Int32) (z3 : Int32) (z4 : Int32) (z5 : Int32) (z6 : Int32) (z8 : Int32) : Option (sp_St × Int32) :=
  X12_throats_151 n k15 k62 k96 σ z1 z2 z3 z4 z5 z6 z8 ((0 : Int32))
def X12_throats_96 (n : Nat) (k15 : sp_St → Int32 → Int32 → Int32 → Option (sp_St × Int32)) (k62 : sp_St → Int32 → Int32 → Int32 → Int32 → Int32 → Int32 → Option (sp_St × Int32)) : Nat → sp_St → Int32 → Int32 → Int32 → Int32 → Int32 → Int32 → Int32 → Int32 → Option (sp_St × Int32)
  | 0, _, _, _, _, _, _, _, _, _ => none
  | f + 1, σ, z1, z2, z3, z4, z5, z6, z7, z8 =>
    if z8 ≤ 0 then
      X12_throats_165 n k15 k62 σ z1 z2 z3 z4 z5 z6 z7
    else
      if z3 ≤ 0 then
        X12_throats_165 n k15 k62 σ z1 z2 z3 z4 z5 z6 z7
      else
        if z7 = 0 then
          sp_bd (X12_lengths n σ z8) fun σ2 v3 =>
          sp_bd (X12_leftOf n σ2 z4) fun σ5 v6 =>
          if v6 < v3 then
            X12_throats_150 n k15 k62 (X12_throats_96 n k15 k62 f) σ5 z1 z2 z3 z4 z5 z6 z8
          else
            sp_ck (sp_in ((z5 <<< (((10 : Int32)) &&& 31)) + (z6 &&& (z8 ^^^ ((-1 : Int32))))) 32768) <|
            if (sp_g σ5 28 ((z5 <<< (((10 : Int32)) &&& 31)) + (z6 &&& (z8 ^^^ ((-1 : Int32)))))) = 0 then
              X12_throats_150 n k15 k62 (X12_throats_96 n k15 k62 f) σ5 z1 z2 z3 z4 z5 z6 z8
            else
              X12_throats_151 n k15 k62 (X12_throats_96 n k15 k62 f) σ5 z1 z2 z3 z4 z5 z6 z8 ((1 : Int32))
        else
          X12_throats_165 n k15 k62 σ z1 z2 z3 z4 z5 z6 z7
def X12_throats_62 (n : Nat) (k15 : sp_St → Int32 → Int32 → Int32 → Option (sp_St × Int32)) : Nat → sp_St → Int32 → Int32 → Int32 → Int32 → Int32 → Int32 → Option (sp_St × Int32)
  | 0, _, _, _, _, _, _, _ => none
  | f + 1, σ, z1, z2, z3, z4, z5, z6 =>
    if z1 < z6 then
      X12_throats_217 n k15 σ z1 z2 z3
    else
      if (z6 &&& (z1 ^^^ ((-1 : Int32)))) = 0 then
        sp_pl (if z6 = 0 then ((1 : Int32)) else ((0 : Int32))) fun v1 =>
        X12_throats_96 n k15 (X12_throats_62 n k15 f) n σ z1 z2 z3 z4 z5 z6 v1 z6
      else
        X12_throats_211 n k15 (X12_throats_62 n k15 f) σ z1 z2 z3 z4 z5 z6
def X12_throats_49 (n : Nat) (k15 : sp_St → Int32 → Int32 → Int32 → Option (sp_St × Int32)) (σ : sp_St) (z1 : Int32) (z2 : Int32) (z3 : Int32) (z4 : Int32) : Option (sp_St × Int32) :=
  sp_pl (z3 &&& ((((1 : Int32)) <<< (z4 &&& 31)) ^^^ ((-1 : Int32)))) fun x1 =>
  sp_pl ((0 : Int32)) fun x3 =>
  X12_throats_62 n k15 n σ z1 z2 z3 z4 x1 x3
def X12_throats_30 (n : Nat) (k15 : sp_St → Int32 → Int32 → Int32 → Option (sp_St × Int32)) : Nat → sp_St → Int32 → Int32 → Int32 → Int32 → Option (sp_St × Int32)
  | 0, _, _, _, _, _ => none
  | f + 1, σ, z1, z2, z3, z4 =>
    if z3 ≤ 0 then
      X12_throats_49 n k15 σ z1 z2 z3 z4
    else
      sp_bd (X12_isOf n σ z3 z4) fun σ2 v3 =>
      if v3 = 0 then
        sp_pl (z4 + 1) fun x4 =>
        X12_throats_30 n k15 f σ2 z1 z2 z3 x4
      else
        X12_throats_49 n k15 σ2 z1 z2 z3 z4
def X12_throats_15 (n : Nat) : Nat → sp_St → Int32 → Int32 → Int32 → Option (sp_St × Int32)
  | 0, _, _, _, _ => none
  | f + 1, σ, z1, z2, z3 =>
    if (((1 : Int32)) <<< ((sp_g σ 3 ((1 : Int32))) &&& 31)) ≤ z3 then
      X12_throats_255 n σ z2
    else
      sp_pl ((0 : Int32)) fun x1 =>
      X12_throats_30 n (X12_throats_15 n f) n σ z1 z2 z3 x1
def X12_throats (n : Nat)  (σ : sp_St)  : Option (sp_St × Int32) :=
  sp_pl (sp_si σ 0 3 ((0 : Int32))) fun σ1 =>
  sp_bd (X12_whereSet n σ1 ((0 : Int32))) fun σ4 v5 =>
  sp_pl ((-1 : Int32)) fun x6 =>
  sp_pl ((0 : Int32)) fun x8 =>
  X12_throats_15 n n σ4 v5 x6 x8
set_option maxRecDepth 100000 in
set_option maxHeartbeats 4000000 in
theorem hX12_throats_255 {X : sp_X} (hX : sp_OK shM X cX12_throats RX12 9 rmX12_throats) {τ : sp_St} {r : Int32} (hR : sp_Ri shM X (some .int) τ r 0 0) {n : Nat}    {σ : sp_St} {z2 : Int32} (hf : X12_throats_255 n σ z2 = some (τ, r)) : sp_GG shM X σ 9 [none, none, some (.int z2), none, none, none, none, none, none] [] 255 0 0 := by
  unfold X12_throats_255 at hf
  refine sp_iload_n (i := 2) (q := 256) hX dX12_throats_255 rfl rfl rfl ?_
  exact sp_iret hX hR dX12_throats_256 hf (Nat.le_of_ble_eq_true rfl) (Nat.le_of_ble_eq_true rfl)
set_option maxRecDepth 100000 in
set_option maxHeartbeats 4000000 in
theorem hX12_throats_249 {X : sp_X} (hX : sp_OK shM X cX12_throats RX12 9 rmX12_throats) {τ : sp_St} {r : Int32} (hR : sp_Ri shM X (some .int) τ r 0 0) {n : Nat}   {k15 : sp_St → Int32 → Int32 → Int32 → Option (sp_St × Int32)} (hk15 : ∀ (σ : sp_St) (z1 : Int32) (z2 : Int32) (z3 : Int32), k15 σ z1 z2 z3 = some (τ, r) → sp_GG shM X σ 9 [some (.ref (sx_ad X 0)), some (.int z1), some (.int z2), some (.int z3), none, none, none, none, none] [] 15 0 0) {σ : sp_St} {z1 : Int32} {z2 : Int32} {z3 : Int32} (hf : X12_throats_249 n k15 σ z1 z2 z3 = some (τ, r)) : sp_GG shM X σ 9 [some (.ref (sx_ad X 0)), some (.int z1), some (.int z2), some (.int z3), none, none, none, none, none] [] 249 0 0 := by
  unfold X12_throats_249 at hf
  obtain ⟨x1, e2, hf⟩ := sp_pl_some hf
  refine sp_iinc (i := 3) (v := x1) (lv' := [some (.ref (sx_ad X 0)), some (.int z1), some (.int z2), some (.int x1), none, none, none, none, none]) (q := 252) hX dX12_throats_249 rfl (by rw [e2, li_1]) (Nat.le_of_ble_eq_true rfl) rfl rfl rfl ?_
  refine sp_goto (tgt := 15) hX dX12_throats_252 (by decide) ?_
  exact hk15 σ z1 z2 x1 hf
set_option maxRecDepth 100000 in
set_option maxHeartbeats 4000000 in
theorem hX12_throats_247 {X : sp_X} (hX : sp_OK shM X cX12_throats RX12 9 rmX12_throats) {τ : sp_St} {r : Int32} (hR : sp_Ri shM X (some .int) τ r 0 0) {n : Nat}   {k15 : sp_St → Int32 → Int32 → Int32 → Option (sp_St × Int32)} (hk15 : ∀ (σ : sp_St) (z1 : Int32) (z2 : Int32) (z3 : Int32), k15 σ z1 z2 z3 = some (τ, r) → sp_GG shM X σ 9 [some (.ref (sx_ad X 0)), some (.int z1), some (.int z2), some (.int z3), none, none, none, none, none] [] 15 0 0) {σ : sp_St} {z1 : Int32} {z3 : Int32} (hf : X12_throats_247 n k15 σ z1 z3 = some (τ, r)) : sp_GG shM X σ 9 [some (.ref (sx_ad X 0)), some (.int z1), none, some (.int z3), none, none, none, none, none] [] 247 0 0 := by
  unfold X12_throats_247 at hf
  refine sp_iload_n (i := 3) (q := 248) hX dX12_throats_247 rfl rfl rfl ?_
  refine sp_istore_n (i := 2) (lv' := [some (.ref (sx_ad X 0)), some (.int z1), some (.int z3), some (.int z3), none, none, none, none, none]) (q := 249) hX dX12_throats_248 rfl (Nat.le_of_ble_eq_true rfl) rfl rfl rfl ?_
  exact hX12_throats_249 hX hR hk15 hf
set_option maxRecDepth 100000 in
set_option maxHeartbeats 4000000 in
theorem hX12_throats_217 {X : sp_X} (hX : sp_OK shM X cX12_throats RX12 9 rmX12_throats) {τ : sp_St} {r : Int32} (hR : sp_Ri shM X (some .int) τ r 0 0) {n : Nat}   {k15 : sp_St → Int32 → Int32 → Int32 → Option (sp_St × Int32)} (hk15 : ∀ (σ : sp_St) (z1 : Int32) (z2 : Int32) (z3 : Int32), k15 σ z1 z2 z3 = some (τ, r) → sp_GG shM X σ 9 [some (.ref (sx_ad X 0)), some (.int z1), some (.int z2), some (.int z3), none, none, none, none, none] [] 15 0 0) {σ : sp_St} {z1 : Int32} {z2 : Int32} {z3 : Int32} (hf : X12_throats_217 n k15 σ z1 z2 z3 = some (τ, r)) : sp_GG shM X σ 9 [some (.ref (sx_ad X 0)), some (.int z1), some (.int z2), some (.int z3), none, none, none, none, none] [] 217 0 0 := by
  unfold X12_throats_217 at hf
  refine sp_aload_n (i := 0) (q := 218) hX dX12_throats_217 rfl rfl rfl ?_
  refine sp_gets (t := 28) (q := 221) hX flX12_112 fkX12_44 atM_0 srM_0_44 dX12_throats_218 rfl ?_
  refine sp_iload_n (i := 3) (q := 222) hX dX12_throats_221 rfl rfl rfl ?_
  refine sp_bipush (v := 10) (q := 224) hX dX12_throats_222 lb_10 rfl ?_
  refine sp_ishl (q := 225) hX dX12_throats_224 rfl ?_
  refine sp_iload_n (i := 1) (q := 226) hX dX12_throats_225 rfl rfl rfl ?_
  refine sp_iadd (q := 227) hX dX12_throats_226 rfl ?_
  obtain ⟨h1, hf⟩ := sp_ck_some hf
  refine sp_zald (q := 228) hX arM_28 h1 dX12_throats_227 rfl ?_
  refine sp_if_eq (tgt := 249) (q := 231) hX dX12_throats_228 (by decide) rfl (fun hc => ?_) (fun hc => ?_)
  · rw [if_pos hc] at hf
    exact hX12_throats_249 hX hR hk15 hf
  · rw [if_neg hc] at hf
    refine sp_iload_n (i := 2) (q := 232) hX dX12_throats_231 rfl rfl rfl ?_
    refine sp_iconst (v := -1) (q := 233) hX dX12_throats_232 li_m1 rfl ?_
    refine sp_icmp_eq (tgt := 247) (q := 236) hX dX12_throats_233 (by decide) rfl (fun hc => ?_) (fun hc => ?_)
    · rw [if_pos hc] at hf
      refine sp_drop (lv' := [some (.ref (sx_ad X 0)), some (.int z1), none, some (.int z3), none, none, none, none, none]) (And.intro rfl (And.intro rfl (And.intro rfl trivial))) ?_
      exact hX12_throats_247 hX hR hk15 hf
    · rw [if_neg hc] at hf
      refine sp_iload_n (i := 3) (q := 237) hX dX12_throats_236 rfl rfl rfl ?_
      obtain ⟨σ3, v4, h2, hf⟩ := sp_bd_so hf
      refine sp_callSi (As := [.int z3]) (rest := []) (q := 240) hX (cnX12_bitsOf (sp_st hX)  h2) cwX12_364 rfl rfl rfl rfl (Nat.le_of_ble_eq_true rfl) (Nat.le_of_ble_eq_true rfl) (Nat.le_of_ble_eq_true rfl) (Nat.le_of_ble_eq_true rfl) (Nat.le_of_ble_eq_true rfl) dX12_throats_237 rfl ?_
      refine sp_iload_n (i := 2) (q := 241) hX dX12_throats_240 rfl rfl rfl ?_
      obtain ⟨σ6, v7, h5, hf⟩ := sp_bd_so hf
      refine sp_callSi (As := [.int z2]) (rest := [.int v4]) (q := 244) hX (cnX12_bitsOf (sp_st hX)  h5) cwX12_364 rfl rfl rfl rfl (Nat.le_of_ble_eq_true rfl) (Nat.le_of_ble_eq_true rfl) (Nat.le_of_ble_eq_true rfl) (Nat.le_of_ble_eq_true rfl) (Nat.le_of_ble_eq_true rfl) dX12_throats_241 rfl ?_
      refine sp_icmp_ge (tgt := 249) (q := 247) hX dX12_throats_244 (by decide) rfl (fun hc => ?_) (fun hc => ?_)
      · rw [if_pos hc] at hf
        exact hX12_throats_249 hX hR hk15 hf
      · rw [if_neg hc] at hf
        refine sp_drop (lv' := [some (.ref (sx_ad X 0)), some (.int z1), none, some (.int z3), none, none, none, none, none]) (And.intro rfl (And.intro rfl (And.intro rfl trivial))) ?_
        exact hX12_throats_247 hX hR hk15 hf
set_option maxRecDepth 100000 in
set_option maxHeartbeats 4000000 in
theorem hX12_throats_211 {X : sp_X} (hX : sp_OK shM X cX12_throats RX12 9 rmX12_throats) {τ : sp_St} {r : Int32} (hR : sp_Ri shM X (some .int) τ r 0 0) {n : Nat}   {k15 : sp_St → Int32 → Int32 → Int32 → Option (sp_St × Int32)} (hk15 : ∀ (σ : sp_St) (z1 : Int32) (z2 : Int32) (z3 : Int32), k15 σ z1 z2 z3 = some (τ, r) → sp_GG shM X σ 9 [some (.ref (sx_ad X 0)), some (.int z1), some (.int z2), some (.int z3), none, none, none, none, none] [] 15 0 0) {k62 : sp_St → Int32 → Int32 → Int32 → Int32 → Int32 → Int32 → Option (sp_St × Int32)} (hk62 : ∀ (σ : sp_St) (z1 : Int32) (z2 : Int32) (z3 : Int32) (z4 : Int32) (z5 : Int32) (z6 : Int32), k62 σ z1 z2 z3 z4 z5 z6 = some (τ, r) → sp_GG shM X σ 9 [some (.ref (sx_ad X 0)), some (.int z1), some (.int z2), some (.int z3), some (.int z4), some (.int z5), some (.int z6), none, none] [] 62 0 0) {σ : sp_St} {z1 : Int32} {z2 : Int32} {z3 : Int32} {z4 : Int32} {z5 : Int32} {z6 : Int32} (hf : X12_throats_211 n k15 k62 σ z1 z2 z3 z4 z5 z6 = some (τ, r)) : sp_GG shM X σ 9 [some (.ref (sx_ad X 0)), some (.int z1), some (.int z2), some (.int z3), some (.int z4), some (.int z5), some (.int z6), none, none] [] 211 0 0 := by
  unfold X12_throats_211 at hf
  obtain ⟨x1, e2, hf⟩ := sp_pl_some hf
  refine sp_iinc (i := 6) (v := x1) (lv' := [some (.ref (sx_ad X 0)), some (.int z1), some (.int z2), some (.int z3), some (.int z4), some (.int z5), some (.int x1), none, none]) (q := 214) hX dX12_throats_211 rfl (by rw [e2, li_1]) (Nat.le_of_ble_eq_true rfl) rfl rfl rfl ?_
  refine sp_goto (tgt := 62) hX dX12_throats_214 (by decide) ?_
  exact hk62 σ z1 z2 z3 z4 z5 x1 hf
set_option maxRecDepth 100000 in
set_option maxHeartbeats 4000000 in
theorem hX12_throats_195 {X : sp_X} (hX : sp_OK shM X cX12_throats RX12 9 rmX12_throats) {τ : sp_St} {r : Int32} (hR : sp_Ri shM X (some .int) τ r 0 0) {n : Nat}   {k15 : sp_St → Int32 → Int32 → Int32 → Option (sp_St × Int32)} (hk15 : ∀ (σ : sp_St) (z1 : Int32) (z2 : Int32) (z3 : Int32), k15 σ z1 z2 z3 = some (τ, r) → sp_GG shM X σ 9 [some (.ref (sx_ad X 0)), some (.int z1), some (.int z2), some (.int z3), none, none, none, none, none] [] 15 0 0) {k62 : sp_St → Int32 → Int32 → Int32 → Int32 → Int32 → Int32 → Option (sp_St × Int32)} (hk62 : ∀ (σ : sp_St) (z1 : Int32) (z2 : Int32) (z3 : Int32) (z4 : Int32) (z5 : Int32) (z6 : Int32), k62 σ z1 z2 z3 z4 z5 z6 = some (τ, r) → sp_GG shM X σ 9 [some (.ref (sx_ad X 0)), some (.int z1), some (.int z2), some (.int z3), some (.int z4), some (.int z5), some (.int z6), none, none] [] 62 0 0) {σ : sp_St} {z1 : Int32} {z2 : Int32} {z3 : Int32} {z4 : Int32} {z5 : Int32} {z6 : Int32} {zs0 : Int32} (hf : X12_throats_195 n k15 k62 σ z1 z2 z3 z4 z5 z6 zs0 = some (τ, r)) : sp_GG shM X σ 9 [some (.ref (sx_ad X 0)), some (.int z1), some (.int z2), some (.int z3), some (.int z4), some (.int z5), some (.int z6), none, none] [.int zs0] 195 0 0 := by
  unfold X12_throats_195 at hf
  refine sp_istore (i := 7) (lv' := [some (.ref (sx_ad X 0)), some (.int z1), some (.int z2), some (.int z3), some (.int z4), some (.int z5), some (.int z6), some (.int zs0), none]) (q := 197) hX dX12_throats_195 (Nat.le_of_ble_eq_true rfl) rfl rfl rfl ?_
  refine sp_aload_n (i := 0) (q := 198) hX dX12_throats_197 rfl rfl rfl ?_
  refine sp_gets (t := 28) (q := 201) hX flX12_112 fkX12_44 atM_0 srM_0_44 dX12_throats_198 rfl ?_
  refine sp_iload_n (i := 3) (q := 202) hX dX12_throats_201 rfl rfl rfl ?_
  refine sp_bipush (v := 10) (q := 204) hX dX12_throats_202 lb_10 rfl ?_
  refine sp_ishl (q := 205) hX dX12_throats_204 rfl ?_
  refine sp_iload (i := 6) (q := 207) hX dX12_throats_205 rfl rfl ?_
  refine sp_iadd (q := 208) hX dX12_throats_207 rfl ?_
  refine sp_iload (i := 7) (q := 210) hX dX12_throats_208 rfl rfl ?_
  obtain ⟨h1, hf⟩ := sp_ck_some hf
  obtain ⟨h2, hf⟩ := sp_ck_some hf
  obtain ⟨σ3, e4, hf⟩ := sp_pl_some hf
  refine sp_zast (q := 211) hX arM_28 h1 h2 dX12_throats_210 rfl ?_
  refine sp_nms e4 ?_
  refine sp_drop (lv' := [some (.ref (sx_ad X 0)), some (.int z1), some (.int z2), some (.int z3), some (.int z4), some (.int z5), some (.int z6), none, none]) (And.intro rfl (And.intro rfl (And.intro rfl (And.intro rfl (And.intro rfl (And.intro rfl (And.intro rfl trivial))))))) ?_
  exact hX12_throats_211 hX hR hk15 hk62 hf
set_option maxRecDepth 100000 in
set_option maxHeartbeats 4000000 in
theorem hX12_throats_194 {X : sp_X} (hX : sp_OK shM X cX12_throats RX12 9 rmX12_throats) {τ : sp_St} {r : Int32} (hR : sp_Ri shM X (some .int) τ r 0 0) {n : Nat}   {k15 : sp_St → Int32 → Int32 → Int32 → Option (sp_St × Int32)} (hk15 : ∀ (σ : sp_St) (z1 : Int32) (z2 : Int32) (z3 : Int32), k15 σ z1 z2 z3 = some (τ, r) → sp_GG shM X σ 9 [some (.ref (sx_ad X 0)), some (.int z1), some (.int z2), some (.int z3), none, none, none, none, none] [] 15 0 0) {k62 : sp_St → Int32 → Int32 → Int32 → Int32 → Int32 → Int32 → Option (sp_St × Int32)} (hk62 : ∀ (σ : sp_St) (z1 : Int32) (z2 : Int32) (z3 : Int32) (z4 : Int32) (z5 : Int32) (z6 : Int32), k62 σ z1 z2 z3 z4 z5 z6 = some (τ, r) → sp_GG shM X σ 9 [some (.ref (sx_ad X 0)), some (.int z1), some (.int z2), some (.int z3), some (.int z4), some (.int z5), some (.int z6), none, none] [] 62 0 0) {σ : sp_St} {z1 : Int32} {z2 : Int32} {z3 : Int32} {z4 : Int32} {z5 : Int32} {z6 : Int32} (hf : X12_throats_194 n k15 k62 σ z1 z2 z3 z4 z5 z6 = some (τ, r)) : sp_GG shM X σ 9 [some (.ref (sx_ad X 0)), some (.int z1), some (.int z2), some (.int z3), some (.int z4), some (.int z5), some (.int z6), none, none] [] 194 0 0 := by
  unfold X12_throats_194 at hf
  refine sp_iconst (v := 0) (q := 195) hX dX12_throats_194 li_0 rfl ?_
  exact hX12_throats_195 hX hR hk15 hk62 hf
set_option maxRecDepth 100000 in
set_option maxHeartbeats 4000000 in
theorem hX12_throats_190 {X : sp_X} (hX : sp_OK shM X cX12_throats RX12 9 rmX12_throats) {τ : sp_St} {r : Int32} (hR : sp_Ri shM X (some .int) τ r 0 0) {n : Nat}   {k15 : sp_St → Int32 → Int32 → Int32 → Option (sp_St × Int32)} (hk15 : ∀ (σ : sp_St) (z1 : Int32) (z2 : Int32) (z3 : Int32), k15 σ z1 z2 z3 = some (τ, r) → sp_GG shM X σ 9 [some (.ref (sx_ad X 0)), some (.int z1), some (.int z2), some (.int z3), none, none, none, none, none] [] 15 0 0) {k62 : sp_St → Int32 → Int32 → Int32 → Int32 → Int32 → Int32 → Option (sp_St × Int32)} (hk62 : ∀ (σ : sp_St) (z1 : Int32) (z2 : Int32) (z3 : Int32) (z4 : Int32) (z5 : Int32) (z6 : Int32), k62 σ z1 z2 z3 z4 z5 z6 = some (τ, r) → sp_GG shM X σ 9 [some (.ref (sx_ad X 0)), some (.int z1), some (.int z2), some (.int z3), some (.int z4), some (.int z5), some (.int z6), none, none] [] 62 0 0) {σ : sp_St} {z1 : Int32} {z2 : Int32} {z3 : Int32} {z4 : Int32} {z5 : Int32} {z6 : Int32} (hf : X12_throats_190 n k15 k62 σ z1 z2 z3 z4 z5 z6 = some (τ, r)) : sp_GG shM X σ 9 [some (.ref (sx_ad X 0)), some (.int z1), some (.int z2), some (.int z3), some (.int z4), some (.int z5), some (.int z6), none, none] [] 190 0 0 := by
  unfold X12_throats_190 at hf
  refine sp_iconst (v := 1) (q := 191) hX dX12_throats_190 li_1 rfl ?_
  refine sp_goto (tgt := 195) hX dX12_throats_191 (by decide) ?_
  exact hX12_throats_195 hX hR hk15 hk62 hf
set_option maxRecDepth 100000 in
set_option maxHeartbeats 4000000 in
theorem hX12_throats_165 {X : sp_X} (hX : sp_OK shM X cX12_throats RX12 9 rmX12_throats) {τ : sp_St} {r : Int32} (hR : sp_Ri shM X (some .int) τ r 0 0) {n : Nat}   {k15 : sp_St → Int32 → Int32 → Int32 → Option (sp_St × Int32)} (hk15 : ∀ (σ : sp_St) (z1 : Int32) (z2 : Int32) (z3 : Int32), k15 σ z1 z2 z3 = some (τ, r) → sp_GG shM X σ 9 [some (.ref (sx_ad X 0)), some (.int z1), some (.int z2), some (.int z3), none, none, none, none, none] [] 15 0 0) {k62 : sp_St → Int32 → Int32 → Int32 → Int32 → Int32 → Int32 → Option (sp_St × Int32)} (hk62 : ∀ (σ : sp_St) (z1 : Int32) (z2 : Int32) (z3 : Int32) (z4 : Int32) (z5 : Int32) (z6 : Int32), k62 σ z1 z2 z3 z4 z5 z6 = some (τ, r) → sp_GG shM X σ 9 [some (.ref (sx_ad X 0)), some (.int z1), some (.int z2), some (.int z3), some (.int z4), some (.int z5), some (.int z6), none, none] [] 62 0 0) {σ : sp_St} {z1 : Int32} {z2 : Int32} {z3 : Int32} {z4 : Int32} {z5 : Int32} {z6 : Int32} {z7 : Int32} (hf : X12_throats_165 n k15 k62 σ z1 z2 z3 z4 z5 z6 z7 = some (τ, r)) : sp_GG shM X σ 9 [some (.ref (sx_ad X 0)), some (.int z1), some (.int z2), some (.int z3), some (.int z4), some (.int z5), some (.int z6), some (.int z7), none] [] 165 0 0 := by
  unfold X12_throats_165 at hf
  refine sp_iload (i := 7) (q := 167) hX dX12_throats_165 rfl rfl ?_
  refine sp_if_ne (tgt := 190) (q := 170) hX dX12_throats_167 (by decide) rfl (fun hc => ?_) (fun hc => ?_)
  · rw [if_neg hc] at hf
    refine sp_drop (lv' := [some (.ref (sx_ad X 0)), some (.int z1), some (.int z2), some (.int z3), some (.int z4), some (.int z5), some (.int z6), none, none]) (And.intro rfl (And.intro rfl (And.intro rfl (And.intro rfl (And.intro rfl (And.intro rfl (And.intro rfl trivial))))))) ?_
    exact hX12_throats_190 hX hR hk15 hk62 hf
  · rw [if_pos hc] at hf
    refine sp_iload_n (i := 3) (q := 171) hX dX12_throats_170 rfl rfl rfl ?_
    refine sp_if_le (tgt := 194) (q := 174) hX dX12_throats_171 (by decide) rfl (fun hc => ?_) (fun hc => ?_)
    · rw [if_pos hc] at hf
      refine sp_drop (lv' := [some (.ref (sx_ad X 0)), some (.int z1), some (.int z2), some (.int z3), some (.int z4), some (.int z5), some (.int z6), none, none]) (And.intro rfl (And.intro rfl (And.intro rfl (And.intro rfl (And.intro rfl (And.intro rfl (And.intro rfl trivial))))))) ?_
      exact hX12_throats_194 hX hR hk15 hk62 hf
    · rw [if_neg hc] at hf
      refine sp_aload_n (i := 0) (q := 175) hX dX12_throats_174 rfl rfl rfl ?_
      refine sp_gets (t := 28) (q := 178) hX flX12_112 fkX12_44 atM_0 srM_0_44 dX12_throats_175 rfl ?_
      refine sp_iload (i := 5) (q := 180) hX dX12_throats_178 rfl rfl ?_
      refine sp_bipush (v := 10) (q := 182) hX dX12_throats_180 lb_10 rfl ?_
      refine sp_ishl (q := 183) hX dX12_throats_182 rfl ?_
      refine sp_iload (i := 6) (q := 185) hX dX12_throats_183 rfl rfl ?_
      refine sp_iadd (q := 186) hX dX12_throats_185 rfl ?_
      obtain ⟨h1, hf⟩ := sp_ck_some hf
      refine sp_zald (q := 187) hX arM_28 h1 dX12_throats_186 rfl ?_
      refine sp_if_eq (tgt := 194) (q := 190) hX dX12_throats_187 (by decide) rfl (fun hc => ?_) (fun hc => ?_)
      · rw [if_pos hc] at hf
        refine sp_drop (lv' := [some (.ref (sx_ad X 0)), some (.int z1), some (.int z2), some (.int z3), some (.int z4), some (.int z5), some (.int z6), none, none]) (And.intro rfl (And.intro rfl (And.intro rfl (And.intro rfl (And.intro rfl (And.intro rfl (And.intro rfl trivial))))))) ?_
        exact hX12_throats_194 hX hR hk15 hk62 hf
      · rw [if_neg hc] at hf
        refine sp_drop (lv' := [some (.ref (sx_ad X 0)), some (.int z1), some (.int z2), some (.int z3), some (.int z4), some (.int z5), some (.int z6), none, none]) (And.intro rfl (And.intro rfl (And.intro rfl (And.intro rfl (And.intro rfl (And.intro rfl (And.intro rfl trivial))))))) ?_
        exact hX12_throats_190 hX hR hk15 hk62 hf
set_option maxRecDepth 100000 in
set_option maxHeartbeats 4000000 in
theorem hX12_throats_151 {X : sp_X} (hX : sp_OK shM X cX12_throats RX12 9 rmX12_throats) {τ : sp_St} {r : Int32} (hR : sp_Ri shM X (some .int) τ r 0 0) {n : Nat}   {k15 : sp_St → Int32 → Int32 → Int32 → Option (sp_St × Int32)} (hk15 : ∀ (σ : sp_St) (z1 : Int32) (z2 : Int32) (z3 : Int32), k15 σ z1 z2 z3 = some (τ, r) → sp_GG shM X σ 9 [some (.ref (sx_ad X 0)), some (.int z1), some (.int z2), some (.int z3), none, none, none, none, none] [] 15 0 0) {k62 : sp_St → Int32 → Int32 → Int32 → Int32 → Int32 → Int32 → Option (sp_St × Int32)} (hk62 : ∀ (σ : sp_St) (z1 : Int32) (z2 : Int32) (z3 : Int32) (z4 : Int32) (z5 : Int32) (z6 : Int32), k62 σ z1 z2 z3 z4 z5 z6 = some (τ, r) → sp_GG shM X σ 9 [some (.ref (sx_ad X 0)), some (.int z1), some (.int z2), some (.int z3), some (.int z4), some (.int z5), some (.int z6), none, none] [] 62 0 0) {k96 : sp_St → Int32 → Int32 → Int32 → Int32 → Int32 → Int32 → Int32 → Int32 → Option (sp_St × Int32)} (hk96 : ∀ (σ : sp_St) (z1 : Int32) (z2 : Int32) (z3 : Int32) (z4 : Int32) (z5 : Int32) (z6 : Int32) (z7 : Int32) (z8 : Int32), k96 σ z1 z2 z3 z4 z5 z6 z7 z8 = some (τ, r) → sp_GG shM X σ 9 [some (.ref (sx_ad X 0)), some (.int z1), some (.int z2), some (.int z3), some (.int z4), some (.int z5), some (.int z6), some (.int z7), some (.int z8)] [] 96 0 0) {σ : sp_St} {z1 : Int32} {z2 : Int32} {z3 : Int32} {z4 : Int32} {z5 : Int32} {z6 : Int32} {z8 : Int32} {zs0 : Int32} (hf : X12_throats_151 n k15 k62 k96 σ z1 z2 z3 z4 z5 z6 z8 zs0 = some (τ, r)) : sp_GG shM X σ 9 [some (.ref (sx_ad X 0)), some (.int z1), some (.int z2), some (.int z3), some (.int z4), some (.int z5), some (.int z6), none, some (.int z8)] [.int zs0] 151 0 0 := by
  unfold X12_throats_151 at hf
  refine sp_istore (i := 7) (lv' := [some (.ref (sx_ad X 0)), some (.int z1), some (.int z2), some (.int z3), some (.int z4), some (.int z5), some (.int z6), some (.int zs0), some (.int z8)]) (q := 153) hX dX12_throats_151 (Nat.le_of_ble_eq_true rfl) rfl rfl rfl ?_
  refine sp_iload (i := 8) (q := 155) hX dX12_throats_153 rfl rfl ?_
  refine sp_iconst (v := 1) (q := 156) hX dX12_throats_155 li_1 rfl ?_
  refine sp_isub (q := 157) hX dX12_throats_156 rfl ?_
  refine sp_iload (i := 6) (q := 159) hX dX12_throats_157 rfl rfl ?_
  refine sp_iand (q := 160) hX dX12_throats_159 rfl ?_
  obtain ⟨x1, e2, hf⟩ := sp_pl_some hf
  refine sp_nmi e2 ?_
  refine sp_istore (i := 8) (lv' := [some (.ref (sx_ad X 0)), some (.int z1), some (.int z2), some (.int z3), some (.int z4), some (.int z5), some (.int z6), some (.int zs0), some (.int x1)]) (q := 162) hX dX12_throats_160 (Nat.le_of_ble_eq_true rfl) rfl rfl rfl ?_
  refine sp_goto (tgt := 96) hX dX12_throats_162 (by decide) ?_
  exact hk96 σ z1 z2 z3 z4 z5 z6 zs0 x1 hf
set_option maxRecDepth 100000 in
set_option maxHeartbeats 4000000 in
theorem hX12_throats_150 {X : sp_X} (hX : sp_OK shM X cX12_throats RX12 9 rmX12_throats) {τ : sp_St} {r : Int32} (hR : sp_Ri shM X (some .int) τ r 0 0) {n : Nat}   {k15 : sp_St → Int32 → Int32 → Int32 → Option (sp_St × Int32)} (hk15 : ∀ (σ : sp_St) (z1 : Int32) (z2 : Int32) (z3 : Int32), k15 σ z1 z2 z3 = some (τ, r) → sp_GG shM X σ 9 [some (.ref (sx_ad X 0)), some (.int z1), some (.int z2), some (.int z3), none, none, none, none, none] [] 15 0 0) {k62 : sp_St → Int32 → Int32 → Int32 → Int32 → Int32 → Int32 → Option (sp_St × Int32)} (hk62 : ∀ (σ : sp_St) (z1 : Int32) (z2 : Int32) (z3 : Int32) (z4 : Int32) (z5 : Int32) (z6 : Int32), k62 σ z1 z2 z3 z4 z5 z6 = some (τ, r) → sp_GG shM X σ 9 [some (.ref (sx_ad X 0)), some (.int z1), some (.int z2), some (.int z3), some (.int z4), some (.int z5), some (.int z6), none, none] [] 62 0 0) {k96 : sp_St → Int32 → Int32 → Int32 → Int32 → Int32 → Int32 → Int32 → Int32 → Option (sp_St × Int32)} (hk96 : ∀ (σ : sp_St) (z1 : Int32) (z2 : Int32) (z3 : Int32) (z4 : Int32) (z5 : Int32) (z6 : Int32) (z7 : Int32) (z8 : Int32), k96 σ z1 z2 z3 z4 z5 z6 z7 z8 = some (τ, r) → sp_GG shM X σ 9 [some (.ref (sx_ad X 0)), some (.int z1), some (.int z2), some (.int z3), some (.int z4), some (.int z5), some (.int z6), some (.int z7), some (.int z8)] [] 96 0 0) {σ : sp_St} {z1 : Int32} {z2 : Int32} {z3 : Int32} {z4 : Int32} {z5 : Int32} {z6 : Int32} {z8 : Int32} (hf : X12_throats_150 n k15 k62 k96 σ z1 z2 z3 z4 z5 z6 z8 = some (τ, r)) : sp_GG shM X σ 9 [some (.ref (sx_ad X 0)), some (.int z1), some (.int z2), some (.int z3), some (.int z4), some (.int z5), some (.int z6), none, some (.int z8)] [] 150 0 0 := by
  unfold X12_throats_150 at hf
  refine sp_iconst (v := 0) (q := 151) hX dX12_throats_150 li_0 rfl ?_
  exact hX12_throats_151 hX hR hk15 hk62 hk96 hf
set_option maxRecDepth 100000 in
set_option maxHeartbeats 4000000 in
theorem hX12_throats_96 {X : sp_X} (hX : sp_OK shM X cX12_throats RX12 9 rmX12_throats) {τ : sp_St} {r : Int32} (hR : sp_Ri shM X (some .int) τ r 0 0) {n : Nat}   {k15 : sp_St → Int32 → Int32 → Int32 → Option (sp_St × Int32)} (hk15 : ∀ (σ : sp_St) (z1 : Int32) (z2 : Int32) (z3 : Int32), k15 σ z1 z2 z3 = some (τ, r) → sp_GG shM X σ 9 [some (.ref (sx_ad X 0)), some (.int z1), some (.int z2), some (.int z3), none, none, none, none, none] [] 15 0 0) {k62 : sp_St → Int32 → Int32 → Int32 → Int32 → Int32 → Int32 → Option (sp_St × Int32)} (hk62 : ∀ (σ : sp_St) (z1 : Int32) (z2 : Int32) (z3 : Int32) (z4 : Int32) (z5 : Int32) (z6 : Int32), k62 σ z1 z2 z3 z4 z5 z6 = some (τ, r) → sp_GG shM X σ 9 [some (.ref (sx_ad X 0)), some (.int z1), some (.int z2), some (.int z3), some (.int z4), some (.int z5), some (.int z6), none, none] [] 62 0 0) : ∀ (f : Nat) (σ : sp_St) (z1 : Int32) (z2 : Int32) (z3 : Int32) (z4 : Int32) (z5 : Int32) (z6 : Int32) (z7 : Int32) (z8 : Int32), X12_throats_96 n k15 k62 f σ z1 z2 z3 z4 z5 z6 z7 z8 = some (τ, r) → sp_GG shM X σ 9 [some (.ref (sx_ad X 0)), some (.int z1), some (.int z2), some (.int z3), some (.int z4), some (.int z5), some (.int z6), some (.int z7), some (.int z8)] [] 96 0 0 := by
  intro f
  induction f with
  | zero =>
    intro σ z1 z2 z3 z4 z5 z6 z7 z8 hf
    rw [X12_throats_96] at hf
    cases hf
  | succ f ih =>
    intro σ z1 z2 z3 z4 z5 z6 z7 z8 hf
    rw [X12_throats_96] at hf
    refine sp_iload (i := 8) (q := 98) hX dX12_throats_96 rfl rfl ?_
    refine sp_if_le (tgt := 165) (q := 101) hX dX12_throats_98 (by decide) rfl (fun hc => ?_) (fun hc => ?_)
    · rw [if_pos hc] at hf
      refine sp_drop (lv' := [some (.ref (sx_ad X 0)), some (.int z1), some (.int z2), some (.int z3), some (.int z4), some (.int z5), some (.int z6), some (.int z7), none]) (And.intro rfl (And.intro rfl (And.intro rfl (And.intro rfl (And.intro rfl (And.intro rfl (And.intro rfl (And.intro rfl trivial)))))))) ?_
      exact hX12_throats_165 hX hR hk15 hk62 hf
    · rw [if_neg hc] at hf
      refine sp_iload_n (i := 3) (q := 102) hX dX12_throats_101 rfl rfl rfl ?_
      refine sp_if_le (tgt := 165) (q := 105) hX dX12_throats_102 (by decide) rfl (fun hc => ?_) (fun hc => ?_)
      · rw [if_pos hc] at hf
        refine sp_drop (lv' := [some (.ref (sx_ad X 0)), some (.int z1), some (.int z2), some (.int z3), some (.int z4), some (.int z5), some (.int z6), some (.int z7), none]) (And.intro rfl (And.intro rfl (And.intro rfl (And.intro rfl (And.intro rfl (And.intro rfl (And.intro rfl (And.intro rfl trivial)))))))) ?_
        exact hX12_throats_165 hX hR hk15 hk62 hf
      · rw [if_neg hc] at hf
        refine sp_iload (i := 7) (q := 107) hX dX12_throats_105 rfl rfl ?_
        refine sp_if_ne (tgt := 165) (q := 110) hX dX12_throats_107 (by decide) rfl (fun hc => ?_) (fun hc => ?_)
        · rw [if_neg hc] at hf
          refine sp_drop (lv' := [some (.ref (sx_ad X 0)), some (.int z1), some (.int z2), some (.int z3), some (.int z4), some (.int z5), some (.int z6), some (.int z7), none]) (And.intro rfl (And.intro rfl (And.intro rfl (And.intro rfl (And.intro rfl (And.intro rfl (And.intro rfl (And.intro rfl trivial)))))))) ?_
          exact hX12_throats_165 hX hR hk15 hk62 hf
        · rw [if_pos hc] at hf
          refine sp_aload_n (i := 0) (q := 111) hX dX12_throats_110 rfl rfl rfl ?_
          refine sp_iload (i := 8) (q := 113) hX dX12_throats_111 rfl rfl ?_
          obtain ⟨σ2, v3, h1, hf⟩ := sp_bd_so hf
          refine sp_callVi (As := [.int z8]) (rest := []) (q := 116) hX (cnX12_lengths (sp_st hX)  h1) cwX12_345 atM_0 rfl rfl rfl rfl rfl (Nat.le_of_ble_eq_true rfl) (Nat.le_of_ble_eq_true rfl) (Nat.le_of_ble_eq_true rfl) (Nat.le_of_ble_eq_true rfl) (Nat.le_of_ble_eq_true rfl) dX12_throats_113 rfl ?_
          refine sp_aload_n (i := 0) (q := 117) hX dX12_throats_116 rfl rfl rfl ?_
          refine sp_iload (i := 4) (q := 119) hX dX12_throats_117 rfl rfl ?_
          obtain ⟨σ5, v6, h4, hf⟩ := sp_bd_so hf
          refine sp_callVi (As := [.int z4]) (rest := [.int v3]) (q := 122) hX (cnX12_leftOf (sp_st hX)  h4) cwX12_405 atM_0 rfl rfl rfl rfl rfl (Nat.le_of_ble_eq_true rfl) (Nat.le_of_ble_eq_true rfl) (Nat.le_of_ble_eq_true rfl) (Nat.le_of_ble_eq_true rfl) (Nat.le_of_ble_eq_true rfl) dX12_throats_119 rfl ?_
          refine sp_icmp_gt (tgt := 150) (q := 125) hX dX12_throats_122 (by decide) rfl (fun hc => ?_) (fun hc => ?_)
          · rw [if_pos hc] at hf
            refine sp_drop (lv' := [some (.ref (sx_ad X 0)), some (.int z1), some (.int z2), some (.int z3), some (.int z4), some (.int z5), some (.int z6), none, some (.int z8)]) (And.intro rfl (And.intro rfl (And.intro rfl (And.intro rfl (And.intro rfl (And.intro rfl (And.intro rfl (And.intro rfl trivial)))))))) ?_
            exact hX12_throats_150 hX hR hk15 hk62 ih hf
          · rw [if_neg hc] at hf
            refine sp_aload_n (i := 0) (q := 126) hX dX12_throats_125 rfl rfl rfl ?_
            refine sp_gets (t := 28) (q := 129) hX flX12_112 fkX12_44 atM_0 srM_0_44 dX12_throats_126 rfl ?_
            refine sp_iload (i := 5) (q := 131) hX dX12_throats_129 rfl rfl ?_
            refine sp_bipush (v := 10) (q := 133) hX dX12_throats_131 lb_10 rfl ?_
            refine sp_ishl (q := 134) hX dX12_throats_133 rfl ?_
            refine sp_iload (i := 6) (q := 136) hX dX12_throats_134 rfl rfl ?_
            refine sp_iload (i := 8) (q := 138) hX dX12_throats_136 rfl rfl ?_
            refine sp_iconst (v := -1) (q := 139) hX dX12_throats_138 li_m1 rfl ?_
            refine sp_ixor (q := 140) hX dX12_throats_139 rfl ?_
            refine sp_iand (q := 141) hX dX12_throats_140 rfl ?_
            refine sp_iadd (q := 142) hX dX12_throats_141 rfl ?_
            obtain ⟨h7, hf⟩ := sp_ck_some hf
            refine sp_zald (q := 143) hX arM_28 h7 dX12_throats_142 rfl ?_
            refine sp_if_eq (tgt := 150) (q := 146) hX dX12_throats_143 (by decide) rfl (fun hc => ?_) (fun hc => ?_)
            · rw [if_pos hc] at hf
              refine sp_drop (lv' := [some (.ref (sx_ad X 0)), some (.int z1), some (.int z2), some (.int z3), some (.int z4), some (.int z5), some (.int z6), none, some (.int z8)]) (And.intro rfl (And.intro rfl (And.intro rfl (And.intro rfl (And.intro rfl (And.intro rfl (And.intro rfl (And.intro rfl trivial)))))))) ?_
              exact hX12_throats_150 hX hR hk15 hk62 ih hf
            · rw [if_neg hc] at hf
              refine sp_iconst (v := 1) (q := 147) hX dX12_throats_146 li_1 rfl ?_
              refine sp_goto (tgt := 151) hX dX12_throats_147 (by decide) ?_
              refine sp_drop (lv' := [some (.ref (sx_ad X 0)), some (.int z1), some (.int z2), some (.int z3), some (.int z4), some (.int z5), some (.int z6), none, some (.int z8)]) (And.intro rfl (And.intro rfl (And.intro rfl (And.intro rfl (And.intro rfl (And.intro rfl (And.intro rfl (And.intro rfl trivial)))))))) ?_
              exact hX12_throats_151 hX hR hk15 hk62 ih hf
set_option maxRecDepth 100000 in
set_option maxHeartbeats 4000000 in
theorem hX12_throats_62 {X : sp_X} (hX : sp_OK shM X cX12_throats RX12 9 rmX12_throats) {τ : sp_St} {r : Int32} (hR : sp_Ri shM X (some .int) τ r 0 0) {n : Nat}   {k15 : sp_St → Int32 → Int32 → Int32 → Option (sp_St × Int32)} (hk15 : ∀ (σ : sp_St) (z1 : Int32) (z2 : Int32) (z3 : Int32), k15 σ z1 z2 z3 = some (τ, r) → sp_GG shM X σ 9 [some (.ref (sx_ad X 0)), some (.int z1), some (.int z2), some (.int z3), none, none, none, none, none] [] 15 0 0) : ∀ (f : Nat) (σ : sp_St) (z1 : Int32) (z2 : Int32) (z3 : Int32) (z4 : Int32) (z5 : Int32) (z6 : Int32), X12_throats_62 n k15 f σ z1 z2 z3 z4 z5 z6 = some (τ, r) → sp_GG shM X σ 9 [some (.ref (sx_ad X 0)), some (.int z1), some (.int z2), some (.int z3), some (.int z4), some (.int z5), some (.int z6), none, none] [] 62 0 0 := by
  intro f
  induction f with
  | zero =>
    intro σ z1 z2 z3 z4 z5 z6 hf
    rw [X12_throats_62] at hf
    cases hf
  | succ f ih =>
    intro σ z1 z2 z3 z4 z5 z6 hf
    rw [X12_throats_62] at hf
    refine sp_iload (i := 6) (q := 64) hX dX12_throats_62 rfl rfl ?_
    refine sp_iload_n (i := 1) (q := 65) hX dX12_throats_64 rfl rfl rfl ?_
    refine sp_icmp_gt (tgt := 217) (q := 68) hX dX12_throats_65 (by decide) rfl (fun hc => ?_) (fun hc => ?_)
    · rw [if_pos hc] at hf
      refine sp_drop (lv' := [some (.ref (sx_ad X 0)), some (.int z1), some (.int z2), some (.int z3), none, none, none, none, none]) (And.intro rfl (And.intro rfl (And.intro rfl (And.intro rfl trivial)))) ?_
      exact hX12_throats_217 hX hR hk15 hf
    · rw [if_neg hc] at hf
      refine sp_iload (i := 6) (q := 70) hX dX12_throats_68 rfl rfl ?_
      refine sp_iload_n (i := 1) (q := 71) hX dX12_throats_70 rfl rfl rfl ?_
      refine sp_iconst (v := -1) (q := 72) hX dX12_throats_71 li_m1 rfl ?_
      refine sp_ixor (q := 73) hX dX12_throats_72 rfl ?_
      refine sp_iand (q := 74) hX dX12_throats_73 rfl ?_
      refine sp_if_eq (tgt := 80) (q := 77) hX dX12_throats_74 (by decide) rfl (fun hc => ?_) (fun hc => ?_)
      · rw [if_pos hc] at hf
        refine sp_iload (i := 6) (q := 82) hX dX12_throats_80 rfl rfl ?_
        obtain ⟨v1, e2, hf⟩ := sp_pl_some hf
        have hj3 : sp_GG shM X σ 9 [some (.ref (sx_ad X 0)), some (.int z1), some (.int z2), some (.int z3), some (.int z4), some (.int z5), some (.int z6), none, none] [.int v1] 90 0 0 := by
          refine sp_istore (i := 7) (lv' := [some (.ref (sx_ad X 0)), some (.int z1), some (.int z2), some (.int z3), some (.int z4), some (.int z5), some (.int z6), some (.int v1), none]) (q := 92) hX dX12_throats_90 (Nat.le_of_ble_eq_true rfl) rfl rfl rfl ?_
          refine sp_iload (i := 6) (q := 94) hX dX12_throats_92 rfl rfl ?_
          refine sp_istore (i := 8) (lv' := [some (.ref (sx_ad X 0)), some (.int z1), some (.int z2), some (.int z3), some (.int z4), some (.int z5), some (.int z6), some (.int v1), some (.int z6)]) (q := 96) hX dX12_throats_94 (Nat.le_of_ble_eq_true rfl) rfl rfl rfl ?_
          exact hX12_throats_96 hX hR hk15 ih n σ z1 z2 z3 z4 z5 z6 v1 z6 hf
        refine sp_if_ne (tgt := 89) (q := 85) hX dX12_throats_82 (by decide) rfl (fun hc => ?_) (fun hc => ?_)
        · refine sp_iconst (v := 0) (q := 90) hX dX12_throats_89 li_0 rfl ?_
          exact sp_nmi (by rw [e2, if_neg hc]) hj3
        · refine sp_iconst (v := 1) (q := 86) hX dX12_throats_85 li_1 rfl ?_
          refine sp_goto (tgt := 90) hX dX12_throats_86 (by decide) ?_
          exact sp_nmi (by rw [e2, if_pos hc]) hj3
      · rw [if_neg hc] at hf
        refine sp_goto (tgt := 211) hX dX12_throats_77 (by decide) ?_
        exact hX12_throats_211 hX hR hk15 ih hf
set_option maxRecDepth 100000 in
set_option maxHeartbeats 4000000 in
theorem hX12_throats_49 {X : sp_X} (hX : sp_OK shM X cX12_throats RX12 9 rmX12_throats) {τ : sp_St} {r : Int32} (hR : sp_Ri shM X (some .int) τ r 0 0) {n : Nat}   {k15 : sp_St → Int32 → Int32 → Int32 → Option (sp_St × Int32)} (hk15 : ∀ (σ : sp_St) (z1 : Int32) (z2 : Int32) (z3 : Int32), k15 σ z1 z2 z3 = some (τ, r) → sp_GG shM X σ 9 [some (.ref (sx_ad X 0)), some (.int z1), some (.int z2), some (.int z3), none, none, none, none, none] [] 15 0 0) {σ : sp_St} {z1 : Int32} {z2 : Int32} {z3 : Int32} {z4 : Int32} (hf : X12_throats_49 n k15 σ z1 z2 z3 z4 = some (τ, r)) : sp_GG shM X σ 9 [some (.ref (sx_ad X 0)), some (.int z1), some (.int z2), some (.int z3), some (.int z4), none, none, none, none] [] 49 0 0 := by
  unfold X12_throats_49 at hf
  refine sp_iload_n (i := 3) (q := 50) hX dX12_throats_49 rfl rfl rfl ?_
  refine sp_iconst (v := 1) (q := 51) hX dX12_throats_50 li_1 rfl ?_
  refine sp_iload (i := 4) (q := 53) hX dX12_throats_51 rfl rfl ?_
  refine sp_ishl (q := 54) hX dX12_throats_53 rfl ?_
  refine sp_iconst (v := -1) (q := 55) hX dX12_throats_54 li_m1 rfl ?_
  refine sp_ixor (q := 56) hX dX12_throats_55 rfl ?_
  refine sp_iand (q := 57) hX dX12_throats_56 rfl ?_
  obtain ⟨x1, e2, hf⟩ := sp_pl_some hf
  refine sp_nmi e2 ?_
  refine sp_istore (i := 5) (lv' := [some (.ref (sx_ad X 0)), some (.int z1), some (.int z2), some (.int z3), some (.int z4), some (.int x1), none, none, none]) (q := 59) hX dX12_throats_57 (Nat.le_of_ble_eq_true rfl) rfl rfl rfl ?_
  refine sp_iconst (v := 0) (q := 60) hX dX12_throats_59 li_0 rfl ?_
  obtain ⟨x3, e4, hf⟩ := sp_pl_some hf
  refine sp_nmi e4 ?_
  refine sp_istore (i := 6) (lv' := [some (.ref (sx_ad X 0)), some (.int z1), some (.int z2), some (.int z3), some (.int z4), some (.int x1), some (.int x3), none, none]) (q := 62) hX dX12_throats_60 (Nat.le_of_ble_eq_true rfl) rfl rfl rfl ?_
  exact hX12_throats_62 hX hR hk15 n σ z1 z2 z3 z4 x1 x3 hf
set_option maxRecDepth 100000 in
set_option maxHeartbeats 4000000 in
theorem hX12_throats_30 {X : sp_X} (hX : sp_OK shM X cX12_throats RX12 9 rmX12_throats) {τ : sp_St} {r : Int32} (hR : sp_Ri shM X (some .int) τ r 0 0) {n : Nat}   {k15 : sp_St → Int32 → Int32 → Int32 → Option (sp_St × Int32)} (hk15 : ∀ (σ : sp_St) (z1 : Int32) (z2 : Int32) (z3 : Int32), k15 σ z1 z2 z3 = some (τ, r) → sp_GG shM X σ 9 [some (.ref (sx_ad X 0)), some (.int z1), some (.int z2), some (.int z3), none, none, none, none, none] [] 15 0 0) : ∀ (f : Nat) (σ : sp_St) (z1 : Int32) (z2 : Int32) (z3 : Int32) (z4 : Int32), X12_throats_30 n k15 f σ z1 z2 z3 z4 = some (τ, r) → sp_GG shM X σ 9 [some (.ref (sx_ad X 0)), some (.int z1), some (.int z2), some (.int z3), some (.int z4), none, none, none, none] [] 30 0 0 := by
  intro f
  induction f with
  | zero =>
    intro σ z1 z2 z3 z4 hf
    rw [X12_throats_30] at hf
    cases hf
  | succ f ih =>
    intro σ z1 z2 z3 z4 hf
    rw [X12_throats_30] at hf
    refine sp_iload_n (i := 3) (q := 31) hX dX12_throats_30 rfl rfl rfl ?_
    refine sp_if_le (tgt := 49) (q := 34) hX dX12_throats_31 (by decide) rfl (fun hc => ?_) (fun hc => ?_)
    · rw [if_pos hc] at hf
      exact hX12_throats_49 hX hR hk15 hf
    · rw [if_neg hc] at hf
      refine sp_iload_n (i := 3) (q := 35) hX dX12_throats_34 rfl rfl rfl ?_
      refine sp_iload (i := 4) (q := 37) hX dX12_throats_35 rfl rfl ?_
      obtain ⟨σ2, v3, h1, hf⟩ := sp_bd_so hf
      refine sp_callSi (As := [.int z3, .int z4]) (rest := []) (q := 40) hX (cnX12_isOf (sp_st hX)  h1) cwX12_284 rfl rfl rfl rfl (Nat.le_of_ble_eq_true rfl) (Nat.le_of_ble_eq_true rfl) (Nat.le_of_ble_eq_true rfl) (Nat.le_of_ble_eq_true rfl) (Nat.le_of_ble_eq_true rfl) dX12_throats_37 rfl ?_
      refine sp_if_ne (tgt := 49) (q := 43) hX dX12_throats_40 (by decide) rfl (fun hc => ?_) (fun hc => ?_)
      · rw [if_neg hc] at hf
        exact hX12_throats_49 hX hR hk15 hf
      · rw [if_pos hc] at hf
        obtain ⟨x4, e5, hf⟩ := sp_pl_some hf
        refine sp_iinc (i := 4) (v := x4) (lv' := [some (.ref (sx_ad X 0)), some (.int z1), some (.int z2), some (.int z3), some (.int x4), none, none, none, none]) (q := 46) hX dX12_throats_43 rfl (by rw [e5, li_1]) (Nat.le_of_ble_eq_true rfl) rfl rfl rfl ?_
        refine sp_goto (tgt := 30) hX dX12_throats_46 (by decide) ?_
        exact ih σ2 z1 z2 z3 x4 hf
set_option maxRecDepth 100000 in
set_option maxHeartbeats 4000000 in
theorem hX12_throats_15 {X : sp_X} (hX : sp_OK shM X cX12_throats RX12 9 rmX12_throats) {τ : sp_St} {r : Int32} (hR : sp_Ri shM X (some .int) τ r 0 0) {n : Nat}    : ∀ (f : Nat) (σ : sp_St) (z1 : Int32) (z2 : Int32) (z3 : Int32), X12_throats_15 n f σ z1 z2 z3 = some (τ, r) → sp_GG shM X σ 9 [some (.ref (sx_ad X 0)), some (.int z1), some (.int z2), some (.int z3), none, none, none, none, none] [] 15 0 0 := by
  intro f
  induction f with
  | zero =>
    intro σ z1 z2 z3 hf
    rw [X12_throats_15] at hf
    cases hf
  | succ f ih =>
    intro σ z1 z2 z3 hf
    rw [X12_throats_15] at hf
    refine sp_iload_n (i := 3) (q := 16) hX dX12_throats_15 rfl rfl rfl ?_
    refine sp_iconst (v := 1) (q := 17) hX dX12_throats_16 li_1 rfl ?_
    refine sp_aload_n (i := 0) (q := 18) hX dX12_throats_17 rfl rfl rfl ?_
    refine sp_gets (t := 3) (q := 21) hX flX12_33 fkX12_4 atM_0 srM_0_4 dX12_throats_18 rfl ?_
    refine sp_iconst (v := 1) (q := 22) hX dX12_throats_21 li_1 rfl ?_
    refine sp_iald (q := 23) hX arM_3 (by decide) dX12_throats_22 rfl ?_
    refine sp_ishl (q := 24) hX dX12_throats_23 rfl ?_
    refine sp_icmp_ge (tgt := 255) (q := 27) hX dX12_throats_24 (by decide) rfl (fun hc => ?_) (fun hc => ?_)
    · rw [if_pos hc] at hf
      refine sp_drop (lv' := [none, none, some (.int z2), none, none, none, none, none, none]) (And.intro rfl trivial) ?_
      exact hX12_throats_255 hX hR hf
    · rw [if_neg hc] at hf
      refine sp_iconst (v := 0) (q := 28) hX dX12_throats_27 li_0 rfl ?_
      obtain ⟨x1, e2, hf⟩ := sp_pl_some hf
      refine sp_nmi e2 ?_
      refine sp_istore (i := 4) (lv' := [some (.ref (sx_ad X 0)), some (.int z1), some (.int z2), some (.int z3), some (.int x1), none, none, none, none]) (q := 30) hX dX12_throats_28 (Nat.le_of_ble_eq_true rfl) rfl rfl rfl ?_
      exact hX12_throats_30 hX hR ih n σ z1 z2 z3 x1 hf
set_option maxRecDepth 100000 in
set_option maxHeartbeats 4000000 in
theorem hX12_throats {X : sp_X} (hX : sp_OK shM X cX12_throats RX12 9 rmX12_throats) {τ : sp_St} {r : Int32} (hR : sp_Ri shM X (some .int) τ r 0 0) {n : Nat}  {σ : sp_St}   (hf : X12_throats n σ = some (τ, r)) : sp_GG shM X σ 9 [some (.ref (sx_ad X 0)), none, none, none, none, none, none, none, none] [] 0 0 0 := by
  unfold X12_throats at hf
  refine sp_aload_n (i := 0) (q := 1) hX dX12_throats_0 rfl rfl rfl ?_
  refine sp_iconst (v := 0) (q := 2) hX dX12_throats_1 li_0 rfl ?_
  obtain ⟨σ1, e2, hf⟩ := sp_pl_some hf
  refine sp_puti (q := 5) hX fpX12_158 fkX12_3 atM_0 dX12_throats_2 rfl ?_
  refine sp_nms e2 ?_
  refine sp_aload_n (i := 0) (q := 6) hX dX12_throats_5 rfl rfl rfl ?_
  refine sp_iconst (v := 0) (q := 7) hX dX12_throats_6 li_0 rfl ?_
  obtain ⟨σ4, v5, h3, hf⟩ := sp_bd_so hf
  refine sp_callVi (As := [.int ((0 : Int32))]) (rest := []) (q := 10) hX (cnX12_whereSet (sp_st hX)  h3) cwX12_348 atM_0 rfl rfl rfl rfl rfl (Nat.le_of_ble_eq_true rfl) (Nat.le_of_ble_eq_true rfl) (Nat.le_of_ble_eq_true rfl) (Nat.le_of_ble_eq_true rfl) (Nat.le_of_ble_eq_true rfl) dX12_throats_7 rfl ?_
  refine sp_istore_n (i := 1) (lv' := [some (.ref (sx_ad X 0)), some (.int v5), none, none, none, none, none, none, none]) (q := 11) hX dX12_throats_10 rfl (Nat.le_of_ble_eq_true rfl) rfl rfl rfl ?_
  refine sp_iconst (v := -1) (q := 12) hX dX12_throats_11 li_m1 rfl ?_
  obtain ⟨x6, e7, hf⟩ := sp_pl_some hf
  refine sp_nmi e7 ?_
  refine sp_istore_n (i := 2) (lv' := [some (.ref (sx_ad X 0)), some (.int v5), some (.int x6), none, none, none, none, none, none]) (q := 13) hX dX12_throats_12 rfl (Nat.le_of_ble_eq_true rfl) rfl rfl rfl ?_
  refine sp_iconst (v := 0) (q := 14) hX dX12_throats_13 li_0 rfl ?_
  obtain ⟨x8, e9, hf⟩ := sp_pl_some hf
  refine sp_nmi e9 ?_
  refine sp_istore_n (i := 3) (lv' := [some (.ref (sx_ad X 0)), some (.int v5), some (.int x6), some (.int x8), none, none, none, none, none]) (q := 15) hX dX12_throats_14 rfl (Nat.le_of_ble_eq_true rfl) rfl rfl rfl ?_
  exact hX12_throats_15 hX hR n σ4 v5 x6 x8 hf
set_option maxRecDepth 100000 in
set_option maxHeartbeats 4000000 in
theorem cnX12_throats {l : Launch} (hst : l.stackTraces = false) {w : sp_Wd} {n : Nat}  {σ : sp_St}  {τ : sp_St} {r : Int32}  (hf : X12_throats n σ = some (τ, r)) : sp_Ci shM l w yX12_throats cX12_throats 9 (some .int) rmX12_throats 0 0 σ [.ref (w.2.1 0)] τ r :=
  sp_ci (own := RX12) (by decide) rfl hst (Nat.le_of_ble_eq_true rfl) rfl (fun X hX hw hl hR => by subst hw; subst hl; exact hX12_throats hX hR   hf)
def rmX12_toDraw : Room := { frames := 2, cells := 0, slots := 0, locals := 47 }
def X12_toDraw_42 (n : Nat) (σ : sp_St) (zs0 : Int32) : Option (sp_St × Int32) :=
  some (σ, zs0)
def X12_toDraw (n : Nat)  (σ : sp_St) (a1 : Int32) : Option (sp_St × Int32) :=
  sp_pl (sp_si σ 0 3 ((0 : Int32))) fun σ1 =>
  sp_bd (X12_isBlade n σ1 a1) fun σ4 v5 =>
  if v5 = 0 then
    sp_bd (X12_fail n σ4 ((1 : Int32))) fun σ11 v12 =>
    some (σ11, v12)
  else
    sp_ck (sp_in a1 10) <|
    if (sp_g σ4 15 a1) = ((1 : Int32)) then
      sp_bd (X12_aboveSet n σ4 a1) fun σ8 v9 =>
      X12_toDraw_42 n σ8 (v9 ||| (((1 : Int32)) <<< (a1 &&& 31)))
    else
      X12_toDraw_42 n σ4 ((0 : Int32))
set_option maxRecDepth 100000 in
set_option maxHeartbeats 4000000 in
theorem hX12_toDraw_42 {X : sp_X} (hX : sp_OK shM X cX12_toDraw RX12 2 rmX12_toDraw) {τ : sp_St} {r : Int32} (hR : sp_Ri shM X (some .int) τ r 0 0) {n : Nat}    {σ : sp_St} {zs0 : Int32} (hf : X12_toDraw_42 n σ zs0 = some (τ, r)) : sp_GG shM X σ 2 [none, none] [.int zs0] 42 0 0 := by
  unfold X12_toDraw_42 at hf
  exact sp_iret hX hR dX12_toDraw_42 hf (Nat.le_of_ble_eq_true rfl) (Nat.le_of_ble_eq_true rfl)
set_option maxRecDepth 100000 in
set_option maxHeartbeats 4000000 in
theorem hX12_toDraw {X : sp_X} (hX : sp_OK shM X cX12_toDraw RX12 2 rmX12_toDraw) {τ : sp_St} {r : Int32} (hR : sp_Ri shM X (some .int) τ r 0 0) {n : Nat}  {σ : sp_St} {a1 : Int32}  (hf : X12_toDraw n σ a1 = some (τ, r)) : sp_GG shM X σ 2 [some (.ref (sx_ad X 0)), some (.int a1)] [] 0 0 0 := by
  unfold X12_toDraw at hf
  refine sp_aload_n (i := 0) (q := 1) hX dX12_toDraw_0 rfl rfl rfl ?_
  refine sp_iconst (v := 0) (q := 2) hX dX12_toDraw_1 li_0 rfl ?_
  obtain ⟨σ1, e2, hf⟩ := sp_pl_some hf
  refine sp_puti (q := 5) hX fpX12_158 fkX12_3 atM_0 dX12_toDraw_2 rfl ?_
  refine sp_nms e2 ?_
  refine sp_aload_n (i := 0) (q := 6) hX dX12_toDraw_5 rfl rfl rfl ?_
  refine sp_iload_n (i := 1) (q := 7) hX dX12_toDraw_6 rfl rfl rfl ?_
  obtain ⟨σ4, v5, h3, hf⟩ := sp_bd_so hf
  refine sp_callVi (As := [.int a1]) (rest := []) (q := 10) hX (cnX12_isBlade (sp_st hX)  h3) cwX12_399 atM_0 rfl rfl rfl rfl rfl (Nat.le_of_ble_eq_true rfl) (Nat.le_of_ble_eq_true rfl) (Nat.le_of_ble_eq_true rfl) (Nat.le_of_ble_eq_true rfl) (Nat.le_of_ble_eq_true rfl) dX12_toDraw_7 rfl ?_
  refine sp_if_ne (tgt := 19) (q := 13) hX dX12_toDraw_10 (by decide) rfl (fun hc => ?_) (fun hc => ?_)
  · rw [if_neg hc] at hf
    refine sp_aload_n (i := 0) (q := 20) hX dX12_toDraw_19 rfl rfl rfl ?_
    refine sp_gets (t := 15) (q := 23) hX flX12_72 fkX12_27 atM_0 srM_0_27 dX12_toDraw_20 rfl ?_
    refine sp_iload_n (i := 1) (q := 24) hX dX12_toDraw_23 rfl rfl rfl ?_
    obtain ⟨h6, hf⟩ := sp_ck_some hf
    refine sp_iald (q := 25) hX arM_15 h6 dX12_toDraw_24 rfl ?_
    refine sp_iconst (v := 1) (q := 26) hX dX12_toDraw_25 li_1 rfl ?_
    refine sp_icmp_ne (tgt := 41) (q := 29) hX dX12_toDraw_26 (by decide) rfl (fun hc => ?_) (fun hc => ?_)
    · rw [if_neg hc] at hf
      refine sp_iconst (v := 0) (q := 42) hX dX12_toDraw_41 li_0 rfl ?_
      refine sp_drop (lv' := [none, none]) trivial ?_
      exact hX12_toDraw_42 hX hR hf
    · rw [if_pos hc] at hf
      refine sp_aload_n (i := 0) (q := 30) hX dX12_toDraw_29 rfl rfl rfl ?_
      refine sp_iload_n (i := 1) (q := 31) hX dX12_toDraw_30 rfl rfl rfl ?_
      obtain ⟨σ8, v9, h7, hf⟩ := sp_bd_so hf
      refine sp_callVi (As := [.int a1]) (rest := []) (q := 34) hX (cnX12_aboveSet (sp_st hX)  h7) cwX12_361 atM_0 rfl rfl rfl rfl rfl (Nat.le_of_ble_eq_true rfl) (Nat.le_of_ble_eq_true rfl) (Nat.le_of_ble_eq_true rfl) (Nat.le_of_ble_eq_true rfl) (Nat.le_of_ble_eq_true rfl) dX12_toDraw_31 rfl ?_
      refine sp_iconst (v := 1) (q := 35) hX dX12_toDraw_34 li_1 rfl ?_
      refine sp_iload_n (i := 1) (q := 36) hX dX12_toDraw_35 rfl rfl rfl ?_
      refine sp_ishl (q := 37) hX dX12_toDraw_36 rfl ?_
      refine sp_ior (q := 38) hX dX12_toDraw_37 rfl ?_
      refine sp_goto (tgt := 42) hX dX12_toDraw_38 (by decide) ?_
      refine sp_drop (lv' := [none, none]) trivial ?_
      exact hX12_toDraw_42 hX hR hf
  · rw [if_pos hc] at hf
    refine sp_aload_n (i := 0) (q := 14) hX dX12_toDraw_13 rfl rfl rfl ?_
    refine sp_iconst (v := 1) (q := 15) hX dX12_toDraw_14 li_1 rfl ?_
    obtain ⟨σ11, v12, h10, hf⟩ := sp_bd_so hf
    refine sp_callVi (As := [.int ((1 : Int32))]) (rest := []) (q := 18) hX (cnX12_fail (sp_st hX)  h10) cwX12_312 atM_0 rfl rfl rfl rfl rfl (Nat.le_of_ble_eq_true rfl) (Nat.le_of_ble_eq_true rfl) (Nat.le_of_ble_eq_true rfl) (Nat.le_of_ble_eq_true rfl) (Nat.le_of_ble_eq_true rfl) dX12_toDraw_15 rfl ?_
    exact sp_iret hX hR dX12_toDraw_18 hf (Nat.le_of_ble_eq_true rfl) (Nat.le_of_ble_eq_true rfl)
set_option maxRecDepth 100000 in
set_option maxHeartbeats 4000000 in
theorem cnX12_toDraw {l : Launch} (hst : l.stackTraces = false) {w : sp_Wd} {n : Nat}  {σ : sp_St} {a1 : Int32} {τ : sp_St} {r : Int32}  (hf : X12_toDraw n σ a1 = some (τ, r)) : sp_Ci shM l w yX12_toDraw cX12_toDraw 2 (some .int) rmX12_toDraw 0 0 σ [.ref (w.2.1 0), .int a1] τ r :=
  sp_ci (own := RX12) (by decide) rfl hst (Nat.le_of_ble_eq_true rfl) rfl (fun X hX hw hl hR => by subst hw; subst hl; exact hX12_toDraw hX hR   hf)
def rmX12_firstRoom : Room := { frames := 3, cells := 0, slots := 0, locals := 65 }
def X12_firstRoom_34 (n : Nat) (σ : sp_St) : Option (sp_St × Int32) :=
  some (σ, (-1 : Int32))
def X12_firstRoom_26 (n : Nat) (σ : sp_St) (z2 : Int32) : Option (sp_St × Int32) :=
  some (σ, z2)
def X12_firstRoom_2 (n : Nat) : Nat → sp_St → Int32 → Int32 → Option (sp_St × Int32)
  | 0, _, _, _ => none
  | f + 1, σ, z1, z2 =>
    if (sp_g σ 3 ((1 : Int32))) ≤ z2 then
      X12_firstRoom_34 n σ
    else
      sp_ck (sp_in z1 20) <|
      sp_bd (X12_leftOf n σ z2) fun σ3 v4 =>
      if v4 < (sp_g σ 8 z1) then
        sp_pl (z2 + 1) fun x5 =>
        X12_firstRoom_2 n f σ3 z1 x5
      else
        X12_firstRoom_26 n σ3 z2
def X12_firstRoom (n : Nat)  (σ : sp_St) (a1 : Int32) : Option (sp_St × Int32) :=
  sp_pl ((0 : Int32)) fun x1 =>
  X12_firstRoom_2 n n σ a1 x1
set_option maxRecDepth 100000 in
set_option maxHeartbeats 4000000 in
theorem hX12_firstRoom_34 {X : sp_X} (hX : sp_OK shM X cX12_firstRoom RX12 3 rmX12_firstRoom) {τ : sp_St} {r : Int32} (hR : sp_Ri shM X (some .int) τ r 0 0) {n : Nat}    {σ : sp_St} (hf : X12_firstRoom_34 n σ = some (τ, r)) : sp_GG shM X σ 3 [none, none, none] [] 34 0 0 := by
  unfold X12_firstRoom_34 at hf
  refine sp_iconst (v := -1) (q := 35) hX dX12_firstRoom_34 li_m1 rfl ?_
  exact sp_iret hX hR dX12_firstRoom_35 hf (Nat.le_of_ble_eq_true rfl) (Nat.le_of_ble_eq_true rfl)
set_option maxRecDepth 100000 in
set_option maxHeartbeats 4000000 in
theorem hX12_firstRoom_26 {X : sp_X} (hX : sp_OK shM X cX12_firstRoom RX12 3 rmX12_firstRoom) {τ : sp_St} {r : Int32} (hR : sp_Ri shM X (some .int) τ r 0 0) {n : Nat}    {σ : sp_St} {z2 : Int32} (hf : X12_firstRoom_26 n σ z2 = some (τ, r)) : sp_GG shM X σ 3 [none, none, some (.int z2)] [] 26 0 0 := by
  unfold X12_firstRoom_26 at hf
  refine sp_iload_n (i := 2) (q := 27) hX dX12_firstRoom_26 rfl rfl rfl ?_
  exact sp_iret hX hR dX12_firstRoom_27 hf (Nat.le_of_ble_eq_true rfl) (Nat.le_of_ble_eq_true rfl)
set_option maxRecDepth 100000 in
set_option maxHeartbeats 4000000 in
theorem hX12_firstRoom_2 {X : sp_X} (hX : sp_OK shM X cX12_firstRoom RX12 3 rmX12_firstRoom) {τ : sp_St} {r : Int32} (hR : sp_Ri shM X (some .int) τ r 0 0) {n : Nat}    : ∀ (f : Nat) (σ : sp_St) (z1 : Int32) (z2 : Int32), X12_firstRoom_2 n f σ z1 z2 = some (τ, r) → sp_GG shM X σ 3 [some (.ref (sx_ad X 0)), some (.int z1), some (.int z2)] [] 2 0 0 := by
  intro f
  induction f with
  | zero =>
    intro σ z1 z2 hf
    rw [X12_firstRoom_2] at hf
    cases hf
  | succ f ih =>
    intro σ z1 z2 hf
    rw [X12_firstRoom_2] at hf
    refine sp_iload_n (i := 2) (q := 3) hX dX12_firstRoom_2 rfl rfl rfl ?_
    refine sp_aload_n (i := 0) (q := 4) hX dX12_firstRoom_3 rfl rfl rfl ?_
    refine sp_gets (t := 3) (q := 7) hX flX12_33 fkX12_4 atM_0 srM_0_4 dX12_firstRoom_4 rfl ?_
    refine sp_iconst (v := 1) (q := 8) hX dX12_firstRoom_7 li_1 rfl ?_
    refine sp_iald (q := 9) hX arM_3 (by decide) dX12_firstRoom_8 rfl ?_
    refine sp_icmp_ge (tgt := 34) (q := 12) hX dX12_firstRoom_9 (by decide) rfl (fun hc => ?_) (fun hc => ?_)
    · rw [if_pos hc] at hf
      refine sp_drop (lv' := [none, none, none]) trivial ?_
      exact hX12_firstRoom_34 hX hR hf
    · rw [if_neg hc] at hf
      refine sp_aload_n (i := 0) (q := 13) hX dX12_firstRoom_12 rfl rfl rfl ?_
      refine sp_gets (t := 8) (q := 16) hX flX12_49 fkX12_9 atM_0 srM_0_9 dX12_firstRoom_13 rfl ?_
      refine sp_iload_n (i := 1) (q := 17) hX dX12_firstRoom_16 rfl rfl rfl ?_
      obtain ⟨h1, hf⟩ := sp_ck_some hf
      refine sp_iald (q := 18) hX arM_8 h1 dX12_firstRoom_17 rfl ?_
      refine sp_aload_n (i := 0) (q := 19) hX dX12_firstRoom_18 rfl rfl rfl ?_
      refine sp_iload_n (i := 2) (q := 20) hX dX12_firstRoom_19 rfl rfl rfl ?_
      obtain ⟨σ3, v4, h2, hf⟩ := sp_bd_so hf
      refine sp_callVi (As := [.int z2]) (rest := [.int (sp_g σ 8 z1)]) (q := 23) hX (cnX12_leftOf (sp_st hX)  h2) cwX12_405 atM_0 rfl rfl rfl rfl rfl (Nat.le_of_ble_eq_true rfl) (Nat.le_of_ble_eq_true rfl) (Nat.le_of_ble_eq_true rfl) (Nat.le_of_ble_eq_true rfl) (Nat.le_of_ble_eq_true rfl) dX12_firstRoom_20 rfl ?_
      refine sp_icmp_gt (tgt := 28) (q := 26) hX dX12_firstRoom_23 (by decide) rfl (fun hc => ?_) (fun hc => ?_)
      · rw [if_pos hc] at hf
        obtain ⟨x5, e6, hf⟩ := sp_pl_some hf
        refine sp_iinc (i := 2) (v := x5) (lv' := [some (.ref (sx_ad X 0)), some (.int z1), some (.int x5)]) (q := 31) hX dX12_firstRoom_28 rfl (by rw [e6, li_1]) (Nat.le_of_ble_eq_true rfl) rfl rfl rfl ?_
        refine sp_goto (tgt := 2) hX dX12_firstRoom_31 (by decide) ?_
        exact ih σ3 z1 x5 hf
      · rw [if_neg hc] at hf
        refine sp_drop (lv' := [none, none, some (.int z2)]) (And.intro rfl trivial) ?_
        exact hX12_firstRoom_26 hX hR hf
set_option maxRecDepth 100000 in
set_option maxHeartbeats 4000000 in
theorem hX12_firstRoom {X : sp_X} (hX : sp_OK shM X cX12_firstRoom RX12 3 rmX12_firstRoom) {τ : sp_St} {r : Int32} (hR : sp_Ri shM X (some .int) τ r 0 0) {n : Nat}  {σ : sp_St} {a1 : Int32}  (hf : X12_firstRoom n σ a1 = some (τ, r)) : sp_GG shM X σ 3 [some (.ref (sx_ad X 0)), some (.int a1), none] [] 0 0 0 := by
  unfold X12_firstRoom at hf
  refine sp_iconst (v := 0) (q := 1) hX dX12_firstRoom_0 li_0 rfl ?_
  obtain ⟨x1, e2, hf⟩ := sp_pl_some hf
  refine sp_nmi e2 ?_
  refine sp_istore_n (i := 2) (lv' := [some (.ref (sx_ad X 0)), some (.int a1), some (.int x1)]) (q := 2) hX dX12_firstRoom_1 rfl (Nat.le_of_ble_eq_true rfl) rfl rfl rfl ?_
  exact hX12_firstRoom_2 hX hR n σ a1 x1 hf
set_option maxRecDepth 100000 in
set_option maxHeartbeats 4000000 in
theorem cnX12_firstRoom {l : Launch} (hst : l.stackTraces = false) {w : sp_Wd} {n : Nat}  {σ : sp_St} {a1 : Int32} {τ : sp_St} {r : Int32}  (hf : X12_firstRoom n σ a1 = some (τ, r)) : sp_Ci shM l w yX12_firstRoom cX12_firstRoom 3 (some .int) rmX12_firstRoom 0 0 σ [.ref (w.2.1 0), .int a1] τ r :=
  sp_ci (own := RX12) (by decide) rfl hst (Nat.le_of_ble_eq_true rfl) rfl (fun X hX hw hl hR => by subst hw; subst hl; exact hX12_firstRoom hX hR   hf)
