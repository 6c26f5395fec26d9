def rmX12_tellLosses : Room := { frames := 7, cells := 0, slots := 0, locals := 154 }
def X12_tellLosses_144 (n : Nat) (k11 : sp_St → Int32 → Int32 → Int32 → Option (sp_St)) (σ : sp_St) (z1 : Int32) (z2 : Int32) (z3 : Int32) : Option (sp_St) :=
  sp_bv (X12_goOn n σ ((10 : Int32))) fun σ2 =>
  sp_ck (sp_in z1 6) <|
  sp_bd (X12_insideOf n σ2 z1) fun σ5 v6 =>
  sp_ck (sp_in (((2 : Int32)) * z3) 8) <|
  sp_pl (sp_sa σ5 36 (((2 : Int32)) * z3).toNatClampNeg ((((5 : Int32)) * (sp_g σ2 24 z1)) + v6)) fun σ8 =>
  sp_ck (sp_in z2 6) <|
  sp_bd (X12_insideOf n σ8 z2) fun σ12 v13 =>
  sp_ck (sp_in ((((2 : Int32)) * z3) + ((1 : Int32))) 8) <|
  sp_pl (sp_sa σ12 36 ((((2 : Int32)) * z3) + ((1 : Int32))).toNatClampNeg ((((5 : Int32)) * (sp_g σ8 24 z2)) + v13)) fun σ15 =>
  sp_bv (X12_unpack n σ15 25 88 ((0 : Int32))) fun σ18 =>
  sp_pl (z3 + 1) fun x19 =>
  k11 σ18 z1 z2 x19
def X12_tellLosses_123 (n : Nat) (k11 : sp_St → Int32 → Int32 → Int32 → Option (sp_St)) : Nat → sp_St → Int32 → Int32 → Int32 → Int32 → Option (sp_St)
  | 0, _, _, _, _, _ => none
  | f + 1, σ, z1, z2, z3, z4 =>
    if ((6 : Int32)) ≤ z4 then
      X12_tellLosses_144 n k11 σ z1 z2 z3
    else
      sp_ck (sp_in z4 6) <|
      sp_pl (sp_sa σ 24 z4.toNatClampNeg ((0 : Int32))) fun σ2 =>
      sp_pl (z4 + 1) fun x4 =>
      X12_tellLosses_123 n k11 f σ2 z1 z2 z3 x4
def X12_tellLosses_120 (n : Nat) (k11 : sp_St → Int32 → Int32 → Int32 → Option (sp_St)) (σ : sp_St) (z1 : Int32) (z2 : Int32) (z3 : Int32) : Option (sp_St) :=
  sp_pl ((0 : Int32)) fun x1 =>
  X12_tellLosses_123 n k11 n σ z1 z2 z3 x1
def X12_tellLosses_114 (n : Nat) (k11 : sp_St → Int32 → Int32 → Int32 → Option (sp_St)) (k19 : sp_St → Int32 → Int32 → Int32 → Int32 → Option (sp_St)) (σ : sp_St) (z1 : Int32) (z2 : Int32) (z3 : Int32) (z4 : Int32) : Option (sp_St) :=
  sp_pl (z4 + 1) fun x1 =>
  k19 σ z1 z2 z3 x1
def X12_tellLosses_98 (n : Nat) (k11 : sp_St → Int32 → Int32 → Int32 → Option (sp_St)) (k19 : sp_St → Int32 → Int32 → Int32 → Int32 → Option (sp_St)) (σ : sp_St) (z1 : Int32) (z2 : Int32) (z3 : Int32) (z4 : Int32) (zs0 : Int32) : Option (sp_St) :=
  if zs0 = ((-1 : Int32)) then
    X12_tellLosses_114 n k11 k19 σ z1 z2 z3 z4
  else
    sp_bv (X12_putIn n σ z4 zs0) fun σ2 =>
    X12_tellLosses_114 n k11 k19 σ2 z1 z2 z3 z4
def X12_tellLosses_97 (n : Nat) (k11 : sp_St → Int32 → Int32 → Int32 → Option (sp_St)) (k19 : sp_St → Int32 → Int32 → Int32 → Int32 → Option (sp_St)) (σ : sp_St) (z1 : Int32) (z2 : Int32) (z3 : Int32) (z4 : Int32) : Option (sp_St) :=
  X12_tellLosses_98 n k11 k19 σ z1 z2 z3 z4 ((-1 : Int32))
def X12_tellLosses_71 (n : Nat) (k11 : sp_St → Int32 → Int32 → Int32 → Option (sp_St)) (k19 : sp_St → Int32 → Int32 → Int32 → Int32 → Option (sp_St)) (σ : sp_St) (z1 : Int32) (z2 : Int32) (z3 : Int32) (z4 : Int32) (zs0 : Int32) : Option (sp_St) :=
  if zs0 = 0 then
    X12_tellLosses_97 n k11 k19 σ z1 z2 z3 z4
  else
    sp_ck (sp_in z4 10) <|
    if (sp_g σ 15 z4) = 0 then
      sp_bd (X12_firstRoom n σ z4) fun σ3 v4 =>
      X12_tellLosses_98 n k11 k19 σ3 z1 z2 z3 z4 v4
    else
      X12_tellLosses_97 n k11 k19 σ z1 z2 z3 z4
def X12_tellLosses_70 (n : Nat) (k11 : sp_St → Int32 → Int32 → Int32 → Option (sp_St)) (k19 : sp_St → Int32 → Int32 → Int32 → Int32 → Option (sp_St)) (σ : sp_St) (z1 : Int32) (z2 : Int32) (z3 : Int32) (z4 : Int32) : Option (sp_St) :=
  X12_tellLosses_71 n k11 k19 σ z1 z2 z3 z4 ((0 : Int32))
def X12_tellLosses_66 (n : Nat) (k11 : sp_St → Int32 → Int32 → Int32 → Option (sp_St)) (k19 : sp_St → Int32 → Int32 → Int32 → Int32 → Option (sp_St)) (σ : sp_St) (z1 : Int32) (z2 : Int32) (z3 : Int32) (z4 : Int32) : Option (sp_St) :=
  X12_tellLosses_71 n k11 k19 σ z1 z2 z3 z4 ((1 : Int32))
def X12_tellLosses_48 (n : Nat) (k11 : sp_St → Int32 → Int32 → Int32 → Option (sp_St)) (k19 : sp_St → Int32 → Int32 → Int32 → Int32 → Option (sp_St)) (σ : sp_St) (z1 : Int32) (z2 : Int32) (z3 : Int32) (z4 : Int32) : Option (sp_St) :=
  sp_ck (sp_in z4 20) <|
  if (sp_g σ 7 z4) = z2 then
    sp_ck (!decide (((2 : Int32)) = 0)) <|
    if (z3 - z3 / ((2 : Int32)) * ((2 : Int32))) = ((1 : Int32)) then
      X12_tellLosses_66 n k11 k19 σ z1 z2 z3 z4
    else
      X12_tellLosses_70 n k11 k19 σ z1 z2 z3 z4
  else
    X12_tellLosses_70 n k11 k19 σ z1 z2 z3 z4
def X12_tellLosses_19 (n : Nat) (k11 : sp_St → Int32 → Int32 → Int32 → Option (sp_St)) : Nat → sp_St → Int32 → Int32 → Int32 → Int32 → Option (sp_St)
  | 0, _, _, _, _, _ => none
  | f + 1, σ, z1, z2, z3, z4 =>
    if (sp_g σ 3 ((2 : Int32))) ≤ z4 then
      X12_tellLosses_120 n k11 σ z1 z2 z3
    else
      sp_ck (sp_in z4 20) <|
      if (sp_g σ 7 z4) = z1 then
        sp_ck (!decide (((2 : Int32)) = 0)) <|
        if (z3 / ((2 : Int32))) = ((1 : Int32)) then
          X12_tellLosses_66 n k11 (X12_tellLosses_19 n k11 f) σ z1 z2 z3 z4
        else
          X12_tellLosses_48 n k11 (X12_tellLosses_19 n k11 f) σ z1 z2 z3 z4
      else
        X12_tellLosses_48 n k11 (X12_tellLosses_19 n k11 f) σ z1 z2 z3 z4
def X12_tellLosses_11 (n : Nat) : Nat → sp_St → Int32 → Int32 → Int32 → Option (sp_St)
  | 0, _, _, _, _ => none
  | f + 1, σ, z1, z2, z3 =>
    if ((4 : Int32)) ≤ z3 then
      some σ
    else
      sp_pl ((0 : Int32)) fun x1 =>
      X12_tellLosses_19 n (X12_tellLosses_11 n f) n σ z1 z2 z3 x1
def X12_tellLosses (n : Nat)  (σ : sp_St) (a1 : Int32) (a2 : Int32) : Option (sp_St) :=
  sp_bv (X12_pack n σ 25 88 ((0 : Int32))) fun σ2 =>
  sp_pl ((0 : Int32)) fun x3 =>
  X12_tellLosses_11 n n σ2 a1 a2 x3
set_option maxRecDepth 100000 in
set_option maxHeartbeats 4000000 in
theorem hX12_tellLosses_144 {X : sp_X} (hX : sp_OK shM X cX12_tellLosses RX12 7 rmX12_tellLosses) {τ : sp_St} (hR : sp_Rv shM X τ 0 0) {n : Nat}   {k11 : sp_St → Int32 → Int32 → Int32 → Option (sp_St)} (hk11 : ∀ (σ : sp_St) (z1 : Int32) (z2 : Int32) (z3 : Int32), k11 σ z1 z2 z3 = some τ → sp_GG shM X σ 7 [some (.ref (sx_ad X 0)), some (.int z1), some (.int z2), some (.int z3), none, none, none] [] 11 0 0) {σ : sp_St} {z1 : Int32} {z2 : Int32} {z3 : Int32} (hf : X12_tellLosses_144 n k11 σ z1 z2 z3 = some τ) : sp_GG shM X σ 7 [some (.ref (sx_ad X 0)), some (.int z1), some (.int z2), some (.int z3), none, none, none] [] 144 0 0 := by
  unfold X12_tellLosses_144 at hf
  refine sp_aload_n (i := 0) (q := 145) hX dX12_tellLosses_144 rfl rfl rfl ?_
  refine sp_bipush (v := 10) (q := 147) hX dX12_tellLosses_145 lb_10 rfl ?_
  obtain ⟨σ2, h1, hf⟩ := sp_bv_so hf
  refine sp_callVv (As := [.int ((10 : Int32))]) (rest := []) (q := 150) hX (cnX12_goOn (sp_st hX)  h1) cwX12_426 atM_0 rfl rfl rfl rfl rfl (Nat.le_of_ble_eq_true rfl) (Nat.le_of_ble_eq_true rfl) (Nat.le_of_ble_eq_true rfl) (Nat.le_of_ble_eq_true rfl) (Nat.le_of_ble_eq_true rfl) dX12_tellLosses_147 rfl ?_
  refine sp_aload_n (i := 0) (q := 151) hX dX12_tellLosses_150 rfl rfl rfl ?_
  refine sp_gets (t := 36) (q := 154) hX flX12_137 fkX12_53 atM_0 srM_0_53 dX12_tellLosses_151 rfl ?_
  refine sp_iconst (v := 2) (q := 155) hX dX12_tellLosses_154 li_2 rfl ?_
  refine sp_iload_n (i := 3) (q := 156) hX dX12_tellLosses_155 rfl rfl rfl ?_
  refine sp_imul (q := 157) hX dX12_tellLosses_156 rfl ?_
  refine sp_iconst (v := 5) (q := 158) hX dX12_tellLosses_157 li_5 rfl ?_
  refine sp_aload_n (i := 0) (q := 159) hX dX12_tellLosses_158 rfl rfl rfl ?_
  refine sp_gets (t := 24) (q := 162) hX flX12_99 fkX12_40 atM_0 srM_0_40 dX12_tellLosses_159 rfl ?_
  refine sp_iload_n (i := 1) (q := 163) hX dX12_tellLosses_162 rfl rfl rfl ?_
  obtain ⟨h3, hf⟩ := sp_ck_some hf
  refine sp_iald (q := 164) hX arM_24 h3 dX12_tellLosses_163 rfl ?_
  refine sp_imul (q := 165) hX dX12_tellLosses_164 rfl ?_
  refine sp_aload_n (i := 0) (q := 166) hX dX12_tellLosses_165 rfl rfl rfl ?_
  refine sp_iload_n (i := 1) (q := 167) hX dX12_tellLosses_166 rfl rfl rfl ?_
  obtain ⟨σ5, v6, h4, hf⟩ := sp_bd_so hf
  refine sp_callVi (As := [.int z1]) (rest := [.int (((5 : Int32)) * (sp_g σ2 24 z1)), .int (((2 : Int32)) * z3), .ref (sx_ad X 36)]) (q := 170) hX (cnX12_insideOf (sp_st hX)  h4) cwX12_476 atM_0 rfl rfl rfl rfl rfl (Nat.le_of_ble_eq_true rfl) (Nat.le_of_ble_eq_true rfl) (Nat.le_of_ble_eq_true rfl) (Nat.le_of_ble_eq_true rfl) (Nat.le_of_ble_eq_true rfl) dX12_tellLosses_167 rfl ?_
  refine sp_iadd (q := 171) hX dX12_tellLosses_170 rfl ?_
  obtain ⟨h7, hf⟩ := sp_ck_some hf
  obtain ⟨σ8, e9, hf⟩ := sp_pl_some hf
  refine sp_iast (q := 172) hX arM_36 h7 dX12_tellLosses_171 rfl ?_
  refine sp_nms e9 ?_
  refine sp_aload_n (i := 0) (q := 173) hX dX12_tellLosses_172 rfl rfl rfl ?_
  refine sp_gets (t := 36) (q := 176) hX flX12_137 fkX12_53 atM_0 srM_0_53 dX12_tellLosses_173 rfl ?_
  refine sp_iconst (v := 2) (q := 177) hX dX12_tellLosses_176 li_2 rfl ?_
  refine sp_iload_n (i := 3) (q := 178) hX dX12_tellLosses_177 rfl rfl rfl ?_
  refine sp_imul (q := 179) hX dX12_tellLosses_178 rfl ?_
  refine sp_iconst (v := 1) (q := 180) hX dX12_tellLosses_179 li_1 rfl ?_
  refine sp_iadd (q := 181) hX dX12_tellLosses_180 rfl ?_
  refine sp_iconst (v := 5) (q := 182) hX dX12_tellLosses_181 li_5 rfl ?_
  refine sp_aload_n (i := 0) (q := 183) hX dX12_tellLosses_182 rfl rfl rfl ?_
  refine sp_gets (t := 24) (q := 186) hX flX12_99 fkX12_40 atM_0 srM_0_40 dX12_tellLosses_183 rfl ?_
  refine sp_iload_n (i := 2) (q := 187) hX dX12_tellLosses_186 rfl rfl rfl ?_
  obtain ⟨h10, hf⟩ := sp_ck_some hf
  refine sp_iald (q := 188) hX arM_24 h10 dX12_tellLosses_187 rfl ?_
  refine sp_imul (q := 189) hX dX12_tellLosses_188 rfl ?_
  refine sp_aload_n (i := 0) (q := 190) hX dX12_tellLosses_189 rfl rfl rfl ?_
  refine sp_iload_n (i := 2) (q := 191) hX dX12_tellLosses_190 rfl rfl rfl ?_
  obtain ⟨σ12, v13, h11, hf⟩ := sp_bd_so hf
  refine sp_callVi (As := [.int z2]) (rest := [.int (((5 : Int32)) * (sp_g σ8 24 z2)), .int ((((2 : Int32)) * z3) + ((1 : Int32))), .ref (sx_ad X 36)]) (q := 194) hX (cnX12_insideOf (sp_st hX)  h11) cwX12_476 atM_0 rfl rfl rfl rfl rfl (Nat.le_of_ble_eq_true rfl) (Nat.le_of_ble_eq_true rfl) (Nat.le_of_ble_eq_true rfl) (Nat.le_of_ble_eq_true rfl) (Nat.le_of_ble_eq_true rfl) dX12_tellLosses_191 rfl ?_
  refine sp_iadd (q := 195) hX dX12_tellLosses_194 rfl ?_
  obtain ⟨h14, hf⟩ := sp_ck_some hf
  obtain ⟨σ15, e16, hf⟩ := sp_pl_some hf
  refine sp_iast (q := 196) hX arM_36 h14 dX12_tellLosses_195 rfl ?_
  refine sp_nms e16 ?_
  refine sp_aload_n (i := 0) (q := 197) hX dX12_tellLosses_196 rfl rfl rfl ?_
  refine sp_aload_n (i := 0) (q := 198) hX dX12_tellLosses_197 rfl rfl rfl ?_
  refine sp_gets (t := 25) (q := 201) hX flX12_102 fkX12_41 atM_0 srM_0_41 dX12_tellLosses_198 rfl ?_
  refine sp_iconst (v := 0) (q := 202) hX dX12_tellLosses_201 li_0 rfl ?_
  obtain ⟨σ18, h17, hf⟩ := sp_bv_so hf
  refine sp_callVv (As := [.ref (sx_ad X 25), .int ((0 : Int32))]) (rest := []) (q := 205) hX (cnX12_unpack (sp_st hX) arM_25 h17) cwX12_432 atM_0 rfl rfl rfl rfl rfl (Nat.le_of_ble_eq_true rfl) (Nat.le_of_ble_eq_true rfl) (Nat.le_of_ble_eq_true rfl) (Nat.le_of_ble_eq_true rfl) (Nat.le_of_ble_eq_true rfl) dX12_tellLosses_202 rfl ?_
  obtain ⟨x19, e20, hf⟩ := sp_pl_some hf
  refine sp_iinc (i := 3) (v := x19) (lv' := [some (.ref (sx_ad X 0)), some (.int z1), some (.int z2), some (.int x19), none, none, none]) (q := 208) hX dX12_tellLosses_205 rfl (by rw [e20, li_1]) (Nat.le_of_ble_eq_true rfl) rfl rfl rfl ?_
  refine sp_goto (tgt := 11) hX dX12_tellLosses_208 (by decide) ?_
  exact hk11 σ18 z1 z2 x19 hf
set_option maxRecDepth 100000 in
set_option maxHeartbeats 4000000 in
theorem hX12_tellLosses_123 {X : sp_X} (hX : sp_OK shM X cX12_tellLosses RX12 7 rmX12_tellLosses) {τ : sp_St} (hR : sp_Rv shM X τ 0 0) {n : Nat}   {k11 : sp_St → Int32 → Int32 → Int32 → Option (sp_St)} (hk11 : ∀ (σ : sp_St) (z1 : Int32) (z2 : Int32) (z3 : Int32), k11 σ z1 z2 z3 = some τ → sp_GG shM X σ 7 [some (.ref (sx_ad X 0)), some (.int z1), some (.int z2), some (.int z3), none, none, none] [] 11 0 0) : ∀ (f : Nat) (σ : sp_St) (z1 : Int32) (z2 : Int32) (z3 : Int32) (z4 : Int32), X12_tellLosses_123 n k11 f σ z1 z2 z3 z4 = some τ → sp_GG shM X σ 7 [some (.ref (sx_ad X 0)), some (.int z1), some (.int z2), some (.int z3), some (.int z4), none, none] [] 123 0 0 := by
  intro f
  induction f with
  | zero =>
    intro σ z1 z2 z3 z4 hf
    rw [X12_tellLosses_123] at hf
    cases hf
  | succ f ih =>
    intro σ z1 z2 z3 z4 hf
    rw [X12_tellLosses_123] at hf
    refine sp_iload (i := 4) (q := 125) hX dX12_tellLosses_123 rfl rfl ?_
    refine sp_bipush (v := 6) (q := 127) hX dX12_tellLosses_125 lb_6 rfl ?_
    refine sp_icmp_ge (tgt := 144) (q := 130) hX dX12_tellLosses_127 (by decide) rfl (fun hc => ?_) (fun hc => ?_)
    · rw [if_pos hc] at hf
      refine sp_drop (lv' := [some (.ref (sx_ad X 0)), some (.int z1), some (.int z2), some (.int z3), none, none, none]) (And.intro rfl (And.intro rfl (And.intro rfl (And.intro rfl trivial)))) ?_
      exact hX12_tellLosses_144 hX hR hk11 hf
    · rw [if_neg hc] at hf
      refine sp_aload_n (i := 0) (q := 131) hX dX12_tellLosses_130 rfl rfl rfl ?_
      refine sp_gets (t := 24) (q := 134) hX flX12_99 fkX12_40 atM_0 srM_0_40 dX12_tellLosses_131 rfl ?_
      refine sp_iload (i := 4) (q := 136) hX dX12_tellLosses_134 rfl rfl ?_
      refine sp_iconst (v := 0) (q := 137) hX dX12_tellLosses_136 li_0 rfl ?_
      obtain ⟨h1, hf⟩ := sp_ck_some hf
      obtain ⟨σ2, e3, hf⟩ := sp_pl_some hf
      refine sp_iast (q := 138) hX arM_24 h1 dX12_tellLosses_137 rfl ?_
      refine sp_nms e3 ?_
      obtain ⟨x4, e5, hf⟩ := sp_pl_some hf
      refine sp_iinc (i := 4) (v := x4) (lv' := [some (.ref (sx_ad X 0)), some (.int z1), some (.int z2), some (.int z3), some (.int x4), none, none]) (q := 141) hX dX12_tellLosses_138 rfl (by rw [e5, li_1]) (Nat.le_of_ble_eq_true rfl) rfl rfl rfl ?_
      refine sp_goto (tgt := 123) hX dX12_tellLosses_141 (by decide) ?_
      exact ih σ2 z1 z2 z3 x4 hf
set_option maxRecDepth 100000 in
set_option maxHeartbeats 4000000 in
theorem hX12_tellLosses_120 {X : sp_X} (hX : sp_OK shM X cX12_tellLosses RX12 7 rmX12_tellLosses) {τ : sp_St} (hR : sp_Rv shM X τ 0 0) {n : Nat}   {k11 : sp_St → Int32 → Int32 → Int32 → Option (sp_St)} (hk11 : ∀ (σ : sp_St) (z1 : Int32) (z2 : Int32) (z3 : Int32), k11 σ z1 z2 z3 = some τ → sp_GG shM X σ 7 [some (.ref (sx_ad X 0)), some (.int z1), some (.int z2), some (.int z3), none, none, none] [] 11 0 0) {σ : sp_St} {z1 : Int32} {z2 : Int32} {z3 : Int32} (hf : X12_tellLosses_120 n k11 σ z1 z2 z3 = some τ) : sp_GG shM X σ 7 [some (.ref (sx_ad X 0)), some (.int z1), some (.int z2), some (.int z3), none, none, none] [] 120 0 0 := by
  unfold X12_tellLosses_120 at hf
  refine sp_iconst (v := 0) (q := 121) hX dX12_tellLosses_120 li_0 rfl ?_
  obtain ⟨x1, e2, hf⟩ := sp_pl_some hf
  refine sp_nmi e2 ?_
  refine sp_istore (i := 4) (lv' := [some (.ref (sx_ad X 0)), some (.int z1), some (.int z2), some (.int z3), some (.int x1), none, none]) (q := 123) hX dX12_tellLosses_121 (Nat.le_of_ble_eq_true rfl) rfl rfl rfl ?_
  exact hX12_tellLosses_123 hX hR hk11 n σ z1 z2 z3 x1 hf
set_option maxRecDepth 100000 in
set_option maxHeartbeats 4000000 in
theorem hX12_tellLosses_114 {X : sp_X} (hX : sp_OK shM X cX12_tellLosses RX12 7 rmX12_tellLosses) {τ : sp_St} (hR : sp_Rv shM X τ 0 0) {n : Nat}   {k11 : sp_St → Int32 → Int32 → Int32 → Option (sp_St)} (hk11 : ∀ (σ : sp_St) (z1 : Int32) (z2 : Int32) (z3 : Int32), k11 σ z1 z2 z3 = some τ → sp_GG shM X σ 7 [some (.ref (sx_ad X 0)), some (.int z1), some (.int z2), some (.int z3), none, none, none] [] 11 0 0) {k19 : sp_St → Int32 → Int32 → Int32 → Int32 → Option (sp_St)} (hk19 : ∀ (σ : sp_St) (z1 : Int32) (z2 : Int32) (z3 : Int32) (z4 : Int32), k19 σ z1 z2 z3 z4 = some τ → sp_GG shM X σ 7 [some (.ref (sx_ad X 0)), some (.int z1), some (.int z2), some (.int z3), some (.int z4), none, none] [] 19 0 0) {σ : sp_St} {z1 : Int32} {z2 : Int32} {z3 : Int32} {z4 : Int32} (hf : X12_tellLosses_114 n k11 k19 σ z1 z2 z3 z4 = some τ) : sp_GG shM X σ 7 [some (.ref (sx_ad X 0)), some (.int z1), some (.int z2), some (.int z3), some (.int z4), none, none] [] 114 0 0 := by
  unfold X12_tellLosses_114 at hf
  obtain ⟨x1, e2, hf⟩ := sp_pl_some hf
  refine sp_iinc (i := 4) (v := x1) (lv' := [some (.ref (sx_ad X 0)), some (.int z1), some (.int z2), some (.int z3), some (.int x1), none, none]) (q := 117) hX dX12_tellLosses_114 rfl (by rw [e2, li_1]) (Nat.le_of_ble_eq_true rfl) rfl rfl rfl ?_
  refine sp_goto (tgt := 19) hX dX12_tellLosses_117 (by decide) ?_
  exact hk19 σ z1 z2 z3 x1 hf
set_option maxRecDepth 100000 in
set_option maxHeartbeats 4000000 in
theorem hX12_tellLosses_98 {X : sp_X} (hX : sp_OK shM X cX12_tellLosses RX12 7 rmX12_tellLosses) {τ : sp_St} (hR : sp_Rv shM X τ 0 0) {n : Nat}   {k11 : sp_St → Int32 → Int32 → Int32 → Option (sp_St)} (hk11 : ∀ (σ : sp_St) (z1 : Int32) (z2 : Int32) (z3 : Int32), k11 σ z1 z2 z3 = some τ → sp_GG shM X σ 7 [some (.ref (sx_ad X 0)), some (.int z1), some (.int z2), some (.int z3), none, none, none] [] 11 0 0) {k19 : sp_St → Int32 → Int32 → Int32 → Int32 → Option (sp_St)} (hk19 : ∀ (σ : sp_St) (z1 : Int32) (z2 : Int32) (z3 : Int32) (z4 : Int32), k19 σ z1 z2 z3 z4 = some τ → sp_GG shM X σ 7 [some (.ref (sx_ad X 0)), some (.int z1), some (.int z2), some (.int z3), some (.int z4), none, none] [] 19 0 0) {σ : sp_St} {z1 : Int32} {z2 : Int32} {z3 : Int32} {z4 : Int32} {zs0 : Int32} (hf : X12_tellLosses_98 n k11 k19 σ z1 z2 z3 z4 zs0 = some τ) : sp_GG shM X σ 7 [some (.ref (sx_ad X 0)), some (.int z1), some (.int z2), some (.int z3), some (.int z4), none, none] [.int zs0] 98 0 0 := by
  unfold X12_tellLosses_98 at hf
  refine sp_istore (i := 6) (lv' := [some (.ref (sx_ad X 0)), some (.int z1), some (.int z2), some (.int z3), some (.int z4), none, some (.int zs0)]) (q := 100) hX dX12_tellLosses_98 (Nat.le_of_ble_eq_true rfl) rfl rfl rfl ?_
  refine sp_iload (i := 6) (q := 102) hX dX12_tellLosses_100 rfl rfl ?_
  refine sp_iconst (v := -1) (q := 103) hX dX12_tellLosses_102 li_m1 rfl ?_
  refine sp_icmp_eq (tgt := 114) (q := 106) hX dX12_tellLosses_103 (by decide) rfl (fun hc => ?_) (fun hc => ?_)
  · rw [if_pos hc] at hf
    refine sp_drop (lv' := [some (.ref (sx_ad X 0)), some (.int z1), some (.int z2), some (.int z3), some (.int z4), none, none]) (And.intro rfl (And.intro rfl (And.intro rfl (And.intro rfl (And.intro rfl trivial))))) ?_
    exact hX12_tellLosses_114 hX hR hk11 hk19 hf
  · rw [if_neg hc] at hf
    refine sp_aload_n (i := 0) (q := 107) hX dX12_tellLosses_106 rfl rfl rfl ?_
    refine sp_iload (i := 4) (q := 109) hX dX12_tellLosses_107 rfl rfl ?_
    refine sp_iload (i := 6) (q := 111) hX dX12_tellLosses_109 rfl rfl ?_
    obtain ⟨σ2, h1, hf⟩ := sp_bv_so hf
    refine sp_callVv (As := [.int z4, .int zs0]) (rest := []) (q := 114) hX (cnX12_putIn (sp_st hX)  h1) cwX12_429 atM_0 rfl rfl rfl rfl rfl (Nat.le_of_ble_eq_true rfl) (Nat.le_of_ble_eq_true rfl) (Nat.le_of_ble_eq_true rfl) (Nat.le_of_ble_eq_true rfl) (Nat.le_of_ble_eq_true rfl) dX12_tellLosses_111 rfl ?_
    refine sp_drop (lv' := [some (.ref (sx_ad X 0)), some (.int z1), some (.int z2), some (.int z3), some (.int z4), none, none]) (And.intro rfl (And.intro rfl (And.intro rfl (And.intro rfl (And.intro rfl trivial))))) ?_
    exact hX12_tellLosses_114 hX hR hk11 hk19 hf
set_option maxRecDepth 100000 in
set_option maxHeartbeats 4000000 in
theorem hX12_tellLosses_97 {X : sp_X} (hX : sp_OK shM X cX12_tellLosses RX12 7 rmX12_tellLosses) {τ : sp_St} (hR : sp_Rv shM X τ 0 0) {n : Nat}   {k11 : sp_St → Int32 → Int32 → Int32 → Option (sp_St)} (hk11 : ∀ (σ : sp_St) (z1 : Int32) (z2 : Int32) (z3 : Int32), k11 σ z1 z2 z3 = some τ → sp_GG shM X σ 7 [some (.ref (sx_ad X 0)), some (.int z1), some (.int z2), some (.int z3), none, none, none] [] 11 0 0) {k19 : sp_St → Int32 → Int32 → Int32 → Int32 → Option (sp_St)} (hk19 : ∀ (σ : sp_St) (z1 : Int32) (z2 : Int32) (z3 : Int32) (z4 : Int32), k19 σ z1 z2 z3 z4 = some τ → sp_GG shM X σ 7 [some (.ref (sx_ad X 0)), some (.int z1), some (.int z2), some (.int z3), some (.int z4), none, none] [] 19 0 0) {σ : sp_St} {z1 : Int32} {z2 : Int32} {z3 : Int32} {z4 : Int32} (hf : X12_tellLosses_97 n k11 k19 σ z1 z2 z3 z4 = some τ) : sp_GG shM X σ 7 [some (.ref (sx_ad X 0)), some (.int z1), some (.int z2), some (.int z3), some (.int z4), none, none] [] 97 0 0 := by
  unfold X12_tellLosses_97 at hf
  refine sp_iconst (v := -1) (q := 98) hX dX12_tellLosses_97 li_m1 rfl ?_
  exact hX12_tellLosses_98 hX hR hk11 hk19 hf
set_option maxRecDepth 100000 in
set_option maxHeartbeats 4000000 in
theorem hX12_tellLosses_71 {X : sp_X} (hX : sp_OK shM X cX12_tellLosses RX12 7 rmX12_tellLosses) {τ : sp_St} (hR : sp_Rv shM X τ 0 0) {n : Nat}   {k11 : sp_St → Int32 → Int32 → Int32 → Option (sp_St)} (hk11 : ∀ (σ : sp_St) (z1 : Int32) (z2 : Int32) (z3 : Int32), k11 σ z1 z2 z3 = some τ → sp_GG shM X σ 7 [some (.ref (sx_ad X 0)), some (.int z1), some (.int z2), some (.int z3), none, none, none] [] 11 0 0) {k19 : sp_St → Int32 → Int32 → Int32 → Int32 → Option (sp_St)} (hk19 : ∀ (σ : sp_St) (z1 : Int32) (z2 : Int32) (z3 : Int32) (z4 : Int32), k19 σ z1 z2 z3 z4 = some τ → sp_GG shM X σ 7 [some (.ref (sx_ad X 0)), some (.int z1), some (.int z2), some (.int z3), some (.int z4), none, none] [] 19 0 0) {σ : sp_St} {z1 : Int32} {z2 : Int32} {z3 : Int32} {z4 : Int32} {zs0 : Int32} (hf : X12_tellLosses_71 n k11 k19 σ z1 z2 z3 z4 zs0 = some τ) : sp_GG shM X σ 7 [some (.ref (sx_ad X 0)), some (.int z1), some (.int z2), some (.int z3), some (.int z4), none, none] [.int zs0] 71 0 0 := by
  unfold X12_tellLosses_71 at hf
  refine sp_istore (i := 5) (lv' := [some (.ref (sx_ad X 0)), some (.int z1), some (.int z2), some (.int z3), some (.int z4), some (.int zs0), none]) (q := 73) hX dX12_tellLosses_71 (Nat.le_of_ble_eq_true rfl) rfl rfl rfl ?_
  refine sp_iload (i := 5) (q := 75) hX dX12_tellLosses_73 rfl rfl ?_
  refine sp_if_eq (tgt := 97) (q := 78) hX dX12_tellLosses_75 (by decide) rfl (fun hc => ?_) (fun hc => ?_)
  · rw [if_pos hc] at hf
    refine sp_drop (lv' := [some (.ref (sx_ad X 0)), some (.int z1), some (.int z2), some (.int z3), some (.int z4), none, none]) (And.intro rfl (And.intro rfl (And.intro rfl (And.intro rfl (And.intro rfl trivial))))) ?_
    exact hX12_tellLosses_97 hX hR hk11 hk19 hf
  · rw [if_neg hc] at hf
    refine sp_aload_n (i := 0) (q := 79) hX dX12_tellLosses_78 rfl rfl rfl ?_
    refine sp_gets (t := 15) (q := 82) hX flX12_72 fkX12_27 atM_0 srM_0_27 dX12_tellLosses_79 rfl ?_
    refine sp_iload (i := 4) (q := 84) hX dX12_tellLosses_82 rfl rfl ?_
    obtain ⟨h1, hf⟩ := sp_ck_some hf
    refine sp_iald (q := 85) hX arM_15 h1 dX12_tellLosses_84 rfl ?_
    refine sp_if_ne (tgt := 97) (q := 88) hX dX12_tellLosses_85 (by decide) rfl (fun hc => ?_) (fun hc => ?_)
    · rw [if_neg hc] at hf
      refine sp_drop (lv' := [some (.ref (sx_ad X 0)), some (.int z1), some (.int z2), some (.int z3), some (.int z4), none, none]) (And.intro rfl (And.intro rfl (And.intro rfl (And.intro rfl (And.intro rfl trivial))))) ?_
      exact hX12_tellLosses_97 hX hR hk11 hk19 hf
    · rw [if_pos hc] at hf
      refine sp_aload_n (i := 0) (q := 89) hX dX12_tellLosses_88 rfl rfl rfl ?_
      refine sp_iload (i := 4) (q := 91) hX dX12_tellLosses_89 rfl rfl ?_
      obtain ⟨σ3, v4, h2, hf⟩ := sp_bd_so hf
      refine sp_callVi (As := [.int z4]) (rest := []) (q := 94) hX (cnX12_firstRoom (sp_st hX)  h2) cwX12_451 atM_0 rfl rfl rfl rfl rfl (Nat.le_of_ble_eq_true rfl) (Nat.le_of_ble_eq_true rfl) (Nat.le_of_ble_eq_true rfl) (Nat.le_of_ble_eq_true rfl) (Nat.le_of_ble_eq_true rfl) dX12_tellLosses_91 rfl ?_
      refine sp_goto (tgt := 98) hX dX12_tellLosses_94 (by decide) ?_
      refine sp_drop (lv' := [some (.ref (sx_ad X 0)), some (.int z1), some (.int z2), some (.int z3), some (.int z4), none, none]) (And.intro rfl (And.intro rfl (And.intro rfl (And.intro rfl (And.intro rfl trivial))))) ?_
      exact hX12_tellLosses_98 hX hR hk11 hk19 hf
set_option maxRecDepth 100000 in
set_option maxHeartbeats 4000000 in
theorem hX12_tellLosses_70 {X : sp_X} (hX : sp_OK shM X cX12_tellLosses RX12 7 rmX12_tellLosses) {τ : sp_St} (hR : sp_Rv shM X τ 0 0) {n : Nat}   {k11 : sp_St → Int32 → Int32 → Int32 → Option (sp_St)} (hk11 : ∀ (σ : sp_St) (z1 : Int32) (z2 : Int32) (z3 : Int32), k11 σ z1 z2 z3 = some τ → sp_GG shM X σ 7 [some (.ref (sx_ad X 0)), some (.int z1), some (.int z2), some (.int z3), none, none, none] [] 11 0 0) {k19 : sp_St → Int32 → Int32 → Int32 → Int32 → Option (sp_St)} (hk19 : ∀ (σ : sp_St) (z1 : Int32) (z2 : Int32) (z3 : Int32) (z4 : Int32), k19 σ z1 z2 z3 z4 = some τ → sp_GG shM X σ 7 [some (.ref (sx_ad X 0)), some (.int z1), some (.int z2), some (.int z3), some (.int z4), none, none] [] 19 0 0) {σ : sp_St} {z1 : Int32} {z2 : Int32} {z3 : Int32} {z4 : Int32} (hf : X12_tellLosses_70 n k11 k19 σ z1 z2 z3 z4 = some τ) : sp_GG shM X σ 7 [some (.ref (sx_ad X 0)), some (.int z1), some (.int z2), some (.int z3), some (.int z4), none, none] [] 70 0 0 := by
  unfold X12_tellLosses_70 at hf
  refine sp_iconst (v := 0) (q := 71) hX dX12_tellLosses_70 li_0 rfl ?_
  exact hX12_tellLosses_71 hX hR hk11 hk19 hf
set_option maxRecDepth 100000 in
set_option maxHeartbeats 4000000 in
theorem hX12_tellLosses_66 {X : sp_X} (hX : sp_OK shM X cX12_tellLosses RX12 7 rmX12_tellLosses) {τ : sp_St} (hR : sp_Rv shM X τ 0 0) {n : Nat}   {k11 : sp_St → Int32 → Int32 → Int32 → Option (sp_St)} (hk11 : ∀ (σ : sp_St) (z1 : Int32) (z2 : Int32) (z3 : Int32), k11 σ z1 z2 z3 = some τ → sp_GG shM X σ 7 [some (.ref (sx_ad X 0)), some (.int z1), some (.int z2), some (.int z3), none, none, none] [] 11 0 0) {k19 : sp_St → Int32 → Int32 → Int32 → Int32 → Option (sp_St)} (hk19 : ∀ (σ : sp_St) (z1 : Int32) (z2 : Int32) (z3 : Int32) (z4 : Int32), k19 σ z1 z2 z3 z4 = some τ → sp_GG shM X σ 7 [some (.ref (sx_ad X 0)), some (.int z1), some (.int z2), some (.int z3), some (.int z4), none, none] [] 19 0 0) {σ : sp_St} {z1 : Int32} {z2 : Int32} {z3 : Int32} {z4 : Int32} (hf : X12_tellLosses_66 n k11 k19 σ z1 z2 z3 z4 = some τ) : sp_GG shM X σ 7 [some (.ref (sx_ad X 0)), some (.int z1), some (.int z2), some (.int z3), some (.int z4), none, none] [] 66 0 0 := by
  unfold X12_tellLosses_66 at hf
  refine sp_iconst (v := 1) (q := 67) hX dX12_tellLosses_66 li_1 rfl ?_
  refine sp_goto (tgt := 71) hX dX12_tellLosses_67 (by decide) ?_
  exact hX12_tellLosses_71 hX hR hk11 hk19 hf
set_option maxRecDepth 100000 in
set_option maxHeartbeats 4000000 in
theorem hX12_tellLosses_48 {X : sp_X} (hX : sp_OK shM X cX12_tellLosses RX12 7 rmX12_tellLosses) {τ : sp_St} (hR : sp_Rv shM X τ 0 0) {n : Nat}   {k11 : sp_St → Int32 → Int32 → Int32 → Option (sp_St)} (hk11 : ∀ (σ : sp_St) (z1 : Int32) (z2 : Int32) (z3 : Int32), k11 σ z1 z2 z3 = some τ → sp_GG shM X σ 7 [some (.ref (sx_ad X 0)), some (.int z1), some (.int z2), some (.int z3), none, none, none] [] 11 0 0) {k19 : sp_St → Int32 → Int32 → Int32 → Int32 → Option (sp_St)} (hk19 : ∀ (σ : sp_St) (z1 : Int32) (z2 : Int32) (z3 : Int32) (z4 : Int32), k19 σ z1 z2 z3 z4 = some τ → sp_GG shM X σ 7 [some (.ref (sx_ad X 0)), some (.int z1), some (.int z2), some (.int z3), some (.int z4), none, none] [] 19 0 0) {σ : sp_St} {z1 : Int32} {z2 : Int32} {z3 : Int32} {z4 : Int32} (hf : X12_tellLosses_48 n k11 k19 σ z1 z2 z3 z4 = some τ) : sp_GG shM X σ 7 [some (.ref (sx_ad X 0)), some (.int z1), some (.int z2), some (.int z3), some (.int z4), none, none] [] 48 0 0 := by
  unfold X12_tellLosses_48 at hf
  refine sp_aload_n (i := 0) (q := 49) hX dX12_tellLosses_48 rfl rfl rfl ?_
  refine sp_gets (t := 7) (q := 52) hX flX12_46 fkX12_8 atM_0 srM_0_8 dX12_tellLosses_49 rfl ?_
  refine sp_iload (i := 4) (q := 54) hX dX12_tellLosses_52 rfl rfl ?_
  obtain ⟨h1, hf⟩ := sp_ck_some hf
  refine sp_iald (q := 55) hX arM_7 h1 dX12_tellLosses_54 rfl ?_
  refine sp_iload_n (i := 2) (q := 56) hX dX12_tellLosses_55 rfl rfl rfl ?_
  refine sp_icmp_ne (tgt := 70) (q := 59) hX dX12_tellLosses_56 (by decide) rfl (fun hc => ?_) (fun hc => ?_)
  · rw [if_neg hc] at hf
    exact hX12_tellLosses_70 hX hR hk11 hk19 hf
  · rw [if_pos hc] at hf
    refine sp_iload_n (i := 3) (q := 60) hX dX12_tellLosses_59 rfl rfl rfl ?_
    refine sp_iconst (v := 2) (q := 61) hX dX12_tellLosses_60 li_2 rfl ?_
    obtain ⟨h2, hf⟩ := sp_ck_some hf
    refine sp_irem (q := 62) hX dX12_tellLosses_61 (sp_nz h2) rfl ?_
    refine sp_iconst (v := 1) (q := 63) hX dX12_tellLosses_62 li_1 rfl ?_
    refine sp_icmp_ne (tgt := 70) (q := 66) hX dX12_tellLosses_63 (by decide) rfl (fun hc => ?_) (fun hc => ?_)
    · rw [if_neg hc] at hf
      exact hX12_tellLosses_70 hX hR hk11 hk19 hf
    · rw [if_pos hc] at hf
      exact hX12_tellLosses_66 hX hR hk11 hk19 hf
set_option maxRecDepth 100000 in
set_option maxHeartbeats 4000000 in
theorem hX12_tellLosses_19 {X : sp_X} (hX : sp_OK shM X cX12_tellLosses RX12 7 rmX12_tellLosses) {τ : sp_St} (hR : sp_Rv shM X τ 0 0) {n : Nat}   {k11 : sp_St → Int32 → Int32 → Int32 → Option (sp_St)} (hk11 : ∀ (σ : sp_St) (z1 : Int32) (z2 : Int32) (z3 : Int32), k11 σ z1 z2 z3 = some τ → sp_GG shM X σ 7 [some (.ref (sx_ad X 0)), some (.int z1), some (.int z2), some (.int z3), none, none, none] [] 11 0 0) : ∀ (f : Nat) (σ : sp_St) (z1 : Int32) (z2 : Int32) (z3 : Int32) (z4 : Int32), X12_tellLosses_19 n k11 f σ z1 z2 z3 z4 = some τ → sp_GG shM X σ 7 [some (.ref (sx_ad X 0)), some (.int z1), some (.int z2), some (.int z3), some (.int z4), none, none] [] 19 0 0 := by
  intro f
  induction f with
  | zero =>
    intro σ z1 z2 z3 z4 hf
    rw [X12_tellLosses_19] at hf
    cases hf
  | succ f ih =>
    intro σ z1 z2 z3 z4 hf
    rw [X12_tellLosses_19] at hf
    refine sp_iload (i := 4) (q := 21) hX dX12_tellLosses_19 rfl rfl ?_
    refine sp_aload_n (i := 0) (q := 22) hX dX12_tellLosses_21 rfl rfl rfl ?_
    refine sp_gets (t := 3) (q := 25) hX flX12_33 fkX12_4 atM_0 srM_0_4 dX12_tellLosses_22 rfl ?_
    refine sp_iconst (v := 2) (q := 26) hX dX12_tellLosses_25 li_2 rfl ?_
    refine sp_iald (q := 27) hX arM_3 (by decide) dX12_tellLosses_26 rfl ?_
    refine sp_icmp_ge (tgt := 120) (q := 30) hX dX12_tellLosses_27 (by decide) rfl (fun hc => ?_) (fun hc => ?_)
    · rw [if_pos hc] at hf
      refine sp_drop (lv' := [some (.ref (sx_ad X 0)), some (.int z1), some (.int z2), some (.int z3), none, none, none]) (And.intro rfl (And.intro rfl (And.intro rfl (And.intro rfl trivial)))) ?_
      exact hX12_tellLosses_120 hX hR hk11 hf
    · rw [if_neg hc] at hf
      refine sp_aload_n (i := 0) (q := 31) hX dX12_tellLosses_30 rfl rfl rfl ?_
      refine sp_gets (t := 7) (q := 34) hX flX12_46 fkX12_8 atM_0 srM_0_8 dX12_tellLosses_31 rfl ?_
      refine sp_iload (i := 4) (q := 36) hX dX12_tellLosses_34 rfl rfl ?_
      obtain ⟨h1, hf⟩ := sp_ck_some hf
      refine sp_iald (q := 37) hX arM_7 h1 dX12_tellLosses_36 rfl ?_
      refine sp_iload_n (i := 1) (q := 38) hX dX12_tellLosses_37 rfl rfl rfl ?_
      refine sp_icmp_ne (tgt := 48) (q := 41) hX dX12_tellLosses_38 (by decide) rfl (fun hc => ?_) (fun hc => ?_)
      · rw [if_neg hc] at hf
        exact hX12_tellLosses_48 hX hR hk11 ih hf
      · rw [if_pos hc] at hf
        refine sp_iload_n (i := 3) (q := 42) hX dX12_tellLosses_41 rfl rfl rfl ?_
        refine sp_iconst (v := 2) (q := 43) hX dX12_tellLosses_42 li_2 rfl ?_
        obtain ⟨h2, hf⟩ := sp_ck_some hf
        refine sp_idiv (q := 44) hX dX12_tellLosses_43 (sp_nz h2) rfl ?_
        refine sp_iconst (v := 1) (q := 45) hX dX12_tellLosses_44 li_1 rfl ?_
        refine sp_icmp_eq (tgt := 66) (q := 48) hX dX12_tellLosses_45 (by decide) rfl (fun hc => ?_) (fun hc => ?_)
        · rw [if_pos hc] at hf
          exact hX12_tellLosses_66 hX hR hk11 ih hf
        · rw [if_neg hc] at hf
          exact hX12_tellLosses_48 hX hR hk11 ih hf
set_option maxRecDepth 100000 in
set_option maxHeartbeats 4000000 in
theorem hX12_tellLosses_11 {X : sp_X} (hX : sp_OK shM X cX12_tellLosses RX12 7 rmX12_tellLosses) {τ : sp_St} (hR : sp_Rv shM X τ 0 0) {n : Nat}    : ∀ (f : Nat) (σ : sp_St) (z1 : Int32) (z2 : Int32) (z3 : Int32), X12_tellLosses_11 n f σ z1 z2 z3 = some τ → sp_GG shM X σ 7 [some (.ref (sx_ad X 0)), some (.int z1), some (.int z2), some (.int z3), none, none, none] [] 11 0 0 := by
  intro f
  induction f with
  | zero =>
    intro σ z1 z2 z3 hf
    rw [X12_tellLosses_11] at hf
    cases hf
  | succ f ih =>
    intro σ z1 z2 z3 hf
    rw [X12_tellLosses_11] at hf
    refine sp_iload_n (i := 3) (q := 12) hX dX12_tellLosses_11 rfl rfl rfl ?_
    refine sp_iconst (v := 4) (q := 13) hX dX12_tellLosses_12 li_4 rfl ?_
    refine sp_icmp_ge (tgt := 211) (q := 16) hX dX12_tellLosses_13 (by decide) rfl (fun hc => ?_) (fun hc => ?_)
    · rw [if_pos hc] at hf
      exact sp_vret hX hR dX12_tellLosses_211 hf (Nat.le_of_ble_eq_true rfl) (Nat.le_of_ble_eq_true rfl)
    · rw [if_neg hc] at hf
      refine sp_iconst (v := 0) (q := 17) hX dX12_tellLosses_16 li_0 rfl ?_
      obtain ⟨x1, e2, hf⟩ := sp_pl_some hf
      refine sp_nmi e2 ?_
      refine sp_istore (i := 4) (lv' := [some (.ref (sx_ad X 0)), some (.int z1), some (.int z2), some (.int z3), some (.int x1), none, none]) (q := 19) hX dX12_tellLosses_17 (Nat.le_of_ble_eq_true rfl) rfl rfl rfl ?_
      exact hX12_tellLosses_19 hX hR ih n σ z1 z2 z3 x1 hf
set_option maxRecDepth 100000 in
set_option maxHeartbeats 4000000 in
theorem hX12_tellLosses {X : sp_X} (hX : sp_OK shM X cX12_tellLosses RX12 7 rmX12_tellLosses) {τ : sp_St} (hR : sp_Rv shM X τ 0 0) {n : Nat}  {σ : sp_St} {a1 : Int32} {a2 : Int32}  (hf : X12_tellLosses n σ a1 a2 = some τ) : sp_GG shM X σ 7 [some (.ref (sx_ad X 0)), some (.int a1), some (.int a2), none, none, none, none] [] 0 0 0 := by
  unfold X12_tellLosses at hf
  refine sp_aload_n (i := 0) (q := 1) hX dX12_tellLosses_0 rfl rfl rfl ?_
  refine sp_aload_n (i := 0) (q := 2) hX dX12_tellLosses_1 rfl rfl rfl ?_
  refine sp_gets (t := 25) (q := 5) hX flX12_102 fkX12_41 atM_0 srM_0_41 dX12_tellLosses_2 rfl ?_
  refine sp_iconst (v := 0) (q := 6) hX dX12_tellLosses_5 li_0 rfl ?_
  obtain ⟨σ2, h1, hf⟩ := sp_bv_so hf
  refine sp_callVv (As := [.ref (sx_ad X 25), .int ((0 : Int32))]) (rest := []) (q := 9) hX (cnX12_pack (sp_st hX) arM_25 h1) cwX12_414 atM_0 rfl rfl rfl rfl rfl (Nat.le_of_ble_eq_true rfl) (Nat.le_of_ble_eq_true rfl) (Nat.le_of_ble_eq_true rfl) (Nat.le_of_ble_eq_true rfl) (Nat.le_of_ble_eq_true rfl) dX12_tellLosses_6 rfl ?_
  refine sp_iconst (v := 0) (q := 10) hX dX12_tellLosses_9 li_0 rfl ?_
  obtain ⟨x3, e4, hf⟩ := sp_pl_some hf
  refine sp_nmi e4 ?_
  refine sp_istore_n (i := 3) (lv' := [some (.ref (sx_ad X 0)), some (.int a1), some (.int a2), some (.int x3), none, none, none]) (q := 11) hX dX12_tellLosses_10 rfl (Nat.le_of_ble_eq_true rfl) rfl rfl rfl ?_
  exact hX12_tellLosses_11 hX hR n σ2 a1 a2 x3 hf
set_option maxRecDepth 100000 in
set_option maxHeartbeats 4000000 in
theorem cnX12_tellLosses {l : Launch} (hst : l.stackTraces = false) {w : sp_Wd} {n : Nat}  {σ : sp_St} {a1 : Int32} {a2 : Int32} {τ : sp_St}  (hf : X12_tellLosses n σ a1 a2 = some τ) : sp_Cv shM l w yX12_tellLosses cX12_tellLosses 7 rmX12_tellLosses 0 0 σ [.ref (w.2.1 0), .int a1, .int a2] τ :=
  sp_cv (own := RX12) (by decide) rfl hst (Nat.le_of_ble_eq_true rfl) rfl (fun X hX hw hl hR => by subst hw; subst hl; exact hX12_tellLosses hX hR   hf)
def rmX12_game : Room := { frames := 8, cells := 0, slots := 0, locals := 180 }
def X12_game_161 (n : Nat) (σ : sp_St) (z3 : Int32) (z4 : Int32) (z5 : Int32) : Option (sp_St × Int32) :=
  sp_pl (if z3 = 0 then z4 else z5) fun v1 =>
  some (σ, v1)
def X12_game_155 (n : Nat) (k68 : sp_St → Int32 → Int32 → Int32 → Int32 → Option (sp_St × Int32)) (σ : sp_St) (z3 : Int32) (z4 : Int32) (z5 : Int32) (z6 : Int32) : Option (sp_St × Int32) :=
  sp_pl (z6 + 1) fun x1 =>
  k68 σ z3 z4 z5 x1
def X12_game_153 (n : Nat) (k68 : sp_St → Int32 → Int32 → Int32 → Int32 → Option (sp_St × Int32)) (σ : sp_St) (z3 : Int32) (z4 : Int32) (z6 : Int32) (zs0 : Int32) : Option (sp_St × Int32) :=
  X12_game_155 n k68 σ z3 z4 zs0 z6
def X12_game_68 (n : Nat) : Nat → sp_St → Int32 → Int32 → Int32 → Int32 → Option (sp_St × Int32)
  | 0, _, _, _, _, _ => none
  | f + 1, σ, z3, z4, z5, z6 =>
    if ((4 : Int32)) ≤ z6 then
      X12_game_161 n σ z3 z4 z5
    else
      sp_ck (sp_in (((2 : Int32)) * (z6 ^^^ ((2 : Int32)))) 8) <|
      sp_ck (sp_in (((2 : Int32)) * z6) 8) <|
      if (sp_g σ 36 (((2 : Int32)) * (z6 ^^^ ((2 : Int32))))) < (sp_g σ 36 (((2 : Int32)) * z6)) then
        X12_game_155 n (X12_game_68 n f) σ z3 z4 z5 z6
      else
        sp_ck (sp_in ((((2 : Int32)) * (z6 ^^^ ((1 : Int32)))) + ((1 : Int32))) 8) <|
        sp_ck (sp_in ((((2 : Int32)) * z6) + ((1 : Int32))) 8) <|
        if (sp_g σ 36 ((((2 : Int32)) * z6) + ((1 : Int32)))) ≤ (sp_g σ 36 ((((2 : Int32)) * (z6 ^^^ ((1 : Int32)))) + ((1 : Int32)))) then
          sp_pl (z4 + 1) fun x5 =>
          if z5 = ((-1 : Int32)) then
            sp_ck (!decide (((2 : Int32)) = 0)) <|
            sp_ck (!decide (((2 : Int32)) = 0)) <|
            X12_game_153 n (X12_game_68 n f) σ z3 x5 z6 ((((10 : Int32)) * (z6 / ((2 : Int32)))) + (z6 - z6 / ((2 : Int32)) * ((2 : Int32))))
          else
            X12_game_153 n (X12_game_68 n f) σ z3 x5 z6 z5
        else
          X12_game_155 n (X12_game_68 n f) σ z3 z4 z5 z6
def X12_game_28 (n : Nat) (σ : sp_St) : Option (sp_St × Int32) :=
  sp_bd (X12_fail n σ ((1 : Int32))) fun σ2 v3 =>
  some (σ2, v3)
def X12_game (n : Nat)  (σ : sp_St) (a1 : Int32) (a2 : Int32) (a3 : Int32) : Option (sp_St × Int32) :=
  sp_pl (sp_si σ 0 3 ((0 : Int32))) fun σ1 =>
  sp_bd (X12_isHouse n σ1 a1) fun σ4 v5 =>
  if v5 = 0 then
    X12_game_28 n σ4
  else
    sp_bd (X12_isHouse n σ4 a2) fun σ7 v8 =>
    if v8 = 0 then
      X12_game_28 n σ7
    else
      if a3 < 0 then
        X12_game_28 n σ7
      else
        if a3 ≤ ((1 : Int32)) then
          sp_ck (sp_in a1 6) <|
          sp_bd (X12_isOf n σ7 (sp_g σ7 19 a1) a2) fun σ11 v12 =>
          if v12 = 0 then
            sp_bd (X12_fail n σ11 ((2 : Int32))) fun σ22 v23 =>
            some (σ22, v23)
          else
            sp_bv (X12_tellLosses n σ11 a1 a2) fun σ14 =>
            sp_pl ((0 : Int32)) fun x15 =>
            sp_pl ((-1 : Int32)) fun x17 =>
            sp_pl ((0 : Int32)) fun x19 =>
            X12_game_68 n n σ14 a3 x15 x17 x19
        else
          X12_game_28 n σ7
set_option maxRecDepth 100000 in
set_option maxHeartbeats 4000000 in
theorem hX12_game_161 {X : sp_X} (hX : sp_OK shM X cX12_game RX12 7 rmX12_game) {τ : sp_St} {r : Int32} (hR : sp_Ri shM X (some .int) τ r 0 0) {n : Nat}    {σ : sp_St} {z3 : Int32} {z4 : Int32} {z5 : Int32} (hf : X12_game_161 n σ z3 z4 z5 = some (τ, r)) : sp_GG shM X σ 7 [none, none, none, some (.int z3), some (.int z4), some (.int z5), none] [] 161 0 0 := by
  unfold X12_game_161 at hf
  refine sp_iload_n (i := 3) (q := 162) hX dX12_game_161 rfl rfl rfl ?_
  obtain ⟨v1, e2, hf⟩ := sp_pl_some hf
  have hj3 : sp_GG shM X σ 7 [none, none, none, some (.int z3), some (.int z4), some (.int z5), none] [.int v1] 172 0 0 := by
    exact sp_iret hX hR dX12_game_172 hf (Nat.le_of_ble_eq_true rfl) (Nat.le_of_ble_eq_true rfl)
  refine sp_if_ne (tgt := 170) (q := 165) hX dX12_game_162 (by decide) rfl (fun hc => ?_) (fun hc => ?_)
  · refine sp_iload (i := 5) (q := 172) hX dX12_game_170 rfl rfl ?_
    exact sp_nmi (by rw [e2, if_neg hc]) hj3
  · refine sp_iload (i := 4) (q := 167) hX dX12_game_165 rfl rfl ?_
    refine sp_goto (tgt := 172) hX dX12_game_167 (by decide) ?_
    exact sp_nmi (by rw [e2, if_pos hc]) hj3
set_option maxRecDepth 100000 in
set_option maxHeartbeats 4000000 in
theorem hX12_game_155 {X : sp_X} (hX : sp_OK shM X cX12_game RX12 7 rmX12_game) {τ : sp_St} {r : Int32} (hR : sp_Ri shM X (some .int) τ r 0 0) {n : Nat}   {k68 : sp_St → Int32 → Int32 → Int32 → Int32 → Option (sp_St × Int32)} (hk68 : ∀ (σ : sp_St) (z3 : Int32) (z4 : Int32) (z5 : Int32) (z6 : Int32), k68 σ z3 z4 z5 z6 = some (τ, r) → sp_GG shM X σ 7 [some (.ref (sx_ad X 0)), none, none, some (.int z3), some (.int z4), some (.int z5), some (.int z6)] [] 68 0 0) {σ : sp_St} {z3 : Int32} {z4 : Int32} {z5 : Int32} {z6 : Int32} (hf : X12_game_155 n k68 σ z3 z4 z5 z6 = some (τ, r)) : sp_GG shM X σ 7 [some (.ref (sx_ad X 0)), none, none, some (.int z3), some (.int z4), some (.int z5), some (.int z6)] [] 155 0 0 := by
  unfold X12_game_155 at hf
  obtain ⟨x1, e2, hf⟩ := sp_pl_some hf
  refine sp_iinc (i := 6) (v := x1) (lv' := [some (.ref (sx_ad X 0)), none, none, some (.int z3), some (.int z4), some (.int z5), some (.int x1)]) (q := 158) hX dX12_game_155 rfl (by rw [e2, li_1]) (Nat.le_of_ble_eq_true rfl) rfl rfl rfl ?_
  refine sp_goto (tgt := 68) hX dX12_game_158 (by decide) ?_
  exact hk68 σ z3 z4 z5 x1 hf
set_option maxRecDepth 100000 in
set_option maxHeartbeats 4000000 in
theorem hX12_game_153 {X : sp_X} (hX : sp_OK shM X cX12_game RX12 7 rmX12_game) {τ : sp_St} {r : Int32} (hR : sp_Ri shM X (some .int) τ r 0 0) {n : Nat}   {k68 : sp_St → Int32 → Int32 → Int32 → Int32 → Option (sp_St × Int32)} (hk68 : ∀ (σ : sp_St) (z3 : Int32) (z4 : Int32) (z5 : Int32) (z6 : Int32), k68 σ z3 z4 z5 z6 = some (τ, r) → sp_GG shM X σ 7 [some (.ref (sx_ad X 0)), none, none, some (.int z3), some (.int z4), some (.int z5), some (.int z6)] [] 68 0 0) {σ : sp_St} {z3 : Int32} {z4 : Int32} {z6 : Int32} {zs0 : Int32} (hf : X12_game_153 n k68 σ z3 z4 z6 zs0 = some (τ, r)) : sp_GG shM X σ 7 [some (.ref (sx_ad X 0)), none, none, some (.int z3), some (.int z4), none, some (.int z6)] [.int zs0] 153 0 0 := by
  unfold X12_game_153 at hf
  refine sp_istore (i := 5) (lv' := [some (.ref (sx_ad X 0)), none, none, some (.int z3), some (.int z4), some (.int zs0), some (.int z6)]) (q := 155) hX dX12_game_153 (Nat.le_of_ble_eq_true rfl) rfl rfl rfl ?_
  exact hX12_game_155 hX hR hk68 hf
set_option maxRecDepth 100000 in
set_option maxHeartbeats 4000000 in
theorem hX12_game_68 {X : sp_X} (hX : sp_OK shM X cX12_game RX12 7 rmX12_game) {τ : sp_St} {r : Int32} (hR : sp_Ri shM X (some .int) τ r 0 0) {n : Nat}    : ∀ (f : Nat) (σ : sp_St) (z3 : Int32) (z4 : Int32) (z5 : Int32) (z6 : Int32), X12_game_68 n f σ z3 z4 z5 z6 = some (τ, r) → sp_GG shM X σ 7 [some (.ref (sx_ad X 0)), none, none, some (.int z3), some (.int z4), some (.int z5), some (.int z6)] [] 68 0 0 := by
  intro f
  induction f with
  | zero =>
    intro σ z3 z4 z5 z6 hf
    rw [X12_game_68] at hf
    cases hf
  | succ f ih =>
    intro σ z3 z4 z5 z6 hf
    rw [X12_game_68] at hf
    refine sp_iload (i := 6) (q := 70) hX dX12_game_68 rfl rfl ?_
    refine sp_iconst (v := 4) (q := 71) hX dX12_game_70 li_4 rfl ?_
    refine sp_icmp_ge (tgt := 161) (q := 74) hX dX12_game_71 (by decide) rfl (fun hc => ?_) (fun hc => ?_)
    · rw [if_pos hc] at hf
      refine sp_drop (lv' := [none, none, none, some (.int z3), some (.int z4), some (.int z5), none]) (And.intro rfl (And.intro rfl (And.intro rfl trivial))) ?_
      exact hX12_game_161 hX hR hf
    · rw [if_neg hc] at hf
      refine sp_aload_n (i := 0) (q := 75) hX dX12_game_74 rfl rfl rfl ?_
      refine sp_gets (t := 36) (q := 78) hX flX12_137 fkX12_53 atM_0 srM_0_53 dX12_game_75 rfl ?_
      refine sp_iconst (v := 2) (q := 79) hX dX12_game_78 li_2 rfl ?_
      refine sp_iload (i := 6) (q := 81) hX dX12_game_79 rfl rfl ?_
      refine sp_iconst (v := 2) (q := 82) hX dX12_game_81 li_2 rfl ?_
      refine sp_ixor (q := 83) hX dX12_game_82 rfl ?_
      refine sp_imul (q := 84) hX dX12_game_83 rfl ?_
      obtain ⟨h1, hf⟩ := sp_ck_some hf
      refine sp_iald (q := 85) hX arM_36 h1 dX12_game_84 rfl ?_
      refine sp_aload_n (i := 0) (q := 86) hX dX12_game_85 rfl rfl rfl ?_
      refine sp_gets (t := 36) (q := 89) hX flX12_137 fkX12_53 atM_0 srM_0_53 dX12_game_86 rfl ?_
      refine sp_iconst (v := 2) (q := 90) hX dX12_game_89 li_2 rfl ?_
      refine sp_iload (i := 6) (q := 92) hX dX12_game_90 rfl rfl ?_
      refine sp_imul (q := 93) hX dX12_game_92 rfl ?_
      obtain ⟨h2, hf⟩ := sp_ck_some hf
      refine sp_iald (q := 94) hX arM_36 h2 dX12_game_93 rfl ?_
      refine sp_icmp_lt (tgt := 155) (q := 97) hX dX12_game_94 (by decide) rfl (fun hc => ?_) (fun hc => ?_)
      · rw [if_pos hc] at hf
        exact hX12_game_155 hX hR ih hf
      · rw [if_neg hc] at hf
        refine sp_aload_n (i := 0) (q := 98) hX dX12_game_97 rfl rfl rfl ?_
        refine sp_gets (t := 36) (q := 101) hX flX12_137 fkX12_53 atM_0 srM_0_53 dX12_game_98 rfl ?_
        refine sp_iconst (v := 2) (q := 102) hX dX12_game_101 li_2 rfl ?_
        refine sp_iload (i := 6) (q := 104) hX dX12_game_102 rfl rfl ?_
        refine sp_iconst (v := 1) (q := 105) hX dX12_game_104 li_1 rfl ?_
        refine sp_ixor (q := 106) hX dX12_game_105 rfl ?_
        refine sp_imul (q := 107) hX dX12_game_106 rfl ?_
        refine sp_iconst (v := 1) (q := 108) hX dX12_game_107 li_1 rfl ?_
        refine sp_iadd (q := 109) hX dX12_game_108 rfl ?_
        obtain ⟨h3, hf⟩ := sp_ck_some hf
        refine sp_iald (q := 110) hX arM_36 h3 dX12_game_109 rfl ?_
        refine sp_aload_n (i := 0) (q := 111) hX dX12_game_110 rfl rfl rfl ?_
        refine sp_gets (t := 36) (q := 114) hX flX12_137 fkX12_53 atM_0 srM_0_53 dX12_game_111 rfl ?_
        refine sp_iconst (v := 2) (q := 115) hX dX12_game_114 li_2 rfl ?_
        refine sp_iload (i := 6) (q := 117) hX dX12_game_115 rfl rfl ?_
        refine sp_imul (q := 118) hX dX12_game_117 rfl ?_
        refine sp_iconst (v := 1) (q := 119) hX dX12_game_118 li_1 rfl ?_
        refine sp_iadd (q := 120) hX dX12_game_119 rfl ?_
        obtain ⟨h4, hf⟩ := sp_ck_some hf
        refine sp_iald (q := 121) hX arM_36 h4 dX12_game_120 rfl ?_
        refine sp_icmp_ge (tgt := 127) (q := 124) hX dX12_game_121 (by decide) rfl (fun hc => ?_) (fun hc => ?_)
        · rw [if_pos hc] at hf
          obtain ⟨x5, e6, hf⟩ := sp_pl_some hf
          refine sp_iinc (i := 4) (v := x5) (lv' := [some (.ref (sx_ad X 0)), none, none, some (.int z3), some (.int x5), some (.int z5), some (.int z6)]) (q := 130) hX dX12_game_127 rfl (by rw [e6, li_1]) (Nat.le_of_ble_eq_true rfl) rfl rfl rfl ?_
          refine sp_iload (i := 5) (q := 132) hX dX12_game_130 rfl rfl ?_
          refine sp_iconst (v := -1) (q := 133) hX dX12_game_132 li_m1 rfl ?_
          refine sp_icmp_ne (tgt := 151) (q := 136) hX dX12_game_133 (by decide) rfl (fun hc => ?_) (fun hc => ?_)
          · rw [if_neg hc] at hf
            refine sp_iload (i := 5) (q := 153) hX dX12_game_151 rfl rfl ?_
            refine sp_drop (lv' := [some (.ref (sx_ad X 0)), none, none, some (.int z3), some (.int x5), none, some (.int z6)]) (And.intro rfl (And.intro rfl (And.intro rfl (And.intro rfl trivial)))) ?_
            exact hX12_game_153 hX hR ih hf
          · rw [if_pos hc] at hf
            refine sp_bipush (v := 10) (q := 138) hX dX12_game_136 lb_10 rfl ?_
            refine sp_iload (i := 6) (q := 140) hX dX12_game_138 rfl rfl ?_
            refine sp_iconst (v := 2) (q := 141) hX dX12_game_140 li_2 rfl ?_
            obtain ⟨h7, hf⟩ := sp_ck_some hf
            refine sp_idiv (q := 142) hX dX12_game_141 (sp_nz h7) rfl ?_
            refine sp_imul (q := 143) hX dX12_game_142 rfl ?_
            refine sp_iload (i := 6) (q := 145) hX dX12_game_143 rfl rfl ?_
            refine sp_iconst (v := 2) (q := 146) hX dX12_game_145 li_2 rfl ?_
            obtain ⟨h8, hf⟩ := sp_ck_some hf
            refine sp_irem (q := 147) hX dX12_game_146 (sp_nz h8) rfl ?_
            refine sp_iadd (q := 148) hX dX12_game_147 rfl ?_
            refine sp_goto (tgt := 153) hX dX12_game_148 (by decide) ?_
            refine sp_drop (lv' := [some (.ref (sx_ad X 0)), none, none, some (.int z3), some (.int x5), none, some (.int z6)]) (And.intro rfl (And.intro rfl (And.intro rfl (And.intro rfl trivial)))) ?_
            exact hX12_game_153 hX hR ih hf
        · rw [if_neg hc] at hf
          refine sp_goto (tgt := 155) hX dX12_game_124 (by decide) ?_
          exact hX12_game_155 hX hR ih hf
set_option maxRecDepth 100000 in
set_option maxHeartbeats 4000000 in
theorem hX12_game_28 {X : sp_X} (hX : sp_OK shM X cX12_game RX12 7 rmX12_game) {τ : sp_St} {r : Int32} (hR : sp_Ri shM X (some .int) τ r 0 0) {n : Nat}    {σ : sp_St} (hf : X12_game_28 n σ = some (τ, r)) : sp_GG shM X σ 7 [some (.ref (sx_ad X 0)), none, none, none, none, none, none] [] 28 0 0 := by
  unfold X12_game_28 at hf
  refine sp_aload_n (i := 0) (q := 29) hX dX12_game_28 rfl rfl rfl ?_
  refine sp_iconst (v := 1) (q := 30) hX dX12_game_29 li_1 rfl ?_
  obtain ⟨σ2, v3, h1, hf⟩ := sp_bd_so hf
  refine sp_callVi (As := [.int ((1 : Int32))]) (rest := []) (q := 33) hX (cnX12_fail (sp_st hX)  h1) cwX12_312 atM_0 rfl rfl rfl rfl rfl (Nat.le_of_ble_eq_true rfl) (Nat.le_of_ble_eq_true rfl) (Nat.le_of_ble_eq_true rfl) (Nat.le_of_ble_eq_true rfl) (Nat.le_of_ble_eq_true rfl) dX12_game_30 rfl ?_
  exact sp_iret hX hR dX12_game_33 hf (Nat.le_of_ble_eq_true rfl) (Nat.le_of_ble_eq_true rfl)
set_option maxRecDepth 100000 in
set_option maxHeartbeats 4000000 in
theorem hX12_game {X : sp_X} (hX : sp_OK shM X cX12_game RX12 7 rmX12_game) {τ : sp_St} {r : Int32} (hR : sp_Ri shM X (some .int) τ r 0 0) {n : Nat}  {σ : sp_St} {a1 : Int32} {a2 : Int32} {a3 : Int32}  (hf : X12_game n σ a1 a2 a3 = some (τ, r)) : sp_GG shM X σ 7 [some (.ref (sx_ad X 0)), some (.int a1), some (.int a2), some (.int a3), none, none, none] [] 0 0 0 := by
  unfold X12_game at hf
  refine sp_aload_n (i := 0) (q := 1) hX dX12_game_0 rfl rfl rfl ?_
  refine sp_iconst (v := 0) (q := 2) hX dX12_game_1 li_0 rfl ?_
  obtain ⟨σ1, e2, hf⟩ := sp_pl_some hf
  refine sp_puti (q := 5) hX fpX12_158 fkX12_3 atM_0 dX12_game_2 rfl ?_
  refine sp_nms e2 ?_
  refine sp_iload_n (i := 1) (q := 6) hX dX12_game_5 rfl rfl rfl ?_
  obtain ⟨σ4, v5, h3, hf⟩ := sp_bd_so hf
  refine sp_callSi (As := [.int a1]) (rest := []) (q := 9) hX (cnX12_isHouse (sp_st hX)  h3) cwX12_408 rfl rfl rfl rfl (Nat.le_of_ble_eq_true rfl) (Nat.le_of_ble_eq_true rfl) (Nat.le_of_ble_eq_true rfl) (Nat.le_of_ble_eq_true rfl) (Nat.le_of_ble_eq_true rfl) dX12_game_6 rfl ?_
  refine sp_if_eq (tgt := 28) (q := 12) hX dX12_game_9 (by decide) rfl (fun hc => ?_) (fun hc => ?_)
  · rw [if_pos hc] at hf
    refine sp_drop (lv' := [some (.ref (sx_ad X 0)), none, none, none, none, none, none]) (And.intro rfl trivial) ?_
    exact hX12_game_28 hX hR hf
  · rw [if_neg hc] at hf
    refine sp_iload_n (i := 2) (q := 13) hX dX12_game_12 rfl rfl rfl ?_
    obtain ⟨σ7, v8, h6, hf⟩ := sp_bd_so hf
    refine sp_callSi (As := [.int a2]) (rest := []) (q := 16) hX (cnX12_isHouse (sp_st hX)  h6) cwX12_408 rfl rfl rfl rfl (Nat.le_of_ble_eq_true rfl) (Nat.le_of_ble_eq_true rfl) (Nat.le_of_ble_eq_true rfl) (Nat.le_of_ble_eq_true rfl) (Nat.le_of_ble_eq_true rfl) dX12_game_13 rfl ?_
    refine sp_if_eq (tgt := 28) (q := 19) hX dX12_game_16 (by decide) rfl (fun hc => ?_) (fun hc => ?_)
    · rw [if_pos hc] at hf
      refine sp_drop (lv' := [some (.ref (sx_ad X 0)), none, none, none, none, none, none]) (And.intro rfl trivial) ?_
      exact hX12_game_28 hX hR hf
    · rw [if_neg hc] at hf
      refine sp_iload_n (i := 3) (q := 20) hX dX12_game_19 rfl rfl rfl ?_
      refine sp_if_lt (tgt := 28) (q := 23) hX dX12_game_20 (by decide) rfl (fun hc => ?_) (fun hc => ?_)
      · rw [if_pos hc] at hf
        refine sp_drop (lv' := [some (.ref (sx_ad X 0)), none, none, none, none, none, none]) (And.intro rfl trivial) ?_
        exact hX12_game_28 hX hR hf
      · rw [if_neg hc] at hf
        refine sp_iload_n (i := 3) (q := 24) hX dX12_game_23 rfl rfl rfl ?_
        refine sp_iconst (v := 1) (q := 25) hX dX12_game_24 li_1 rfl ?_
        refine sp_icmp_le (tgt := 34) (q := 28) hX dX12_game_25 (by decide) rfl (fun hc => ?_) (fun hc => ?_)
        · rw [if_pos hc] at hf
          refine sp_aload_n (i := 0) (q := 35) hX dX12_game_34 rfl rfl rfl ?_
          refine sp_gets (t := 19) (q := 38) hX flX12_84 fkX12_31 atM_0 srM_0_31 dX12_game_35 rfl ?_
          refine sp_iload_n (i := 1) (q := 39) hX dX12_game_38 rfl rfl rfl ?_
          obtain ⟨h9, hf⟩ := sp_ck_some hf
          refine sp_iald (q := 40) hX arM_19 h9 dX12_game_39 rfl ?_
          refine sp_iload_n (i := 2) (q := 41) hX dX12_game_40 rfl rfl rfl ?_
          obtain ⟨σ11, v12, h10, hf⟩ := sp_bd_so hf
          refine sp_callSi (As := [.int (sp_g σ7 19 a1), .int a2]) (rest := []) (q := 44) hX (cnX12_isOf (sp_st hX)  h10) cwX12_284 rfl rfl rfl rfl (Nat.le_of_ble_eq_true rfl) (Nat.le_of_ble_eq_true rfl) (Nat.le_of_ble_eq_true rfl) (Nat.le_of_ble_eq_true rfl) (Nat.le_of_ble_eq_true rfl) dX12_game_41 rfl ?_
          refine sp_if_ne (tgt := 53) (q := 47) hX dX12_game_44 (by decide) rfl (fun hc => ?_) (fun hc => ?_)
          · rw [if_neg hc] at hf
            refine sp_aload_n (i := 0) (q := 54) hX dX12_game_53 rfl rfl rfl ?_
            refine sp_iload_n (i := 1) (q := 55) hX dX12_game_54 rfl rfl rfl ?_
            refine sp_iload_n (i := 2) (q := 56) hX dX12_game_55 rfl rfl rfl ?_
            obtain ⟨σ14, h13, hf⟩ := sp_bv_so hf
            refine sp_callVv (As := [.int a1, .int a2]) (rest := []) (q := 59) hX (cnX12_tellLosses (sp_st hX)  h13) cwX12_479 atM_0 rfl rfl rfl rfl rfl (Nat.le_of_ble_eq_true rfl) (Nat.le_of_ble_eq_true rfl) (Nat.le_of_ble_eq_true rfl) (Nat.le_of_ble_eq_true rfl) (Nat.le_of_ble_eq_true rfl) dX12_game_56 rfl ?_
            refine sp_iconst (v := 0) (q := 60) hX dX12_game_59 li_0 rfl ?_
            obtain ⟨x15, e16, hf⟩ := sp_pl_some hf
            refine sp_nmi e16 ?_
            refine sp_istore (i := 4) (lv' := [some (.ref (sx_ad X 0)), some (.int a1), some (.int a2), some (.int a3), some (.int x15), none, none]) (q := 62) hX dX12_game_60 (Nat.le_of_ble_eq_true rfl) rfl rfl rfl ?_
            refine sp_iconst (v := -1) (q := 63) hX dX12_game_62 li_m1 rfl ?_
            obtain ⟨x17, e18, hf⟩ := sp_pl_some hf
            refine sp_nmi e18 ?_
            refine sp_istore (i := 5) (lv' := [some (.ref (sx_ad X 0)), some (.int a1), some (.int a2), some (.int a3), some (.int x15), some (.int x17), none]) (q := 65) hX dX12_game_63 (Nat.le_of_ble_eq_true rfl) rfl rfl rfl ?_
            refine sp_iconst (v := 0) (q := 66) hX dX12_game_65 li_0 rfl ?_
            obtain ⟨x19, e20, hf⟩ := sp_pl_some hf
            refine sp_nmi e20 ?_
            refine sp_istore (i := 6) (lv' := [some (.ref (sx_ad X 0)), some (.int a1), some (.int a2), some (.int a3), some (.int x15), some (.int x17), some (.int x19)]) (q := 68) hX dX12_game_66 (Nat.le_of_ble_eq_true rfl) rfl rfl rfl ?_
            refine sp_drop (lv' := [some (.ref (sx_ad X 0)), none, none, some (.int a3), some (.int x15), some (.int x17), some (.int x19)]) (And.intro rfl (And.intro rfl (And.intro rfl (And.intro rfl (And.intro rfl trivial))))) ?_
            exact hX12_game_68 hX hR n σ14 a3 x15 x17 x19 hf
          · rw [if_pos hc] at hf
            refine sp_aload_n (i := 0) (q := 48) hX dX12_game_47 rfl rfl rfl ?_
            refine sp_iconst (v := 2) (q := 49) hX dX12_game_48 li_2 rfl ?_
            obtain ⟨σ22, v23, h21, hf⟩ := sp_bd_so hf
            refine sp_callVi (As := [.int ((2 : Int32))]) (rest := []) (q := 52) hX (cnX12_fail (sp_st hX)  h21) cwX12_312 atM_0 rfl rfl rfl rfl rfl (Nat.le_of_ble_eq_true rfl) (Nat.le_of_ble_eq_true rfl) (Nat.le_of_ble_eq_true rfl) (Nat.le_of_ble_eq_true rfl) (Nat.le_of_ble_eq_true rfl) dX12_game_49 rfl ?_
            exact sp_iret hX hR dX12_game_52 hf (Nat.le_of_ble_eq_true rfl) (Nat.le_of_ble_eq_true rfl)
        · rw [if_neg hc] at hf
          refine sp_drop (lv' := [some (.ref (sx_ad X 0)), none, none, none, none, none, none]) (And.intro rfl trivial) ?_
          exact hX12_game_28 hX hR hf
set_option maxRecDepth 100000 in
set_option maxHeartbeats 4000000 in
theorem cnX12_game {l : Launch} (hst : l.stackTraces = false) {w : sp_Wd} {n : Nat}  {σ : sp_St} {a1 : Int32} {a2 : Int32} {a3 : Int32} {τ : sp_St} {r : Int32}  (hf : X12_game n σ a1 a2 a3 = some (τ, r)) : sp_Ci shM l w yX12_game cX12_game 7 (some .int) rmX12_game 0 0 σ [.ref (w.2.1 0), .int a1, .int a2, .int a3] τ r :=
  sp_ci (own := RX12) (by decide) rfl hst (Nat.le_of_ble_eq_true rfl) rfl (fun X hX hw hl hR => by subst hw; subst hl; exact hX12_game hX hR   hf)
def rmX12_drawOf : Room := { frames := 0, cells := 0, slots := 0, locals := 0 }
def X12_drawOf (n : Nat)  (σ : sp_St) (a1 : Int32) : Option (sp_St × Int32) :=
  sp_pl (sp_si σ 0 54 (((σ.1 0 54) * ((1103515245 : Int32))) + ((12345 : Int32)))) fun σ1 =>
  sp_ck (!decide (a1 = 0)) <|
  some (σ1, (((σ1.1 0 54) >>> (((16 : Int32)) &&& 31)) &&& ((32767 : Int32))) - (((σ1.1 0 54) >>> (((16 : Int32)) &&& 31)) &&& ((32767 : Int32))) / a1 * a1)
set_option maxRecDepth 100000 in
set_option maxHeartbeats 4000000 in
theorem hX12_drawOf {X : sp_X} (hX : sp_OK shM X cX12_drawOf RX12 2 rmX12_drawOf) {τ : sp_St} {r : Int32} (hR : sp_Ri shM X (some .int) τ r 0 0) {n : Nat}  {σ : sp_St} {a1 : Int32}  (hf : X12_drawOf n σ a1 = some (τ, r)) : sp_GG shM X σ 2 [some (.ref (sx_ad X 0)), some (.int a1)] [] 0 0 0 := by
  unfold X12_drawOf at hf
  refine sp_aload_n (i := 0) (q := 1) hX dX12_drawOf_0 rfl rfl rfl ?_
  refine sp_aload_n (i := 0) (q := 2) hX dX12_drawOf_1 rfl rfl rfl ?_
  refine sp_geti (q := 5) hX flX12_482 fkX12_54 atM_0 dX12_drawOf_2 rfl ?_
  refine sp_ldcw (v := 1103515245) (q := 8) hX wd_2246 dX12_drawOf_5 rfl ?_
  refine sp_imul (q := 9) hX dX12_drawOf_8 rfl ?_
  refine sp_sipush (v := 12345) (q := 12) hX dX12_drawOf_9 ls_12345 rfl ?_
  refine sp_iadd (q := 13) hX dX12_drawOf_12 rfl ?_
  obtain ⟨σ1, e2, hf⟩ := sp_pl_some hf
  refine sp_puti (q := 16) hX fpX12_482 fkX12_54 atM_0 dX12_drawOf_13 rfl ?_
  refine sp_nms e2 ?_
  refine sp_aload_n (i := 0) (q := 17) hX dX12_drawOf_16 rfl rfl rfl ?_
  refine sp_geti (q := 20) hX flX12_482 fkX12_54 atM_0 dX12_drawOf_17 rfl ?_
  refine sp_bipush (v := 16) (q := 22) hX dX12_drawOf_20 lb_16 rfl ?_
  refine sp_ishr (q := 23) hX dX12_drawOf_22 rfl ?_
  refine sp_sipush (v := 32767) (q := 26) hX dX12_drawOf_23 ls_32767 rfl ?_
  refine sp_iand (q := 27) hX dX12_drawOf_26 rfl ?_
  refine sp_iload_n (i := 1) (q := 28) hX dX12_drawOf_27 rfl rfl rfl ?_
  obtain ⟨h3, hf⟩ := sp_ck_some hf
  refine sp_irem (q := 29) hX dX12_drawOf_28 (sp_nz h3) rfl ?_
  exact sp_iret hX hR dX12_drawOf_29 hf (Nat.le_of_ble_eq_true rfl) (Nat.le_of_ble_eq_true rfl)
set_option maxRecDepth 100000 in
set_option maxHeartbeats 4000000 in
theorem cnX12_drawOf {l : Launch} (hst : l.stackTraces = false) {w : sp_Wd} {n : Nat}  {σ : sp_St} {a1 : Int32} {τ : sp_St} {r : Int32}  (hf : X12_drawOf n σ a1 = some (τ, r)) : sp_Ci shM l w yX12_drawOf cX12_drawOf 2 (some .int) rmX12_drawOf 0 0 σ [.ref (w.2.1 0), .int a1] τ r :=
  sp_ci (own := RX12) (by decide) rfl hst (Nat.le_of_ble_eq_true rfl) rfl (fun X hX hw hl hR => by subst hw; subst hl; exact hX12_drawOf hX hR   hf)
def rmX12_something : Room := { frames := 2, cells := 0, slots := 0, locals := 49 }
def X12_something_104 (n : Nat) (σ : sp_St) : Option (sp_St) :=
  some σ
def X12_something_60 (n : Nat) (σ : sp_St) (z1 : Int32) : Option (sp_St) :=
  if z1 = ((1 : Int32)) then
    if (sp_g σ 3 ((1 : Int32))) ≤ 0 then
      X12_something_104 n σ
    else
      sp_bd (X12_drawOf n σ (sp_g σ 3 ((1 : Int32)))) fun σ2 v3 =>
      sp_ck (sp_in v3 5) <|
      if (sp_g σ2 17 v3) ≤ 0 then
        X12_something_104 n σ2
      else
        sp_bd (X12_topOf n σ2 v3) fun σ6 v7 =>
        sp_bv (X12_takeOut n σ6 v7 ((0 : Int32))) fun σ9 =>
        X12_something_104 n σ9
  else
    X12_something_104 n σ
def X12_something (n : Nat)  (σ : sp_St)  : Option (sp_St) :=
  sp_bd (X12_drawOf n σ ((7 : Int32))) fun σ2 v3 =>
  if v3 = 0 then
    if (sp_g σ2 3 ((2 : Int32))) ≤ 0 then
      X12_something_60 n σ2 v3
    else
      sp_bd (X12_drawOf n σ2 (sp_g σ2 3 ((2 : Int32)))) fun σ5 v6 =>
      sp_ck (sp_in v6 10) <|
      if (sp_g σ5 15 v6) = 0 then
        sp_ck (sp_in v6 10) <|
        sp_pl (sp_min ((99 : Int32)) ((sp_g σ5 14 v6) + ((20 : Int32)))) fun v9 =>
        sp_ck (sp_in v6 10) <|
        sp_pl (sp_sa σ5 14 v6.toNatClampNeg v9) fun σ12 =>
        X12_something_60 n σ12 v3
      else
        X12_something_60 n σ5 v3
  else
    X12_something_60 n σ2 v3
set_option maxRecDepth 100000 in
set_option maxHeartbeats 4000000 in
theorem hX12_something_104 {X : sp_X} (hX : sp_OK shM X cX12_something RX12 3 rmX12_something) {τ : sp_St} (hR : sp_Rv shM X τ 0 0) {n : Nat}    {σ : sp_St} (hf : X12_something_104 n σ = some τ) : sp_GG shM X σ 3 [none, none, none] [] 104 0 0 := by
  unfold X12_something_104 at hf
  exact sp_vret hX hR dX12_something_104 hf (Nat.le_of_ble_eq_true rfl) (Nat.le_of_ble_eq_true rfl)
set_option maxRecDepth 100000 in
set_option maxHeartbeats 4000000 in
theorem hX12_something_60 {X : sp_X} (hX : sp_OK shM X cX12_something RX12 3 rmX12_something) {τ : sp_St} (hR : sp_Rv shM X τ 0 0) {n : Nat}    {σ : sp_St} {z1 : Int32} (hf : X12_something_60 n σ z1 = some τ) : sp_GG shM X σ 3 [some (.ref (sx_ad X 0)), some (.int z1), none] [] 60 0 0 := by
  unfold X12_something_60 at hf
  refine sp_iload_n (i := 1) (q := 61) hX dX12_something_60 rfl rfl rfl ?_
  refine sp_iconst (v := 1) (q := 62) hX dX12_something_61 li_1 rfl ?_
  refine sp_icmp_ne (tgt := 104) (q := 65) hX dX12_something_62 (by decide) rfl (fun hc => ?_) (fun hc => ?_)
  · rw [if_neg hc] at hf
    refine sp_drop (lv' := [none, none, none]) trivial ?_
    exact hX12_something_104 hX hR hf
  · rw [if_pos hc] at hf
    refine sp_aload_n (i := 0) (q := 66) hX dX12_something_65 rfl rfl rfl ?_
    refine sp_gets (t := 3) (q := 69) hX flX12_33 fkX12_4 atM_0 srM_0_4 dX12_something_66 rfl ?_
    refine sp_iconst (v := 1) (q := 70) hX dX12_something_69 li_1 rfl ?_
    refine sp_iald (q := 71) hX arM_3 (by decide) dX12_something_70 rfl ?_
    refine sp_if_le (tgt := 104) (q := 74) hX dX12_something_71 (by decide) rfl (fun hc => ?_) (fun hc => ?_)
    · rw [if_pos hc] at hf
      refine sp_drop (lv' := [none, none, none]) trivial ?_
      exact hX12_something_104 hX hR hf
    · rw [if_neg hc] at hf
      refine sp_aload_n (i := 0) (q := 75) hX dX12_something_74 rfl rfl rfl ?_
      refine sp_aload_n (i := 0) (q := 76) hX dX12_something_75 rfl rfl rfl ?_
      refine sp_gets (t := 3) (q := 79) hX flX12_33 fkX12_4 atM_0 srM_0_4 dX12_something_76 rfl ?_
      refine sp_iconst (v := 1) (q := 80) hX dX12_something_79 li_1 rfl ?_
      refine sp_iald (q := 81) hX arM_3 (by decide) dX12_something_80 rfl ?_
      obtain ⟨σ2, v3, h1, hf⟩ := sp_bd_so hf
      refine sp_callVi (As := [.int (sp_g σ 3 ((1 : Int32)))]) (rest := []) (q := 84) hX (cnX12_drawOf (sp_st hX)  h1) cwX12_486 atM_0 rfl rfl rfl rfl rfl (Nat.le_of_ble_eq_true rfl) (Nat.le_of_ble_eq_true rfl) (Nat.le_of_ble_eq_true rfl) (Nat.le_of_ble_eq_true rfl) (Nat.le_of_ble_eq_true rfl) dX12_something_81 rfl ?_
      refine sp_istore_n (i := 2) (lv' := [some (.ref (sx_ad X 0)), some (.int z1), some (.int v3)]) (q := 85) hX dX12_something_84 rfl (Nat.le_of_ble_eq_true rfl) rfl rfl rfl ?_
      refine sp_aload_n (i := 0) (q := 86) hX dX12_something_85 rfl rfl rfl ?_
      refine sp_gets (t := 17) (q := 89) hX flX12_78 fkX12_29 atM_0 srM_0_29 dX12_something_86 rfl ?_
      refine sp_iload_n (i := 2) (q := 90) hX dX12_something_89 rfl rfl rfl ?_
      obtain ⟨h4, hf⟩ := sp_ck_some hf
      refine sp_iald (q := 91) hX arM_17 h4 dX12_something_90 rfl ?_
      refine sp_if_le (tgt := 104) (q := 94) hX dX12_something_91 (by decide) rfl (fun hc => ?_) (fun hc => ?_)
      · rw [if_pos hc] at hf
        refine sp_drop (lv' := [none, none, none]) trivial ?_
        exact hX12_something_104 hX hR hf
      · rw [if_neg hc] at hf
        refine sp_aload_n (i := 0) (q := 95) hX dX12_something_94 rfl rfl rfl ?_
        refine sp_aload_n (i := 0) (q := 96) hX dX12_something_95 rfl rfl rfl ?_
        refine sp_iload_n (i := 2) (q := 97) hX dX12_something_96 rfl rfl rfl ?_
        obtain ⟨σ6, v7, h5, hf⟩ := sp_bd_so hf
        refine sp_callVi (As := [.int v3]) (rest := [.ref (sx_ad X 0)]) (q := 100) hX (cnX12_topOf (sp_st hX)  h5) cwX12_387 atM_0 rfl rfl rfl rfl rfl (Nat.le_of_ble_eq_true rfl) (Nat.le_of_ble_eq_true rfl) (Nat.le_of_ble_eq_true rfl) (Nat.le_of_ble_eq_true rfl) (Nat.le_of_ble_eq_true rfl) dX12_something_97 rfl ?_
        refine sp_iconst (v := 0) (q := 101) hX dX12_something_100 li_0 rfl ?_
        obtain ⟨σ9, h8, hf⟩ := sp_bv_so hf
        refine sp_callVv (As := [.int v7, .int ((0 : Int32))]) (rest := []) (q := 104) hX (cnX12_takeOut (sp_st hX)  h8) cwX12_377 atM_0 rfl rfl rfl rfl rfl (Nat.le_of_ble_eq_true rfl) (Nat.le_of_ble_eq_true rfl) (Nat.le_of_ble_eq_true rfl) (Nat.le_of_ble_eq_true rfl) (Nat.le_of_ble_eq_true rfl) dX12_something_101 rfl ?_
        refine sp_drop (lv' := [none, none, none]) trivial ?_
        exact hX12_something_104 hX hR hf
set_option maxRecDepth 100000 in
set_option maxHeartbeats 4000000 in
theorem hX12_something {X : sp_X} (hX : sp_OK shM X cX12_something RX12 3 rmX12_something) {τ : sp_St} (hR : sp_Rv shM X τ 0 0) {n : Nat}  {σ : sp_St}   (hf : X12_something n σ = some τ) : sp_GG shM X σ 3 [some (.ref (sx_ad X 0)), none, none] [] 0 0 0 := by
  unfold X12_something at hf
  refine sp_aload_n (i := 0) (q := 1) hX dX12_something_0 rfl rfl rfl ?_
  refine sp_bipush (v := 7) (q := 3) hX dX12_something_1 lb_7 rfl ?_
  obtain ⟨σ2, v3, h1, hf⟩ := sp_bd_so hf
  refine sp_callVi (As := [.int ((7 : Int32))]) (rest := []) (q := 6) hX (cnX12_drawOf (sp_st hX)  h1) cwX12_486 atM_0 rfl rfl rfl rfl rfl (Nat.le_of_ble_eq_true rfl) (Nat.le_of_ble_eq_true rfl) (Nat.le_of_ble_eq_true rfl) (Nat.le_of_ble_eq_true rfl) (Nat.le_of_ble_eq_true rfl) dX12_something_3 rfl ?_
  refine sp_istore_n (i := 1) (lv' := [some (.ref (sx_ad X 0)), some (.int v3), none]) (q := 7) hX dX12_something_6 rfl (Nat.le_of_ble_eq_true rfl) rfl rfl rfl ?_
  refine sp_iload_n (i := 1) (q := 8) hX dX12_something_7 rfl rfl rfl ?_
  refine sp_if_ne (tgt := 60) (q := 11) hX dX12_something_8 (by decide) rfl (fun hc => ?_) (fun hc => ?_)
  · rw [if_neg hc] at hf
    exact hX12_something_60 hX hR hf
  · rw [if_pos hc] at hf
    refine sp_aload_n (i := 0) (q := 12) hX dX12_something_11 rfl rfl rfl ?_
    refine sp_gets (t := 3) (q := 15) hX flX12_33 fkX12_4 atM_0 srM_0_4 dX12_something_12 rfl ?_
    refine sp_iconst (v := 2) (q := 16) hX dX12_something_15 li_2 rfl ?_
    refine sp_iald (q := 17) hX arM_3 (by decide) dX12_something_16 rfl ?_
    refine sp_if_le (tgt := 60) (q := 20) hX dX12_something_17 (by decide) rfl (fun hc => ?_) (fun hc => ?_)
    · rw [if_pos hc] at hf
      exact hX12_something_60 hX hR hf
    · rw [if_neg hc] at hf
      refine sp_aload_n (i := 0) (q := 21) hX dX12_something_20 rfl rfl rfl ?_
      refine sp_aload_n (i := 0) (q := 22) hX dX12_something_21 rfl rfl rfl ?_
      refine sp_gets (t := 3) (q := 25) hX flX12_33 fkX12_4 atM_0 srM_0_4 dX12_something_22 rfl ?_
      refine sp_iconst (v := 2) (q := 26) hX dX12_something_25 li_2 rfl ?_
      refine sp_iald (q := 27) hX arM_3 (by decide) dX12_something_26 rfl ?_
      obtain ⟨σ5, v6, h4, hf⟩ := sp_bd_so hf
      refine sp_callVi (As := [.int (sp_g σ2 3 ((2 : Int32)))]) (rest := []) (q := 30) hX (cnX12_drawOf (sp_st hX)  h4) cwX12_486 atM_0 rfl rfl rfl rfl rfl (Nat.le_of_ble_eq_true rfl) (Nat.le_of_ble_eq_true rfl) (Nat.le_of_ble_eq_true rfl) (Nat.le_of_ble_eq_true rfl) (Nat.le_of_ble_eq_true rfl) dX12_something_27 rfl ?_
      refine sp_istore_n (i := 2) (lv' := [some (.ref (sx_ad X 0)), some (.int v3), some (.int v6)]) (q := 31) hX dX12_something_30 rfl (Nat.le_of_ble_eq_true rfl) rfl rfl rfl ?_
      refine sp_aload_n (i := 0) (q := 32) hX dX12_something_31 rfl rfl rfl ?_
      refine sp_gets (t := 15) (q := 35) hX flX12_72 fkX12_27 atM_0 srM_0_27 dX12_something_32 rfl ?_
      refine sp_iload_n (i := 2) (q := 36) hX dX12_something_35 rfl rfl rfl ?_
      obtain ⟨h7, hf⟩ := sp_ck_some hf
      refine sp_iald (q := 37) hX arM_15 h7 dX12_something_36 rfl ?_
      refine sp_if_ne (tgt := 60) (q := 40) hX dX12_something_37 (by decide) rfl (fun hc => ?_) (fun hc => ?_)
      · rw [if_neg hc] at hf
        refine sp_drop (lv' := [some (.ref (sx_ad X 0)), some (.int v3), none]) (And.intro rfl (And.intro rfl trivial)) ?_
        exact hX12_something_60 hX hR hf
      · rw [if_pos hc] at hf
        refine sp_aload_n (i := 0) (q := 41) hX dX12_something_40 rfl rfl rfl ?_
        refine sp_gets (t := 14) (q := 44) hX flX12_70 fkX12_26 atM_0 srM_0_26 dX12_something_41 rfl ?_
        refine sp_iload_n (i := 2) (q := 45) hX dX12_something_44 rfl rfl rfl ?_
        refine sp_bipush (v := 99) (q := 47) hX dX12_something_45 lb_99 rfl ?_
        refine sp_aload_n (i := 0) (q := 48) hX dX12_something_47 rfl rfl rfl ?_
        refine sp_gets (t := 14) (q := 51) hX flX12_70 fkX12_26 atM_0 srM_0_26 dX12_something_48 rfl ?_
        refine sp_iload_n (i := 2) (q := 52) hX dX12_something_51 rfl rfl rfl ?_
        obtain ⟨h8, hf⟩ := sp_ck_some hf
        refine sp_iald (q := 53) hX arM_14 h8 dX12_something_52 rfl ?_
        refine sp_bipush (v := 20) (q := 55) hX dX12_something_53 lb_20 rfl ?_
        refine sp_iadd (q := 56) hX dX12_something_55 rfl ?_
        obtain ⟨v9, e10, hf⟩ := sp_pl_some hf
        refine sp_mmin (q := 59) hX wd_1825 wd_607 wd_144 wd_608 (Nat.le_of_ble_eq_true rfl) (Nat.le_of_ble_eq_true rfl) (Nat.le_of_ble_eq_true rfl) (Nat.le_of_ble_eq_true rfl) dX12_something_56 rfl ?_
        refine sp_nmi e10 ?_
        obtain ⟨h11, hf⟩ := sp_ck_some hf
        obtain ⟨σ12, e13, hf⟩ := sp_pl_some hf
        refine sp_iast (q := 60) hX arM_14 h11 dX12_something_59 rfl ?_
        refine sp_nms e13 ?_
        refine sp_drop (lv' := [some (.ref (sx_ad X 0)), some (.int v3), none]) (And.intro rfl (And.intro rfl trivial)) ?_
        exact hX12_something_60 hX hR hf
set_option maxRecDepth 100000 in
set_option maxHeartbeats 4000000 in
theorem cnX12_something {l : Launch} (hst : l.stackTraces = false) {w : sp_Wd} {n : Nat}  {σ : sp_St}  {τ : sp_St}  (hf : X12_something n σ = some τ) : sp_Cv shM l w yX12_something cX12_something 3 rmX12_something 0 0 σ [.ref (w.2.1 0)] τ :=
  sp_cv (own := RX12) (by decide) rfl hst (Nat.le_of_ble_eq_true rfl) rfl (fun X hX hw hl hR => by subst hw; subst hl; exact hX12_something hX hR   hf)
def rmX12_summer : Room := { frames := 6, cells := 0, slots := 0, locals := 132 }
def X12_summer_128 (n : Nat) (σ : sp_St) (zs0 : Int32) : Option (sp_St × Int32) :=
  sp_bv (X12_unpack n σ 25 88 ((0 : Int32))) fun σ2 =>
  some (σ2, zs0)
def X12_summer_84 (n : Nat) (σ : sp_St) (z3 : Int32) (z4 : Int32) : Option (sp_St × Int32) :=
  if z3 = 0 then
    X12_summer_128 n σ ((σ.1 0 34) - z4)
  else
    if z3 = ((1 : Int32)) then
      sp_bd (X12_whereSet n σ ((2 : Int32))) fun σ5 v6 =>
      sp_bd (X12_bitsOf n σ5 v6) fun σ8 v9 =>
      X12_summer_128 n σ8 v9
    else
      sp_bd (X12_angers n σ ((((1 : Int32)) <<< ((sp_g σ 3 ((2 : Int32))) &&& 31)) - ((1 : Int32)))) fun σ2 v3 =>
      X12_summer_128 n σ2 v3
def X12_summer_64 (n : Nat) : Nat → sp_St → Int32 → Int32 → Int32 → Int32 → Option (sp_St × Int32)
  | 0, _, _, _, _, _ => none
  | f + 1, σ, z2, z3, z4, z5 =>
    if z2 ≤ z5 then
      X12_summer_84 n σ z3 z4
    else
      sp_bv (X12_something n σ) fun σ2 =>
      sp_bv (X12_aDay n σ2) fun σ4 =>
      sp_pl (z5 + 1) fun x5 =>
      X12_summer_64 n f σ4 z2 z3 z4 x5
def X12_summer (n : Nat)  (σ : sp_St) (a1 : Int32) (a2 : Int32) (a3 : Int32) : Option (sp_St × Int32) :=
  sp_pl (sp_si σ 0 3 ((0 : Int32))) fun σ1 =>
  sp_bd (X12_isIn n σ1 a3.toInt64 ((0 : Int64)) ((2 : Int64))) fun σ4 v5 =>
  if v5 = 0 then
    sp_bd (X12_fail n σ4 ((1 : Int32))) fun σ21 v22 =>
    some (σ21, v22)
  else
    sp_bd (X12_isIn n σ4 a2.toInt64 ((0 : Int64)) ((60 : Int64))) fun σ7 v8 =>
    if v8 = 0 then
      sp_bd (X12_fail n σ7 ((2 : Int32))) fun σ18 v19 =>
      some (σ18, v19)
    else
      sp_bv (X12_pack n σ7 25 88 ((0 : Int32))) fun σ10 =>
      sp_pl (sp_si σ10 0 54 a1) fun σ11 =>
      sp_pl (σ11.1 0 34) fun x13 =>
      sp_pl ((0 : Int32)) fun x15 =>
      X12_summer_64 n n σ11 a2 a3 x13 x15
set_option maxRecDepth 100000 in
set_option maxHeartbeats 4000000 in
theorem hX12_summer_128 {X : sp_X} (hX : sp_OK shM X cX12_summer RX12 6 rmX12_summer) {τ : sp_St} {r : Int32} (hR : sp_Ri shM X (some .int) τ r 0 0) {n : Nat}    {σ : sp_St} {zs0 : Int32} (hf : X12_summer_128 n σ zs0 = some (τ, r)) : sp_GG shM X σ 6 [some (.ref (sx_ad X 0)), none, none, none, none, none] [.int zs0] 128 0 0 := by
  unfold X12_summer_128 at hf
  refine sp_istore (i := 5) (lv' := [some (.ref (sx_ad X 0)), none, none, none, none, some (.int zs0)]) (q := 130) hX dX12_summer_128 (Nat.le_of_ble_eq_true rfl) rfl rfl rfl ?_
  refine sp_aload_n (i := 0) (q := 131) hX dX12_summer_130 rfl rfl rfl ?_
  refine sp_aload_n (i := 0) (q := 132) hX dX12_summer_131 rfl rfl rfl ?_
  refine sp_gets (t := 25) (q := 135) hX flX12_102 fkX12_41 atM_0 srM_0_41 dX12_summer_132 rfl ?_
  refine sp_iconst (v := 0) (q := 136) hX dX12_summer_135 li_0 rfl ?_
  obtain ⟨σ2, h1, hf⟩ := sp_bv_so hf
  refine sp_callVv (As := [.ref (sx_ad X 25), .int ((0 : Int32))]) (rest := []) (q := 139) hX (cnX12_unpack (sp_st hX) arM_25 h1) cwX12_432 atM_0 rfl rfl rfl rfl rfl (Nat.le_of_ble_eq_true rfl) (Nat.le_of_ble_eq_true rfl) (Nat.le_of_ble_eq_true rfl) (Nat.le_of_ble_eq_true rfl) (Nat.le_of_ble_eq_true rfl) dX12_summer_136 rfl ?_
  refine sp_iload (i := 5) (q := 141) hX dX12_summer_139 rfl rfl ?_
  exact sp_iret hX hR dX12_summer_141 hf (Nat.le_of_ble_eq_true rfl) (Nat.le_of_ble_eq_true rfl)
set_option maxRecDepth 100000 in
set_option maxHeartbeats 4000000 in
theorem hX12_summer_84 {X : sp_X} (hX : sp_OK shM X cX12_summer RX12 6 rmX12_summer) {τ : sp_St} {r : Int32} (hR : sp_Ri shM X (some .int) τ r 0 0) {n : Nat}    {σ : sp_St} {z3 : Int32} {z4 : Int32} (hf : X12_summer_84 n σ z3 z4 = some (τ, r)) : sp_GG shM X σ 6 [some (.ref (sx_ad X 0)), none, none, some (.int z3), some (.int z4), none] [] 84 0 0 := by
  unfold X12_summer_84 at hf
  refine sp_iload_n (i := 3) (q := 85) hX dX12_summer_84 rfl rfl rfl ?_
  refine sp_if_ne (tgt := 98) (q := 88) hX dX12_summer_85 (by decide) rfl (fun hc => ?_) (fun hc => ?_)
  · rw [if_neg hc] at hf
    refine sp_iload_n (i := 3) (q := 99) hX dX12_summer_98 rfl rfl rfl ?_
    refine sp_iconst (v := 1) (q := 100) hX dX12_summer_99 li_1 rfl ?_
    refine sp_icmp_ne (tgt := 114) (q := 103) hX dX12_summer_100 (by decide) rfl (fun hc => ?_) (fun hc => ?_)
    · rw [if_neg hc] at hf
      refine sp_aload_n (i := 0) (q := 115) hX dX12_summer_114 rfl rfl rfl ?_
      refine sp_iconst (v := 1) (q := 116) hX dX12_summer_115 li_1 rfl ?_
      refine sp_aload_n (i := 0) (q := 117) hX dX12_summer_116 rfl rfl rfl ?_
      refine sp_gets (t := 3) (q := 120) hX flX12_33 fkX12_4 atM_0 srM_0_4 dX12_summer_117 rfl ?_
      refine sp_iconst (v := 2) (q := 121) hX dX12_summer_120 li_2 rfl ?_
      refine sp_iald (q := 122) hX arM_3 (by decide) dX12_summer_121 rfl ?_
      refine sp_ishl (q := 123) hX dX12_summer_122 rfl ?_
      refine sp_iconst (v := 1) (q := 124) hX dX12_summer_123 li_1 rfl ?_
      refine sp_isub (q := 125) hX dX12_summer_124 rfl ?_
      obtain ⟨σ2, v3, h1, hf⟩ := sp_bd_so hf
      refine sp_callVi (As := [.int ((((1 : Int32)) <<< ((sp_g σ 3 ((2 : Int32))) &&& 31)) - ((1 : Int32)))]) (rest := []) (q := 128) hX (cnX12_angers (sp_st hX)  h1) cwX12_440 atM_0 rfl rfl rfl rfl rfl (Nat.le_of_ble_eq_true rfl) (Nat.le_of_ble_eq_true rfl) (Nat.le_of_ble_eq_true rfl) (Nat.le_of_ble_eq_true rfl) (Nat.le_of_ble_eq_true rfl) dX12_summer_125 rfl ?_
      refine sp_drop (lv' := [some (.ref (sx_ad X 0)), none, none, none, none, none]) (And.intro rfl trivial) ?_
      exact hX12_summer_128 hX hR hf
    · rw [if_pos hc] at hf
      refine sp_aload_n (i := 0) (q := 104) hX dX12_summer_103 rfl rfl rfl ?_
      refine sp_iconst (v := 2) (q := 105) hX dX12_summer_104 li_2 rfl ?_
      obtain ⟨σ5, v6, h4, hf⟩ := sp_bd_so hf
      refine sp_callVi (As := [.int ((2 : Int32))]) (rest := []) (q := 108) hX (cnX12_whereSet (sp_st hX)  h4) cwX12_348 atM_0 rfl rfl rfl rfl rfl (Nat.le_of_ble_eq_true rfl) (Nat.le_of_ble_eq_true rfl) (Nat.le_of_ble_eq_true rfl) (Nat.le_of_ble_eq_true rfl) (Nat.le_of_ble_eq_true rfl) dX12_summer_105 rfl ?_
      obtain ⟨σ8, v9, h7, hf⟩ := sp_bd_so hf
      refine sp_callSi (As := [.int v6]) (rest := []) (q := 111) hX (cnX12_bitsOf (sp_st hX)  h7) cwX12_364 rfl rfl rfl rfl (Nat.le_of_ble_eq_true rfl) (Nat.le_of_ble_eq_true rfl) (Nat.le_of_ble_eq_true rfl) (Nat.le_of_ble_eq_true rfl) (Nat.le_of_ble_eq_true rfl) dX12_summer_108 rfl ?_
      refine sp_goto (tgt := 128) hX dX12_summer_111 (by decide) ?_
      refine sp_drop (lv' := [some (.ref (sx_ad X 0)), none, none, none, none, none]) (And.intro rfl trivial) ?_
      exact hX12_summer_128 hX hR hf
  · rw [if_pos hc] at hf
    refine sp_aload_n (i := 0) (q := 89) hX dX12_summer_88 rfl rfl rfl ?_
    refine sp_geti (q := 92) hX flX12_327 fkX12_34 atM_0 dX12_summer_89 rfl ?_
    refine sp_iload (i := 4) (q := 94) hX dX12_summer_92 rfl rfl ?_
    refine sp_isub (q := 95) hX dX12_summer_94 rfl ?_
    refine sp_goto (tgt := 128) hX dX12_summer_95 (by decide) ?_
    refine sp_drop (lv' := [some (.ref (sx_ad X 0)), none, none, none, none, none]) (And.intro rfl trivial) ?_
    exact hX12_summer_128 hX hR hf
set_option maxRecDepth 100000 in
set_option maxHeartbeats 4000000 in
theorem hX12_summer_64 {X : sp_X} (hX : sp_OK shM X cX12_summer RX12 6 rmX12_summer) {τ : sp_St} {r : Int32} (hR : sp_Ri shM X (some .int) τ r 0 0) {n : Nat}    : ∀ (f : Nat) (σ : sp_St) (z2 : Int32) (z3 : Int32) (z4 : Int32) (z5 : Int32), X12_summer_64 n f σ z2 z3 z4 z5 = some (τ, r) → sp_GG shM X σ 6 [some (.ref (sx_ad X 0)), none, some (.int z2), some (.int z3), some (.int z4), some (.int z5)] [] 64 0 0 := by
  intro f
  induction f with
  | zero =>
    intro σ z2 z3 z4 z5 hf
    rw [X12_summer_64] at hf
    cases hf
  | succ f ih =>
    intro σ z2 z3 z4 z5 hf
    rw [X12_summer_64] at hf
    refine sp_iload (i := 5) (q := 66) hX dX12_summer_64 rfl rfl ?_
    refine sp_iload_n (i := 2) (q := 67) hX dX12_summer_66 rfl rfl rfl ?_
    refine sp_icmp_ge (tgt := 84) (q := 70) hX dX12_summer_67 (by decide) rfl (fun hc => ?_) (fun hc => ?_)
    · rw [if_pos hc] at hf
      refine sp_drop (lv' := [some (.ref (sx_ad X 0)), none, none, some (.int z3), some (.int z4), none]) (And.intro rfl (And.intro rfl (And.intro rfl trivial))) ?_
      exact hX12_summer_84 hX hR hf
    · rw [if_neg hc] at hf
      refine sp_aload_n (i := 0) (q := 71) hX dX12_summer_70 rfl rfl rfl ?_
      obtain ⟨σ2, h1, hf⟩ := sp_bv_so hf
      refine sp_callVv (As := []) (rest := []) (q := 74) hX (cnX12_something (sp_st hX)  h1) cwX12_489 atM_0 rfl rfl rfl rfl rfl (Nat.le_of_ble_eq_true rfl) (Nat.le_of_ble_eq_true rfl) (Nat.le_of_ble_eq_true rfl) (Nat.le_of_ble_eq_true rfl) (Nat.le_of_ble_eq_true rfl) dX12_summer_71 rfl ?_
      refine sp_aload_n (i := 0) (q := 75) hX dX12_summer_74 rfl rfl rfl ?_
      obtain ⟨σ4, h3, hf⟩ := sp_bv_so hf
      refine sp_callVv (As := []) (rest := []) (q := 78) hX (cnX12_aDay (sp_st hX)  h3) cwX12_393 atM_0 rfl rfl rfl rfl rfl (Nat.le_of_ble_eq_true rfl) (Nat.le_of_ble_eq_true rfl) (Nat.le_of_ble_eq_true rfl) (Nat.le_of_ble_eq_true rfl) (Nat.le_of_ble_eq_true rfl) dX12_summer_75 rfl ?_
      obtain ⟨x5, e6, hf⟩ := sp_pl_some hf
      refine sp_iinc (i := 5) (v := x5) (lv' := [some (.ref (sx_ad X 0)), none, some (.int z2), some (.int z3), some (.int z4), some (.int x5)]) (q := 81) hX dX12_summer_78 rfl (by rw [e6, li_1]) (Nat.le_of_ble_eq_true rfl) rfl rfl rfl ?_
      refine sp_goto (tgt := 64) hX dX12_summer_81 (by decide) ?_
      exact ih σ4 z2 z3 z4 x5 hf
set_option maxRecDepth 100000 in
set_option maxHeartbeats 4000000 in
theorem hX12_summer {X : sp_X} (hX : sp_OK shM X cX12_summer RX12 6 rmX12_summer) {τ : sp_St} {r : Int32} (hR : sp_Ri shM X (some .int) τ r 0 0) {n : Nat}  {σ : sp_St} {a1 : Int32} {a2 : Int32} {a3 : Int32}  (hf : X12_summer n σ a1 a2 a3 = some (τ, r)) : sp_GG shM X σ 6 [some (.ref (sx_ad X 0)), some (.int a1), some (.int a2), some (.int a3), none, none] [] 0 0 0 := by
  unfold X12_summer at hf
  refine sp_aload_n (i := 0) (q := 1) hX dX12_summer_0 rfl rfl rfl ?_
  refine sp_iconst (v := 0) (q := 2) hX dX12_summer_1 li_0 rfl ?_
  obtain ⟨σ1, e2, hf⟩ := sp_pl_some hf
  refine sp_puti (q := 5) hX fpX12_158 fkX12_3 atM_0 dX12_summer_2 rfl ?_
  refine sp_nms e2 ?_
  refine sp_iload_n (i := 3) (q := 6) hX dX12_summer_5 rfl rfl rfl ?_
  refine sp_i2l (q := 7) hX dX12_summer_6 rfl ?_
  refine sp_lconst (v := 0) (q := 8) hX dX12_summer_7 (by decide) rfl ?_
  refine sp_ldc2 (v := 2) (q := 11) hX wd_2201 dX12_summer_8 rfl ?_
  obtain ⟨σ4, v5, h3, hf⟩ := sp_bd_so hf
  refine sp_callSi (As := [.long a3.toInt64, .long ((0 : Int64)), .long ((2 : Int64))]) (rest := []) (q := 14) hX (cnX12_isIn (sp_st hX)  h3) cwX12_161 rfl rfl rfl rfl (Nat.le_of_ble_eq_true rfl) (Nat.le_of_ble_eq_true rfl) (Nat.le_of_ble_eq_true rfl) (Nat.le_of_ble_eq_true rfl) (Nat.le_of_ble_eq_true rfl) dX12_summer_11 rfl ?_
  refine sp_if_ne (tgt := 23) (q := 17) hX dX12_summer_14 (by decide) rfl (fun hc => ?_) (fun hc => ?_)
  · rw [if_neg hc] at hf
    refine sp_iload_n (i := 2) (q := 24) hX dX12_summer_23 rfl rfl rfl ?_
    refine sp_i2l (q := 25) hX dX12_summer_24 rfl ?_
    refine sp_lconst (v := 0) (q := 26) hX dX12_summer_25 (by decide) rfl ?_
    refine sp_ldc2 (v := 60) (q := 29) hX wd_2097 dX12_summer_26 rfl ?_
    obtain ⟨σ7, v8, h6, hf⟩ := sp_bd_so hf
    refine sp_callSi (As := [.long a2.toInt64, .long ((0 : Int64)), .long ((60 : Int64))]) (rest := []) (q := 32) hX (cnX12_isIn (sp_st hX)  h6) cwX12_161 rfl rfl rfl rfl (Nat.le_of_ble_eq_true rfl) (Nat.le_of_ble_eq_true rfl) (Nat.le_of_ble_eq_true rfl) (Nat.le_of_ble_eq_true rfl) (Nat.le_of_ble_eq_true rfl) dX12_summer_29 rfl ?_
    refine sp_if_ne (tgt := 41) (q := 35) hX dX12_summer_32 (by decide) rfl (fun hc => ?_) (fun hc => ?_)
    · rw [if_neg hc] at hf
      refine sp_aload_n (i := 0) (q := 42) hX dX12_summer_41 rfl rfl rfl ?_
      refine sp_aload_n (i := 0) (q := 43) hX dX12_summer_42 rfl rfl rfl ?_
      refine sp_gets (t := 25) (q := 46) hX flX12_102 fkX12_41 atM_0 srM_0_41 dX12_summer_43 rfl ?_
      refine sp_iconst (v := 0) (q := 47) hX dX12_summer_46 li_0 rfl ?_
      obtain ⟨σ10, h9, hf⟩ := sp_bv_so hf
      refine sp_callVv (As := [.ref (sx_ad X 25), .int ((0 : Int32))]) (rest := []) (q := 50) hX (cnX12_pack (sp_st hX) arM_25 h9) cwX12_414 atM_0 rfl rfl rfl rfl rfl (Nat.le_of_ble_eq_true rfl) (Nat.le_of_ble_eq_true rfl) (Nat.le_of_ble_eq_true rfl) (Nat.le_of_ble_eq_true rfl) (Nat.le_of_ble_eq_true rfl) dX12_summer_47 rfl ?_
      refine sp_aload_n (i := 0) (q := 51) hX dX12_summer_50 rfl rfl rfl ?_
      refine sp_iload_n (i := 1) (q := 52) hX dX12_summer_51 rfl rfl rfl ?_
      obtain ⟨σ11, e12, hf⟩ := sp_pl_some hf
      refine sp_puti (q := 55) hX fpX12_482 fkX12_54 atM_0 dX12_summer_52 rfl ?_
      refine sp_nms e12 ?_
      refine sp_aload_n (i := 0) (q := 56) hX dX12_summer_55 rfl rfl rfl ?_
      refine sp_geti (q := 59) hX flX12_327 fkX12_34 atM_0 dX12_summer_56 rfl ?_
      obtain ⟨x13, e14, hf⟩ := sp_pl_some hf
      refine sp_nmi e14 ?_
      refine sp_istore (i := 4) (lv' := [some (.ref (sx_ad X 0)), some (.int a1), some (.int a2), some (.int a3), some (.int x13), none]) (q := 61) hX dX12_summer_59 (Nat.le_of_ble_eq_true rfl) rfl rfl rfl ?_
      refine sp_iconst (v := 0) (q := 62) hX dX12_summer_61 li_0 rfl ?_
      obtain ⟨x15, e16, hf⟩ := sp_pl_some hf
      refine sp_nmi e16 ?_
      refine sp_istore (i := 5) (lv' := [some (.ref (sx_ad X 0)), some (.int a1), some (.int a2), some (.int a3), some (.int x13), some (.int x15)]) (q := 64) hX dX12_summer_62 (Nat.le_of_ble_eq_true rfl) rfl rfl rfl ?_
      refine sp_drop (lv' := [some (.ref (sx_ad X 0)), none, some (.int a2), some (.int a3), some (.int x13), some (.int x15)]) (And.intro rfl (And.intro rfl (And.intro rfl (And.intro rfl (And.intro rfl trivial))))) ?_
      exact hX12_summer_64 hX hR n σ11 a2 a3 x13 x15 hf
    · rw [if_pos hc] at hf
      refine sp_aload_n (i := 0) (q := 36) hX dX12_summer_35 rfl rfl rfl ?_
      refine sp_iconst (v := 2) (q := 37) hX dX12_summer_36 li_2 rfl ?_
      obtain ⟨σ18, v19, h17, hf⟩ := sp_bd_so hf
      refine sp_callVi (As := [.int ((2 : Int32))]) (rest := []) (q := 40) hX (cnX12_fail (sp_st hX)  h17) cwX12_312 atM_0 rfl rfl rfl rfl rfl (Nat.le_of_ble_eq_true rfl) (Nat.le_of_ble_eq_true rfl) (Nat.le_of_ble_eq_true rfl) (Nat.le_of_ble_eq_true rfl) (Nat.le_of_ble_eq_true rfl) dX12_summer_37 rfl ?_
      exact sp_iret hX hR dX12_summer_40 hf (Nat.le_of_ble_eq_true rfl) (Nat.le_of_ble_eq_true rfl)
  · rw [if_pos hc] at hf
    refine sp_aload_n (i := 0) (q := 18) hX dX12_summer_17 rfl rfl rfl ?_
    refine sp_iconst (v := 1) (q := 19) hX dX12_summer_18 li_1 rfl ?_
    obtain ⟨σ21, v22, h20, hf⟩ := sp_bd_so hf
    refine sp_callVi (As := [.int ((1 : Int32))]) (rest := []) (q := 22) hX (cnX12_fail (sp_st hX)  h20) cwX12_312 atM_0 rfl rfl rfl rfl rfl (Nat.le_of_ble_eq_true rfl) (Nat.le_of_ble_eq_true rfl) (Nat.le_of_ble_eq_true rfl) (Nat.le_of_ble_eq_true rfl) (Nat.le_of_ble_eq_true rfl) dX12_summer_19 rfl ?_
    exact sp_iret hX hR dX12_summer_22 hf (Nat.le_of_ble_eq_true rfl) (Nat.le_of_ble_eq_true rfl)
set_option maxRecDepth 100000 in
set_option maxHeartbeats 4000000 in
theorem cnX12_summer {l : Launch} (hst : l.stackTraces = false) {w : sp_Wd} {n : Nat}  {σ : sp_St} {a1 : Int32} {a2 : Int32} {a3 : Int32} {τ : sp_St} {r : Int32}  (hf : X12_summer n σ a1 a2 a3 = some (τ, r)) : sp_Ci shM l w yX12_summer cX12_summer 6 (some .int) rmX12_summer 0 0 σ [.ref (w.2.1 0), .int a1, .int a2, .int a3] τ r :=
  sp_ci (own := RX12) (by decide) rfl hst (Nat.le_of_ble_eq_true rfl) rfl (fun X hX hw hl hR => by subst hw; subst hl; exact hX12_summer hX hR   hf)
def rmX12_copyTo : Room := { frames := 0, cells := 0, slots := 0, locals := 0 }
def X12_copyTo_2 (n : Nat) (p0 m0 : Nat) (p1 m1 : Nat) : Nat → sp_St → Int32 → Option (sp_St)
  | 0, _, _ => none
  | f + 1, σ, z2 =>
    if (Int32.ofNat m0) ≤ z2 then
      some σ
    else
      sp_ck (sp_in z2 m1) <|
      sp_ck (sp_in z2 m0) <|
      sp_pl (sp_sa σ p0 z2.toNatClampNeg (sp_g σ p1 z2)) fun σ3 =>
      sp_pl (z2 + 1) fun x5 =>
      X12_copyTo_2 n p0 m0 p1 m1 f σ3 x5
def X12_copyTo (n : Nat)  (σ : sp_St) (p0 m0 : Nat) (p1 m1 : Nat) : Option (sp_St) :=
  sp_pl ((0 : Int32)) fun x1 =>
  X12_copyTo_2 n p0 m0 p1 m1 n σ x1
set_option maxRecDepth 100000 in
set_option maxHeartbeats 4000000 in
theorem hX12_copyTo_2 {X : sp_X} (hX : sp_OK shM X cX12_copyTo RX12 3 rmX12_copyTo) {τ : sp_St} (hR : sp_Rv shM X τ 0 0) {n : Nat}  {p0 m0 : Nat} (hp0 : sp_ar shM p0 1 m0) {p1 m1 : Nat} (hp1 : sp_ar shM p1 1 m1)  : ∀ (f : Nat) (σ : sp_St) (z2 : Int32), X12_copyTo_2 n p0 m0 p1 m1 f σ z2 = some τ → sp_GG shM X σ 3 [some (.ref (sx_ad X p0)), some (.ref (sx_ad X p1)), some (.int z2)] [] 2 0 0 := by
  intro f
  induction f with
  | zero =>
    intro σ z2 hf
    rw [X12_copyTo_2] at hf
    cases hf
  | succ f ih =>
    intro σ z2 hf
    rw [X12_copyTo_2] at hf
    refine sp_iload_n (i := 2) (q := 3) hX dX12_copyTo_2 rfl rfl rfl ?_
    refine sp_aload_n (i := 0) (q := 4) hX dX12_copyTo_3 rfl rfl rfl ?_
    refine sp_aleni (v := Int32.ofNat m0) (q := 5) hX hp0 rfl dX12_copyTo_4 rfl ?_
    refine sp_icmp_ge (tgt := 20) (q := 8) hX dX12_copyTo_5 (by decide) rfl (fun hc => ?_) (fun hc => ?_)
    · rw [if_pos hc] at hf
      exact sp_vret hX hR dX12_copyTo_20 hf (Nat.le_of_ble_eq_true rfl) (Nat.le_of_ble_eq_true rfl)
    · rw [if_neg hc] at hf
      refine sp_aload_n (i := 0) (q := 9) hX dX12_copyTo_8 rfl rfl rfl ?_
      refine sp_iload_n (i := 2) (q := 10) hX dX12_copyTo_9 rfl rfl rfl ?_
      refine sp_aload_n (i := 1) (q := 11) hX dX12_copyTo_10 rfl rfl rfl ?_
      refine sp_iload_n (i := 2) (q := 12) hX dX12_copyTo_11 rfl rfl rfl ?_
      obtain ⟨h1, hf⟩ := sp_ck_some hf
      refine sp_iald (q := 13) hX hp1 h1 dX12_copyTo_12 rfl ?_
      obtain ⟨h2, hf⟩ := sp_ck_some hf
      obtain ⟨σ3, e4, hf⟩ := sp_pl_some hf
      refine sp_iast (q := 14) hX hp0 h2 dX12_copyTo_13 rfl ?_
      refine sp_nms e4 ?_
      obtain ⟨x5, e6, hf⟩ := sp_pl_some hf
      refine sp_iinc (i := 2) (v := x5) (lv' := [some (.ref (sx_ad X p0)), some (.ref (sx_ad X p1)), some (.int x5)]) (q := 17) hX dX12_copyTo_14 rfl (by rw [e6, li_1]) (Nat.le_of_ble_eq_true rfl) rfl rfl rfl ?_
      refine sp_goto (tgt := 2) hX dX12_copyTo_17 (by decide) ?_
      exact ih σ3 x5 hf
set_option maxRecDepth 100000 in
set_option maxHeartbeats 4000000 in
theorem hX12_copyTo {X : sp_X} (hX : sp_OK shM X cX12_copyTo RX12 3 rmX12_copyTo) {τ : sp_St} (hR : sp_Rv shM X τ 0 0) {n : Nat}  {σ : sp_St} {p0 m0 : Nat} {p1 m1 : Nat} (hp0 : sp_ar shM p0 1 m0) (hp1 : sp_ar shM p1 1 m1) (hf : X12_copyTo n σ p0 m0 p1 m1 = some τ) : sp_GG shM X σ 3 [some (.ref (sx_ad X p0)), some (.ref (sx_ad X p1)), none] [] 0 0 0 := by
  unfold X12_copyTo at hf
  refine sp_iconst (v := 0) (q := 1) hX dX12_copyTo_0 li_0 rfl ?_
  obtain ⟨x1, e2, hf⟩ := sp_pl_some hf
  refine sp_nmi e2 ?_
  refine sp_istore_n (i := 2) (lv' := [some (.ref (sx_ad X p0)), some (.ref (sx_ad X p1)), some (.int x1)]) (q := 2) hX dX12_copyTo_1 rfl (Nat.le_of_ble_eq_true rfl) rfl rfl rfl ?_
  exact hX12_copyTo_2 hX hR hp0 hp1 n σ x1 hf
set_option maxRecDepth 100000 in
set_option maxHeartbeats 4000000 in
theorem cnX12_copyTo {l : Launch} (hst : l.stackTraces = false) {w : sp_Wd} {n : Nat}  {σ : sp_St} {p0 m0 : Nat} {p1 m1 : Nat} {τ : sp_St} (hp0 : sp_ar shM p0 1 m0) (hp1 : sp_ar shM p1 1 m1) (hf : X12_copyTo n σ p0 m0 p1 m1 = some τ) : sp_Cv shM l w yX12_copyTo cX12_copyTo 3 rmX12_copyTo 0 0 σ [.ref (w.2.1 p0), .ref (w.2.1 p1)] τ :=
  sp_cv (own := RX12) (by decide) rfl hst (Nat.le_of_ble_eq_true rfl) rfl (fun X hX hw hl hR => by subst hw; subst hl; exact hX12_copyTo hX hR  hp0 hp1 hf)
def rmX12_image : Room := { frames := 1, cells := 0, slots := 0, locals := 24 }
def X12_image (n : Nat)  (σ : sp_St)  : Option (sp_St) :=
  sp_pl (sp_si σ 0 3 ((0 : Int32))) fun σ1 =>
  sp_pl (sp_si σ1 0 55 ((1 : Int32))) fun σ3 =>
  sp_pl (sp_si σ3 0 56 (σ3.1 0 35)) fun σ5 =>
  sp_pl (sp_si σ5 0 57 (σ5.1 0 36)) fun σ7 =>
  sp_bv (X12_pack n σ7 37 88 ((0 : Int32))) fun σ10 =>
  sp_bv (X12_copyTo n σ10 38 3520 20 3520) fun σ12 =>
  sp_bv (X12_copyTo n σ12 39 8 29 8) fun σ14 =>
  sp_bv (X12_copyTo n σ14 40 8 30 8) fun σ16 =>
  sp_bv (X12_copyTo n σ16 41 8 31 8) fun σ18 =>
  sp_bv (X12_copyTo n σ18 42 3 12 3) fun σ20 =>
  some σ20
set_option maxRecDepth 100000 in
set_option maxHeartbeats 4000000 in
theorem hX12_image {X : sp_X} (hX : sp_OK shM X cX12_image RX12 1 rmX12_image) {τ : sp_St} (hR : sp_Rv shM X τ 0 0) {n : Nat}  {σ : sp_St}   (hf : X12_image n σ = some τ) : sp_GG shM X σ 1 [some (.ref (sx_ad X 0))] [] 0 0 0 := by
  unfold X12_image at hf
  refine sp_aload_n (i := 0) (q := 1) hX dX12_image_0 rfl rfl rfl ?_
  refine sp_iconst (v := 0) (q := 2) hX dX12_image_1 li_0 rfl ?_
  obtain ⟨σ1, e2, hf⟩ := sp_pl_some hf
  refine sp_puti (q := 5) hX fpX12_158 fkX12_3 atM_0 dX12_image_2 rfl ?_
  refine sp_nms e2 ?_
  refine sp_aload_n (i := 0) (q := 6) hX dX12_image_5 rfl rfl rfl ?_
  refine sp_iconst (v := 1) (q := 7) hX dX12_image_6 li_1 rfl ?_
  obtain ⟨σ3, e4, hf⟩ := sp_pl_some hf
  refine sp_putz (q := 10) hX fpX12_336 fkX12_55 atM_0 (by decide) dX12_image_7 rfl ?_
  refine sp_nms e4 ?_
  refine sp_aload_n (i := 0) (q := 11) hX dX12_image_10 rfl rfl rfl ?_
  refine sp_aload_n (i := 0) (q := 12) hX dX12_image_11 rfl rfl rfl ?_
  refine sp_geti (q := 15) hX flX12_330 fkX12_35 atM_0 dX12_image_12 rfl ?_
  obtain ⟨σ5, e6, hf⟩ := sp_pl_some hf
  refine sp_puti (q := 18) hX fpX12_492 fkX12_56 atM_0 dX12_image_15 rfl ?_
  refine sp_nms e6 ?_
  refine sp_aload_n (i := 0) (q := 19) hX dX12_image_18 rfl rfl rfl ?_
  refine sp_aload_n (i := 0) (q := 20) hX dX12_image_19 rfl rfl rfl ?_
  refine sp_geti (q := 23) hX flX12_333 fkX12_36 atM_0 dX12_image_20 rfl ?_
  obtain ⟨σ7, e8, hf⟩ := sp_pl_some hf
  refine sp_puti (q := 26) hX fpX12_495 fkX12_57 atM_0 dX12_image_23 rfl ?_
  refine sp_nms e8 ?_
  refine sp_aload_n (i := 0) (q := 27) hX dX12_image_26 rfl rfl rfl ?_
  refine sp_aload_n (i := 0) (q := 28) hX dX12_image_27 rfl rfl rfl ?_
  refine sp_gets (t := 37) (q := 31) hX flX12_140 fkX12_58 atM_0 srM_0_58 dX12_image_28 rfl ?_
  refine sp_iconst (v := 0) (q := 32) hX dX12_image_31 li_0 rfl ?_
  obtain ⟨σ10, h9, hf⟩ := sp_bv_so hf
  refine sp_callVv (As := [.ref (sx_ad X 37), .int ((0 : Int32))]) (rest := []) (q := 35) hX (cnX12_pack (sp_st hX) arM_37 h9) cwX12_414 atM_0 rfl rfl rfl rfl rfl (Nat.le_of_ble_eq_true rfl) (Nat.le_of_ble_eq_true rfl) (Nat.le_of_ble_eq_true rfl) (Nat.le_of_ble_eq_true rfl) (Nat.le_of_ble_eq_true rfl) dX12_image_32 rfl ?_
  refine sp_aload_n (i := 0) (q := 36) hX dX12_image_35 rfl rfl rfl ?_
  refine sp_gets (t := 38) (q := 39) hX flX12_143 fkX12_59 atM_0 srM_0_59 dX12_image_36 rfl ?_
  refine sp_aload_n (i := 0) (q := 40) hX dX12_image_39 rfl rfl rfl ?_
  refine sp_gets (t := 20) (q := 43) hX flX12_87 fkX12_32 atM_0 srM_0_32 dX12_image_40 rfl ?_
  obtain ⟨σ12, h11, hf⟩ := sp_bv_so hf
  refine sp_callSv (As := [.ref (sx_ad X 38), .ref (sx_ad X 20)]) (rest := []) (q := 46) hX (cnX12_copyTo (sp_st hX) arM_38 arM_20 h11) cwX12_498 rfl rfl rfl rfl (Nat.le_of_ble_eq_true rfl) (Nat.le_of_ble_eq_true rfl) (Nat.le_of_ble_eq_true rfl) (Nat.le_of_ble_eq_true rfl) (Nat.le_of_ble_eq_true rfl) dX12_image_43 rfl ?_
  refine sp_aload_n (i := 0) (q := 47) hX dX12_image_46 rfl rfl rfl ?_
  refine sp_gets (t := 39) (q := 50) hX flX12_146 fkX12_60 atM_0 srM_0_60 dX12_image_47 rfl ?_
  refine sp_aload_n (i := 0) (q := 51) hX dX12_image_50 rfl rfl rfl ?_
  refine sp_gets (t := 29) (q := 54) hX flX12_116 fkX12_45 atM_0 srM_0_45 dX12_image_51 rfl ?_
  obtain ⟨σ14, h13, hf⟩ := sp_bv_so hf
  refine sp_callSv (As := [.ref (sx_ad X 39), .ref (sx_ad X 29)]) (rest := []) (q := 57) hX (cnX12_copyTo (sp_st hX) arM_39 arM_29 h13) cwX12_498 rfl rfl rfl rfl (Nat.le_of_ble_eq_true rfl) (Nat.le_of_ble_eq_true rfl) (Nat.le_of_ble_eq_true rfl) (Nat.le_of_ble_eq_true rfl) (Nat.le_of_ble_eq_true rfl) dX12_image_54 rfl ?_
  refine sp_aload_n (i := 0) (q := 58) hX dX12_image_57 rfl rfl rfl ?_
  refine sp_gets (t := 40) (q := 61) hX flX12_149 fkX12_61 atM_0 srM_0_61 dX12_image_58 rfl ?_
  refine sp_aload_n (i := 0) (q := 62) hX dX12_image_61 rfl rfl rfl ?_
  refine sp_gets (t := 30) (q := 65) hX flX12_119 fkX12_46 atM_0 srM_0_46 dX12_image_62 rfl ?_
  obtain ⟨σ16, h15, hf⟩ := sp_bv_so hf
  refine sp_callSv (As := [.ref (sx_ad X 40), .ref (sx_ad X 30)]) (rest := []) (q := 68) hX (cnX12_copyTo (sp_st hX) arM_40 arM_30 h15) cwX12_498 rfl rfl rfl rfl (Nat.le_of_ble_eq_true rfl) (Nat.le_of_ble_eq_true rfl) (Nat.le_of_ble_eq_true rfl) (Nat.le_of_ble_eq_true rfl) (Nat.le_of_ble_eq_true rfl) dX12_image_65 rfl ?_
  refine sp_aload_n (i := 0) (q := 69) hX dX12_image_68 rfl rfl rfl ?_
  refine sp_gets (t := 41) (q := 72) hX flX12_152 fkX12_62 atM_0 srM_0_62 dX12_image_69 rfl ?_
  refine sp_aload_n (i := 0) (q := 73) hX dX12_image_72 rfl rfl rfl ?_
  refine sp_gets (t := 31) (q := 76) hX flX12_122 fkX12_47 atM_0 srM_0_47 dX12_image_73 rfl ?_
  obtain ⟨σ18, h17, hf⟩ := sp_bv_so hf
  refine sp_callSv (As := [.ref (sx_ad X 41), .ref (sx_ad X 31)]) (rest := []) (q := 79) hX (cnX12_copyTo (sp_st hX) arM_41 arM_31 h17) cwX12_498 rfl rfl rfl rfl (Nat.le_of_ble_eq_true rfl) (Nat.le_of_ble_eq_true rfl) (Nat.le_of_ble_eq_true rfl) (Nat.le_of_ble_eq_true rfl) (Nat.le_of_ble_eq_true rfl) dX12_image_76 rfl ?_
  refine sp_aload_n (i := 0) (q := 80) hX dX12_image_79 rfl rfl rfl ?_
  refine sp_gets (t := 42) (q := 83) hX flX12_155 fkX12_63 atM_0 srM_0_63 dX12_image_80 rfl ?_
  refine sp_aload_n (i := 0) (q := 84) hX dX12_image_83 rfl rfl rfl ?_
  refine sp_gets (t := 12) (q := 87) hX flX12_60 fkX12_13 atM_0 srM_0_13 dX12_image_84 rfl ?_
  obtain ⟨σ20, h19, hf⟩ := sp_bv_so hf
  refine sp_callSv (As := [.ref (sx_ad X 42), .ref (sx_ad X 12)]) (rest := []) (q := 90) hX (cnX12_copyTo (sp_st hX) arM_42 arM_12 h19) cwX12_498 rfl rfl rfl rfl (Nat.le_of_ble_eq_true rfl) (Nat.le_of_ble_eq_true rfl) (Nat.le_of_ble_eq_true rfl) (Nat.le_of_ble_eq_true rfl) (Nat.le_of_ble_eq_true rfl) dX12_image_87 rfl ?_
  exact sp_vret hX hR dX12_image_90 hf (Nat.le_of_ble_eq_true rfl) (Nat.le_of_ble_eq_true rfl)
set_option maxRecDepth 100000 in
set_option maxHeartbeats 4000000 in
theorem cnX12_image {l : Launch} (hst : l.stackTraces = false) {w : sp_Wd} {n : Nat}  {σ : sp_St}  {τ : sp_St}  (hf : X12_image n σ = some τ) : sp_Cv shM l w yX12_image cX12_image 1 rmX12_image 0 0 σ [.ref (w.2.1 0)] τ :=
  sp_cv (own := RX12) (by decide) rfl hst (Nat.le_of_ble_eq_true rfl) rfl (fun X hX hw hl hR => by subst hw; subst hl; exact hX12_image hX hR   hf)
def rmX12_restore : Room := { frames := 1, cells := 0, slots := 0, locals := 24 }
def X12_restore (n : Nat)  (σ : sp_St)  : Option (sp_St × Int32) :=
  sp_pl (sp_si σ 0 3 ((0 : Int32))) fun σ1 =>
  if (σ1.1 0 55) = 0 then
    some (σ1, (0 : Int32))
  else
    sp_pl (sp_si σ1 0 35 (σ1.1 0 56)) fun σ3 =>
    sp_pl (sp_si σ3 0 36 (σ3.1 0 57)) fun σ5 =>
    sp_bv (X12_unpack n σ5 37 88 ((0 : Int32))) fun σ8 =>
    sp_bv (X12_copyTo n σ8 20 3520 38 3520) fun σ10 =>
    sp_bv (X12_copyTo n σ10 29 8 39 8) fun σ12 =>
    sp_bv (X12_copyTo n σ12 30 8 40 8) fun σ14 =>
    sp_bv (X12_copyTo n σ14 31 8 41 8) fun σ16 =>
    sp_bv (X12_copyTo n σ16 12 3 42 3) fun σ18 =>
    some (σ18, (1 : Int32))
set_option maxRecDepth 100000 in
set_option maxHeartbeats 4000000 in
theorem hX12_restore {X : sp_X} (hX : sp_OK shM X cX12_restore RX12 1 rmX12_restore) {τ : sp_St} {r : Int32} (hR : sp_Ri shM X (some .boolean) τ r 0 0) {n : Nat}  {σ : sp_St}   (hf : X12_restore n σ = some (τ, r)) : sp_GG shM X σ 1 [some (.ref (sx_ad X 0))] [] 0 0 0 := by
  unfold X12_restore at hf
  refine sp_aload_n (i := 0) (q := 1) hX dX12_restore_0 rfl rfl rfl ?_
  refine sp_iconst (v := 0) (q := 2) hX dX12_restore_1 li_0 rfl ?_
  obtain ⟨σ1, e2, hf⟩ := sp_pl_some hf
  refine sp_puti (q := 5) hX fpX12_158 fkX12_3 atM_0 dX12_restore_2 rfl ?_
  refine sp_nms e2 ?_
  refine sp_aload_n (i := 0) (q := 6) hX dX12_restore_5 rfl rfl rfl ?_
  refine sp_geti (q := 9) hX flX12_336 fkX12_55 atM_0 dX12_restore_6 rfl ?_
  refine sp_if_ne (tgt := 14) (q := 12) hX dX12_restore_9 (by decide) rfl (fun hc => ?_) (fun hc => ?_)
  · rw [if_neg hc] at hf
    refine sp_aload_n (i := 0) (q := 15) hX dX12_restore_14 rfl rfl rfl ?_
    refine sp_aload_n (i := 0) (q := 16) hX dX12_restore_15 rfl rfl rfl ?_
    refine sp_geti (q := 19) hX flX12_492 fkX12_56 atM_0 dX12_restore_16 rfl ?_
    obtain ⟨σ3, e4, hf⟩ := sp_pl_some hf
    refine sp_puti (q := 22) hX fpX12_330 fkX12_35 atM_0 dX12_restore_19 rfl ?_
    refine sp_nms e4 ?_
    refine sp_aload_n (i := 0) (q := 23) hX dX12_restore_22 rfl rfl rfl ?_
    refine sp_aload_n (i := 0) (q := 24) hX dX12_restore_23 rfl rfl rfl ?_
    refine sp_geti (q := 27) hX flX12_495 fkX12_57 atM_0 dX12_restore_24 rfl ?_
    obtain ⟨σ5, e6, hf⟩ := sp_pl_some hf
    refine sp_puti (q := 30) hX fpX12_333 fkX12_36 atM_0 dX12_restore_27 rfl ?_
    refine sp_nms e6 ?_
    refine sp_aload_n (i := 0) (q := 31) hX dX12_restore_30 rfl rfl rfl ?_
    refine sp_aload_n (i := 0) (q := 32) hX dX12_restore_31 rfl rfl rfl ?_
    refine sp_gets (t := 37) (q := 35) hX flX12_140 fkX12_58 atM_0 srM_0_58 dX12_restore_32 rfl ?_
    refine sp_iconst (v := 0) (q := 36) hX dX12_restore_35 li_0 rfl ?_
    obtain ⟨σ8, h7, hf⟩ := sp_bv_so hf
    refine sp_callVv (As := [.ref (sx_ad X 37), .int ((0 : Int32))]) (rest := []) (q := 39) hX (cnX12_unpack (sp_st hX) arM_37 h7) cwX12_432 atM_0 rfl rfl rfl rfl rfl (Nat.le_of_ble_eq_true rfl) (Nat.le_of_ble_eq_true rfl) (Nat.le_of_ble_eq_true rfl) (Nat.le_of_ble_eq_true rfl) (Nat.le_of_ble_eq_true rfl) dX12_restore_36 rfl ?_
    refine sp_aload_n (i := 0) (q := 40) hX dX12_restore_39 rfl rfl rfl ?_
    refine sp_gets (t := 20) (q := 43) hX flX12_87 fkX12_32 atM_0 srM_0_32 dX12_restore_40 rfl ?_
    refine sp_aload_n (i := 0) (q := 44) hX dX12_restore_43 rfl rfl rfl ?_
    refine sp_gets (t := 38) (q := 47) hX flX12_143 fkX12_59 atM_0 srM_0_59 dX12_restore_44 rfl ?_
    obtain ⟨σ10, h9, hf⟩ := sp_bv_so hf
    refine sp_callSv (As := [.ref (sx_ad X 20), .ref (sx_ad X 38)]) (rest := []) (q := 50) hX (cnX12_copyTo (sp_st hX) arM_20 arM_38 h9) cwX12_498 rfl rfl rfl rfl (Nat.le_of_ble_eq_true rfl) (Nat.le_of_ble_eq_true rfl) (Nat.le_of_ble_eq_true rfl) (Nat.le_of_ble_eq_true rfl) (Nat.le_of_ble_eq_true rfl) dX12_restore_47 rfl ?_
    refine sp_aload_n (i := 0) (q := 51) hX dX12_restore_50 rfl rfl rfl ?_
    refine sp_gets (t := 29) (q := 54) hX flX12_116 fkX12_45 atM_0 srM_0_45 dX12_restore_51 rfl ?_
    refine sp_aload_n (i := 0) (q := 55) hX dX12_restore_54 rfl rfl rfl ?_
    refine sp_gets (t := 39) (q := 58) hX flX12_146 fkX12_60 atM_0 srM_0_60 dX12_restore_55 rfl ?_
    obtain ⟨σ12, h11, hf⟩ := sp_bv_so hf
    refine sp_callSv (As := [.ref (sx_ad X 29), .ref (sx_ad X 39)]) (rest := []) (q := 61) hX (cnX12_copyTo (sp_st hX) arM_29 arM_39 h11) cwX12_498 rfl rfl rfl rfl (Nat.le_of_ble_eq_true rfl) (Nat.le_of_ble_eq_true rfl) (Nat.le_of_ble_eq_true rfl) (Nat.le_of_ble_eq_true rfl) (Nat.le_of_ble_eq_true rfl) dX12_restore_58 rfl ?_
    refine sp_aload_n (i := 0) (q := 62) hX dX12_restore_61 rfl rfl rfl ?_
    refine sp_gets (t := 30) (q := 65) hX flX12_119 fkX12_46 atM_0 srM_0_46 dX12_restore_62 rfl ?_
    refine sp_aload_n (i := 0) (q := 66) hX dX12_restore_65 rfl rfl rfl ?_
    refine sp_gets (t := 40) (q := 69) hX flX12_149 fkX12_61 atM_0 srM_0_61 dX12_restore_66 rfl ?_
    obtain ⟨σ14, h13, hf⟩ := sp_bv_so hf
    refine sp_callSv (As := [.ref (sx_ad X 30), .ref (sx_ad X 40)]) (rest := []) (q := 72) hX (cnX12_copyTo (sp_st hX) arM_30 arM_40 h13) cwX12_498 rfl rfl rfl rfl (Nat.le_of_ble_eq_true rfl) (Nat.le_of_ble_eq_true rfl) (Nat.le_of_ble_eq_true rfl) (Nat.le_of_ble_eq_true rfl) (Nat.le_of_ble_eq_true rfl) dX12_restore_69 rfl ?_
    refine sp_aload_n (i := 0) (q := 73) hX dX12_restore_72 rfl rfl rfl ?_
    refine sp_gets (t := 31) (q := 76) hX flX12_122 fkX12_47 atM_0 srM_0_47 dX12_restore_73 rfl ?_
    refine sp_aload_n (i := 0) (q := 77) hX dX12_restore_76 rfl rfl rfl ?_
    refine sp_gets (t := 41) (q := 80) hX flX12_152 fkX12_62 atM_0 srM_0_62 dX12_restore_77 rfl ?_
    obtain ⟨σ16, h15, hf⟩ := sp_bv_so hf
    refine sp_callSv (As := [.ref (sx_ad X 31), .ref (sx_ad X 41)]) (rest := []) (q := 83) hX (cnX12_copyTo (sp_st hX) arM_31 arM_41 h15) cwX12_498 rfl rfl rfl rfl (Nat.le_of_ble_eq_true rfl) (Nat.le_of_ble_eq_true rfl) (Nat.le_of_ble_eq_true rfl) (Nat.le_of_ble_eq_true rfl) (Nat.le_of_ble_eq_true rfl) dX12_restore_80 rfl ?_
    refine sp_aload_n (i := 0) (q := 84) hX dX12_restore_83 rfl rfl rfl ?_
    refine sp_gets (t := 12) (q := 87) hX flX12_60 fkX12_13 atM_0 srM_0_13 dX12_restore_84 rfl ?_
    refine sp_aload_n (i := 0) (q := 88) hX dX12_restore_87 rfl rfl rfl ?_
    refine sp_gets (t := 42) (q := 91) hX flX12_155 fkX12_63 atM_0 srM_0_63 dX12_restore_88 rfl ?_
    obtain ⟨σ18, h17, hf⟩ := sp_bv_so hf
    refine sp_callSv (As := [.ref (sx_ad X 12), .ref (sx_ad X 42)]) (rest := []) (q := 94) hX (cnX12_copyTo (sp_st hX) arM_12 arM_42 h17) cwX12_498 rfl rfl rfl rfl (Nat.le_of_ble_eq_true rfl) (Nat.le_of_ble_eq_true rfl) (Nat.le_of_ble_eq_true rfl) (Nat.le_of_ble_eq_true rfl) (Nat.le_of_ble_eq_true rfl) dX12_restore_91 rfl ?_
    refine sp_iconst (v := 1) (q := 95) hX dX12_restore_94 li_1 rfl ?_
    exact sp_zret hX hR (by decide) dX12_restore_95 hf (Nat.le_of_ble_eq_true rfl) (Nat.le_of_ble_eq_true rfl)
  · rw [if_pos hc] at hf
    refine sp_iconst (v := 0) (q := 13) hX dX12_restore_12 li_0 rfl ?_
    exact sp_zret hX hR (by decide) dX12_restore_13 hf (Nat.le_of_ble_eq_true rfl) (Nat.le_of_ble_eq_true rfl)
set_option maxRecDepth 100000 in
set_option maxHeartbeats 4000000 in
theorem cnX12_restore {l : Launch} (hst : l.stackTraces = false) {w : sp_Wd} {n : Nat}  {σ : sp_St}  {τ : sp_St} {r : Int32}  (hf : X12_restore n σ = some (τ, r)) : sp_Ci shM l w yX12_restore cX12_restore 1 (some .boolean) rmX12_restore 0 0 σ [.ref (w.2.1 0)] τ r :=
  sp_ci (own := RX12) (by decide) rfl hst (Nat.le_of_ble_eq_true rfl) rfl (fun X hX hw hl hR => by subst hw; subst hl; exact hX12_restore hX hR   hf)
