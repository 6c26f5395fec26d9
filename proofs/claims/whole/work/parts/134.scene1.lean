def rmX8_changeOf : Room := { frames := 2, cells := 0, slots := 0, locals := 50 }
def X8_changeOf_204 (n : Nat) (t : Nat) (σ : sp_St) (z5 : Int32) : Option (sp_St × Int32) :=
  sp_pl (sp_min ((99 : Int32)) z5) fun v1 =>
  sp_pl (sp_max ((0 : Int32)) v1) fun v3 =>
  some (σ, v3)
def X8_changeOf_80 (n : Nat) (t : Nat) (σ : sp_St) (z1 : Int32) (z2 : Int32) (z3 : Int32) (z4 : Int32) : Option (sp_St × Int32) :=
  sp_ck (sp_in z1 50) <|
  sp_pl (σ.2.1 t 0) fun c2 =>
  sp_ck (sp_isc c2) <|
  sp_ck (sp_in z1 10) <|
  sp_bv (X0_setForAll n σ (t + 5) (sp_g σ (t + 1) z1) (sp_g σ (c2 + 2) z1) (sp_g σ (t + 1) ((47 : Int32))) z4) fun σ7 =>
  if z3 = 0 then
    sp_ck (sp_in z2 7) <|
    sp_bd (J6_bitCount_0f7a4 n σ7 (sp_g σ7 (t + 3) z2)) fun σ10 v11 =>
    sp_bd (X8_bladesAbove n σ10 t z1) fun σ13 v14 =>
    sp_bd (J6_bitCount_0f7a4 n σ13 v14) fun σ16 v17 =>
    sp_bv (X0_setForCools n σ16 (t + 5) (v11 - ((1 : Int32))) v17) fun σ19 =>
    sp_pl (σ19.2.1 t 0) fun c20 =>
    sp_ck (sp_isc c20) <|
    sp_bd (X0_work n σ19 (t + 5) (c20 + 8) 700 (σ19.1 c20 9) (σ19.1 c20 10)) fun σ24 v25 =>
    X8_changeOf_204 n t σ24 v25
  else
    sp_pl (σ7.2.1 t 0) fun c26 =>
    sp_ck (sp_isc c26) <|
    sp_bd (X0_work n σ7 (t + 5) (c26 + 8) 700 (σ7.1 c26 11) (σ7.1 c26 12)) fun σ30 v31 =>
    X8_changeOf_204 n t σ30 v31
def X8_changeOf_66 (n : Nat) (t : Nat) (σ : sp_St) (z3 : Int32) (z4 : Int32) : Option (sp_St × Int32) :=
  sp_pl (if z3 = 0 then (((2 : Int32)) + z4) else z4) fun v1 =>
  some (σ, v1)
def X8_changeOf_20 (n : Nat) (t : Nat) (σ : sp_St) : Option (sp_St × Int32) :=
  some (σ, (0 : Int32))
def X8_changeOf (n : Nat)  (σ : sp_St) (t : Nat) (a1 : Int32) : Option (sp_St × Int32) :=
  sp_ck (sp_in (((10 : Int32)) + a1) 50) <|
  sp_pl (sp_g σ (t + 1) (((10 : Int32)) + a1)) fun x2 =>
  if x2 < 0 then
    X8_changeOf_20 n t σ
  else
    if x2 < ((6 : Int32)) then
      sp_pl (if x2 = 0 then ((1 : Int32)) else ((0 : Int32))) fun v4 =>
      sp_bd (X8_foesWith n σ t a1) fun σ7 v8 =>
      if v4 = 0 then
        sp_pl (σ7.2.1 t 0) fun c9 =>
        sp_ck (sp_isc c9) <|
        sp_bd (X2_coolsTold n σ7 c9) fun σ13 v14 =>
        if v14 = 0 then
          X8_changeOf_66 n t σ13 v4 v8
        else
          X8_changeOf_80 n t σ13 a1 x2 v4 v8
      else
        sp_pl (σ7.2.1 t 0) fun c15 =>
        sp_ck (sp_isc c15) <|
        sp_bd (X2_risesTold n σ7 c15) fun σ19 v20 =>
        if v20 = 0 then
          X8_changeOf_66 n t σ19 v4 v8
        else
          X8_changeOf_80 n t σ19 a1 x2 v4 v8
    else
      X8_changeOf_20 n t σ
set_option maxRecDepth 100000 in
set_option maxHeartbeats 4000000 in
theorem hX8_changeOf_204 {X : sp_X} (hX : sp_OK shX X cX8_changeOf RX8 6 rmX8_changeOf) {τ : sp_St} {r : Int32} (hR : sp_Ri shX X (some .int) τ r 0 0) {n : Nat}  {t : Nat} (ht : sp_at shX t 8 6)  {σ : sp_St} {z5 : Int32} (hf : X8_changeOf_204 n t σ z5 = some (τ, r)) : sp_GG shX X σ 6 [none, none, none, none, none, some (.int z5)] [] 204 0 0 := by
  unfold X8_changeOf_204 at hf
  refine sp_iconst (v := 0) (q := 205) hX dX8_changeOf_204 li_0 rfl ?_
  refine sp_bipush (v := 99) (q := 207) hX dX8_changeOf_205 lb_99 rfl ?_
  refine sp_iload (i := 5) (q := 209) hX dX8_changeOf_207 rfl rfl ?_
  obtain ⟨v1, e2, hf⟩ := sp_pl_some hf
  refine sp_mmin (q := 212) hX wd_673 wd_607 wd_144 wd_608 (Nat.le_of_ble_eq_true rfl) (Nat.le_of_ble_eq_true rfl) (Nat.le_of_ble_eq_true rfl) (Nat.le_of_ble_eq_true rfl) dX8_changeOf_209 rfl ?_
  refine sp_nmi e2 ?_
  obtain ⟨v3, e4, hf⟩ := sp_pl_some hf
  refine sp_mmax (q := 215) hX wd_674 wd_656 wd_144 wd_657 (Nat.le_of_ble_eq_true rfl) (Nat.le_of_ble_eq_true rfl) (Nat.le_of_ble_eq_true rfl) (Nat.le_of_ble_eq_true rfl) dX8_changeOf_212 rfl ?_
  refine sp_nmi e4 ?_
  exact sp_iret hX hR dX8_changeOf_215 hf (Nat.le_of_ble_eq_true rfl) (Nat.le_of_ble_eq_true rfl)
set_option maxRecDepth 100000 in
set_option maxHeartbeats 4000000 in
theorem hX8_changeOf_80 {X : sp_X} (hX : sp_OK shX X cX8_changeOf RX8 6 rmX8_changeOf) {τ : sp_St} {r : Int32} (hR : sp_Ri shX X (some .int) τ r 0 0) {n : Nat}  {t : Nat} (ht : sp_at shX t 8 6)  {σ : sp_St} {z1 : Int32} {z2 : Int32} {z3 : Int32} {z4 : Int32} (hf : X8_changeOf_80 n t σ z1 z2 z3 z4 = some (τ, r)) : sp_GG shX X σ 6 [some (.ref (sx_ad X t)), some (.int z1), some (.int z2), some (.int z3), some (.int z4), none] [] 80 0 0 := by
  unfold X8_changeOf_80 at hf
  refine sp_aload_n (i := 0) (q := 81) hX dX8_changeOf_80 rfl rfl rfl ?_
  refine sp_gets (t := t + 5) (q := 84) hX flX8_27 fkX8_5 ht (msX8_5 ht) dX8_changeOf_81 rfl ?_
  refine sp_aload_n (i := 0) (q := 85) hX dX8_changeOf_84 rfl rfl rfl ?_
  refine sp_gets (t := t + 1) (q := 88) hX flX8_11 fkX8_1 ht (msX8_1 ht) dX8_changeOf_85 rfl ?_
  refine sp_iload_n (i := 1) (q := 89) hX dX8_changeOf_88 rfl rfl rfl ?_
  obtain ⟨h1, hf⟩ := sp_ck_some hf
  refine sp_iald (q := 90) hX (mfX8_1 ht) h1 dX8_changeOf_89 rfl ?_
  refine sp_aload_n (i := 0) (q := 91) hX dX8_changeOf_90 rfl rfl rfl ?_
  obtain ⟨c2, e4, hf⟩ := sp_pl_some hf
  obtain ⟨h3, hf⟩ := sp_ck_some hf
  refine sp_getr (q := 94) hX flX8_31 fkX8_0 ht dX8_changeOf_91 rfl ?_
  refine sp_nmr e4 ?_
  refine sp_gets (t := c2 + 2) (q := 97) hX flX8_84 fkX2_1 (sp_isc_at h3) (msX2_1 (sp_isc_at h3)) dX8_changeOf_94 rfl ?_
  refine sp_iload_n (i := 1) (q := 98) hX dX8_changeOf_97 rfl rfl rfl ?_
  obtain ⟨h5, hf⟩ := sp_ck_some hf
  refine sp_iald (q := 99) hX (mfX2_1 (sp_isc_at h3)) h5 dX8_changeOf_98 rfl ?_
  refine sp_aload_n (i := 0) (q := 100) hX dX8_changeOf_99 rfl rfl rfl ?_
  refine sp_gets (t := t + 1) (q := 103) hX flX8_11 fkX8_1 ht (msX8_1 ht) dX8_changeOf_100 rfl ?_
  refine sp_bipush (v := 47) (q := 105) hX dX8_changeOf_103 lb_47 rfl ?_
  refine sp_iald (q := 106) hX (mfX8_1 ht) (by decide) dX8_changeOf_105 rfl ?_
  refine sp_iload (i := 4) (q := 108) hX dX8_changeOf_106 rfl rfl ?_
  obtain ⟨σ7, h6, hf⟩ := sp_bv_so hf
  refine sp_callVv (As := [.int (sp_g σ (t + 1) z1), .int (sp_g σ (c2 + 2) z1), .int (sp_g σ (t + 1) ((47 : Int32))), .int z4]) (rest := []) (q := 111) hX (cnX0_setForAll (sp_st hX) (mfX8_5 ht) h6) cwX8_139 (mfX8_5 ht) rfl rfl rfl rfl rfl (Nat.le_of_ble_eq_true rfl) (Nat.le_of_ble_eq_true rfl) (Nat.le_of_ble_eq_true rfl) (Nat.le_of_ble_eq_true rfl) (Nat.le_of_ble_eq_true rfl) dX8_changeOf_108 rfl ?_
  refine sp_iload_n (i := 3) (q := 112) hX dX8_changeOf_111 rfl rfl rfl ?_
  refine sp_if_eq (tgt := 148) (q := 115) hX dX8_changeOf_112 (by decide) rfl (fun hc => ?_) (fun hc => ?_)
  · rw [if_pos hc] at hf
    refine sp_aload_n (i := 0) (q := 149) hX dX8_changeOf_148 rfl rfl rfl ?_
    refine sp_gets (t := t + 5) (q := 152) hX flX8_27 fkX8_5 ht (msX8_5 ht) dX8_changeOf_149 rfl ?_
    refine sp_aload_n (i := 0) (q := 153) hX dX8_changeOf_152 rfl rfl rfl ?_
    refine sp_gets (t := t + 3) (q := 156) hX flX8_18 fkX8_3 ht (msX8_3 ht) dX8_changeOf_153 rfl ?_
    refine sp_iload_n (i := 2) (q := 157) hX dX8_changeOf_156 rfl rfl rfl ?_
    obtain ⟨h8, hf⟩ := sp_ck_some hf
    refine sp_iald (q := 158) hX (mfX8_3 ht) h8 dX8_changeOf_157 rfl ?_
    obtain ⟨σ10, v11, h9, hf⟩ := sp_bd_so hf
    refine sp_callSi (As := [.int (sp_g σ7 (t + 3) z2)]) (rest := [.ref (sx_ad X (t + 5))]) (q := 161) hX (cnJ6_bitCount_0f7a4 (sp_st hX)  h9) cwX8_127 rfl rfl rfl rfl (Nat.le_of_ble_eq_true rfl) (Nat.le_of_ble_eq_true rfl) (Nat.le_of_ble_eq_true rfl) (Nat.le_of_ble_eq_true rfl) (Nat.le_of_ble_eq_true rfl) dX8_changeOf_158 rfl ?_
    refine sp_iconst (v := 1) (q := 162) hX dX8_changeOf_161 li_1 rfl ?_
    refine sp_isub (q := 163) hX dX8_changeOf_162 rfl ?_
    refine sp_aload_n (i := 0) (q := 164) hX dX8_changeOf_163 rfl rfl rfl ?_
    refine sp_iload_n (i := 1) (q := 165) hX dX8_changeOf_164 rfl rfl rfl ?_
    obtain ⟨σ13, v14, h12, hf⟩ := sp_bd_so hf
    refine sp_callVi (As := [.int z1]) (rest := [.int (v11 - ((1 : Int32))), .ref (sx_ad X (t + 5))]) (q := 168) hX (cnX8_bladesAbove (sp_st hX) ht h12) cwX8_156 ht rfl rfl rfl rfl rfl (Nat.le_of_ble_eq_true rfl) (Nat.le_of_ble_eq_true rfl) (Nat.le_of_ble_eq_true rfl) (Nat.le_of_ble_eq_true rfl) (Nat.le_of_ble_eq_true rfl) dX8_changeOf_165 rfl ?_
    obtain ⟨σ16, v17, h15, hf⟩ := sp_bd_so hf
    refine sp_callSi (As := [.int v14]) (rest := [.int (v11 - ((1 : Int32))), .ref (sx_ad X (t + 5))]) (q := 171) hX (cnJ6_bitCount_0f7a4 (sp_st hX)  h15) cwX8_127 rfl rfl rfl rfl (Nat.le_of_ble_eq_true rfl) (Nat.le_of_ble_eq_true rfl) (Nat.le_of_ble_eq_true rfl) (Nat.le_of_ble_eq_true rfl) (Nat.le_of_ble_eq_true rfl) dX8_changeOf_168 rfl ?_
    obtain ⟨σ19, h18, hf⟩ := sp_bv_so hf
    refine sp_callVv (As := [.int (v11 - ((1 : Int32))), .int v17]) (rest := []) (q := 174) hX (cnX0_setForCools (sp_st hX) (mfX8_5 ht) h18) cwX8_159 (mfX8_5 ht) rfl rfl rfl rfl rfl (Nat.le_of_ble_eq_true rfl) (Nat.le_of_ble_eq_true rfl) (Nat.le_of_ble_eq_true rfl) (Nat.le_of_ble_eq_true rfl) (Nat.le_of_ble_eq_true rfl) dX8_changeOf_171 rfl ?_
    refine sp_aload_n (i := 0) (q := 175) hX dX8_changeOf_174 rfl rfl rfl ?_
    refine sp_gets (t := t + 5) (q := 178) hX flX8_27 fkX8_5 ht (msX8_5 ht) dX8_changeOf_175 rfl ?_
    refine sp_aload_n (i := 0) (q := 179) hX dX8_changeOf_178 rfl rfl rfl ?_
    obtain ⟨c20, e22, hf⟩ := sp_pl_some hf
    obtain ⟨h21, hf⟩ := sp_ck_some hf
    refine sp_getr (q := 182) hX flX8_31 fkX8_0 ht dX8_changeOf_179 rfl ?_
    refine sp_nmr e22 ?_
    refine sp_gets (t := c20 + 8) (q := 185) hX flX8_143 fkX2_7 (sp_isc_at h21) (msX2_7 (sp_isc_at h21)) dX8_changeOf_182 rfl ?_
    refine sp_aload_n (i := 0) (q := 186) hX dX8_changeOf_185 rfl rfl rfl ?_
    refine sp_getr (q := 189) hX flX8_31 fkX8_0 ht dX8_changeOf_186 rfl ?_
    refine sp_nmr e22 ?_
    refine sp_geti (q := 192) hX flX8_162 fkX2_9 (sp_isc_at h21) dX8_changeOf_189 rfl ?_
    refine sp_aload_n (i := 0) (q := 193) hX dX8_changeOf_192 rfl rfl rfl ?_
    refine sp_getr (q := 196) hX flX8_31 fkX8_0 ht dX8_changeOf_193 rfl ?_
    refine sp_nmr e22 ?_
    refine sp_geti (q := 199) hX flX8_165 fkX2_10 (sp_isc_at h21) dX8_changeOf_196 rfl ?_
    obtain ⟨σ24, v25, h23, hf⟩ := sp_bd_so hf
    refine sp_callVi (As := [.ref (sx_ad X (c20 + 8)), .int (σ19.1 c20 9), .int (σ19.1 c20 10)]) (rest := []) (q := 202) hX (cnX0_work (sp_st hX) (mfX8_5 ht) (mfX2_7 (sp_isc_at h21)) h23) cwX8_152 (mfX8_5 ht) rfl rfl rfl rfl rfl (Nat.le_of_ble_eq_true rfl) (Nat.le_of_ble_eq_true rfl) (Nat.le_of_ble_eq_true rfl) (Nat.le_of_ble_eq_true rfl) (Nat.le_of_ble_eq_true rfl) dX8_changeOf_199 rfl ?_
    refine sp_istore (i := 5) (lv' := [some (.ref (sx_ad X t)), some (.int z1), some (.int z2), some (.int z3), some (.int z4), some (.int v25)]) (q := 204) hX dX8_changeOf_202 (Nat.le_of_ble_eq_true rfl) rfl rfl rfl ?_
    refine sp_drop (lv' := [none, none, none, none, none, some (.int v25)]) (And.intro rfl trivial) ?_
    exact hX8_changeOf_204 hX hR ht hf
  · rw [if_neg hc] at hf
    refine sp_aload_n (i := 0) (q := 116) hX dX8_changeOf_115 rfl rfl rfl ?_
    refine sp_gets (t := t + 5) (q := 119) hX flX8_27 fkX8_5 ht (msX8_5 ht) dX8_changeOf_116 rfl ?_
    refine sp_aload_n (i := 0) (q := 120) hX dX8_changeOf_119 rfl rfl rfl ?_
    obtain ⟨c26, e28, hf⟩ := sp_pl_some hf
    obtain ⟨h27, hf⟩ := sp_ck_some hf
    refine sp_getr (q := 123) hX flX8_31 fkX8_0 ht dX8_changeOf_120 rfl ?_
    refine sp_nmr e28 ?_
    refine sp_gets (t := c26 + 8) (q := 126) hX flX8_143 fkX2_7 (sp_isc_at h27) (msX2_7 (sp_isc_at h27)) dX8_changeOf_123 rfl ?_
    refine sp_aload_n (i := 0) (q := 127) hX dX8_changeOf_126 rfl rfl rfl ?_
    refine sp_getr (q := 130) hX flX8_31 fkX8_0 ht dX8_changeOf_127 rfl ?_
    refine sp_nmr e28 ?_
    refine sp_geti (q := 133) hX flX8_146 fkX2_11 (sp_isc_at h27) dX8_changeOf_130 rfl ?_
    refine sp_aload_n (i := 0) (q := 134) hX dX8_changeOf_133 rfl rfl rfl ?_
    refine sp_getr (q := 137) hX flX8_31 fkX8_0 ht dX8_changeOf_134 rfl ?_
    refine sp_nmr e28 ?_
    refine sp_geti (q := 140) hX flX8_149 fkX2_12 (sp_isc_at h27) dX8_changeOf_137 rfl ?_
    obtain ⟨σ30, v31, h29, hf⟩ := sp_bd_so hf
    refine sp_callVi (As := [.ref (sx_ad X (c26 + 8)), .int (σ7.1 c26 11), .int (σ7.1 c26 12)]) (rest := []) (q := 143) hX (cnX0_work (sp_st hX) (mfX8_5 ht) (mfX2_7 (sp_isc_at h27)) h29) cwX8_152 (mfX8_5 ht) rfl rfl rfl rfl rfl (Nat.le_of_ble_eq_true rfl) (Nat.le_of_ble_eq_true rfl) (Nat.le_of_ble_eq_true rfl) (Nat.le_of_ble_eq_true rfl) (Nat.le_of_ble_eq_true rfl) dX8_changeOf_140 rfl ?_
    refine sp_istore (i := 5) (lv' := [some (.ref (sx_ad X t)), some (.int z1), some (.int z2), some (.int z3), some (.int z4), some (.int v31)]) (q := 145) hX dX8_changeOf_143 (Nat.le_of_ble_eq_true rfl) rfl rfl rfl ?_
    refine sp_goto (tgt := 204) hX dX8_changeOf_145 (by decide) ?_
    refine sp_drop (lv' := [none, none, none, none, none, some (.int v31)]) (And.intro rfl trivial) ?_
    exact hX8_changeOf_204 hX hR ht hf
set_option maxRecDepth 100000 in
set_option maxHeartbeats 4000000 in
theorem hX8_changeOf_66 {X : sp_X} (hX : sp_OK shX X cX8_changeOf RX8 6 rmX8_changeOf) {τ : sp_St} {r : Int32} (hR : sp_Ri shX X (some .int) τ r 0 0) {n : Nat}  {t : Nat} (ht : sp_at shX t 8 6)  {σ : sp_St} {z3 : Int32} {z4 : Int32} (hf : X8_changeOf_66 n t σ z3 z4 = some (τ, r)) : sp_GG shX X σ 6 [none, none, none, some (.int z3), some (.int z4), none] [] 66 0 0 := by
  unfold X8_changeOf_66 at hf
  refine sp_iload_n (i := 3) (q := 67) hX dX8_changeOf_66 rfl rfl rfl ?_
  obtain ⟨v1, e2, hf⟩ := sp_pl_some hf
  have hj3 : sp_GG shX X σ 6 [none, none, none, some (.int z3), some (.int z4), none] [.int v1] 79 0 0 := by
    exact sp_iret hX hR dX8_changeOf_79 hf (Nat.le_of_ble_eq_true rfl) (Nat.le_of_ble_eq_true rfl)
  refine sp_if_eq (tgt := 75) (q := 70) hX dX8_changeOf_67 (by decide) rfl (fun hc => ?_) (fun hc => ?_)
  · refine sp_iconst (v := 2) (q := 76) hX dX8_changeOf_75 li_2 rfl ?_
    refine sp_iload (i := 4) (q := 78) hX dX8_changeOf_76 rfl rfl ?_
    refine sp_iadd (q := 79) hX dX8_changeOf_78 rfl ?_
    exact sp_nmi (by rw [e2, if_pos hc]) hj3
  · refine sp_iload (i := 4) (q := 72) hX dX8_changeOf_70 rfl rfl ?_
    refine sp_goto (tgt := 79) hX dX8_changeOf_72 (by decide) ?_
    exact sp_nmi (by rw [e2, if_neg hc]) hj3
set_option maxRecDepth 100000 in
set_option maxHeartbeats 4000000 in
theorem hX8_changeOf_20 {X : sp_X} (hX : sp_OK shX X cX8_changeOf RX8 6 rmX8_changeOf) {τ : sp_St} {r : Int32} (hR : sp_Ri shX X (some .int) τ r 0 0) {n : Nat}  {t : Nat} (ht : sp_at shX t 8 6)  {σ : sp_St} (hf : X8_changeOf_20 n t σ = some (τ, r)) : sp_GG shX X σ 6 [none, none, none, none, none, none] [] 20 0 0 := by
  unfold X8_changeOf_20 at hf
  refine sp_iconst (v := 0) (q := 21) hX dX8_changeOf_20 li_0 rfl ?_
  exact sp_iret hX hR dX8_changeOf_21 hf (Nat.le_of_ble_eq_true rfl) (Nat.le_of_ble_eq_true rfl)
set_option maxRecDepth 100000 in
set_option maxHeartbeats 4000000 in
theorem hX8_changeOf {X : sp_X} (hX : sp_OK shX X cX8_changeOf RX8 6 rmX8_changeOf) {τ : sp_St} {r : Int32} (hR : sp_Ri shX X (some .int) τ r 0 0) {n : Nat}  {σ : sp_St} {t : Nat} {a1 : Int32} (ht : sp_at shX t 8 6) (hf : X8_changeOf n σ t a1 = some (τ, r)) : sp_GG shX X σ 6 [some (.ref (sx_ad X t)), some (.int a1), none, none, none, none] [] 0 0 0 := by
  unfold X8_changeOf at hf
  refine sp_aload_n (i := 0) (q := 1) hX dX8_changeOf_0 rfl rfl rfl ?_
  refine sp_gets (t := t + 1) (q := 4) hX flX8_11 fkX8_1 ht (msX8_1 ht) dX8_changeOf_1 rfl ?_
  refine sp_bipush (v := 10) (q := 6) hX dX8_changeOf_4 lb_10 rfl ?_
  refine sp_iload_n (i := 1) (q := 7) hX dX8_changeOf_6 rfl rfl rfl ?_
  refine sp_iadd (q := 8) hX dX8_changeOf_7 rfl ?_
  obtain ⟨h1, hf⟩ := sp_ck_some hf
  refine sp_iald (q := 9) hX (mfX8_1 ht) h1 dX8_changeOf_8 rfl ?_
  obtain ⟨x2, e3, hf⟩ := sp_pl_some hf
  refine sp_nmi e3 ?_
  refine sp_istore_n (i := 2) (lv' := [some (.ref (sx_ad X t)), some (.int a1), some (.int x2), none, none, none]) (q := 10) hX dX8_changeOf_9 rfl (Nat.le_of_ble_eq_true rfl) rfl rfl rfl ?_
  refine sp_iload_n (i := 2) (q := 11) hX dX8_changeOf_10 rfl rfl rfl ?_
  refine sp_if_lt (tgt := 20) (q := 14) hX dX8_changeOf_11 (by decide) rfl (fun hc => ?_) (fun hc => ?_)
  · rw [if_pos hc] at hf
    refine sp_drop (lv' := [none, none, none, none, none, none]) trivial ?_
    exact hX8_changeOf_20 hX hR ht hf
  · rw [if_neg hc] at hf
    refine sp_iload_n (i := 2) (q := 15) hX dX8_changeOf_14 rfl rfl rfl ?_
    refine sp_bipush (v := 6) (q := 17) hX dX8_changeOf_15 lb_6 rfl ?_
    refine sp_icmp_lt (tgt := 22) (q := 20) hX dX8_changeOf_17 (by decide) rfl (fun hc => ?_) (fun hc => ?_)
    · rw [if_pos hc] at hf
      refine sp_iload_n (i := 2) (q := 23) hX dX8_changeOf_22 rfl rfl rfl ?_
      obtain ⟨v4, e5, hf⟩ := sp_pl_some hf
      have hj21 : sp_GG shX X σ 6 [some (.ref (sx_ad X t)), some (.int a1), some (.int x2), none, none, none] [.int v4] 31 0 0 := by
        refine sp_istore_n (i := 3) (lv' := [some (.ref (sx_ad X t)), some (.int a1), some (.int x2), some (.int v4), none, none]) (q := 32) hX dX8_changeOf_31 rfl (Nat.le_of_ble_eq_true rfl) rfl rfl rfl ?_
        refine sp_aload_n (i := 0) (q := 33) hX dX8_changeOf_32 rfl rfl rfl ?_
        refine sp_iload_n (i := 1) (q := 34) hX dX8_changeOf_33 rfl rfl rfl ?_
        obtain ⟨σ7, v8, h6, hf⟩ := sp_bd_so hf
        refine sp_callVi (As := [.int a1]) (rest := []) (q := 37) hX (cnX8_foesWith (sp_st hX) ht h6) cwX8_103 ht rfl rfl rfl rfl rfl (Nat.le_of_ble_eq_true rfl) (Nat.le_of_ble_eq_true rfl) (Nat.le_of_ble_eq_true rfl) (Nat.le_of_ble_eq_true rfl) (Nat.le_of_ble_eq_true rfl) dX8_changeOf_34 rfl ?_
        refine sp_istore (i := 4) (lv' := [some (.ref (sx_ad X t)), some (.int a1), some (.int x2), some (.int v4), some (.int v8), none]) (q := 39) hX dX8_changeOf_37 (Nat.le_of_ble_eq_true rfl) rfl rfl rfl ?_
        refine sp_iload_n (i := 3) (q := 40) hX dX8_changeOf_39 rfl rfl rfl ?_
        refine sp_if_eq (tgt := 56) (q := 43) hX dX8_changeOf_40 (by decide) rfl (fun hc => ?_) (fun hc => ?_)
        · rw [if_pos hc] at hf
          refine sp_aload_n (i := 0) (q := 57) hX dX8_changeOf_56 rfl rfl rfl ?_
          obtain ⟨c9, e11, hf⟩ := sp_pl_some hf
          obtain ⟨h10, hf⟩ := sp_ck_some hf
          refine sp_getr (q := 60) hX flX8_31 fkX8_0 ht dX8_changeOf_57 rfl ?_
          refine sp_nmr e11 ?_
          obtain ⟨σ13, v14, h12, hf⟩ := sp_bd_so hf
          refine sp_callVi (As := []) (rest := []) (q := 63) hX (cnX2_coolsTold (sp_st hX) (sp_isc_at h10) h12) cwX8_136 (sp_isc_at h10) rfl rfl rfl rfl rfl (Nat.le_of_ble_eq_true rfl) (Nat.le_of_ble_eq_true rfl) (Nat.le_of_ble_eq_true rfl) (Nat.le_of_ble_eq_true rfl) (Nat.le_of_ble_eq_true rfl) dX8_changeOf_60 rfl ?_
          refine sp_if_ne (tgt := 80) (q := 66) hX dX8_changeOf_63 (by decide) rfl (fun hc => ?_) (fun hc => ?_)
          · rw [if_neg hc] at hf
            exact hX8_changeOf_80 hX hR ht hf
          · rw [if_pos hc] at hf
            refine sp_drop (lv' := [none, none, none, some (.int v4), some (.int v8), none]) (And.intro rfl (And.intro rfl trivial)) ?_
            exact hX8_changeOf_66 hX hR ht hf
        · rw [if_neg hc] at hf
          refine sp_aload_n (i := 0) (q := 44) hX dX8_changeOf_43 rfl rfl rfl ?_
          obtain ⟨c15, e17, hf⟩ := sp_pl_some hf
          obtain ⟨h16, hf⟩ := sp_ck_some hf
          refine sp_getr (q := 47) hX flX8_31 fkX8_0 ht dX8_changeOf_44 rfl ?_
          refine sp_nmr e17 ?_
          obtain ⟨σ19, v20, h18, hf⟩ := sp_bd_so hf
          refine sp_callVi (As := []) (rest := []) (q := 50) hX (cnX2_risesTold (sp_st hX) (sp_isc_at h16) h18) cwX8_132 (sp_isc_at h16) rfl rfl rfl rfl rfl (Nat.le_of_ble_eq_true rfl) (Nat.le_of_ble_eq_true rfl) (Nat.le_of_ble_eq_true rfl) (Nat.le_of_ble_eq_true rfl) (Nat.le_of_ble_eq_true rfl) dX8_changeOf_47 rfl ?_
          refine sp_if_ne (tgt := 80) (q := 53) hX dX8_changeOf_50 (by decide) rfl (fun hc => ?_) (fun hc => ?_)
          · rw [if_neg hc] at hf
            exact hX8_changeOf_80 hX hR ht hf
          · rw [if_pos hc] at hf
            refine sp_goto (tgt := 66) hX dX8_changeOf_53 (by decide) ?_
            refine sp_drop (lv' := [none, none, none, some (.int v4), some (.int v8), none]) (And.intro rfl (And.intro rfl trivial)) ?_
            exact hX8_changeOf_66 hX hR ht hf
      refine sp_if_ne (tgt := 30) (q := 26) hX dX8_changeOf_23 (by decide) rfl (fun hc => ?_) (fun hc => ?_)
      · refine sp_iconst (v := 0) (q := 31) hX dX8_changeOf_30 li_0 rfl ?_
        exact sp_nmi (by rw [e5, if_neg hc]) hj21
      · refine sp_iconst (v := 1) (q := 27) hX dX8_changeOf_26 li_1 rfl ?_
        refine sp_goto (tgt := 31) hX dX8_changeOf_27 (by decide) ?_
        exact sp_nmi (by rw [e5, if_pos hc]) hj21
    · rw [if_neg hc] at hf
      refine sp_drop (lv' := [none, none, none, none, none, none]) trivial ?_
      exact hX8_changeOf_20 hX hR ht hf
set_option maxRecDepth 100000 in
set_option maxHeartbeats 4000000 in
theorem cnX8_changeOf {l : Launch} (hst : l.stackTraces = false) {w : sp_Wd} {n : Nat}  {σ : sp_St} {t : Nat} {a1 : Int32} {τ : sp_St} {r : Int32} (ht : sp_at shX t 8 6) (hf : X8_changeOf n σ t a1 = some (τ, r)) : sp_Ci shX l w yX8_changeOf cX8_changeOf 6 (some .int) rmX8_changeOf 0 0 σ [.ref (w.2.1 t), .int a1] τ r :=
  sp_ci (own := RX8) (by decide) rfl hst (Nat.le_of_ble_eq_true rfl) rfl (fun X hX hw hl hR => by subst hw; subst hl; exact hX8_changeOf hX hR  ht hf)
def rmX8_changeAngers : Room := { frames := 3, cells := 0, slots := 0, locals := 75 }
def X8_changeAngers_105 (n : Nat) (t : Nat) (k36 : sp_St → Int32 → Option (sp_St)) (σ : sp_St) (z1 : Int32) : Option (sp_St) :=
  sp_pl (z1 + 1) fun x1 =>
  k36 σ x1
def X8_changeAngers_36 (n : Nat) (t : Nat) : Nat → sp_St → Int32 → Option (sp_St)
  | 0, _, _ => none
  | f + 1, σ, z1 =>
    sp_pl (σ.2.1 t 0) fun c1 =>
    sp_ck (sp_isc c1) <|
    if (σ.1 c1 13) ≤ z1 then
      some σ
    else
      sp_bd (X8_isOut n σ t z1) fun σ5 v6 =>
      if v6 = 0 then
        sp_ck (sp_in z1 50) <|
        sp_ck (sp_in z1 10) <|
        sp_pl (sp_max ((0 : Int32)) ((sp_g σ5 (t + 1) z1) - (sp_g σ5 (t + 4) z1))) fun v9 =>
        sp_ck (sp_in z1 50) <|
        sp_pl (sp_sa σ5 (t + 1) z1.toNatClampNeg v9) fun σ12 =>
        X8_changeAngers_105 n t (X8_changeAngers_36 n t f) σ12 z1
      else
        sp_ck (sp_in z1 50) <|
        sp_ck (sp_in z1 10) <|
        sp_pl (sp_min ((99 : Int32)) ((sp_g σ5 (t + 1) z1) + (sp_g σ5 (t + 4) z1))) fun v16 =>
        sp_ck (sp_in z1 50) <|
        sp_pl (sp_sa σ5 (t + 1) z1.toNatClampNeg v16) fun σ19 =>
        X8_changeAngers_105 n t (X8_changeAngers_36 n t f) σ19 z1
def X8_changeAngers_34 (n : Nat) (t : Nat) (σ : sp_St) : Option (sp_St) :=
  sp_pl ((0 : Int32)) fun x1 =>
  X8_changeAngers_36 n t n σ x1
def X8_changeAngers_6 (n : Nat) (t : Nat) : Nat → sp_St → Int32 → Option (sp_St)
  | 0, _, _ => none
  | f + 1, σ, z1 =>
    sp_pl (σ.2.1 t 0) fun c1 =>
    sp_ck (sp_isc c1) <|
    if (σ.1 c1 13) ≤ z1 then
      X8_changeAngers_34 n t σ
    else
      sp_bd (X8_changeOf n σ t z1) fun σ5 v6 =>
      sp_ck (sp_in z1 10) <|
      sp_pl (sp_sa σ5 (t + 4) z1.toNatClampNeg v6) fun σ8 =>
      sp_pl (z1 + 1) fun x10 =>
      X8_changeAngers_6 n t f σ8 x10
def X8_changeAngers (n : Nat)  (σ : sp_St) (t : Nat) : Option (sp_St) :=
  sp_bv (X8_lookRound n σ t) fun σ2 =>
  sp_pl ((0 : Int32)) fun x3 =>
  X8_changeAngers_6 n t n σ2 x3
set_option maxRecDepth 100000 in
set_option maxHeartbeats 4000000 in
theorem hX8_changeAngers_105 {X : sp_X} (hX : sp_OK shX X cX8_changeAngers RX8 2 rmX8_changeAngers) {τ : sp_St} (hR : sp_Rv shX X τ 0 0) {n : Nat}  {t : Nat} (ht : sp_at shX t 8 6) {k36 : sp_St → Int32 → Option (sp_St)} (hk36 : ∀ (σ : sp_St) (z1 : Int32), k36 σ z1 = some τ → sp_GG shX X σ 2 [some (.ref (sx_ad X t)), some (.int z1)] [] 36 0 0) {σ : sp_St} {z1 : Int32} (hf : X8_changeAngers_105 n t k36 σ z1 = some τ) : sp_GG shX X σ 2 [some (.ref (sx_ad X t)), some (.int z1)] [] 105 0 0 := by
  unfold X8_changeAngers_105 at hf
  obtain ⟨x1, e2, hf⟩ := sp_pl_some hf
  refine sp_iinc (i := 1) (v := x1) (lv' := [some (.ref (sx_ad X t)), some (.int x1)]) (q := 108) hX dX8_changeAngers_105 rfl (by rw [e2, li_1]) (Nat.le_of_ble_eq_true rfl) rfl rfl rfl ?_
  refine sp_goto (tgt := 36) hX dX8_changeAngers_108 (by decide) ?_
  exact hk36 σ x1 hf
set_option maxRecDepth 100000 in
set_option maxHeartbeats 4000000 in
theorem hX8_changeAngers_36 {X : sp_X} (hX : sp_OK shX X cX8_changeAngers RX8 2 rmX8_changeAngers) {τ : sp_St} (hR : sp_Rv shX X τ 0 0) {n : Nat}  {t : Nat} (ht : sp_at shX t 8 6)  : ∀ (f : Nat) (σ : sp_St) (z1 : Int32), X8_changeAngers_36 n t f σ z1 = some τ → sp_GG shX X σ 2 [some (.ref (sx_ad X t)), some (.int z1)] [] 36 0 0 := by
  intro f
  induction f with
  | zero =>
    intro σ z1 hf
    rw [X8_changeAngers_36] at hf
    cases hf
  | succ f ih =>
    intro σ z1 hf
    rw [X8_changeAngers_36] at hf
    refine sp_iload_n (i := 1) (q := 37) hX dX8_changeAngers_36 rfl rfl rfl ?_
    refine sp_aload_n (i := 0) (q := 38) hX dX8_changeAngers_37 rfl rfl rfl ?_
    obtain ⟨c1, e3, hf⟩ := sp_pl_some hf
    obtain ⟨h2, hf⟩ := sp_ck_some hf
    refine sp_getr (q := 41) hX flX8_31 fkX8_0 ht dX8_changeAngers_38 rfl ?_
    refine sp_nmr e3 ?_
    refine sp_geti (q := 44) hX flX8_40 fkX2_13 (sp_isc_at h2) dX8_changeAngers_41 rfl ?_
    refine sp_icmp_ge (tgt := 111) (q := 47) hX dX8_changeAngers_44 (by decide) rfl (fun hc => ?_) (fun hc => ?_)
    · rw [if_pos hc] at hf
      exact sp_vret hX hR dX8_changeAngers_111 hf (Nat.le_of_ble_eq_true rfl) (Nat.le_of_ble_eq_true rfl)
    · rw [if_neg hc] at hf
      refine sp_aload_n (i := 0) (q := 48) hX dX8_changeAngers_47 rfl rfl rfl ?_
      refine sp_iload_n (i := 1) (q := 49) hX dX8_changeAngers_48 rfl rfl rfl ?_
      obtain ⟨σ5, v6, h4, hf⟩ := sp_bd_so hf
      refine sp_callVi (As := [.int z1]) (rest := []) (q := 52) hX (cnX8_isOut (sp_st hX) ht h4) cwX8_66 ht rfl rfl rfl rfl rfl (Nat.le_of_ble_eq_true rfl) (Nat.le_of_ble_eq_true rfl) (Nat.le_of_ble_eq_true rfl) (Nat.le_of_ble_eq_true rfl) (Nat.le_of_ble_eq_true rfl) dX8_changeAngers_49 rfl ?_
      refine sp_if_eq (tgt := 82) (q := 55) hX dX8_changeAngers_52 (by decide) rfl (fun hc => ?_) (fun hc => ?_)
      · rw [if_pos hc] at hf
        refine sp_aload_n (i := 0) (q := 83) hX dX8_changeAngers_82 rfl rfl rfl ?_
        refine sp_gets (t := t + 1) (q := 86) hX flX8_11 fkX8_1 ht (msX8_1 ht) dX8_changeAngers_83 rfl ?_
        refine sp_iload_n (i := 1) (q := 87) hX dX8_changeAngers_86 rfl rfl rfl ?_
        refine sp_iconst (v := 0) (q := 88) hX dX8_changeAngers_87 li_0 rfl ?_
        refine sp_aload_n (i := 0) (q := 89) hX dX8_changeAngers_88 rfl rfl rfl ?_
        refine sp_gets (t := t + 1) (q := 92) hX flX8_11 fkX8_1 ht (msX8_1 ht) dX8_changeAngers_89 rfl ?_
        refine sp_iload_n (i := 1) (q := 93) hX dX8_changeAngers_92 rfl rfl rfl ?_
        obtain ⟨h7, hf⟩ := sp_ck_some hf
        refine sp_iald (q := 94) hX (mfX8_1 ht) h7 dX8_changeAngers_93 rfl ?_
        refine sp_aload_n (i := 0) (q := 95) hX dX8_changeAngers_94 rfl rfl rfl ?_
        refine sp_gets (t := t + 4) (q := 98) hX flX8_21 fkX8_4 ht (msX8_4 ht) dX8_changeAngers_95 rfl ?_
        refine sp_iload_n (i := 1) (q := 99) hX dX8_changeAngers_98 rfl rfl rfl ?_
        obtain ⟨h8, hf⟩ := sp_ck_some hf
        refine sp_iald (q := 100) hX (mfX8_4 ht) h8 dX8_changeAngers_99 rfl ?_
        refine sp_isub (q := 101) hX dX8_changeAngers_100 rfl ?_
        obtain ⟨v9, e10, hf⟩ := sp_pl_some hf
        refine sp_mmax (q := 104) hX wd_674 wd_656 wd_144 wd_657 (Nat.le_of_ble_eq_true rfl) (Nat.le_of_ble_eq_true rfl) (Nat.le_of_ble_eq_true rfl) (Nat.le_of_ble_eq_true rfl) dX8_changeAngers_101 rfl ?_
        refine sp_nmi e10 ?_
        obtain ⟨h11, hf⟩ := sp_ck_some hf
        obtain ⟨σ12, e13, hf⟩ := sp_pl_some hf
        refine sp_iast (q := 105) hX (mfX8_1 ht) h11 dX8_changeAngers_104 rfl ?_
        refine sp_nms e13 ?_
        exact hX8_changeAngers_105 hX hR ht ih hf
      · rw [if_neg hc] at hf
        refine sp_aload_n (i := 0) (q := 56) hX dX8_changeAngers_55 rfl rfl rfl ?_
        refine sp_gets (t := t + 1) (q := 59) hX flX8_11 fkX8_1 ht (msX8_1 ht) dX8_changeAngers_56 rfl ?_
        refine sp_iload_n (i := 1) (q := 60) hX dX8_changeAngers_59 rfl rfl rfl ?_
        refine sp_bipush (v := 99) (q := 62) hX dX8_changeAngers_60 lb_99 rfl ?_
        refine sp_aload_n (i := 0) (q := 63) hX dX8_changeAngers_62 rfl rfl rfl ?_
        refine sp_gets (t := t + 1) (q := 66) hX flX8_11 fkX8_1 ht (msX8_1 ht) dX8_changeAngers_63 rfl ?_
        refine sp_iload_n (i := 1) (q := 67) hX dX8_changeAngers_66 rfl rfl rfl ?_
        obtain ⟨h14, hf⟩ := sp_ck_some hf
        refine sp_iald (q := 68) hX (mfX8_1 ht) h14 dX8_changeAngers_67 rfl ?_
        refine sp_aload_n (i := 0) (q := 69) hX dX8_changeAngers_68 rfl rfl rfl ?_
        refine sp_gets (t := t + 4) (q := 72) hX flX8_21 fkX8_4 ht (msX8_4 ht) dX8_changeAngers_69 rfl ?_
        refine sp_iload_n (i := 1) (q := 73) hX dX8_changeAngers_72 rfl rfl rfl ?_
        obtain ⟨h15, hf⟩ := sp_ck_some hf
        refine sp_iald (q := 74) hX (mfX8_4 ht) h15 dX8_changeAngers_73 rfl ?_
        refine sp_iadd (q := 75) hX dX8_changeAngers_74 rfl ?_
        obtain ⟨v16, e17, hf⟩ := sp_pl_some hf
        refine sp_mmin (q := 78) hX wd_673 wd_607 wd_144 wd_608 (Nat.le_of_ble_eq_true rfl) (Nat.le_of_ble_eq_true rfl) (Nat.le_of_ble_eq_true rfl) (Nat.le_of_ble_eq_true rfl) dX8_changeAngers_75 rfl ?_
        refine sp_nmi e17 ?_
        obtain ⟨h18, hf⟩ := sp_ck_some hf
        obtain ⟨σ19, e20, hf⟩ := sp_pl_some hf
        refine sp_iast (q := 79) hX (mfX8_1 ht) h18 dX8_changeAngers_78 rfl ?_
        refine sp_nms e20 ?_
        refine sp_goto (tgt := 105) hX dX8_changeAngers_79 (by decide) ?_
        exact hX8_changeAngers_105 hX hR ht ih hf
set_option maxRecDepth 100000 in
set_option maxHeartbeats 4000000 in
theorem hX8_changeAngers_34 {X : sp_X} (hX : sp_OK shX X cX8_changeAngers RX8 2 rmX8_changeAngers) {τ : sp_St} (hR : sp_Rv shX X τ 0 0) {n : Nat}  {t : Nat} (ht : sp_at shX t 8 6)  {σ : sp_St} (hf : X8_changeAngers_34 n t σ = some τ) : sp_GG shX X σ 2 [some (.ref (sx_ad X t)), none] [] 34 0 0 := by
  unfold X8_changeAngers_34 at hf
  refine sp_iconst (v := 0) (q := 35) hX dX8_changeAngers_34 li_0 rfl ?_
  obtain ⟨x1, e2, hf⟩ := sp_pl_some hf
  refine sp_nmi e2 ?_
  refine sp_istore_n (i := 1) (lv' := [some (.ref (sx_ad X t)), some (.int x1)]) (q := 36) hX dX8_changeAngers_35 rfl (Nat.le_of_ble_eq_true rfl) rfl rfl rfl ?_
  exact hX8_changeAngers_36 hX hR ht n σ x1 hf
set_option maxRecDepth 100000 in
set_option maxHeartbeats 4000000 in
theorem hX8_changeAngers_6 {X : sp_X} (hX : sp_OK shX X cX8_changeAngers RX8 2 rmX8_changeAngers) {τ : sp_St} (hR : sp_Rv shX X τ 0 0) {n : Nat}  {t : Nat} (ht : sp_at shX t 8 6)  : ∀ (f : Nat) (σ : sp_St) (z1 : Int32), X8_changeAngers_6 n t f σ z1 = some τ → sp_GG shX X σ 2 [some (.ref (sx_ad X t)), some (.int z1)] [] 6 0 0 := by
  intro f
  induction f with
  | zero =>
    intro σ z1 hf
    rw [X8_changeAngers_6] at hf
    cases hf
  | succ f ih =>
    intro σ z1 hf
    rw [X8_changeAngers_6] at hf
    refine sp_iload_n (i := 1) (q := 7) hX dX8_changeAngers_6 rfl rfl rfl ?_
    refine sp_aload_n (i := 0) (q := 8) hX dX8_changeAngers_7 rfl rfl rfl ?_
    obtain ⟨c1, e3, hf⟩ := sp_pl_some hf
    obtain ⟨h2, hf⟩ := sp_ck_some hf
    refine sp_getr (q := 11) hX flX8_31 fkX8_0 ht dX8_changeAngers_8 rfl ?_
    refine sp_nmr e3 ?_
    refine sp_geti (q := 14) hX flX8_40 fkX2_13 (sp_isc_at h2) dX8_changeAngers_11 rfl ?_
    refine sp_icmp_ge (tgt := 34) (q := 17) hX dX8_changeAngers_14 (by decide) rfl (fun hc => ?_) (fun hc => ?_)
    · rw [if_pos hc] at hf
      refine sp_drop (lv' := [some (.ref (sx_ad X t)), none]) (And.intro rfl trivial) ?_
      exact hX8_changeAngers_34 hX hR ht hf
    · rw [if_neg hc] at hf
      refine sp_aload_n (i := 0) (q := 18) hX dX8_changeAngers_17 rfl rfl rfl ?_
      refine sp_gets (t := t + 4) (q := 21) hX flX8_21 fkX8_4 ht (msX8_4 ht) dX8_changeAngers_18 rfl ?_
      refine sp_iload_n (i := 1) (q := 22) hX dX8_changeAngers_21 rfl rfl rfl ?_
      refine sp_aload_n (i := 0) (q := 23) hX dX8_changeAngers_22 rfl rfl rfl ?_
      refine sp_iload_n (i := 1) (q := 24) hX dX8_changeAngers_23 rfl rfl rfl ?_
      obtain ⟨σ5, v6, h4, hf⟩ := sp_bd_so hf
      refine sp_callVi (As := [.int z1]) (rest := [.int z1, .ref (sx_ad X (t + 4))]) (q := 27) hX (cnX8_changeOf (sp_st hX) ht h4) cwX8_106 ht rfl rfl rfl rfl rfl (Nat.le_of_ble_eq_true rfl) (Nat.le_of_ble_eq_true rfl) (Nat.le_of_ble_eq_true rfl) (Nat.le_of_ble_eq_true rfl) (Nat.le_of_ble_eq_true rfl) dX8_changeAngers_24 rfl ?_
      obtain ⟨h7, hf⟩ := sp_ck_some hf
      obtain ⟨σ8, e9, hf⟩ := sp_pl_some hf
      refine sp_iast (q := 28) hX (mfX8_4 ht) h7 dX8_changeAngers_27 rfl ?_
      refine sp_nms e9 ?_
      obtain ⟨x10, e11, hf⟩ := sp_pl_some hf
      refine sp_iinc (i := 1) (v := x10) (lv' := [some (.ref (sx_ad X t)), some (.int x10)]) (q := 31) hX dX8_changeAngers_28 rfl (by rw [e11, li_1]) (Nat.le_of_ble_eq_true rfl) rfl rfl rfl ?_
      refine sp_goto (tgt := 6) hX dX8_changeAngers_31 (by decide) ?_
      exact ih σ8 x10 hf
set_option maxRecDepth 100000 in
set_option maxHeartbeats 4000000 in
theorem hX8_changeAngers {X : sp_X} (hX : sp_OK shX X cX8_changeAngers RX8 2 rmX8_changeAngers) {τ : sp_St} (hR : sp_Rv shX X τ 0 0) {n : Nat}  {σ : sp_St} {t : Nat} (ht : sp_at shX t 8 6) (hf : X8_changeAngers n σ t = some τ) : sp_GG shX X σ 2 [some (.ref (sx_ad X t)), none] [] 0 0 0 := by
  unfold X8_changeAngers at hf
  refine sp_aload_n (i := 0) (q := 1) hX dX8_changeAngers_0 rfl rfl rfl ?_
  obtain ⟨σ2, h1, hf⟩ := sp_bv_so hf
  refine sp_callVv (As := []) (rest := []) (q := 4) hX (cnX8_lookRound (sp_st hX) ht h1) cwX8_100 ht rfl rfl rfl rfl rfl (Nat.le_of_ble_eq_true rfl) (Nat.le_of_ble_eq_true rfl) (Nat.le_of_ble_eq_true rfl) (Nat.le_of_ble_eq_true rfl) (Nat.le_of_ble_eq_true rfl) dX8_changeAngers_1 rfl ?_
  refine sp_iconst (v := 0) (q := 5) hX dX8_changeAngers_4 li_0 rfl ?_
  obtain ⟨x3, e4, hf⟩ := sp_pl_some hf
  refine sp_nmi e4 ?_
  refine sp_istore_n (i := 1) (lv' := [some (.ref (sx_ad X t)), some (.int x3)]) (q := 6) hX dX8_changeAngers_5 rfl (Nat.le_of_ble_eq_true rfl) rfl rfl rfl ?_
  exact hX8_changeAngers_6 hX hR ht n σ2 x3 hf
set_option maxRecDepth 100000 in
set_option maxHeartbeats 4000000 in
theorem cnX8_changeAngers {l : Launch} (hst : l.stackTraces = false) {w : sp_Wd} {n : Nat}  {σ : sp_St} {t : Nat} {τ : sp_St} (ht : sp_at shX t 8 6) (hf : X8_changeAngers n σ t = some τ) : sp_Cv shX l w yX8_changeAngers cX8_changeAngers 2 rmX8_changeAngers 0 0 σ [.ref (w.2.1 t)] τ :=
  sp_cv (own := RX8) (by decide) rfl hst (Nat.le_of_ble_eq_true rfl) rfl (fun X hX hw hl hR => by subst hw; subst hl; exact hX8_changeAngers hX hR  ht hf)
def rmX8_layToRest : Room := { frames := 1, cells := 0, slots := 0, locals := 21 }
def X8_layToRest_41 (n : Nat) (t : Nat) (k2 : sp_St → Int32 → Option (sp_St)) (σ : sp_St) (z1 : Int32) : Option (sp_St) :=
  sp_pl (z1 + 1) fun x1 =>
  k2 σ x1
def X8_layToRest_2 (n : Nat) (t : Nat) : Nat → sp_St → Int32 → Option (sp_St)
  | 0, _, _ => none
  | f + 1, σ, z1 =>
    sp_pl (σ.2.1 t 0) fun c1 =>
    sp_ck (sp_isc c1) <|
    if (σ.1 c1 13) ≤ z1 then
      some σ
    else
      sp_bd (X8_isIn n σ t z1) fun σ5 v6 =>
      if v6 = 0 then
        X8_layToRest_41 n t (X8_layToRest_2 n t f) σ5 z1
      else
        sp_ck (sp_in z1 50) <|
        if (sp_g σ5 (t + 1) z1) = 0 then
          sp_ck (sp_in (((10 : Int32)) + z1) 50) <|
          sp_pl (sp_sa σ5 (t + 1) (((10 : Int32)) + z1).toNatClampNeg ((6 : Int32))) fun σ9 =>
          X8_layToRest_41 n t (X8_layToRest_2 n t f) σ9 z1
        else
          X8_layToRest_41 n t (X8_layToRest_2 n t f) σ5 z1
def X8_layToRest (n : Nat)  (σ : sp_St) (t : Nat) : Option (sp_St) :=
  sp_pl ((0 : Int32)) fun x1 =>
  X8_layToRest_2 n t n σ x1
set_option maxRecDepth 100000 in
set_option maxHeartbeats 4000000 in
theorem hX8_layToRest_41 {X : sp_X} (hX : sp_OK shX X cX8_layToRest RX8 2 rmX8_layToRest) {τ : sp_St} (hR : sp_Rv shX X τ 0 0) {n : Nat}  {t : Nat} (ht : sp_at shX t 8 6) {k2 : sp_St → Int32 → Option (sp_St)} (hk2 : ∀ (σ : sp_St) (z1 : Int32), k2 σ z1 = some τ → sp_GG shX X σ 2 [some (.ref (sx_ad X t)), some (.int z1)] [] 2 0 0) {σ : sp_St} {z1 : Int32} (hf : X8_layToRest_41 n t k2 σ z1 = some τ) : sp_GG shX X σ 2 [some (.ref (sx_ad X t)), some (.int z1)] [] 41 0 0 := by
  unfold X8_layToRest_41 at hf
  obtain ⟨x1, e2, hf⟩ := sp_pl_some hf
  refine sp_iinc (i := 1) (v := x1) (lv' := [some (.ref (sx_ad X t)), some (.int x1)]) (q := 44) hX dX8_layToRest_41 rfl (by rw [e2, li_1]) (Nat.le_of_ble_eq_true rfl) rfl rfl rfl ?_
  refine sp_goto (tgt := 2) hX dX8_layToRest_44 (by decide) ?_
  exact hk2 σ x1 hf
set_option maxRecDepth 100000 in
set_option maxHeartbeats 4000000 in
theorem hX8_layToRest_2 {X : sp_X} (hX : sp_OK shX X cX8_layToRest RX8 2 rmX8_layToRest) {τ : sp_St} (hR : sp_Rv shX X τ 0 0) {n : Nat}  {t : Nat} (ht : sp_at shX t 8 6)  : ∀ (f : Nat) (σ : sp_St) (z1 : Int32), X8_layToRest_2 n t f σ z1 = some τ → sp_GG shX X σ 2 [some (.ref (sx_ad X t)), some (.int z1)] [] 2 0 0 := by
  intro f
  induction f with
  | zero =>
    intro σ z1 hf
    rw [X8_layToRest_2] at hf
    cases hf
  | succ f ih =>
    intro σ z1 hf
    rw [X8_layToRest_2] at hf
    refine sp_iload_n (i := 1) (q := 3) hX dX8_layToRest_2 rfl rfl rfl ?_
    refine sp_aload_n (i := 0) (q := 4) hX dX8_layToRest_3 rfl rfl rfl ?_
    obtain ⟨c1, e3, hf⟩ := sp_pl_some hf
    obtain ⟨h2, hf⟩ := sp_ck_some hf
    refine sp_getr (q := 7) hX flX8_31 fkX8_0 ht dX8_layToRest_4 rfl ?_
    refine sp_nmr e3 ?_
    refine sp_geti (q := 10) hX flX8_40 fkX2_13 (sp_isc_at h2) dX8_layToRest_7 rfl ?_
    refine sp_icmp_ge (tgt := 47) (q := 13) hX dX8_layToRest_10 (by decide) rfl (fun hc => ?_) (fun hc => ?_)
    · rw [if_pos hc] at hf
      exact sp_vret hX hR dX8_layToRest_47 hf (Nat.le_of_ble_eq_true rfl) (Nat.le_of_ble_eq_true rfl)
    · rw [if_neg hc] at hf
      refine sp_aload_n (i := 0) (q := 14) hX dX8_layToRest_13 rfl rfl rfl ?_
      refine sp_iload_n (i := 1) (q := 15) hX dX8_layToRest_14 rfl rfl rfl ?_
      obtain ⟨σ5, v6, h4, hf⟩ := sp_bd_so hf
      refine sp_callVi (As := [.int z1]) (rest := []) (q := 18) hX (cnX8_isIn (sp_st hX) ht h4) cwX8_70 ht rfl rfl rfl rfl rfl (Nat.le_of_ble_eq_true rfl) (Nat.le_of_ble_eq_true rfl) (Nat.le_of_ble_eq_true rfl) (Nat.le_of_ble_eq_true rfl) (Nat.le_of_ble_eq_true rfl) dX8_layToRest_15 rfl ?_
      refine sp_if_eq (tgt := 41) (q := 21) hX dX8_layToRest_18 (by decide) rfl (fun hc => ?_) (fun hc => ?_)
      · rw [if_pos hc] at hf
        exact hX8_layToRest_41 hX hR ht ih hf
      · rw [if_neg hc] at hf
        refine sp_aload_n (i := 0) (q := 22) hX dX8_layToRest_21 rfl rfl rfl ?_
        refine sp_gets (t := t + 1) (q := 25) hX flX8_11 fkX8_1 ht (msX8_1 ht) dX8_layToRest_22 rfl ?_
        refine sp_iload_n (i := 1) (q := 26) hX dX8_layToRest_25 rfl rfl rfl ?_
        obtain ⟨h7, hf⟩ := sp_ck_some hf
        refine sp_iald (q := 27) hX (mfX8_1 ht) h7 dX8_layToRest_26 rfl ?_
        refine sp_if_ne (tgt := 41) (q := 30) hX dX8_layToRest_27 (by decide) rfl (fun hc => ?_) (fun hc => ?_)
        · rw [if_neg hc] at hf
          exact hX8_layToRest_41 hX hR ht ih hf
        · rw [if_pos hc] at hf
          refine sp_aload_n (i := 0) (q := 31) hX dX8_layToRest_30 rfl rfl rfl ?_
          refine sp_gets (t := t + 1) (q := 34) hX flX8_11 fkX8_1 ht (msX8_1 ht) dX8_layToRest_31 rfl ?_
          refine sp_bipush (v := 10) (q := 36) hX dX8_layToRest_34 lb_10 rfl ?_
          refine sp_iload_n (i := 1) (q := 37) hX dX8_layToRest_36 rfl rfl rfl ?_
          refine sp_iadd (q := 38) hX dX8_layToRest_37 rfl ?_
          refine sp_bipush (v := 6) (q := 40) hX dX8_layToRest_38 lb_6 rfl ?_
          obtain ⟨h8, hf⟩ := sp_ck_some hf
          obtain ⟨σ9, e10, hf⟩ := sp_pl_some hf
          refine sp_iast (q := 41) hX (mfX8_1 ht) h8 dX8_layToRest_40 rfl ?_
          refine sp_nms e10 ?_
          exact hX8_layToRest_41 hX hR ht ih hf
set_option maxRecDepth 100000 in
set_option maxHeartbeats 4000000 in
theorem hX8_layToRest {X : sp_X} (hX : sp_OK shX X cX8_layToRest RX8 2 rmX8_layToRest) {τ : sp_St} (hR : sp_Rv shX X τ 0 0) {n : Nat}  {σ : sp_St} {t : Nat} (ht : sp_at shX t 8 6) (hf : X8_layToRest n σ t = some τ) : sp_GG shX X σ 2 [some (.ref (sx_ad X t)), none] [] 0 0 0 := by
  unfold X8_layToRest at hf
  refine sp_iconst (v := 0) (q := 1) hX dX8_layToRest_0 li_0 rfl ?_
  obtain ⟨x1, e2, hf⟩ := sp_pl_some hf
  refine sp_nmi e2 ?_
  refine sp_istore_n (i := 1) (lv' := [some (.ref (sx_ad X t)), some (.int x1)]) (q := 2) hX dX8_layToRest_1 rfl (Nat.le_of_ble_eq_true rfl) rfl rfl rfl ?_
  exact hX8_layToRest_2 hX hR ht n σ x1 hf
set_option maxRecDepth 100000 in
set_option maxHeartbeats 4000000 in
theorem cnX8_layToRest {l : Launch} (hst : l.stackTraces = false) {w : sp_Wd} {n : Nat}  {σ : sp_St} {t : Nat} {τ : sp_St} (ht : sp_at shX t 8 6) (hf : X8_layToRest n σ t = some τ) : sp_Cv shX l w yX8_layToRest cX8_layToRest 2 rmX8_layToRest 0 0 σ [.ref (w.2.1 t)] τ :=
  sp_cv (own := RX8) (by decide) rfl hst (Nat.le_of_ble_eq_true rfl) rfl (fun X hX hw hl hR => by subst hw; subst hl; exact hX8_layToRest hX hR  ht hf)
def rmX8_hiccupAll : Room := { frames := 2, cells := 0, slots := 0, locals := 45 }
def X8_hiccupAll_46 (n : Nat) (t : Nat) (k2 : sp_St → Int32 → Option (sp_St)) (σ : sp_St) (z1 : Int32) : Option (sp_St) :=
  sp_pl (z1 + 1) fun x1 =>
  k2 σ x1
def X8_hiccupAll_2 (n : Nat) (t : Nat) : Nat → sp_St → Int32 → Option (sp_St)
  | 0, _, _ => none
  | f + 1, σ, z1 =>
    sp_pl (σ.2.1 t 0) fun c1 =>
    sp_ck (sp_isc c1) <|
    if (σ.1 c1 14) ≤ z1 then
      some σ
    else
      sp_ck (sp_in z1 5) <|
      sp_pl (sp_g σ (c1 + 6) z1) fun x5 =>
      if x5 ≤ 0 then
        X8_hiccupAll_46 n t (X8_hiccupAll_2 n t f) σ z1
      else
        sp_ck (!decide (x5 = 0)) <|
        if (((sp_g σ (t + 1) ((47 : Int32))) + ((1 : Int32))) - ((sp_g σ (t + 1) ((47 : Int32))) + ((1 : Int32))) / x5 * x5) = 0 then
          sp_bv (X8_letTopOut n σ t z1) fun σ9 =>
          X8_hiccupAll_46 n t (X8_hiccupAll_2 n t f) σ9 z1
        else
          X8_hiccupAll_46 n t (X8_hiccupAll_2 n t f) σ z1
def X8_hiccupAll (n : Nat)  (σ : sp_St) (t : Nat) : Option (sp_St) :=
  sp_pl ((0 : Int32)) fun x1 =>
  X8_hiccupAll_2 n t n σ x1
set_option maxRecDepth 100000 in
set_option maxHeartbeats 4000000 in
theorem hX8_hiccupAll_46 {X : sp_X} (hX : sp_OK shX X cX8_hiccupAll RX8 3 rmX8_hiccupAll) {τ : sp_St} (hR : sp_Rv shX X τ 0 0) {n : Nat}  {t : Nat} (ht : sp_at shX t 8 6) {k2 : sp_St → Int32 → Option (sp_St)} (hk2 : ∀ (σ : sp_St) (z1 : Int32), k2 σ z1 = some τ → sp_GG shX X σ 3 [some (.ref (sx_ad X t)), some (.int z1), none] [] 2 0 0) {σ : sp_St} {z1 : Int32} (hf : X8_hiccupAll_46 n t k2 σ z1 = some τ) : sp_GG shX X σ 3 [some (.ref (sx_ad X t)), some (.int z1), none] [] 46 0 0 := by
  unfold X8_hiccupAll_46 at hf
  obtain ⟨x1, e2, hf⟩ := sp_pl_some hf
  refine sp_iinc (i := 1) (v := x1) (lv' := [some (.ref (sx_ad X t)), some (.int x1), none]) (q := 49) hX dX8_hiccupAll_46 rfl (by rw [e2, li_1]) (Nat.le_of_ble_eq_true rfl) rfl rfl rfl ?_
  refine sp_goto (tgt := 2) hX dX8_hiccupAll_49 (by decide) ?_
  exact hk2 σ x1 hf
set_option maxRecDepth 100000 in
set_option maxHeartbeats 4000000 in
theorem hX8_hiccupAll_2 {X : sp_X} (hX : sp_OK shX X cX8_hiccupAll RX8 3 rmX8_hiccupAll) {τ : sp_St} (hR : sp_Rv shX X τ 0 0) {n : Nat}  {t : Nat} (ht : sp_at shX t 8 6)  : ∀ (f : Nat) (σ : sp_St) (z1 : Int32), X8_hiccupAll_2 n t f σ z1 = some τ → sp_GG shX X σ 3 [some (.ref (sx_ad X t)), some (.int z1), none] [] 2 0 0 := by
  intro f
  induction f with
  | zero =>
    intro σ z1 hf
    rw [X8_hiccupAll_2] at hf
    cases hf
  | succ f ih =>
    intro σ z1 hf
    rw [X8_hiccupAll_2] at hf
    refine sp_iload_n (i := 1) (q := 3) hX dX8_hiccupAll_2 rfl rfl rfl ?_
    refine sp_aload_n (i := 0) (q := 4) hX dX8_hiccupAll_3 rfl rfl rfl ?_
    obtain ⟨c1, e3, hf⟩ := sp_pl_some hf
    obtain ⟨h2, hf⟩ := sp_ck_some hf
    refine sp_getr (q := 7) hX flX8_31 fkX8_0 ht dX8_hiccupAll_4 rfl ?_
    refine sp_nmr e3 ?_
    refine sp_geti (q := 10) hX flX8_53 fkX2_14 (sp_isc_at h2) dX8_hiccupAll_7 rfl ?_
    refine sp_icmp_ge (tgt := 52) (q := 13) hX dX8_hiccupAll_10 (by decide) rfl (fun hc => ?_) (fun hc => ?_)
    · rw [if_pos hc] at hf
      exact sp_vret hX hR dX8_hiccupAll_52 hf (Nat.le_of_ble_eq_true rfl) (Nat.le_of_ble_eq_true rfl)
    · rw [if_neg hc] at hf
      refine sp_aload_n (i := 0) (q := 14) hX dX8_hiccupAll_13 rfl rfl rfl ?_
      refine sp_getr (q := 17) hX flX8_31 fkX8_0 ht dX8_hiccupAll_14 rfl ?_
      refine sp_nmr e3 ?_
      refine sp_gets (t := c1 + 6) (q := 20) hX flX8_177 fkX2_5 (sp_isc_at h2) (msX2_5 (sp_isc_at h2)) dX8_hiccupAll_17 rfl ?_
      refine sp_iload_n (i := 1) (q := 21) hX dX8_hiccupAll_20 rfl rfl rfl ?_
      obtain ⟨h4, hf⟩ := sp_ck_some hf
      refine sp_iald (q := 22) hX (mfX2_5 (sp_isc_at h2)) h4 dX8_hiccupAll_21 rfl ?_
      obtain ⟨x5, e6, hf⟩ := sp_pl_some hf
      refine sp_nmi e6 ?_
      refine sp_istore_n (i := 2) (lv' := [some (.ref (sx_ad X t)), some (.int z1), some (.int x5)]) (q := 23) hX dX8_hiccupAll_22 rfl (Nat.le_of_ble_eq_true rfl) rfl rfl rfl ?_
      refine sp_iload_n (i := 2) (q := 24) hX dX8_hiccupAll_23 rfl rfl rfl ?_
      refine sp_if_le (tgt := 46) (q := 27) hX dX8_hiccupAll_24 (by decide) rfl (fun hc => ?_) (fun hc => ?_)
      · rw [if_pos hc] at hf
        refine sp_drop (lv' := [some (.ref (sx_ad X t)), some (.int z1), none]) (And.intro rfl (And.intro rfl trivial)) ?_
        exact hX8_hiccupAll_46 hX hR ht ih hf
      · rw [if_neg hc] at hf
        refine sp_aload_n (i := 0) (q := 28) hX dX8_hiccupAll_27 rfl rfl rfl ?_
        refine sp_gets (t := t + 1) (q := 31) hX flX8_11 fkX8_1 ht (msX8_1 ht) dX8_hiccupAll_28 rfl ?_
        refine sp_bipush (v := 47) (q := 33) hX dX8_hiccupAll_31 lb_47 rfl ?_
        refine sp_iald (q := 34) hX (mfX8_1 ht) (by decide) dX8_hiccupAll_33 rfl ?_
        refine sp_iconst (v := 1) (q := 35) hX dX8_hiccupAll_34 li_1 rfl ?_
        refine sp_iadd (q := 36) hX dX8_hiccupAll_35 rfl ?_
        refine sp_iload_n (i := 2) (q := 37) hX dX8_hiccupAll_36 rfl rfl rfl ?_
        obtain ⟨h7, hf⟩ := sp_ck_some hf
        refine sp_irem (q := 38) hX dX8_hiccupAll_37 (sp_nz h7) rfl ?_
        refine sp_if_ne (tgt := 46) (q := 41) hX dX8_hiccupAll_38 (by decide) rfl (fun hc => ?_) (fun hc => ?_)
        · rw [if_neg hc] at hf
          refine sp_drop (lv' := [some (.ref (sx_ad X t)), some (.int z1), none]) (And.intro rfl (And.intro rfl trivial)) ?_
          exact hX8_hiccupAll_46 hX hR ht ih hf
        · rw [if_pos hc] at hf
          refine sp_aload_n (i := 0) (q := 42) hX dX8_hiccupAll_41 rfl rfl rfl ?_
          refine sp_iload_n (i := 1) (q := 43) hX dX8_hiccupAll_42 rfl rfl rfl ?_
          obtain ⟨σ9, h8, hf⟩ := sp_bv_so hf
          refine sp_callVv (As := [.int z1]) (rest := []) (q := 46) hX (cnX8_letTopOut (sp_st hX) ht h8) cwX8_180 ht rfl rfl rfl rfl rfl (Nat.le_of_ble_eq_true rfl) (Nat.le_of_ble_eq_true rfl) (Nat.le_of_ble_eq_true rfl) (Nat.le_of_ble_eq_true rfl) (Nat.le_of_ble_eq_true rfl) dX8_hiccupAll_43 rfl ?_
          refine sp_drop (lv' := [some (.ref (sx_ad X t)), some (.int z1), none]) (And.intro rfl (And.intro rfl trivial)) ?_
          exact hX8_hiccupAll_46 hX hR ht ih hf
set_option maxRecDepth 100000 in
set_option maxHeartbeats 4000000 in
theorem hX8_hiccupAll {X : sp_X} (hX : sp_OK shX X cX8_hiccupAll RX8 3 rmX8_hiccupAll) {τ : sp_St} (hR : sp_Rv shX X τ 0 0) {n : Nat}  {σ : sp_St} {t : Nat} (ht : sp_at shX t 8 6) (hf : X8_hiccupAll n σ t = some τ) : sp_GG shX X σ 3 [some (.ref (sx_ad X t)), none, none] [] 0 0 0 := by
  unfold X8_hiccupAll at hf
  refine sp_iconst (v := 0) (q := 1) hX dX8_hiccupAll_0 li_0 rfl ?_
  obtain ⟨x1, e2, hf⟩ := sp_pl_some hf
  refine sp_nmi e2 ?_
  refine sp_istore_n (i := 1) (lv' := [some (.ref (sx_ad X t)), some (.int x1), none]) (q := 2) hX dX8_hiccupAll_1 rfl (Nat.le_of_ble_eq_true rfl) rfl rfl rfl ?_
  exact hX8_hiccupAll_2 hX hR ht n σ x1 hf
set_option maxRecDepth 100000 in
set_option maxHeartbeats 4000000 in
theorem cnX8_hiccupAll {l : Launch} (hst : l.stackTraces = false) {w : sp_Wd} {n : Nat}  {σ : sp_St} {t : Nat} {τ : sp_St} (ht : sp_at shX t 8 6) (hf : X8_hiccupAll n σ t = some τ) : sp_Cv shX l w yX8_hiccupAll cX8_hiccupAll 3 rmX8_hiccupAll 0 0 σ [.ref (w.2.1 t)] τ :=
  sp_cv (own := RX8) (by decide) rfl hst (Nat.le_of_ble_eq_true rfl) rfl (fun X hX hw hl hR => by subst hw; subst hl; exact hX8_hiccupAll hX hR  ht hf)
def rmX8_firstFoe : Room := { frames := 0, cells := 0, slots := 0, locals := 0 }
def X8_firstFoe_65 (n : Nat) (t : Nat) (σ : sp_St) : Option (sp_St × Int32) :=
  some (σ, (-1 : Int32))
def X8_firstFoe_56 (n : Nat) (t : Nat) (σ : sp_St) (z4 : Int32) : Option (sp_St × Int32) :=
  some (σ, z4)
def X8_firstFoe_35 (n : Nat) (t : Nat) : Nat → sp_St → Int32 → Int32 → Option (sp_St × Int32)
  | 0, _, _, _ => none
  | f + 1, σ, z3, z4 =>
    sp_pl (σ.2.1 t 0) fun c1 =>
    sp_ck (sp_isc c1) <|
    if (σ.1 c1 13) ≤ z4 then
      X8_firstFoe_65 n t σ
    else
      if ((z3 >>> (z4 &&& 31)) &&& ((1 : Int32))) = 0 then
        sp_pl (z4 + 1) fun x4 =>
        X8_firstFoe_35 n t f σ z3 x4
      else
        X8_firstFoe_56 n t σ z4
def X8_firstFoe (n : Nat)  (σ : sp_St) (t : Nat) (a1 : Int32) (a2 : Int32) : Option (sp_St × Int32) :=
  if ((a2 >>> (a1 &&& 31)) &&& ((1 : Int32))) = 0 then
    some (σ, (-1 : Int32))
  else
    sp_pl (σ.2.1 t 0) fun c1 =>
    sp_ck (sp_isc c1) <|
    sp_ck (sp_in a1 10) <|
    sp_ck (sp_in (((41 : Int32)) + (sp_g σ (c1 + 1) a1)) 50) <|
    sp_pl (a2 &&& (sp_g σ (t + 1) (((41 : Int32)) + (sp_g σ (c1 + 1) a1)))) fun x6 =>
    sp_pl (a1 + ((1 : Int32))) fun x8 =>
    X8_firstFoe_35 n t n σ x6 x8
set_option maxRecDepth 100000 in
set_option maxHeartbeats 4000000 in
theorem hX8_firstFoe_65 {X : sp_X} (hX : sp_OK shX X cX8_firstFoe RX8 5 rmX8_firstFoe) {τ : sp_St} {r : Int32} (hR : sp_Ri shX X (some .int) τ r 0 0) {n : Nat}  {t : Nat} (ht : sp_at shX t 8 6)  {σ : sp_St} (hf : X8_firstFoe_65 n t σ = some (τ, r)) : sp_GG shX X σ 5 [none, none, none, none, none] [] 65 0 0 := by
  unfold X8_firstFoe_65 at hf
  refine sp_iconst (v := -1) (q := 66) hX dX8_firstFoe_65 li_m1 rfl ?_
  exact sp_iret hX hR dX8_firstFoe_66 hf (Nat.le_of_ble_eq_true rfl) (Nat.le_of_ble_eq_true rfl)
set_option maxRecDepth 100000 in
set_option maxHeartbeats 4000000 in
theorem hX8_firstFoe_56 {X : sp_X} (hX : sp_OK shX X cX8_firstFoe RX8 5 rmX8_firstFoe) {τ : sp_St} {r : Int32} (hR : sp_Ri shX X (some .int) τ r 0 0) {n : Nat}  {t : Nat} (ht : sp_at shX t 8 6)  {σ : sp_St} {z4 : Int32} (hf : X8_firstFoe_56 n t σ z4 = some (τ, r)) : sp_GG shX X σ 5 [none, none, none, none, some (.int z4)] [] 56 0 0 := by
  unfold X8_firstFoe_56 at hf
  refine sp_iload (i := 4) (q := 58) hX dX8_firstFoe_56 rfl rfl ?_
  exact sp_iret hX hR dX8_firstFoe_58 hf (Nat.le_of_ble_eq_true rfl) (Nat.le_of_ble_eq_true rfl)
set_option maxRecDepth 100000 in
set_option maxHeartbeats 4000000 in
theorem hX8_firstFoe_35 {X : sp_X} (hX : sp_OK shX X cX8_firstFoe RX8 5 rmX8_firstFoe) {τ : sp_St} {r : Int32} (hR : sp_Ri shX X (some .int) τ r 0 0) {n : Nat}  {t : Nat} (ht : sp_at shX t 8 6)  : ∀ (f : Nat) (σ : sp_St) (z3 : Int32) (z4 : Int32), X8_firstFoe_35 n t f σ z3 z4 = some (τ, r) → sp_GG shX X σ 5 [some (.ref (sx_ad X t)), none, none, some (.int z3), some (.int z4)] [] 35 0 0 := by
  intro f
  induction f with
  | zero =>
    intro σ z3 z4 hf
    rw [X8_firstFoe_35] at hf
    cases hf
  | succ f ih =>
    intro σ z3 z4 hf
    rw [X8_firstFoe_35] at hf
    refine sp_iload (i := 4) (q := 37) hX dX8_firstFoe_35 rfl rfl ?_
    refine sp_aload_n (i := 0) (q := 38) hX dX8_firstFoe_37 rfl rfl rfl ?_
    obtain ⟨c1, e3, hf⟩ := sp_pl_some hf
    obtain ⟨h2, hf⟩ := sp_ck_some hf
    refine sp_getr (q := 41) hX flX8_31 fkX8_0 ht dX8_firstFoe_38 rfl ?_
    refine sp_nmr e3 ?_
    refine sp_geti (q := 44) hX flX8_40 fkX2_13 (sp_isc_at h2) dX8_firstFoe_41 rfl ?_
    refine sp_icmp_ge (tgt := 65) (q := 47) hX dX8_firstFoe_44 (by decide) rfl (fun hc => ?_) (fun hc => ?_)
    · rw [if_pos hc] at hf
      refine sp_drop (lv' := [none, none, none, none, none]) trivial ?_
      exact hX8_firstFoe_65 hX hR ht hf
    · rw [if_neg hc] at hf
      refine sp_iload_n (i := 3) (q := 48) hX dX8_firstFoe_47 rfl rfl rfl ?_
      refine sp_iload (i := 4) (q := 50) hX dX8_firstFoe_48 rfl rfl ?_
      refine sp_ishr (q := 51) hX dX8_firstFoe_50 rfl ?_
      refine sp_iconst (v := 1) (q := 52) hX dX8_firstFoe_51 li_1 rfl ?_
      refine sp_iand (q := 53) hX dX8_firstFoe_52 rfl ?_
      refine sp_if_eq (tgt := 59) (q := 56) hX dX8_firstFoe_53 (by decide) rfl (fun hc => ?_) (fun hc => ?_)
      · rw [if_pos hc] at hf
        obtain ⟨x4, e5, hf⟩ := sp_pl_some hf
        refine sp_iinc (i := 4) (v := x4) (lv' := [some (.ref (sx_ad X t)), none, none, some (.int z3), some (.int x4)]) (q := 62) hX dX8_firstFoe_59 rfl (by rw [e5, li_1]) (Nat.le_of_ble_eq_true rfl) rfl rfl rfl ?_
        refine sp_goto (tgt := 35) hX dX8_firstFoe_62 (by decide) ?_
        exact ih σ z3 x4 hf
      · rw [if_neg hc] at hf
        refine sp_drop (lv' := [none, none, none, none, some (.int z4)]) (And.intro rfl trivial) ?_
        exact hX8_firstFoe_56 hX hR ht hf
set_option maxRecDepth 100000 in
set_option maxHeartbeats 4000000 in
theorem hX8_firstFoe {X : sp_X} (hX : sp_OK shX X cX8_firstFoe RX8 5 rmX8_firstFoe) {τ : sp_St} {r : Int32} (hR : sp_Ri shX X (some .int) τ r 0 0) {n : Nat}  {σ : sp_St} {t : Nat} {a1 : Int32} {a2 : Int32} (ht : sp_at shX t 8 6) (hf : X8_firstFoe n σ t a1 a2 = some (τ, r)) : sp_GG shX X σ 5 [some (.ref (sx_ad X t)), some (.int a1), some (.int a2), none, none] [] 0 0 0 := by
  unfold X8_firstFoe at hf
  refine sp_iload_n (i := 2) (q := 1) hX dX8_firstFoe_0 rfl rfl rfl ?_
  refine sp_iload_n (i := 1) (q := 2) hX dX8_firstFoe_1 rfl rfl rfl ?_
  refine sp_ishr (q := 3) hX dX8_firstFoe_2 rfl ?_
  refine sp_iconst (v := 1) (q := 4) hX dX8_firstFoe_3 li_1 rfl ?_
  refine sp_iand (q := 5) hX dX8_firstFoe_4 rfl ?_
  refine sp_if_ne (tgt := 10) (q := 8) hX dX8_firstFoe_5 (by decide) rfl (fun hc => ?_) (fun hc => ?_)
  · rw [if_neg hc] at hf
    refine sp_iload_n (i := 2) (q := 11) hX dX8_firstFoe_10 rfl rfl rfl ?_
    refine sp_aload_n (i := 0) (q := 12) hX dX8_firstFoe_11 rfl rfl rfl ?_
    refine sp_gets (t := t + 1) (q := 15) hX flX8_11 fkX8_1 ht (msX8_1 ht) dX8_firstFoe_12 rfl ?_
    refine sp_bipush (v := 41) (q := 17) hX dX8_firstFoe_15 lb_41 rfl ?_
    refine sp_aload_n (i := 0) (q := 18) hX dX8_firstFoe_17 rfl rfl rfl ?_
    obtain ⟨c1, e3, hf⟩ := sp_pl_some hf
    obtain ⟨h2, hf⟩ := sp_ck_some hf
    refine sp_getr (q := 21) hX flX8_31 fkX8_0 ht dX8_firstFoe_18 rfl ?_
    refine sp_nmr e3 ?_
    refine sp_gets (t := c1 + 1) (q := 24) hX flX8_124 fkX2_0 (sp_isc_at h2) (msX2_0 (sp_isc_at h2)) dX8_firstFoe_21 rfl ?_
    refine sp_iload_n (i := 1) (q := 25) hX dX8_firstFoe_24 rfl rfl rfl ?_
    obtain ⟨h4, hf⟩ := sp_ck_some hf
    refine sp_iald (q := 26) hX (mfX2_0 (sp_isc_at h2)) h4 dX8_firstFoe_25 rfl ?_
    refine sp_iadd (q := 27) hX dX8_firstFoe_26 rfl ?_
    obtain ⟨h5, hf⟩ := sp_ck_some hf
    refine sp_iald (q := 28) hX (mfX8_1 ht) h5 dX8_firstFoe_27 rfl ?_
    refine sp_iand (q := 29) hX dX8_firstFoe_28 rfl ?_
    obtain ⟨x6, e7, hf⟩ := sp_pl_some hf
    refine sp_nmi e7 ?_
    refine sp_istore_n (i := 3) (lv' := [some (.ref (sx_ad X t)), some (.int a1), some (.int a2), some (.int x6), none]) (q := 30) hX dX8_firstFoe_29 rfl (Nat.le_of_ble_eq_true rfl) rfl rfl rfl ?_
    refine sp_iload_n (i := 1) (q := 31) hX dX8_firstFoe_30 rfl rfl rfl ?_
    refine sp_iconst (v := 1) (q := 32) hX dX8_firstFoe_31 li_1 rfl ?_
    refine sp_iadd (q := 33) hX dX8_firstFoe_32 rfl ?_
    obtain ⟨x8, e9, hf⟩ := sp_pl_some hf
    refine sp_nmi e9 ?_
    refine sp_istore (i := 4) (lv' := [some (.ref (sx_ad X t)), some (.int a1), some (.int a2), some (.int x6), some (.int x8)]) (q := 35) hX dX8_firstFoe_33 (Nat.le_of_ble_eq_true rfl) rfl rfl rfl ?_
    refine sp_drop (lv' := [some (.ref (sx_ad X t)), none, none, some (.int x6), some (.int x8)]) (And.intro rfl (And.intro rfl (And.intro rfl trivial))) ?_
    exact hX8_firstFoe_35 hX hR ht n σ x6 x8 hf
  · rw [if_pos hc] at hf
    refine sp_iconst (v := -1) (q := 9) hX dX8_firstFoe_8 li_m1 rfl ?_
    exact sp_iret hX hR dX8_firstFoe_9 hf (Nat.le_of_ble_eq_true rfl) (Nat.le_of_ble_eq_true rfl)
set_option maxRecDepth 100000 in
set_option maxHeartbeats 4000000 in
theorem cnX8_firstFoe {l : Launch} (hst : l.stackTraces = false) {w : sp_Wd} {n : Nat}  {σ : sp_St} {t : Nat} {a1 : Int32} {a2 : Int32} {τ : sp_St} {r : Int32} (ht : sp_at shX t 8 6) (hf : X8_firstFoe n σ t a1 a2 = some (τ, r)) : sp_Ci shX l w yX8_firstFoe cX8_firstFoe 5 (some .int) rmX8_firstFoe 0 0 σ [.ref (w.2.1 t), .int a1, .int a2] τ r :=
  sp_ci (own := RX8) (by decide) rfl hst (Nat.le_of_ble_eq_true rfl) rfl (fun X hX hw hl hR => by subst hw; subst hl; exact hX8_firstFoe hX hR  ht hf)
def rmX8_fight : Room := { frames := 0, cells := 0, slots := 0, locals := 0 }
def X8_fight (n : Nat)  (σ : sp_St) (t : Nat) (a1 : Int32) (a2 : Int32) : Option (sp_St) :=
  sp_ck (sp_in a1 50) <|
  sp_ck (!decide (((2 : Int32)) = 0)) <|
  sp_ck (sp_in a1 50) <|
  sp_pl (sp_sa σ (t + 1) a1.toNatClampNeg ((sp_g σ (t + 1) a1) / ((2 : Int32)))) fun σ4 =>
  sp_ck (sp_in a2 50) <|
  sp_ck (!decide (((2 : Int32)) = 0)) <|
  sp_ck (sp_in a2 50) <|
  sp_pl (sp_sa σ4 (t + 1) a2.toNatClampNeg ((sp_g σ4 (t + 1) a2) / ((2 : Int32)))) fun σ9 =>
  sp_pl (sp_sa σ9 (t + 1) ((48 : Int32)).toNatClampNeg ((sp_g σ9 (t + 1) ((48 : Int32))) + ((1 : Int32)))) fun σ11 =>
  sp_pl (σ11.2.1 t 0) fun c13 =>
  sp_ck (sp_isc c13) <|
  sp_ck (sp_in a1 10) <|
  sp_ck (sp_in (sp_g σ11 (c13 + 1) a1) 6) <|
  sp_ck (sp_in (sp_g σ11 (c13 + 1) a1) 6) <|
  sp_pl (sp_sa σ11 (t + 2) (sp_g σ11 (c13 + 1) a1).toNatClampNeg ((sp_g σ11 (t + 2) (sp_g σ11 (c13 + 1) a1)) + ((1 : Int32)))) fun σ19 =>
  sp_pl (σ19.2.1 t 0) fun c21 =>
  sp_ck (sp_isc c21) <|
  sp_ck (sp_in a2 10) <|
  sp_ck (sp_in (sp_g σ19 (c21 + 1) a2) 6) <|
  sp_ck (sp_in (sp_g σ19 (c21 + 1) a2) 6) <|
  sp_pl (sp_sa σ19 (t + 2) (sp_g σ19 (c21 + 1) a2).toNatClampNeg ((sp_g σ19 (t + 2) (sp_g σ19 (c21 + 1) a2)) + ((1 : Int32)))) fun σ27 =>
  some σ27
set_option maxRecDepth 100000 in
set_option maxHeartbeats 4000000 in
theorem hX8_fight {X : sp_X} (hX : sp_OK shX X cX8_fight RX8 3 rmX8_fight) {τ : sp_St} (hR : sp_Rv shX X τ 0 0) {n : Nat}  {σ : sp_St} {t : Nat} {a1 : Int32} {a2 : Int32} (ht : sp_at shX t 8 6) (hf : X8_fight n σ t a1 a2 = some τ) : sp_GG shX X σ 3 [some (.ref (sx_ad X t)), some (.int a1), some (.int a2)] [] 0 0 0 := by
  unfold X8_fight at hf
  refine sp_aload_n (i := 0) (q := 1) hX dX8_fight_0 rfl rfl rfl ?_
  refine sp_gets (t := t + 1) (q := 4) hX flX8_11 fkX8_1 ht (msX8_1 ht) dX8_fight_1 rfl ?_
  refine sp_iload_n (i := 1) (q := 5) hX dX8_fight_4 rfl rfl rfl ?_
  refine sp_dup2 (q := 6) hX dX8_fight_5 rfl rfl rfl ?_
  obtain ⟨h1, hf⟩ := sp_ck_some hf
  refine sp_iald (q := 7) hX (mfX8_1 ht) h1 dX8_fight_6 rfl ?_
  refine sp_iconst (v := 2) (q := 8) hX dX8_fight_7 li_2 rfl ?_
  obtain ⟨h2, hf⟩ := sp_ck_some hf
  refine sp_idiv (q := 9) hX dX8_fight_8 (sp_nz h2) rfl ?_
  obtain ⟨h3, hf⟩ := sp_ck_some hf
  obtain ⟨σ4, e5, hf⟩ := sp_pl_some hf
  refine sp_iast (q := 10) hX (mfX8_1 ht) h3 dX8_fight_9 rfl ?_
  refine sp_nms e5 ?_
  refine sp_aload_n (i := 0) (q := 11) hX dX8_fight_10 rfl rfl rfl ?_
  refine sp_gets (t := t + 1) (q := 14) hX flX8_11 fkX8_1 ht (msX8_1 ht) dX8_fight_11 rfl ?_
  refine sp_iload_n (i := 2) (q := 15) hX dX8_fight_14 rfl rfl rfl ?_
  refine sp_dup2 (q := 16) hX dX8_fight_15 rfl rfl rfl ?_
  obtain ⟨h6, hf⟩ := sp_ck_some hf
  refine sp_iald (q := 17) hX (mfX8_1 ht) h6 dX8_fight_16 rfl ?_
  refine sp_iconst (v := 2) (q := 18) hX dX8_fight_17 li_2 rfl ?_
  obtain ⟨h7, hf⟩ := sp_ck_some hf
  refine sp_idiv (q := 19) hX dX8_fight_18 (sp_nz h7) rfl ?_
  obtain ⟨h8, hf⟩ := sp_ck_some hf
  obtain ⟨σ9, e10, hf⟩ := sp_pl_some hf
  refine sp_iast (q := 20) hX (mfX8_1 ht) h8 dX8_fight_19 rfl ?_
  refine sp_nms e10 ?_
  refine sp_aload_n (i := 0) (q := 21) hX dX8_fight_20 rfl rfl rfl ?_
  refine sp_gets (t := t + 1) (q := 24) hX flX8_11 fkX8_1 ht (msX8_1 ht) dX8_fight_21 rfl ?_
  refine sp_bipush (v := 48) (q := 26) hX dX8_fight_24 lb_48 rfl ?_
  refine sp_dup2 (q := 27) hX dX8_fight_26 rfl rfl rfl ?_
  refine sp_iald (q := 28) hX (mfX8_1 ht) (by decide) dX8_fight_27 rfl ?_
  refine sp_iconst (v := 1) (q := 29) hX dX8_fight_28 li_1 rfl ?_
  refine sp_iadd (q := 30) hX dX8_fight_29 rfl ?_
  obtain ⟨σ11, e12, hf⟩ := sp_pl_some hf
  refine sp_iast (q := 31) hX (mfX8_1 ht) (by decide) dX8_fight_30 rfl ?_
  refine sp_nms e12 ?_
  refine sp_aload_n (i := 0) (q := 32) hX dX8_fight_31 rfl rfl rfl ?_
  refine sp_gets (t := t + 2) (q := 35) hX flX8_15 fkX8_2 ht (msX8_2 ht) dX8_fight_32 rfl ?_
  refine sp_aload_n (i := 0) (q := 36) hX dX8_fight_35 rfl rfl rfl ?_
  obtain ⟨c13, e15, hf⟩ := sp_pl_some hf
  obtain ⟨h14, hf⟩ := sp_ck_some hf
  refine sp_getr (q := 39) hX flX8_31 fkX8_0 ht dX8_fight_36 rfl ?_
  refine sp_nmr e15 ?_
  refine sp_gets (t := c13 + 1) (q := 42) hX flX8_124 fkX2_0 (sp_isc_at h14) (msX2_0 (sp_isc_at h14)) dX8_fight_39 rfl ?_
  refine sp_iload_n (i := 1) (q := 43) hX dX8_fight_42 rfl rfl rfl ?_
  obtain ⟨h16, hf⟩ := sp_ck_some hf
  refine sp_iald (q := 44) hX (mfX2_0 (sp_isc_at h14)) h16 dX8_fight_43 rfl ?_
  refine sp_dup2 (q := 45) hX dX8_fight_44 rfl rfl rfl ?_
  obtain ⟨h17, hf⟩ := sp_ck_some hf
  refine sp_iald (q := 46) hX (mfX8_2 ht) h17 dX8_fight_45 rfl ?_
  refine sp_iconst (v := 1) (q := 47) hX dX8_fight_46 li_1 rfl ?_
  refine sp_iadd (q := 48) hX dX8_fight_47 rfl ?_
  obtain ⟨h18, hf⟩ := sp_ck_some hf
  obtain ⟨σ19, e20, hf⟩ := sp_pl_some hf
  refine sp_iast (q := 49) hX (mfX8_2 ht) h18 dX8_fight_48 rfl ?_
  refine sp_nms e20 ?_
  refine sp_aload_n (i := 0) (q := 50) hX dX8_fight_49 rfl rfl rfl ?_
  refine sp_gets (t := t + 2) (q := 53) hX flX8_15 fkX8_2 ht (msX8_2 ht) dX8_fight_50 rfl ?_
  refine sp_aload_n (i := 0) (q := 54) hX dX8_fight_53 rfl rfl rfl ?_
  obtain ⟨c21, e23, hf⟩ := sp_pl_some hf
  obtain ⟨h22, hf⟩ := sp_ck_some hf
  refine sp_getr (q := 57) hX flX8_31 fkX8_0 ht dX8_fight_54 rfl ?_
  refine sp_nmr e23 ?_
  refine sp_gets (t := c21 + 1) (q := 60) hX flX8_124 fkX2_0 (sp_isc_at h22) (msX2_0 (sp_isc_at h22)) dX8_fight_57 rfl ?_
  refine sp_iload_n (i := 2) (q := 61) hX dX8_fight_60 rfl rfl rfl ?_
  obtain ⟨h24, hf⟩ := sp_ck_some hf
  refine sp_iald (q := 62) hX (mfX2_0 (sp_isc_at h22)) h24 dX8_fight_61 rfl ?_
  refine sp_dup2 (q := 63) hX dX8_fight_62 rfl rfl rfl ?_
  obtain ⟨h25, hf⟩ := sp_ck_some hf
  refine sp_iald (q := 64) hX (mfX8_2 ht) h25 dX8_fight_63 rfl ?_
  refine sp_iconst (v := 1) (q := 65) hX dX8_fight_64 li_1 rfl ?_
  refine sp_iadd (q := 66) hX dX8_fight_65 rfl ?_
  obtain ⟨h26, hf⟩ := sp_ck_some hf
  obtain ⟨σ27, e28, hf⟩ := sp_pl_some hf
  refine sp_iast (q := 67) hX (mfX8_2 ht) h26 dX8_fight_66 rfl ?_
  refine sp_nms e28 ?_
  exact sp_vret hX hR dX8_fight_67 hf (Nat.le_of_ble_eq_true rfl) (Nat.le_of_ble_eq_true rfl)
set_option maxRecDepth 100000 in
set_option maxHeartbeats 4000000 in
theorem cnX8_fight {l : Launch} (hst : l.stackTraces = false) {w : sp_Wd} {n : Nat}  {σ : sp_St} {t : Nat} {a1 : Int32} {a2 : Int32} {τ : sp_St} (ht : sp_at shX t 8 6) (hf : X8_fight n σ t a1 a2 = some τ) : sp_Cv shX l w yX8_fight cX8_fight 3 rmX8_fight 0 0 σ [.ref (w.2.1 t), .int a1, .int a2] τ :=
  sp_cv (own := RX8) (by decide) rfl hst (Nat.le_of_ble_eq_true rfl) rfl (fun X hX hw hl hR => by subst hw; subst hl; exact hX8_fight hX hR  ht hf)
def rmX8_begin : Room := { frames := 1, cells := 0, slots := 0, locals := 100 }
def X8_begin_116 (n : Nat) (t : Nat) (p1 : Nat) (k75 : sp_St → Int32 → Option (sp_St)) (σ : sp_St) (z2 : Int32) : Option (sp_St) :=
  sp_pl (z2 + 1) fun x1 =>
  k75 σ x1
def X8_begin_110 (n : Nat) (t : Nat) (p1 : Nat) (k75 : sp_St → Int32 → Option (sp_St)) (k83 : sp_St → Int32 → Int32 → Option (sp_St)) (σ : sp_St) (z2 : Int32) (z3 : Int32) : Option (sp_St) :=
  sp_pl (z3 + 1) fun x1 =>
  k83 σ z2 x1
def X8_begin_83 (n : Nat) (t : Nat) (p1 : Nat) (k75 : sp_St → Int32 → Option (sp_St)) : Nat → sp_St → Int32 → Int32 → Option (sp_St)
  | 0, _, _, _ => none
  | f + 1, σ, z2, z3 =>
    if z2 ≤ z3 then
      X8_begin_116 n t p1 k75 σ z2
    else
      sp_pl (σ.2.1 t 0) fun c1 =>
      sp_ck (sp_isc c1) <|
      sp_ck (sp_in z2 6) <|
      if (((sp_g σ (c1 + 7) z2) >>> (z3 &&& 31)) &&& ((1 : Int32))) = 0 then
        X8_begin_110 n t p1 k75 (X8_begin_83 n t p1 k75 f) σ z2 z3
      else
        sp_bv (X8_turnFeud n σ t z2 z3) fun σ6 =>
        X8_begin_110 n t p1 k75 (X8_begin_83 n t p1 k75 f) σ6 z2 z3
def X8_begin_75 (n : Nat) (t : Nat) (p1 : Nat) : Nat → sp_St → Int32 → Option (sp_St)
  | 0, _, _ => none
  | f + 1, σ, z2 =>
    if ((6 : Int32)) ≤ z2 then
      some σ
    else
      sp_pl ((0 : Int32)) fun x1 =>
      X8_begin_83 n t p1 (X8_begin_75 n t p1 f) n σ z2 x1
def X8_begin_26 (n : Nat) (t : Nat) (p1 : Nat) (σ : sp_St) : Option (sp_St) :=
  sp_pl (σ.2.1 t 0) fun c1 =>
  sp_ck (sp_isc c1) <|
  sp_ck (sp_cpok ((0 : Int32)) ((0 : Int32)) (σ.1 c1 13) 10 50) <|
  sp_pl (sp_cp σ (c1 + 3) ((0 : Int32)) (t + 1) ((0 : Int32)) (σ.1 c1 13)) fun σ5 =>
  sp_pl (σ5.2.1 t 0) fun c7 =>
  sp_ck (sp_isc c7) <|
  sp_ck (sp_cpok ((0 : Int32)) ((30 : Int32)) (σ5.1 c7 14) 5 50) <|
  sp_pl (sp_cp σ5 (c7 + 5) ((0 : Int32)) (t + 1) ((30 : Int32)) (σ5.1 c7 14)) fun σ11 =>
  sp_pl ((0 : Int32)) fun x13 =>
  X8_begin_75 n t p1 n σ11 x13
def X8_begin_7 (n : Nat) (t : Nat) (p1 : Nat) : Nat → sp_St → Int32 → Option (sp_St)
  | 0, _, _ => none
  | f + 1, σ, z2 =>
    if ((50 : Int32)) ≤ z2 then
      X8_begin_26 n t p1 σ
    else
      sp_ck (sp_in z2 50) <|
      sp_pl (sp_sa σ (t + 1) z2.toNatClampNeg ((0 : Int32))) fun σ2 =>
      sp_pl (z2 + 1) fun x4 =>
      X8_begin_7 n t p1 f σ2 x4
def X8_begin (n : Nat)  (σ : sp_St) (t : Nat) (p1 : Nat) : Option (sp_St) :=
  sp_pl (sp_sr σ t 0 p1) fun σ1 =>
  sp_pl ((0 : Int32)) fun x3 =>
  X8_begin_7 n t p1 n σ1 x3
set_option maxRecDepth 100000 in
set_option maxHeartbeats 4000000 in
theorem hX8_begin_116 {X : sp_X} (hX : sp_OK shX X cX8_begin RX8 4 rmX8_begin) {τ : sp_St} (hR : sp_Rv shX X τ 0 0) {n : Nat}  {t : Nat} (ht : sp_at shX t 8 6) {p1 : Nat} (hp1 : sp_at shX p1 2 18) {k75 : sp_St → Int32 → Option (sp_St)} (hk75 : ∀ (σ : sp_St) (z2 : Int32), k75 σ z2 = some τ → sp_GG shX X σ 4 [some (.ref (sx_ad X t)), none, some (.int z2), none] [] 75 0 0) {σ : sp_St} {z2 : Int32} (hf : X8_begin_116 n t p1 k75 σ z2 = some τ) : sp_GG shX X σ 4 [some (.ref (sx_ad X t)), none, some (.int z2), none] [] 116 0 0 := by
  unfold X8_begin_116 at hf
  obtain ⟨x1, e2, hf⟩ := sp_pl_some hf
  refine sp_iinc (i := 2) (v := x1) (lv' := [some (.ref (sx_ad X t)), none, some (.int x1), none]) (q := 119) hX dX8_begin_116 rfl (by rw [e2, li_1]) (Nat.le_of_ble_eq_true rfl) rfl rfl rfl ?_
  refine sp_goto (tgt := 75) hX dX8_begin_119 (by decide) ?_
  exact hk75 σ x1 hf
set_option maxRecDepth 100000 in
set_option maxHeartbeats 4000000 in
theorem hX8_begin_110 {X : sp_X} (hX : sp_OK shX X cX8_begin RX8 4 rmX8_begin) {τ : sp_St} (hR : sp_Rv shX X τ 0 0) {n : Nat}  {t : Nat} (ht : sp_at shX t 8 6) {p1 : Nat} (hp1 : sp_at shX p1 2 18) {k75 : sp_St → Int32 → Option (sp_St)} (hk75 : ∀ (σ : sp_St) (z2 : Int32), k75 σ z2 = some τ → sp_GG shX X σ 4 [some (.ref (sx_ad X t)), none, some (.int z2), none] [] 75 0 0) {k83 : sp_St → Int32 → Int32 → Option (sp_St)} (hk83 : ∀ (σ : sp_St) (z2 : Int32) (z3 : Int32), k83 σ z2 z3 = some τ → sp_GG shX X σ 4 [some (.ref (sx_ad X t)), none, some (.int z2), some (.int z3)] [] 83 0 0) {σ : sp_St} {z2 : Int32} {z3 : Int32} (hf : X8_begin_110 n t p1 k75 k83 σ z2 z3 = some τ) : sp_GG shX X σ 4 [some (.ref (sx_ad X t)), none, some (.int z2), some (.int z3)] [] 110 0 0 := by
  unfold X8_begin_110 at hf
  obtain ⟨x1, e2, hf⟩ := sp_pl_some hf
  refine sp_iinc (i := 3) (v := x1) (lv' := [some (.ref (sx_ad X t)), none, some (.int z2), some (.int x1)]) (q := 113) hX dX8_begin_110 rfl (by rw [e2, li_1]) (Nat.le_of_ble_eq_true rfl) rfl rfl rfl ?_
  refine sp_goto (tgt := 83) hX dX8_begin_113 (by decide) ?_
  exact hk83 σ z2 x1 hf
set_option maxRecDepth 100000 in
set_option maxHeartbeats 4000000 in
theorem hX8_begin_83 {X : sp_X} (hX : sp_OK shX X cX8_begin RX8 4 rmX8_begin) {τ : sp_St} (hR : sp_Rv shX X τ 0 0) {n : Nat}  {t : Nat} (ht : sp_at shX t 8 6) {p1 : Nat} (hp1 : sp_at shX p1 2 18) {k75 : sp_St → Int32 → Option (sp_St)} (hk75 : ∀ (σ : sp_St) (z2 : Int32), k75 σ z2 = some τ → sp_GG shX X σ 4 [some (.ref (sx_ad X t)), none, some (.int z2), none] [] 75 0 0) : ∀ (f : Nat) (σ : sp_St) (z2 : Int32) (z3 : Int32), X8_begin_83 n t p1 k75 f σ z2 z3 = some τ → sp_GG shX X σ 4 [some (.ref (sx_ad X t)), none, some (.int z2), some (.int z3)] [] 83 0 0 := by
  intro f
  induction f with
  | zero =>
    intro σ z2 z3 hf
    rw [X8_begin_83] at hf
    cases hf
  | succ f ih =>
    intro σ z2 z3 hf
    rw [X8_begin_83] at hf
    refine sp_iload_n (i := 3) (q := 84) hX dX8_begin_83 rfl rfl rfl ?_
    refine sp_iload_n (i := 2) (q := 85) hX dX8_begin_84 rfl rfl rfl ?_
    refine sp_icmp_ge (tgt := 116) (q := 88) hX dX8_begin_85 (by decide) rfl (fun hc => ?_) (fun hc => ?_)
    · rw [if_pos hc] at hf
      refine sp_drop (lv' := [some (.ref (sx_ad X t)), none, some (.int z2), none]) (And.intro rfl (And.intro rfl trivial)) ?_
      exact hX8_begin_116 hX hR ht hp1 hk75 hf
    · rw [if_neg hc] at hf
      refine sp_aload_n (i := 0) (q := 89) hX dX8_begin_88 rfl rfl rfl ?_
      obtain ⟨c1, e3, hf⟩ := sp_pl_some hf
      obtain ⟨h2, hf⟩ := sp_ck_some hf
      refine sp_getr (q := 92) hX flX8_31 fkX8_0 ht dX8_begin_89 rfl ?_
      refine sp_nmr e3 ?_
      refine sp_gets (t := c1 + 7) (q := 95) hX flX8_56 fkX2_6 (sp_isc_at h2) (msX2_6 (sp_isc_at h2)) dX8_begin_92 rfl ?_
      refine sp_iload_n (i := 2) (q := 96) hX dX8_begin_95 rfl rfl rfl ?_
      obtain ⟨h4, hf⟩ := sp_ck_some hf
      refine sp_iald (q := 97) hX (mfX2_6 (sp_isc_at h2)) h4 dX8_begin_96 rfl ?_
      refine sp_iload_n (i := 3) (q := 98) hX dX8_begin_97 rfl rfl rfl ?_
      refine sp_ishr (q := 99) hX dX8_begin_98 rfl ?_
      refine sp_iconst (v := 1) (q := 100) hX dX8_begin_99 li_1 rfl ?_
      refine sp_iand (q := 101) hX dX8_begin_100 rfl ?_
      refine sp_if_eq (tgt := 110) (q := 104) hX dX8_begin_101 (by decide) rfl (fun hc => ?_) (fun hc => ?_)
      · rw [if_pos hc] at hf
        exact hX8_begin_110 hX hR ht hp1 hk75 ih hf
      · rw [if_neg hc] at hf
        refine sp_aload_n (i := 0) (q := 105) hX dX8_begin_104 rfl rfl rfl ?_
        refine sp_iload_n (i := 2) (q := 106) hX dX8_begin_105 rfl rfl rfl ?_
        refine sp_iload_n (i := 3) (q := 107) hX dX8_begin_106 rfl rfl rfl ?_
        obtain ⟨σ6, h5, hf⟩ := sp_bv_so hf
        refine sp_callVv (As := [.int z2, .int z3]) (rest := []) (q := 110) hX (cnX8_turnFeud (sp_st hX) ht h5) cwX8_59 ht rfl rfl rfl rfl rfl (Nat.le_of_ble_eq_true rfl) (Nat.le_of_ble_eq_true rfl) (Nat.le_of_ble_eq_true rfl) (Nat.le_of_ble_eq_true rfl) (Nat.le_of_ble_eq_true rfl) dX8_begin_107 rfl ?_
        exact hX8_begin_110 hX hR ht hp1 hk75 ih hf
set_option maxRecDepth 100000 in
set_option maxHeartbeats 4000000 in
theorem hX8_begin_75 {X : sp_X} (hX : sp_OK shX X cX8_begin RX8 4 rmX8_begin) {τ : sp_St} (hR : sp_Rv shX X τ 0 0) {n : Nat}  {t : Nat} (ht : sp_at shX t 8 6) {p1 : Nat} (hp1 : sp_at shX p1 2 18)  : ∀ (f : Nat) (σ : sp_St) (z2 : Int32), X8_begin_75 n t p1 f σ z2 = some τ → sp_GG shX X σ 4 [some (.ref (sx_ad X t)), none, some (.int z2), none] [] 75 0 0 := by
  intro f
  induction f with
  | zero =>
    intro σ z2 hf
    rw [X8_begin_75] at hf
    cases hf
  | succ f ih =>
    intro σ z2 hf
    rw [X8_begin_75] at hf
    refine sp_iload_n (i := 2) (q := 76) hX dX8_begin_75 rfl rfl rfl ?_
    refine sp_bipush (v := 6) (q := 78) hX dX8_begin_76 lb_6 rfl ?_
    refine sp_icmp_ge (tgt := 122) (q := 81) hX dX8_begin_78 (by decide) rfl (fun hc => ?_) (fun hc => ?_)
    · rw [if_pos hc] at hf
      exact sp_vret hX hR dX8_begin_122 hf (Nat.le_of_ble_eq_true rfl) (Nat.le_of_ble_eq_true rfl)
    · rw [if_neg hc] at hf
      refine sp_iconst (v := 0) (q := 82) hX dX8_begin_81 li_0 rfl ?_
      obtain ⟨x1, e2, hf⟩ := sp_pl_some hf
      refine sp_nmi e2 ?_
      refine sp_istore_n (i := 3) (lv' := [some (.ref (sx_ad X t)), none, some (.int z2), some (.int x1)]) (q := 83) hX dX8_begin_82 rfl (Nat.le_of_ble_eq_true rfl) rfl rfl rfl ?_
      exact hX8_begin_83 hX hR ht hp1 ih n σ z2 x1 hf
set_option maxRecDepth 100000 in
set_option maxHeartbeats 4000000 in
theorem hX8_begin_26 {X : sp_X} (hX : sp_OK shX X cX8_begin RX8 4 rmX8_begin) {τ : sp_St} (hR : sp_Rv shX X τ 0 0) {n : Nat}  {t : Nat} (ht : sp_at shX t 8 6) {p1 : Nat} (hp1 : sp_at shX p1 2 18)  {σ : sp_St} (hf : X8_begin_26 n t p1 σ = some τ) : sp_GG shX X σ 4 [some (.ref (sx_ad X t)), none, none, none] [] 26 0 0 := by
  unfold X8_begin_26 at hf
  refine sp_aload_n (i := 0) (q := 27) hX dX8_begin_26 rfl rfl rfl ?_
  obtain ⟨c1, e3, hf⟩ := sp_pl_some hf
  obtain ⟨h2, hf⟩ := sp_ck_some hf
  refine sp_getr (q := 30) hX flX8_31 fkX8_0 ht dX8_begin_27 rfl ?_
  refine sp_nmr e3 ?_
  refine sp_gets (t := c1 + 3) (q := 33) hX flX8_35 fkX2_2 (sp_isc_at h2) (msX2_2 (sp_isc_at h2)) dX8_begin_30 rfl ?_
  refine sp_iconst (v := 0) (q := 34) hX dX8_begin_33 li_0 rfl ?_
  refine sp_aload_n (i := 0) (q := 35) hX dX8_begin_34 rfl rfl rfl ?_
  refine sp_gets (t := t + 1) (q := 38) hX flX8_11 fkX8_1 ht (msX8_1 ht) dX8_begin_35 rfl ?_
  refine sp_iconst (v := 0) (q := 39) hX dX8_begin_38 li_0 rfl ?_
  refine sp_aload_n (i := 0) (q := 40) hX dX8_begin_39 rfl rfl rfl ?_
  refine sp_getr (q := 43) hX flX8_31 fkX8_0 ht dX8_begin_40 rfl ?_
  refine sp_nmr e3 ?_
  refine sp_geti (q := 46) hX flX8_40 fkX2_13 (sp_isc_at h2) dX8_begin_43 rfl ?_
  obtain ⟨h4, hf⟩ := sp_ck_some hf
  obtain ⟨σ5, e6, hf⟩ := sp_pl_some hf
  refine sp_copy (q := 49) hX wd_731 wd_605 wd_604 wd_150 (mfX2_2 (sp_isc_at h2)) (mfX8_1 ht) h4 (Nat.le_of_ble_eq_true rfl) (Nat.le_of_ble_eq_true rfl) dX8_begin_46 rfl ?_
  refine sp_nms e6 ?_
  refine sp_aload_n (i := 0) (q := 50) hX dX8_begin_49 rfl rfl rfl ?_
  obtain ⟨c7, e9, hf⟩ := sp_pl_some hf
  obtain ⟨h8, hf⟩ := sp_ck_some hf
  refine sp_getr (q := 53) hX flX8_31 fkX8_0 ht dX8_begin_50 rfl ?_
  refine sp_nmr e9 ?_
  refine sp_gets (t := c7 + 5) (q := 56) hX flX8_50 fkX2_4 (sp_isc_at h8) (msX2_4 (sp_isc_at h8)) dX8_begin_53 rfl ?_
  refine sp_iconst (v := 0) (q := 57) hX dX8_begin_56 li_0 rfl ?_
  refine sp_aload_n (i := 0) (q := 58) hX dX8_begin_57 rfl rfl rfl ?_
  refine sp_gets (t := t + 1) (q := 61) hX flX8_11 fkX8_1 ht (msX8_1 ht) dX8_begin_58 rfl ?_
  refine sp_bipush (v := 30) (q := 63) hX dX8_begin_61 lb_30 rfl ?_
  refine sp_aload_n (i := 0) (q := 64) hX dX8_begin_63 rfl rfl rfl ?_
  refine sp_getr (q := 67) hX flX8_31 fkX8_0 ht dX8_begin_64 rfl ?_
  refine sp_nmr e9 ?_
  refine sp_geti (q := 70) hX flX8_53 fkX2_14 (sp_isc_at h8) dX8_begin_67 rfl ?_
  obtain ⟨h10, hf⟩ := sp_ck_some hf
  obtain ⟨σ11, e12, hf⟩ := sp_pl_some hf
  refine sp_copy (q := 73) hX wd_731 wd_605 wd_604 wd_150 (mfX2_4 (sp_isc_at h8)) (mfX8_1 ht) h10 (Nat.le_of_ble_eq_true rfl) (Nat.le_of_ble_eq_true rfl) dX8_begin_70 rfl ?_
  refine sp_nms e12 ?_
  refine sp_iconst (v := 0) (q := 74) hX dX8_begin_73 li_0 rfl ?_
  obtain ⟨x13, e14, hf⟩ := sp_pl_some hf
  refine sp_nmi e14 ?_
  refine sp_istore_n (i := 2) (lv' := [some (.ref (sx_ad X t)), none, some (.int x13), none]) (q := 75) hX dX8_begin_74 rfl (Nat.le_of_ble_eq_true rfl) rfl rfl rfl ?_
  exact hX8_begin_75 hX hR ht hp1 n σ11 x13 hf
set_option maxRecDepth 100000 in
set_option maxHeartbeats 4000000 in
theorem hX8_begin_7 {X : sp_X} (hX : sp_OK shX X cX8_begin RX8 4 rmX8_begin) {τ : sp_St} (hR : sp_Rv shX X τ 0 0) {n : Nat}  {t : Nat} (ht : sp_at shX t 8 6) {p1 : Nat} (hp1 : sp_at shX p1 2 18)  : ∀ (f : Nat) (σ : sp_St) (z2 : Int32), X8_begin_7 n t p1 f σ z2 = some τ → sp_GG shX X σ 4 [some (.ref (sx_ad X t)), none, some (.int z2), none] [] 7 0 0 := by
  intro f
  induction f with
  | zero =>
    intro σ z2 hf
    rw [X8_begin_7] at hf
    cases hf
  | succ f ih =>
    intro σ z2 hf
    rw [X8_begin_7] at hf
    refine sp_iload_n (i := 2) (q := 8) hX dX8_begin_7 rfl rfl rfl ?_
    refine sp_bipush (v := 50) (q := 10) hX dX8_begin_8 lb_50 rfl ?_
    refine sp_icmp_ge (tgt := 26) (q := 13) hX dX8_begin_10 (by decide) rfl (fun hc => ?_) (fun hc => ?_)
    · rw [if_pos hc] at hf
      refine sp_drop (lv' := [some (.ref (sx_ad X t)), none, none, none]) (And.intro rfl trivial) ?_
      exact hX8_begin_26 hX hR ht hp1 hf
    · rw [if_neg hc] at hf
      refine sp_aload_n (i := 0) (q := 14) hX dX8_begin_13 rfl rfl rfl ?_
      refine sp_gets (t := t + 1) (q := 17) hX flX8_11 fkX8_1 ht (msX8_1 ht) dX8_begin_14 rfl ?_
      refine sp_iload_n (i := 2) (q := 18) hX dX8_begin_17 rfl rfl rfl ?_
      refine sp_iconst (v := 0) (q := 19) hX dX8_begin_18 li_0 rfl ?_
      obtain ⟨h1, hf⟩ := sp_ck_some hf
      obtain ⟨σ2, e3, hf⟩ := sp_pl_some hf
      refine sp_iast (q := 20) hX (mfX8_1 ht) h1 dX8_begin_19 rfl ?_
      refine sp_nms e3 ?_
      obtain ⟨x4, e5, hf⟩ := sp_pl_some hf
      refine sp_iinc (i := 2) (v := x4) (lv' := [some (.ref (sx_ad X t)), none, some (.int x4), none]) (q := 23) hX dX8_begin_20 rfl (by rw [e5, li_1]) (Nat.le_of_ble_eq_true rfl) rfl rfl rfl ?_
      refine sp_goto (tgt := 7) hX dX8_begin_23 (by decide) ?_
      exact ih σ2 x4 hf
set_option maxRecDepth 100000 in
set_option maxHeartbeats 4000000 in
theorem hX8_begin {X : sp_X} (hX : sp_OK shX X cX8_begin RX8 4 rmX8_begin) {τ : sp_St} (hR : sp_Rv shX X τ 0 0) {n : Nat}  {σ : sp_St} {t : Nat} {p1 : Nat} (ht : sp_at shX t 8 6) (hp1 : sp_at shX p1 2 18) (hf : X8_begin n σ t p1 = some τ) : sp_GG shX X σ 4 [some (.ref (sx_ad X t)), some (.ref (sx_ad X p1)), none, none] [] 0 0 0 := by
  unfold X8_begin at hf
  refine sp_aload_n (i := 0) (q := 1) hX dX8_begin_0 rfl rfl rfl ?_
  refine sp_aload_n (i := 1) (q := 2) hX dX8_begin_1 rfl rfl rfl ?_
  obtain ⟨σ1, e2, hf⟩ := sp_pl_some hf
  refine sp_putr (q := 5) hX fpX8_31 fkX8_0 ht (fun _ => rfl) (fun _ => rfl) dX8_begin_2 rfl ?_
  refine sp_nms e2 ?_
  refine sp_iconst (v := 0) (q := 6) hX dX8_begin_5 li_0 rfl ?_
  obtain ⟨x3, e4, hf⟩ := sp_pl_some hf
  refine sp_nmi e4 ?_
  refine sp_istore_n (i := 2) (lv' := [some (.ref (sx_ad X t)), some (.ref (sx_ad X p1)), some (.int x3), none]) (q := 7) hX dX8_begin_6 rfl (Nat.le_of_ble_eq_true rfl) rfl rfl rfl ?_
  refine sp_drop (lv' := [some (.ref (sx_ad X t)), none, some (.int x3), none]) (And.intro rfl (And.intro rfl trivial)) ?_
  exact hX8_begin_7 hX hR ht hp1 n σ1 x3 hf
set_option maxRecDepth 100000 in
set_option maxHeartbeats 4000000 in
theorem cnX8_begin {l : Launch} (hst : l.stackTraces = false) {w : sp_Wd} {n : Nat}  {σ : sp_St} {t : Nat} {p1 : Nat} {τ : sp_St} (ht : sp_at shX t 8 6) (hp1 : sp_at shX p1 2 18) (hf : X8_begin n σ t p1 = some τ) : sp_Cv shX l w yX8_begin cX8_begin 4 rmX8_begin 0 0 σ [.ref (w.2.1 t), .ref (w.2.1 p1)] τ :=
  sp_cv (own := RX8) (by decide) rfl hst (Nat.le_of_ble_eq_true rfl) rfl (fun X hX hw hl hR => by subst hw; subst hl; exact hX8_begin hX hR  ht hp1 hf)
def rmX8_foesNow : Room := { frames := 2, cells := 0, slots := 0, locals := 42 }
def X8_foesNow (n : Nat)  (σ : sp_St) (t : Nat) (a1 : Int32) : Option (sp_St × Int32) :=
  sp_bv (X8_lookRound n σ t) fun σ2 =>
  sp_bd (X8_foesWith n σ2 t a1) fun σ4 v5 =>
  some (σ4, v5)
set_option maxRecDepth 100000 in
set_option maxHeartbeats 4000000 in
theorem hX8_foesNow {X : sp_X} (hX : sp_OK shX X cX8_foesNow RX8 2 rmX8_foesNow) {τ : sp_St} {r : Int32} (hR : sp_Ri shX X (some .int) τ r 0 0) {n : Nat}  {σ : sp_St} {t : Nat} {a1 : Int32} (ht : sp_at shX t 8 6) (hf : X8_foesNow n σ t a1 = some (τ, r)) : sp_GG shX X σ 2 [some (.ref (sx_ad X t)), some (.int a1)] [] 0 0 0 := by
  unfold X8_foesNow at hf
  refine sp_aload_n (i := 0) (q := 1) hX dX8_foesNow_0 rfl rfl rfl ?_
  obtain ⟨σ2, h1, hf⟩ := sp_bv_so hf
  refine sp_callVv (As := []) (rest := []) (q := 4) hX (cnX8_lookRound (sp_st hX) ht h1) cwX8_100 ht rfl rfl rfl rfl rfl (Nat.le_of_ble_eq_true rfl) (Nat.le_of_ble_eq_true rfl) (Nat.le_of_ble_eq_true rfl) (Nat.le_of_ble_eq_true rfl) (Nat.le_of_ble_eq_true rfl) dX8_foesNow_1 rfl ?_
  refine sp_aload_n (i := 0) (q := 5) hX dX8_foesNow_4 rfl rfl rfl ?_
  refine sp_iload_n (i := 1) (q := 6) hX dX8_foesNow_5 rfl rfl rfl ?_
  obtain ⟨σ4, v5, h3, hf⟩ := sp_bd_so hf
  refine sp_callVi (As := [.int a1]) (rest := []) (q := 9) hX (cnX8_foesWith (sp_st hX) ht h3) cwX8_103 ht rfl rfl rfl rfl rfl (Nat.le_of_ble_eq_true rfl) (Nat.le_of_ble_eq_true rfl) (Nat.le_of_ble_eq_true rfl) (Nat.le_of_ble_eq_true rfl) (Nat.le_of_ble_eq_true rfl) dX8_foesNow_6 rfl ?_
  exact sp_iret hX hR dX8_foesNow_9 hf (Nat.le_of_ble_eq_true rfl) (Nat.le_of_ble_eq_true rfl)
set_option maxRecDepth 100000 in
set_option maxHeartbeats 4000000 in
theorem cnX8_foesNow {l : Launch} (hst : l.stackTraces = false) {w : sp_Wd} {n : Nat}  {σ : sp_St} {t : Nat} {a1 : Int32} {τ : sp_St} {r : Int32} (ht : sp_at shX t 8 6) (hf : X8_foesNow n σ t a1 = some (τ, r)) : sp_Ci shX l w yX8_foesNow cX8_foesNow 2 (some .int) rmX8_foesNow 0 0 σ [.ref (w.2.1 t), .int a1] τ r :=
  sp_ci (own := RX8) (by decide) rfl hst (Nat.le_of_ble_eq_true rfl) rfl (fun X hX hw hl hR => by subst hw; subst hl; exact hX8_foesNow hX hR  ht hf)
def rmX8_changeNow : Room := { frames := 3, cells := 0, slots := 0, locals := 75 }
def X8_changeNow (n : Nat)  (σ : sp_St) (t : Nat) (a1 : Int32) : Option (sp_St × Int32) :=
  sp_bv (X8_lookRound n σ t) fun σ2 =>
  sp_bd (X8_changeOf n σ2 t a1) fun σ4 v5 =>
  some (σ4, v5)
set_option maxRecDepth 100000 in
set_option maxHeartbeats 4000000 in
theorem hX8_changeNow {X : sp_X} (hX : sp_OK shX X cX8_changeNow RX8 2 rmX8_changeNow) {τ : sp_St} {r : Int32} (hR : sp_Ri shX X (some .int) τ r 0 0) {n : Nat}  {σ : sp_St} {t : Nat} {a1 : Int32} (ht : sp_at shX t 8 6) (hf : X8_changeNow n σ t a1 = some (τ, r)) : sp_GG shX X σ 2 [some (.ref (sx_ad X t)), some (.int a1)] [] 0 0 0 := by
  unfold X8_changeNow at hf
  refine sp_aload_n (i := 0) (q := 1) hX dX8_changeNow_0 rfl rfl rfl ?_
  obtain ⟨σ2, h1, hf⟩ := sp_bv_so hf
  refine sp_callVv (As := []) (rest := []) (q := 4) hX (cnX8_lookRound (sp_st hX) ht h1) cwX8_100 ht rfl rfl rfl rfl rfl (Nat.le_of_ble_eq_true rfl) (Nat.le_of_ble_eq_true rfl) (Nat.le_of_ble_eq_true rfl) (Nat.le_of_ble_eq_true rfl) (Nat.le_of_ble_eq_true rfl) dX8_changeNow_1 rfl ?_
  refine sp_aload_n (i := 0) (q := 5) hX dX8_changeNow_4 rfl rfl rfl ?_
  refine sp_iload_n (i := 1) (q := 6) hX dX8_changeNow_5 rfl rfl rfl ?_
  obtain ⟨σ4, v5, h3, hf⟩ := sp_bd_so hf
  refine sp_callVi (As := [.int a1]) (rest := []) (q := 9) hX (cnX8_changeOf (sp_st hX) ht h3) cwX8_106 ht rfl rfl rfl rfl rfl (Nat.le_of_ble_eq_true rfl) (Nat.le_of_ble_eq_true rfl) (Nat.le_of_ble_eq_true rfl) (Nat.le_of_ble_eq_true rfl) (Nat.le_of_ble_eq_true rfl) dX8_changeNow_6 rfl ?_
  exact sp_iret hX hR dX8_changeNow_9 hf (Nat.le_of_ble_eq_true rfl) (Nat.le_of_ble_eq_true rfl)
set_option maxRecDepth 100000 in
set_option maxHeartbeats 4000000 in
theorem cnX8_changeNow {l : Launch} (hst : l.stackTraces = false) {w : sp_Wd} {n : Nat}  {σ : sp_St} {t : Nat} {a1 : Int32} {τ : sp_St} {r : Int32} (ht : sp_at shX t 8 6) (hf : X8_changeNow n σ t a1 = some (τ, r)) : sp_Ci shX l w yX8_changeNow cX8_changeNow 2 (some .int) rmX8_changeNow 0 0 σ [.ref (w.2.1 t), .int a1] τ r :=
  sp_ci (own := RX8) (by decide) rfl hst (Nat.le_of_ble_eq_true rfl) rfl (fun X hX hw hl hR => by subst hw; subst hl; exact hX8_changeNow hX hR  ht hf)
def rmX8_fightAll : Room := { frames := 1, cells := 0, slots := 0, locals := 24 }
def X8_fightAll_96 (n : Nat) (t : Nat) (k53 : sp_St → Int32 → Int32 → Option (sp_St)) (σ : sp_St) (z1 : Int32) (z2 : Int32) : Option (sp_St) :=
  sp_pl (z2 + 1) fun x1 =>
  k53 σ z1 x1
def X8_fightAll_53 (n : Nat) (t : Nat) : Nat → sp_St → Int32 → Int32 → Option (sp_St)
  | 0, _, _, _ => none
  | f + 1, σ, z1, z2 =>
    sp_pl (σ.2.1 t 0) fun c1 =>
    sp_ck (sp_isc c1) <|
    if (σ.1 c1 13) ≤ z2 then
      some σ
    else
      sp_bd (X8_firstFoe n σ t z2 z1) fun σ5 v6 =>
      if v6 = ((-1 : Int32)) then
        X8_fightAll_96 n t (X8_fightAll_53 n t f) σ5 z1 z2
      else
        sp_bv (X8_fight n σ5 t z2 v6) fun σ8 =>
        sp_pl (z1 &&& (((((1 : Int32)) <<< (z2 &&& 31)) ^^^ ((-1 : Int32))) &&& ((((1 : Int32)) <<< (v6 &&& 31)) ^^^ ((-1 : Int32))))) fun x9 =>
        X8_fightAll_96 n t (X8_fightAll_53 n t f) σ8 x9 z2
def X8_fightAll_51 (n : Nat) (t : Nat) (σ : sp_St) (z1 : Int32) : Option (sp_St) :=
  sp_pl ((0 : Int32)) fun x1 =>
  X8_fightAll_53 n t n σ z1 x1
def X8_fightAll_45 (n : Nat) (t : Nat) (k4 : sp_St → Int32 → Int32 → Option (sp_St)) (σ : sp_St) (z1 : Int32) (z2 : Int32) : Option (sp_St) :=
  sp_pl (z2 + 1) fun x1 =>
  k4 σ z1 x1
def X8_fightAll_4 (n : Nat) (t : Nat) : Nat → sp_St → Int32 → Int32 → Option (sp_St)
  | 0, _, _, _ => none
  | f + 1, σ, z1, z2 =>
    sp_pl (σ.2.1 t 0) fun c1 =>
    sp_ck (sp_isc c1) <|
    if (σ.1 c1 13) ≤ z2 then
      X8_fightAll_51 n t σ z1
    else
      sp_bd (X8_isOut n σ t z2) fun σ5 v6 =>
      if v6 = 0 then
        X8_fightAll_45 n t (X8_fightAll_4 n t f) σ5 z1 z2
      else
        sp_ck (sp_in z2 50) <|
        sp_pl (σ5.2.1 t 0) fun c8 =>
        sp_ck (sp_isc c8) <|
        if (sp_g σ5 (t + 1) z2) < (σ5.1 c8 16) then
          X8_fightAll_45 n t (X8_fightAll_4 n t f) σ5 z1 z2
        else
          sp_pl (z1 ||| (((1 : Int32)) <<< (z2 &&& 31))) fun x11 =>
          X8_fightAll_45 n t (X8_fightAll_4 n t f) σ5 x11 z2
def X8_fightAll (n : Nat)  (σ : sp_St) (t : Nat) : Option (sp_St) :=
  sp_pl ((0 : Int32)) fun x1 =>
  sp_pl ((0 : Int32)) fun x3 =>
  X8_fightAll_4 n t n σ x1 x3
set_option maxRecDepth 100000 in
set_option maxHeartbeats 4000000 in
theorem hX8_fightAll_96 {X : sp_X} (hX : sp_OK shX X cX8_fightAll RX8 4 rmX8_fightAll) {τ : sp_St} (hR : sp_Rv shX X τ 0 0) {n : Nat}  {t : Nat} (ht : sp_at shX t 8 6) {k53 : sp_St → Int32 → Int32 → Option (sp_St)} (hk53 : ∀ (σ : sp_St) (z1 : Int32) (z2 : Int32), k53 σ z1 z2 = some τ → sp_GG shX X σ 4 [some (.ref (sx_ad X t)), some (.int z1), some (.int z2), none] [] 53 0 0) {σ : sp_St} {z1 : Int32} {z2 : Int32} (hf : X8_fightAll_96 n t k53 σ z1 z2 = some τ) : sp_GG shX X σ 4 [some (.ref (sx_ad X t)), some (.int z1), some (.int z2), none] [] 96 0 0 := by
  unfold X8_fightAll_96 at hf
  obtain ⟨x1, e2, hf⟩ := sp_pl_some hf
  refine sp_iinc (i := 2) (v := x1) (lv' := [some (.ref (sx_ad X t)), some (.int z1), some (.int x1), none]) (q := 99) hX dX8_fightAll_96 rfl (by rw [e2, li_1]) (Nat.le_of_ble_eq_true rfl) rfl rfl rfl ?_
  refine sp_goto (tgt := 53) hX dX8_fightAll_99 (by decide) ?_
  exact hk53 σ z1 x1 hf
set_option maxRecDepth 100000 in
set_option maxHeartbeats 4000000 in
theorem hX8_fightAll_53 {X : sp_X} (hX : sp_OK shX X cX8_fightAll RX8 4 rmX8_fightAll) {τ : sp_St} (hR : sp_Rv shX X τ 0 0) {n : Nat}  {t : Nat} (ht : sp_at shX t 8 6)  : ∀ (f : Nat) (σ : sp_St) (z1 : Int32) (z2 : Int32), X8_fightAll_53 n t f σ z1 z2 = some τ → sp_GG shX X σ 4 [some (.ref (sx_ad X t)), some (.int z1), some (.int z2), none] [] 53 0 0 := by
  intro f
  induction f with
  | zero =>
    intro σ z1 z2 hf
    rw [X8_fightAll_53] at hf
    cases hf
  | succ f ih =>
    intro σ z1 z2 hf
    rw [X8_fightAll_53] at hf
    refine sp_iload_n (i := 2) (q := 54) hX dX8_fightAll_53 rfl rfl rfl ?_
    refine sp_aload_n (i := 0) (q := 55) hX dX8_fightAll_54 rfl rfl rfl ?_
    obtain ⟨c1, e3, hf⟩ := sp_pl_some hf
    obtain ⟨h2, hf⟩ := sp_ck_some hf
    refine sp_getr (q := 58) hX flX8_31 fkX8_0 ht dX8_fightAll_55 rfl ?_
    refine sp_nmr e3 ?_
    refine sp_geti (q := 61) hX flX8_40 fkX2_13 (sp_isc_at h2) dX8_fightAll_58 rfl ?_
    refine sp_icmp_ge (tgt := 102) (q := 64) hX dX8_fightAll_61 (by decide) rfl (fun hc => ?_) (fun hc => ?_)
    · rw [if_pos hc] at hf
      exact sp_vret hX hR dX8_fightAll_102 hf (Nat.le_of_ble_eq_true rfl) (Nat.le_of_ble_eq_true rfl)
    · rw [if_neg hc] at hf
      refine sp_aload_n (i := 0) (q := 65) hX dX8_fightAll_64 rfl rfl rfl ?_
      refine sp_iload_n (i := 2) (q := 66) hX dX8_fightAll_65 rfl rfl rfl ?_
      refine sp_iload_n (i := 1) (q := 67) hX dX8_fightAll_66 rfl rfl rfl ?_
      obtain ⟨σ5, v6, h4, hf⟩ := sp_bd_so hf
      refine sp_callVi (As := [.int z2, .int z1]) (rest := []) (q := 70) hX (cnX8_firstFoe (sp_st hX) ht h4) cwX8_187 ht rfl rfl rfl rfl rfl (Nat.le_of_ble_eq_true rfl) (Nat.le_of_ble_eq_true rfl) (Nat.le_of_ble_eq_true rfl) (Nat.le_of_ble_eq_true rfl) (Nat.le_of_ble_eq_true rfl) dX8_fightAll_67 rfl ?_
      refine sp_istore_n (i := 3) (lv' := [some (.ref (sx_ad X t)), some (.int z1), some (.int z2), some (.int v6)]) (q := 71) hX dX8_fightAll_70 rfl (Nat.le_of_ble_eq_true rfl) rfl rfl rfl ?_
      refine sp_iload_n (i := 3) (q := 72) hX dX8_fightAll_71 rfl rfl rfl ?_
      refine sp_iconst (v := -1) (q := 73) hX dX8_fightAll_72 li_m1 rfl ?_
      refine sp_icmp_eq (tgt := 96) (q := 76) hX dX8_fightAll_73 (by decide) rfl (fun hc => ?_) (fun hc => ?_)
      · rw [if_pos hc] at hf
        refine sp_drop (lv' := [some (.ref (sx_ad X t)), some (.int z1), some (.int z2), none]) (And.intro rfl (And.intro rfl (And.intro rfl trivial))) ?_
        exact hX8_fightAll_96 hX hR ht ih hf
      · rw [if_neg hc] at hf
        refine sp_aload_n (i := 0) (q := 77) hX dX8_fightAll_76 rfl rfl rfl ?_
        refine sp_iload_n (i := 2) (q := 78) hX dX8_fightAll_77 rfl rfl rfl ?_
        refine sp_iload_n (i := 3) (q := 79) hX dX8_fightAll_78 rfl rfl rfl ?_
        obtain ⟨σ8, h7, hf⟩ := sp_bv_so hf
        refine sp_callVv (As := [.int z2, .int v6]) (rest := []) (q := 82) hX (cnX8_fight (sp_st hX) ht h7) cwX8_190 ht rfl rfl rfl rfl rfl (Nat.le_of_ble_eq_true rfl) (Nat.le_of_ble_eq_true rfl) (Nat.le_of_ble_eq_true rfl) (Nat.le_of_ble_eq_true rfl) (Nat.le_of_ble_eq_true rfl) dX8_fightAll_79 rfl ?_
        refine sp_iload_n (i := 1) (q := 83) hX dX8_fightAll_82 rfl rfl rfl ?_
        refine sp_iconst (v := 1) (q := 84) hX dX8_fightAll_83 li_1 rfl ?_
        refine sp_iload_n (i := 2) (q := 85) hX dX8_fightAll_84 rfl rfl rfl ?_
        refine sp_ishl (q := 86) hX dX8_fightAll_85 rfl ?_
        refine sp_iconst (v := -1) (q := 87) hX dX8_fightAll_86 li_m1 rfl ?_
        refine sp_ixor (q := 88) hX dX8_fightAll_87 rfl ?_
        refine sp_iconst (v := 1) (q := 89) hX dX8_fightAll_88 li_1 rfl ?_
        refine sp_iload_n (i := 3) (q := 90) hX dX8_fightAll_89 rfl rfl rfl ?_
        refine sp_ishl (q := 91) hX dX8_fightAll_90 rfl ?_
        refine sp_iconst (v := -1) (q := 92) hX dX8_fightAll_91 li_m1 rfl ?_
        refine sp_ixor (q := 93) hX dX8_fightAll_92 rfl ?_
        refine sp_iand (q := 94) hX dX8_fightAll_93 rfl ?_
        refine sp_iand (q := 95) hX dX8_fightAll_94 rfl ?_
        obtain ⟨x9, e10, hf⟩ := sp_pl_some hf
        refine sp_nmi e10 ?_
        refine sp_istore_n (i := 1) (lv' := [some (.ref (sx_ad X t)), some (.int x9), some (.int z2), some (.int v6)]) (q := 96) hX dX8_fightAll_95 rfl (Nat.le_of_ble_eq_true rfl) rfl rfl rfl ?_
        refine sp_drop (lv' := [some (.ref (sx_ad X t)), some (.int x9), some (.int z2), none]) (And.intro rfl (And.intro rfl (And.intro rfl trivial))) ?_
        exact hX8_fightAll_96 hX hR ht ih hf
set_option maxRecDepth 100000 in
set_option maxHeartbeats 4000000 in
theorem hX8_fightAll_51 {X : sp_X} (hX : sp_OK shX X cX8_fightAll RX8 4 rmX8_fightAll) {τ : sp_St} (hR : sp_Rv shX X τ 0 0) {n : Nat}  {t : Nat} (ht : sp_at shX t 8 6)  {σ : sp_St} {z1 : Int32} (hf : X8_fightAll_51 n t σ z1 = some τ) : sp_GG shX X σ 4 [some (.ref (sx_ad X t)), some (.int z1), none, none] [] 51 0 0 := by
  unfold X8_fightAll_51 at hf
  refine sp_iconst (v := 0) (q := 52) hX dX8_fightAll_51 li_0 rfl ?_
  obtain ⟨x1, e2, hf⟩ := sp_pl_some hf
  refine sp_nmi e2 ?_
  refine sp_istore_n (i := 2) (lv' := [some (.ref (sx_ad X t)), some (.int z1), some (.int x1), none]) (q := 53) hX dX8_fightAll_52 rfl (Nat.le_of_ble_eq_true rfl) rfl rfl rfl ?_
  exact hX8_fightAll_53 hX hR ht n σ z1 x1 hf
set_option maxRecDepth 100000 in
set_option maxHeartbeats 4000000 in
theorem hX8_fightAll_45 {X : sp_X} (hX : sp_OK shX X cX8_fightAll RX8 4 rmX8_fightAll) {τ : sp_St} (hR : sp_Rv shX X τ 0 0) {n : Nat}  {t : Nat} (ht : sp_at shX t 8 6) {k4 : sp_St → Int32 → Int32 → Option (sp_St)} (hk4 : ∀ (σ : sp_St) (z1 : Int32) (z2 : Int32), k4 σ z1 z2 = some τ → sp_GG shX X σ 4 [some (.ref (sx_ad X t)), some (.int z1), some (.int z2), none] [] 4 0 0) {σ : sp_St} {z1 : Int32} {z2 : Int32} (hf : X8_fightAll_45 n t k4 σ z1 z2 = some τ) : sp_GG shX X σ 4 [some (.ref (sx_ad X t)), some (.int z1), some (.int z2), none] [] 45 0 0 := by
  unfold X8_fightAll_45 at hf
  obtain ⟨x1, e2, hf⟩ := sp_pl_some hf
  refine sp_iinc (i := 2) (v := x1) (lv' := [some (.ref (sx_ad X t)), some (.int z1), some (.int x1), none]) (q := 48) hX dX8_fightAll_45 rfl (by rw [e2, li_1]) (Nat.le_of_ble_eq_true rfl) rfl rfl rfl ?_
  refine sp_goto (tgt := 4) hX dX8_fightAll_48 (by decide) ?_
  exact hk4 σ z1 x1 hf
set_option maxRecDepth 100000 in
set_option maxHeartbeats 4000000 in
theorem hX8_fightAll_4 {X : sp_X} (hX : sp_OK shX X cX8_fightAll RX8 4 rmX8_fightAll) {τ : sp_St} (hR : sp_Rv shX X τ 0 0) {n : Nat}  {t : Nat} (ht : sp_at shX t 8 6)  : ∀ (f : Nat) (σ : sp_St) (z1 : Int32) (z2 : Int32), X8_fightAll_4 n t f σ z1 z2 = some τ → sp_GG shX X σ 4 [some (.ref (sx_ad X t)), some (.int z1), some (.int z2), none] [] 4 0 0 := by
  intro f
  induction f with
  | zero =>
    intro σ z1 z2 hf
    rw [X8_fightAll_4] at hf
    cases hf
  | succ f ih =>
    intro σ z1 z2 hf
    rw [X8_fightAll_4] at hf
    refine sp_iload_n (i := 2) (q := 5) hX dX8_fightAll_4 rfl rfl rfl ?_
    refine sp_aload_n (i := 0) (q := 6) hX dX8_fightAll_5 rfl rfl rfl ?_
    obtain ⟨c1, e3, hf⟩ := sp_pl_some hf
    obtain ⟨h2, hf⟩ := sp_ck_some hf
    refine sp_getr (q := 9) hX flX8_31 fkX8_0 ht dX8_fightAll_6 rfl ?_
    refine sp_nmr e3 ?_
    refine sp_geti (q := 12) hX flX8_40 fkX2_13 (sp_isc_at h2) dX8_fightAll_9 rfl ?_
    refine sp_icmp_ge (tgt := 51) (q := 15) hX dX8_fightAll_12 (by decide) rfl (fun hc => ?_) (fun hc => ?_)
    · rw [if_pos hc] at hf
      refine sp_drop (lv' := [some (.ref (sx_ad X t)), some (.int z1), none, none]) (And.intro rfl (And.intro rfl trivial)) ?_
      exact hX8_fightAll_51 hX hR ht hf
    · rw [if_neg hc] at hf
      refine sp_aload_n (i := 0) (q := 16) hX dX8_fightAll_15 rfl rfl rfl ?_
      refine sp_iload_n (i := 2) (q := 17) hX dX8_fightAll_16 rfl rfl rfl ?_
      obtain ⟨σ5, v6, h4, hf⟩ := sp_bd_so hf
      refine sp_callVi (As := [.int z2]) (rest := []) (q := 20) hX (cnX8_isOut (sp_st hX) ht h4) cwX8_66 ht rfl rfl rfl rfl rfl (Nat.le_of_ble_eq_true rfl) (Nat.le_of_ble_eq_true rfl) (Nat.le_of_ble_eq_true rfl) (Nat.le_of_ble_eq_true rfl) (Nat.le_of_ble_eq_true rfl) dX8_fightAll_17 rfl ?_
      refine sp_if_eq (tgt := 45) (q := 23) hX dX8_fightAll_20 (by decide) rfl (fun hc => ?_) (fun hc => ?_)
      · rw [if_pos hc] at hf
        exact hX8_fightAll_45 hX hR ht ih hf
      · rw [if_neg hc] at hf
        refine sp_aload_n (i := 0) (q := 24) hX dX8_fightAll_23 rfl rfl rfl ?_
        refine sp_gets (t := t + 1) (q := 27) hX flX8_11 fkX8_1 ht (msX8_1 ht) dX8_fightAll_24 rfl ?_
        refine sp_iload_n (i := 2) (q := 28) hX dX8_fightAll_27 rfl rfl rfl ?_
        obtain ⟨h7, hf⟩ := sp_ck_some hf
        refine sp_iald (q := 29) hX (mfX8_1 ht) h7 dX8_fightAll_28 rfl ?_
        refine sp_aload_n (i := 0) (q := 30) hX dX8_fightAll_29 rfl rfl rfl ?_
        obtain ⟨c8, e10, hf⟩ := sp_pl_some hf
        obtain ⟨h9, hf⟩ := sp_ck_some hf
        refine sp_getr (q := 33) hX flX8_31 fkX8_0 ht dX8_fightAll_30 rfl ?_
        refine sp_nmr e10 ?_
        refine sp_geti (q := 36) hX flX8_184 fkX2_16 (sp_isc_at h9) dX8_fightAll_33 rfl ?_
        refine sp_icmp_lt (tgt := 45) (q := 39) hX dX8_fightAll_36 (by decide) rfl (fun hc => ?_) (fun hc => ?_)
        · rw [if_pos hc] at hf
          exact hX8_fightAll_45 hX hR ht ih hf
        · rw [if_neg hc] at hf
          refine sp_iload_n (i := 1) (q := 40) hX dX8_fightAll_39 rfl rfl rfl ?_
          refine sp_iconst (v := 1) (q := 41) hX dX8_fightAll_40 li_1 rfl ?_
          refine sp_iload_n (i := 2) (q := 42) hX dX8_fightAll_41 rfl rfl rfl ?_
          refine sp_ishl (q := 43) hX dX8_fightAll_42 rfl ?_
          refine sp_ior (q := 44) hX dX8_fightAll_43 rfl ?_
          obtain ⟨x11, e12, hf⟩ := sp_pl_some hf
          refine sp_nmi e12 ?_
          refine sp_istore_n (i := 1) (lv' := [some (.ref (sx_ad X t)), some (.int x11), some (.int z2), none]) (q := 45) hX dX8_fightAll_44 rfl (Nat.le_of_ble_eq_true rfl) rfl rfl rfl ?_
          exact hX8_fightAll_45 hX hR ht ih hf
set_option maxRecDepth 100000 in
set_option maxHeartbeats 4000000 in
theorem hX8_fightAll {X : sp_X} (hX : sp_OK shX X cX8_fightAll RX8 4 rmX8_fightAll) {τ : sp_St} (hR : sp_Rv shX X τ 0 0) {n : Nat}  {σ : sp_St} {t : Nat} (ht : sp_at shX t 8 6) (hf : X8_fightAll n σ t = some τ) : sp_GG shX X σ 4 [some (.ref (sx_ad X t)), none, none, none] [] 0 0 0 := by
  unfold X8_fightAll at hf
  refine sp_iconst (v := 0) (q := 1) hX dX8_fightAll_0 li_0 rfl ?_
  obtain ⟨x1, e2, hf⟩ := sp_pl_some hf
  refine sp_nmi e2 ?_
  refine sp_istore_n (i := 1) (lv' := [some (.ref (sx_ad X t)), some (.int x1), none, none]) (q := 2) hX dX8_fightAll_1 rfl (Nat.le_of_ble_eq_true rfl) rfl rfl rfl ?_
  refine sp_iconst (v := 0) (q := 3) hX dX8_fightAll_2 li_0 rfl ?_
  obtain ⟨x3, e4, hf⟩ := sp_pl_some hf
  refine sp_nmi e4 ?_
  refine sp_istore_n (i := 2) (lv' := [some (.ref (sx_ad X t)), some (.int x1), some (.int x3), none]) (q := 4) hX dX8_fightAll_3 rfl (Nat.le_of_ble_eq_true rfl) rfl rfl rfl ?_
  exact hX8_fightAll_4 hX hR ht n σ x1 x3 hf
set_option maxRecDepth 100000 in
set_option maxHeartbeats 4000000 in
theorem cnX8_fightAll {l : Launch} (hst : l.stackTraces = false) {w : sp_Wd} {n : Nat}  {σ : sp_St} {t : Nat} {τ : sp_St} (ht : sp_at shX t 8 6) (hf : X8_fightAll n σ t = some τ) : sp_Cv shX l w yX8_fightAll cX8_fightAll 4 rmX8_fightAll 0 0 σ [.ref (w.2.1 t)] τ :=
  sp_cv (own := RX8) (by decide) rfl hst (Nat.le_of_ble_eq_true rfl) rfl (fun X hX hw hl hR => by subst hw; subst hl; exact hX8_fightAll hX hR  ht hf)
def rmX8_passDay : Room := { frames := 4, cells := 0, slots := 0, locals := 96 }
def X8_passDay (n : Nat)  (σ : sp_St) (t : Nat) : Option (sp_St) :=
  sp_bv (X8_changeAngers n σ t) fun σ2 =>
  sp_bv (X8_layToRest n σ2 t) fun σ4 =>
  sp_bv (X8_hiccupAll n σ4 t) fun σ6 =>
  sp_bv (X8_fightAll n σ6 t) fun σ8 =>
  sp_pl (sp_sa σ8 (t + 1) ((47 : Int32)).toNatClampNeg ((sp_g σ8 (t + 1) ((47 : Int32))) + ((1 : Int32)))) fun σ9 =>
  some σ9
set_option maxRecDepth 100000 in
set_option maxHeartbeats 4000000 in
theorem hX8_passDay {X : sp_X} (hX : sp_OK shX X cX8_passDay RX8 1 rmX8_passDay) {τ : sp_St} (hR : sp_Rv shX X τ 0 0) {n : Nat}  {σ : sp_St} {t : Nat} (ht : sp_at shX t 8 6) (hf : X8_passDay n σ t = some τ) : sp_GG shX X σ 1 [some (.ref (sx_ad X t))] [] 0 0 0 := by
  unfold X8_passDay at hf
  refine sp_aload_n (i := 0) (q := 1) hX dX8_passDay_0 rfl rfl rfl ?_
  obtain ⟨σ2, h1, hf⟩ := sp_bv_so hf
  refine sp_callVv (As := []) (rest := []) (q := 4) hX (cnX8_changeAngers (sp_st hX) ht h1) cwX8_112 ht rfl rfl rfl rfl rfl (Nat.le_of_ble_eq_true rfl) (Nat.le_of_ble_eq_true rfl) (Nat.le_of_ble_eq_true rfl) (Nat.le_of_ble_eq_true rfl) (Nat.le_of_ble_eq_true rfl) dX8_passDay_1 rfl ?_
  refine sp_aload_n (i := 0) (q := 5) hX dX8_passDay_4 rfl rfl rfl ?_
  obtain ⟨σ4, h3, hf⟩ := sp_bv_so hf
  refine sp_callVv (As := []) (rest := []) (q := 8) hX (cnX8_layToRest (sp_st hX) ht h3) cwX8_115 ht rfl rfl rfl rfl rfl (Nat.le_of_ble_eq_true rfl) (Nat.le_of_ble_eq_true rfl) (Nat.le_of_ble_eq_true rfl) (Nat.le_of_ble_eq_true rfl) (Nat.le_of_ble_eq_true rfl) dX8_passDay_5 rfl ?_
  refine sp_aload_n (i := 0) (q := 9) hX dX8_passDay_8 rfl rfl rfl ?_
  obtain ⟨σ6, h5, hf⟩ := sp_bv_so hf
  refine sp_callVv (As := []) (rest := []) (q := 12) hX (cnX8_hiccupAll (sp_st hX) ht h5) cwX8_118 ht rfl rfl rfl rfl rfl (Nat.le_of_ble_eq_true rfl) (Nat.le_of_ble_eq_true rfl) (Nat.le_of_ble_eq_true rfl) (Nat.le_of_ble_eq_true rfl) (Nat.le_of_ble_eq_true rfl) dX8_passDay_9 rfl ?_
  refine sp_aload_n (i := 0) (q := 13) hX dX8_passDay_12 rfl rfl rfl ?_
  obtain ⟨σ8, h7, hf⟩ := sp_bv_so hf
  refine sp_callVv (As := []) (rest := []) (q := 16) hX (cnX8_fightAll (sp_st hX) ht h7) cwX8_121 ht rfl rfl rfl rfl rfl (Nat.le_of_ble_eq_true rfl) (Nat.le_of_ble_eq_true rfl) (Nat.le_of_ble_eq_true rfl) (Nat.le_of_ble_eq_true rfl) (Nat.le_of_ble_eq_true rfl) dX8_passDay_13 rfl ?_
  refine sp_aload_n (i := 0) (q := 17) hX dX8_passDay_16 rfl rfl rfl ?_
  refine sp_gets (t := t + 1) (q := 20) hX flX8_11 fkX8_1 ht (msX8_1 ht) dX8_passDay_17 rfl ?_
  refine sp_bipush (v := 47) (q := 22) hX dX8_passDay_20 lb_47 rfl ?_
  refine sp_dup2 (q := 23) hX dX8_passDay_22 rfl rfl rfl ?_
  refine sp_iald (q := 24) hX (mfX8_1 ht) (by decide) dX8_passDay_23 rfl ?_
  refine sp_iconst (v := 1) (q := 25) hX dX8_passDay_24 li_1 rfl ?_
  refine sp_iadd (q := 26) hX dX8_passDay_25 rfl ?_
  obtain ⟨σ9, e10, hf⟩ := sp_pl_some hf
  refine sp_iast (q := 27) hX (mfX8_1 ht) (by decide) dX8_passDay_26 rfl ?_
  refine sp_nms e10 ?_
  exact sp_vret hX hR dX8_passDay_27 hf (Nat.le_of_ble_eq_true rfl) (Nat.le_of_ble_eq_true rfl)
set_option maxRecDepth 100000 in
set_option maxHeartbeats 4000000 in
theorem cnX8_passDay {l : Launch} (hst : l.stackTraces = false) {w : sp_Wd} {n : Nat}  {σ : sp_St} {t : Nat} {τ : sp_St} (ht : sp_at shX t 8 6) (hf : X8_passDay n σ t = some τ) : sp_Cv shX l w yX8_passDay cX8_passDay 1 rmX8_passDay 0 0 σ [.ref (w.2.1 t)] τ :=
  sp_cv (own := RX8) (by decide) rfl hst (Nat.le_of_ble_eq_true rfl) rfl (fun X hX hw hl hR => by subst hw; subst hl; exact hX8_passDay hX hR  ht hf)
def rmX8_passDays : Room := { frames := 5, cells := 0, slots := 0, locals := 116 }
def X8_passDays_2 (n : Nat) (t : Nat) : Nat → sp_St → Int32 → Int32 → Option (sp_St)
  | 0, _, _, _ => none
  | f + 1, σ, z1, z2 =>
    if z1 ≤ z2 then
      some σ
    else
      sp_bv (X8_passDay n σ t) fun σ2 =>
      sp_pl (z2 + 1) fun x3 =>
      X8_passDays_2 n t f σ2 z1 x3
def X8_passDays (n : Nat)  (σ : sp_St) (t : Nat) (a1 : Int32) : Option (sp_St) :=
  sp_pl ((0 : Int32)) fun x1 =>
  X8_passDays_2 n t n σ a1 x1
set_option maxRecDepth 100000 in
set_option maxHeartbeats 4000000 in
theorem hX8_passDays_2 {X : sp_X} (hX : sp_OK shX X cX8_passDays RX8 3 rmX8_passDays) {τ : sp_St} (hR : sp_Rv shX X τ 0 0) {n : Nat}  {t : Nat} (ht : sp_at shX t 8 6)  : ∀ (f : Nat) (σ : sp_St) (z1 : Int32) (z2 : Int32), X8_passDays_2 n t f σ z1 z2 = some τ → sp_GG shX X σ 3 [some (.ref (sx_ad X t)), some (.int z1), some (.int z2)] [] 2 0 0 := by
  intro f
  induction f with
  | zero =>
    intro σ z1 z2 hf
    rw [X8_passDays_2] at hf
    cases hf
  | succ f ih =>
    intro σ z1 z2 hf
    rw [X8_passDays_2] at hf
    refine sp_iload_n (i := 2) (q := 3) hX dX8_passDays_2 rfl rfl rfl ?_
    refine sp_iload_n (i := 1) (q := 4) hX dX8_passDays_3 rfl rfl rfl ?_
    refine sp_icmp_ge (tgt := 17) (q := 7) hX dX8_passDays_4 (by decide) rfl (fun hc => ?_) (fun hc => ?_)
    · rw [if_pos hc] at hf
      exact sp_vret hX hR dX8_passDays_17 hf (Nat.le_of_ble_eq_true rfl) (Nat.le_of_ble_eq_true rfl)
    · rw [if_neg hc] at hf
      refine sp_aload_n (i := 0) (q := 8) hX dX8_passDays_7 rfl rfl rfl ?_
      obtain ⟨σ2, h1, hf⟩ := sp_bv_so hf
      refine sp_callVv (As := []) (rest := []) (q := 11) hX (cnX8_passDay (sp_st hX) ht h1) cwX8_109 ht rfl rfl rfl rfl rfl (Nat.le_of_ble_eq_true rfl) (Nat.le_of_ble_eq_true rfl) (Nat.le_of_ble_eq_true rfl) (Nat.le_of_ble_eq_true rfl) (Nat.le_of_ble_eq_true rfl) dX8_passDays_8 rfl ?_
      obtain ⟨x3, e4, hf⟩ := sp_pl_some hf
      refine sp_iinc (i := 2) (v := x3) (lv' := [some (.ref (sx_ad X t)), some (.int z1), some (.int x3)]) (q := 14) hX dX8_passDays_11 rfl (by rw [e4, li_1]) (Nat.le_of_ble_eq_true rfl) rfl rfl rfl ?_
      refine sp_goto (tgt := 2) hX dX8_passDays_14 (by decide) ?_
      exact ih σ2 z1 x3 hf
set_option maxRecDepth 100000 in
set_option maxHeartbeats 4000000 in
theorem hX8_passDays {X : sp_X} (hX : sp_OK shX X cX8_passDays RX8 3 rmX8_passDays) {τ : sp_St} (hR : sp_Rv shX X τ 0 0) {n : Nat}  {σ : sp_St} {t : Nat} {a1 : Int32} (ht : sp_at shX t 8 6) (hf : X8_passDays n σ t a1 = some τ) : sp_GG shX X σ 3 [some (.ref (sx_ad X t)), some (.int a1), none] [] 0 0 0 := by
  unfold X8_passDays at hf
  refine sp_iconst (v := 0) (q := 1) hX dX8_passDays_0 li_0 rfl ?_
  obtain ⟨x1, e2, hf⟩ := sp_pl_some hf
  refine sp_nmi e2 ?_
  refine sp_istore_n (i := 2) (lv' := [some (.ref (sx_ad X t)), some (.int a1), some (.int x1)]) (q := 2) hX dX8_passDays_1 rfl (Nat.le_of_ble_eq_true rfl) rfl rfl rfl ?_
  exact hX8_passDays_2 hX hR ht n σ a1 x1 hf
set_option maxRecDepth 100000 in
set_option maxHeartbeats 4000000 in
theorem cnX8_passDays {l : Launch} (hst : l.stackTraces = false) {w : sp_Wd} {n : Nat}  {σ : sp_St} {t : Nat} {a1 : Int32} {τ : sp_St} (ht : sp_at shX t 8 6) (hf : X8_passDays n σ t a1 = some τ) : sp_Cv shX l w yX8_passDays cX8_passDays 3 rmX8_passDays 0 0 σ [.ref (w.2.1 t), .int a1] τ :=
  sp_cv (own := RX8) (by decide) rfl hst (Nat.le_of_ble_eq_true rfl) rfl (fun X hX hw hl hR => by subst hw; subst hl; exact hX8_passDays hX hR  ht hf)
