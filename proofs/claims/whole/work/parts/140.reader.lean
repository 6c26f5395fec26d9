def rmX7_fail : Room := { frames := 0, cells := 0, slots := 0, locals := 0 }
def X7_fail (n : Nat)  (σ : sp_St) (a1 : Int32) : Option (sp_St × Int32) :=
  sp_pl (sp_si σ 21 2 a1) fun σ1 =>
  sp_pl (sp_si σ1 21 4 (σ1.1 20 3)) fun σ3 =>
  some (σ3, (0 : Int32))
set_option maxRecDepth 100000 in
set_option maxHeartbeats 4000000 in
theorem hX7_fail {X : sp_X} (hX : sp_OK shX X cX7_fail RX7 2 rmX7_fail) {τ : sp_St} {r : Int32} (hR : sp_Ri shX X (some .boolean) τ r 0 0) {n : Nat}  {σ : sp_St} {a1 : Int32}  (hf : X7_fail n σ a1 = some (τ, r)) : sp_GG shX X σ 2 [some (.ref (sx_ad X 21)), some (.int a1)] [] 0 0 0 := by
  unfold X7_fail at hf
  refine sp_aload_n (i := 0) (q := 1) hX dX7_fail_0 rfl rfl rfl ?_
  refine sp_iload_n (i := 1) (q := 2) hX dX7_fail_1 rfl rfl rfl ?_
  obtain ⟨σ1, e2, hf⟩ := sp_pl_some hf
  refine sp_puti (q := 5) hX fpX7_24 fkX7_2 atX_21 dX7_fail_2 rfl ?_
  refine sp_nms e2 ?_
  refine sp_aload_n (i := 0) (q := 6) hX dX7_fail_5 rfl rfl rfl ?_
  refine sp_aload_n (i := 0) (q := 7) hX dX7_fail_6 rfl rfl rfl ?_
  refine sp_gets (t := 20) (q := 10) hX flX7_9 fkX7_0 atX_21 srX_21_0 dX7_fail_7 rfl ?_
  refine sp_geti (q := 13) hX flX7_41 fkX10_3 atX_20 dX7_fail_10 rfl ?_
  obtain ⟨σ3, e4, hf⟩ := sp_pl_some hf
  refine sp_puti (q := 16) hX fpX7_44 fkX7_4 atX_21 dX7_fail_13 rfl ?_
  refine sp_nms e4 ?_
  refine sp_iconst (v := 0) (q := 17) hX dX7_fail_16 li_0 rfl ?_
  exact sp_zret hX hR (by decide) dX7_fail_17 hf (Nat.le_of_ble_eq_true rfl) (Nat.le_of_ble_eq_true rfl)
set_option maxRecDepth 100000 in
set_option maxHeartbeats 4000000 in
theorem cnX7_fail {l : Launch} (hst : l.stackTraces = false) {w : sp_Wd} {n : Nat}  {σ : sp_St} {a1 : Int32} {τ : sp_St} {r : Int32}  (hf : X7_fail n σ a1 = some (τ, r)) : sp_Ci shX l w yX7_fail cX7_fail 2 (some .boolean) rmX7_fail 0 0 σ [.ref (w.2.1 21), .int a1] τ r :=
  sp_ci (own := RX7) (by decide) rfl hst (Nat.le_of_ble_eq_true rfl) rfl (fun X hX hw hl hR => by subst hw; subst hl; exact hX7_fail hX hR   hf)
def rmX7_passSign : Room := { frames := 6, cells := 0, slots := 0, locals := 132 }
def X7_passSign (n : Nat)  (σ : sp_St) (a1 : Int32) : Option (sp_St × Int32) :=
  if (σ.1 20 4) = a1 then
    sp_bv (X10_next n σ) fun σ2 =>
    some (σ2, (1 : Int32))
  else
    sp_bd (X7_fail n σ ((1 : Int32))) fun σ4 v5 =>
    sp_ck (sp_zb v5) <|
    some (σ4, v5)
set_option maxRecDepth 100000 in
set_option maxHeartbeats 4000000 in
theorem hX7_passSign {X : sp_X} (hX : sp_OK shX X cX7_passSign RX7 2 rmX7_passSign) {τ : sp_St} {r : Int32} (hR : sp_Ri shX X (some .boolean) τ r 0 0) {n : Nat}  {σ : sp_St} {a1 : Int32}  (hf : X7_passSign n σ a1 = some (τ, r)) : sp_GG shX X σ 2 [some (.ref (sx_ad X 21)), some (.int a1)] [] 0 0 0 := by
  unfold X7_passSign at hf
  refine sp_aload_n (i := 0) (q := 1) hX dX7_passSign_0 rfl rfl rfl ?_
  refine sp_gets (t := 20) (q := 4) hX flX7_9 fkX7_0 atX_21 srX_21_0 dX7_passSign_1 rfl ?_
  refine sp_geti (q := 7) hX flX7_34 fkX10_4 atX_20 dX7_passSign_4 rfl ?_
  refine sp_iload_n (i := 1) (q := 8) hX dX7_passSign_7 rfl rfl rfl ?_
  refine sp_icmp_eq (tgt := 17) (q := 11) hX dX7_passSign_8 (by decide) rfl (fun hc => ?_) (fun hc => ?_)
  · rw [if_pos hc] at hf
    refine sp_aload_n (i := 0) (q := 18) hX dX7_passSign_17 rfl rfl rfl ?_
    refine sp_gets (t := 20) (q := 21) hX flX7_9 fkX7_0 atX_21 srX_21_0 dX7_passSign_18 rfl ?_
    obtain ⟨σ2, h1, hf⟩ := sp_bv_so hf
    refine sp_callVv (As := []) (rest := []) (q := 24) hX (cnX10_next (sp_st hX)  h1) cwX7_92 atX_20 rfl rfl rfl rfl rfl (Nat.le_of_ble_eq_true rfl) (Nat.le_of_ble_eq_true rfl) (Nat.le_of_ble_eq_true rfl) (Nat.le_of_ble_eq_true rfl) (Nat.le_of_ble_eq_true rfl) dX7_passSign_21 rfl ?_
    refine sp_iconst (v := 1) (q := 25) hX dX7_passSign_24 li_1 rfl ?_
    exact sp_zret hX hR (by decide) dX7_passSign_25 hf (Nat.le_of_ble_eq_true rfl) (Nat.le_of_ble_eq_true rfl)
  · rw [if_neg hc] at hf
    refine sp_aload_n (i := 0) (q := 12) hX dX7_passSign_11 rfl rfl rfl ?_
    refine sp_iconst (v := 1) (q := 13) hX dX7_passSign_12 li_1 rfl ?_
    obtain ⟨σ4, v5, h3, hf⟩ := sp_bd_so hf
    refine sp_callVi (As := [.int ((1 : Int32))]) (rest := []) (q := 16) hX (cnX7_fail (sp_st hX)  h3) cwX7_81 atX_21 rfl rfl rfl rfl rfl (Nat.le_of_ble_eq_true rfl) (Nat.le_of_ble_eq_true rfl) (Nat.le_of_ble_eq_true rfl) (Nat.le_of_ble_eq_true rfl) (Nat.le_of_ble_eq_true rfl) dX7_passSign_13 rfl ?_
    obtain ⟨h6, hf⟩ := sp_ck_some hf
    exact sp_zret hX hR h6 dX7_passSign_16 hf (Nat.le_of_ble_eq_true rfl) (Nat.le_of_ble_eq_true rfl)
set_option maxRecDepth 100000 in
set_option maxHeartbeats 4000000 in
theorem cnX7_passSign {l : Launch} (hst : l.stackTraces = false) {w : sp_Wd} {n : Nat}  {σ : sp_St} {a1 : Int32} {τ : sp_St} {r : Int32}  (hf : X7_passSign n σ a1 = some (τ, r)) : sp_Ci shX l w yX7_passSign cX7_passSign 2 (some .boolean) rmX7_passSign 0 0 σ [.ref (w.2.1 21), .int a1] τ r :=
  sp_ci (own := RX7) (by decide) rfl hst (Nat.le_of_ble_eq_true rfl) rfl (fun X hX hw hl hR => by subst hw; subst hl; exact hX7_passSign hX hR   hf)
def rmX7_isNumber : Room := { frames := 1, cells := 0, slots := 0, locals := 21 }
def X7_isNumber_39 (n : Nat) (σ : sp_St) : Option (sp_St × Int32) :=
  sp_bd (X7_fail n σ ((2 : Int32))) fun σ2 v3 =>
  sp_ck (sp_zb v3) <|
  some (σ2, v3)
def X7_isNumber (n : Nat)  (σ : sp_St) (a1 : Int32) (a2 : Int32) : Option (sp_St × Int32) :=
  if (σ.1 20 4) = ((2 : Int32)) then
    if (σ.1 20 5) < a1 then
      X7_isNumber_39 n σ
    else
      if (σ.1 20 5) ≤ a2 then
        some (σ, (1 : Int32))
      else
        X7_isNumber_39 n σ
  else
    sp_bd (X7_fail n σ ((1 : Int32))) fun σ2 v3 =>
    sp_ck (sp_zb v3) <|
    some (σ2, v3)
set_option maxRecDepth 100000 in
set_option maxHeartbeats 4000000 in
theorem hX7_isNumber_39 {X : sp_X} (hX : sp_OK shX X cX7_isNumber RX7 3 rmX7_isNumber) {τ : sp_St} {r : Int32} (hR : sp_Ri shX X (some .boolean) τ r 0 0) {n : Nat}    {σ : sp_St} (hf : X7_isNumber_39 n σ = some (τ, r)) : sp_GG shX X σ 3 [some (.ref (sx_ad X 21)), none, none] [] 39 0 0 := by
  unfold X7_isNumber_39 at hf
  refine sp_aload_n (i := 0) (q := 40) hX dX7_isNumber_39 rfl rfl rfl ?_
  refine sp_iconst (v := 2) (q := 41) hX dX7_isNumber_40 li_2 rfl ?_
  obtain ⟨σ2, v3, h1, hf⟩ := sp_bd_so hf
  refine sp_callVi (As := [.int ((2 : Int32))]) (rest := []) (q := 44) hX (cnX7_fail (sp_st hX)  h1) cwX7_81 atX_21 rfl rfl rfl rfl rfl (Nat.le_of_ble_eq_true rfl) (Nat.le_of_ble_eq_true rfl) (Nat.le_of_ble_eq_true rfl) (Nat.le_of_ble_eq_true rfl) (Nat.le_of_ble_eq_true rfl) dX7_isNumber_41 rfl ?_
  obtain ⟨h4, hf⟩ := sp_ck_some hf
  exact sp_zret hX hR h4 dX7_isNumber_44 hf (Nat.le_of_ble_eq_true rfl) (Nat.le_of_ble_eq_true rfl)
set_option maxRecDepth 100000 in
set_option maxHeartbeats 4000000 in
theorem hX7_isNumber {X : sp_X} (hX : sp_OK shX X cX7_isNumber RX7 3 rmX7_isNumber) {τ : sp_St} {r : Int32} (hR : sp_Ri shX X (some .boolean) τ r 0 0) {n : Nat}  {σ : sp_St} {a1 : Int32} {a2 : Int32}  (hf : X7_isNumber n σ a1 a2 = some (τ, r)) : sp_GG shX X σ 3 [some (.ref (sx_ad X 21)), some (.int a1), some (.int a2)] [] 0 0 0 := by
  unfold X7_isNumber at hf
  refine sp_aload_n (i := 0) (q := 1) hX dX7_isNumber_0 rfl rfl rfl ?_
  refine sp_gets (t := 20) (q := 4) hX flX7_9 fkX7_0 atX_21 srX_21_0 dX7_isNumber_1 rfl ?_
  refine sp_geti (q := 7) hX flX7_34 fkX10_4 atX_20 dX7_isNumber_4 rfl ?_
  refine sp_iconst (v := 2) (q := 8) hX dX7_isNumber_7 li_2 rfl ?_
  refine sp_icmp_eq (tgt := 17) (q := 11) hX dX7_isNumber_8 (by decide) rfl (fun hc => ?_) (fun hc => ?_)
  · rw [if_pos hc] at hf
    refine sp_aload_n (i := 0) (q := 18) hX dX7_isNumber_17 rfl rfl rfl ?_
    refine sp_gets (t := 20) (q := 21) hX flX7_9 fkX7_0 atX_21 srX_21_0 dX7_isNumber_18 rfl ?_
    refine sp_geti (q := 24) hX flX7_99 fkX10_5 atX_20 dX7_isNumber_21 rfl ?_
    refine sp_iload_n (i := 1) (q := 25) hX dX7_isNumber_24 rfl rfl rfl ?_
    refine sp_icmp_lt (tgt := 39) (q := 28) hX dX7_isNumber_25 (by decide) rfl (fun hc => ?_) (fun hc => ?_)
    · rw [if_pos hc] at hf
      refine sp_drop (lv' := [some (.ref (sx_ad X 21)), none, none]) (And.intro rfl trivial) ?_
      exact hX7_isNumber_39 hX hR hf
    · rw [if_neg hc] at hf
      refine sp_aload_n (i := 0) (q := 29) hX dX7_isNumber_28 rfl rfl rfl ?_
      refine sp_gets (t := 20) (q := 32) hX flX7_9 fkX7_0 atX_21 srX_21_0 dX7_isNumber_29 rfl ?_
      refine sp_geti (q := 35) hX flX7_99 fkX10_5 atX_20 dX7_isNumber_32 rfl ?_
      refine sp_iload_n (i := 2) (q := 36) hX dX7_isNumber_35 rfl rfl rfl ?_
      refine sp_icmp_le (tgt := 45) (q := 39) hX dX7_isNumber_36 (by decide) rfl (fun hc => ?_) (fun hc => ?_)
      · rw [if_pos hc] at hf
        refine sp_iconst (v := 1) (q := 46) hX dX7_isNumber_45 li_1 rfl ?_
        exact sp_zret hX hR (by decide) dX7_isNumber_46 hf (Nat.le_of_ble_eq_true rfl) (Nat.le_of_ble_eq_true rfl)
      · rw [if_neg hc] at hf
        refine sp_drop (lv' := [some (.ref (sx_ad X 21)), none, none]) (And.intro rfl trivial) ?_
        exact hX7_isNumber_39 hX hR hf
  · rw [if_neg hc] at hf
    refine sp_aload_n (i := 0) (q := 12) hX dX7_isNumber_11 rfl rfl rfl ?_
    refine sp_iconst (v := 1) (q := 13) hX dX7_isNumber_12 li_1 rfl ?_
    obtain ⟨σ2, v3, h1, hf⟩ := sp_bd_so hf
    refine sp_callVi (As := [.int ((1 : Int32))]) (rest := []) (q := 16) hX (cnX7_fail (sp_st hX)  h1) cwX7_81 atX_21 rfl rfl rfl rfl rfl (Nat.le_of_ble_eq_true rfl) (Nat.le_of_ble_eq_true rfl) (Nat.le_of_ble_eq_true rfl) (Nat.le_of_ble_eq_true rfl) (Nat.le_of_ble_eq_true rfl) dX7_isNumber_13 rfl ?_
    obtain ⟨h4, hf⟩ := sp_ck_some hf
    exact sp_zret hX hR h4 dX7_isNumber_16 hf (Nat.le_of_ble_eq_true rfl) (Nat.le_of_ble_eq_true rfl)
set_option maxRecDepth 100000 in
set_option maxHeartbeats 4000000 in
theorem cnX7_isNumber {l : Launch} (hst : l.stackTraces = false) {w : sp_Wd} {n : Nat}  {σ : sp_St} {a1 : Int32} {a2 : Int32} {τ : sp_St} {r : Int32}  (hf : X7_isNumber n σ a1 a2 = some (τ, r)) : sp_Ci shX l w yX7_isNumber cX7_isNumber 3 (some .boolean) rmX7_isNumber 0 0 σ [.ref (w.2.1 21), .int a1, .int a2] τ r :=
  sp_ci (own := RX7) (by decide) rfl hst (Nat.le_of_ble_eq_true rfl) rfl (fun X hX hw hl hR => by subst hw; subst hl; exact hX7_isNumber hX hR   hf)
def rmX7_partMayStart : Room := { frames := 0, cells := 0, slots := 0, locals := 0 }
def X7_partMayStart_39 (n : Nat) (σ : sp_St) (zs0 : Int32) : Option (sp_St × Int32) :=
  sp_ck (sp_zb zs0) <|
  some (σ, zs0)
def X7_partMayStart_34 (n : Nat) (σ : sp_St) : Option (sp_St × Int32) :=
  X7_partMayStart_39 n σ ((1 : Int32))
def X7_partMayStart (n : Nat)  (σ : sp_St)  : Option (sp_St × Int32) :=
  if (σ.1 20 4) = ((2 : Int32)) then
    X7_partMayStart_34 n σ
  else
    if (σ.1 20 4) = ((1 : Int32)) then
      X7_partMayStart_34 n σ
    else
      if (σ.1 20 4) = ((40 : Int32)) then
        X7_partMayStart_34 n σ
      else
        X7_partMayStart_39 n σ ((0 : Int32))
set_option maxRecDepth 100000 in
set_option maxHeartbeats 4000000 in
theorem hX7_partMayStart_39 {X : sp_X} (hX : sp_OK shX X cX7_partMayStart RX7 1 rmX7_partMayStart) {τ : sp_St} {r : Int32} (hR : sp_Ri shX X (some .boolean) τ r 0 0) {n : Nat}    {σ : sp_St} {zs0 : Int32} (hf : X7_partMayStart_39 n σ zs0 = some (τ, r)) : sp_GG shX X σ 1 [none] [.int zs0] 39 0 0 := by
  unfold X7_partMayStart_39 at hf
  obtain ⟨h1, hf⟩ := sp_ck_some hf
  exact sp_zret hX hR h1 dX7_partMayStart_39 hf (Nat.le_of_ble_eq_true rfl) (Nat.le_of_ble_eq_true rfl)
set_option maxRecDepth 100000 in
set_option maxHeartbeats 4000000 in
theorem hX7_partMayStart_34 {X : sp_X} (hX : sp_OK shX X cX7_partMayStart RX7 1 rmX7_partMayStart) {τ : sp_St} {r : Int32} (hR : sp_Ri shX X (some .boolean) τ r 0 0) {n : Nat}    {σ : sp_St} (hf : X7_partMayStart_34 n σ = some (τ, r)) : sp_GG shX X σ 1 [none] [] 34 0 0 := by
  unfold X7_partMayStart_34 at hf
  refine sp_iconst (v := 1) (q := 35) hX dX7_partMayStart_34 li_1 rfl ?_
  refine sp_goto (tgt := 39) hX dX7_partMayStart_35 (by decide) ?_
  exact hX7_partMayStart_39 hX hR hf
set_option maxRecDepth 100000 in
set_option maxHeartbeats 4000000 in
theorem hX7_partMayStart {X : sp_X} (hX : sp_OK shX X cX7_partMayStart RX7 1 rmX7_partMayStart) {τ : sp_St} {r : Int32} (hR : sp_Ri shX X (some .boolean) τ r 0 0) {n : Nat}  {σ : sp_St}   (hf : X7_partMayStart n σ = some (τ, r)) : sp_GG shX X σ 1 [some (.ref (sx_ad X 21))] [] 0 0 0 := by
  unfold X7_partMayStart at hf
  refine sp_aload_n (i := 0) (q := 1) hX dX7_partMayStart_0 rfl rfl rfl ?_
  refine sp_gets (t := 20) (q := 4) hX flX7_9 fkX7_0 atX_21 srX_21_0 dX7_partMayStart_1 rfl ?_
  refine sp_geti (q := 7) hX flX7_34 fkX10_4 atX_20 dX7_partMayStart_4 rfl ?_
  refine sp_iconst (v := 2) (q := 8) hX dX7_partMayStart_7 li_2 rfl ?_
  refine sp_icmp_eq (tgt := 34) (q := 11) hX dX7_partMayStart_8 (by decide) rfl (fun hc => ?_) (fun hc => ?_)
  · rw [if_pos hc] at hf
    refine sp_drop (lv' := [none]) trivial ?_
    exact hX7_partMayStart_34 hX hR hf
  · rw [if_neg hc] at hf
    refine sp_aload_n (i := 0) (q := 12) hX dX7_partMayStart_11 rfl rfl rfl ?_
    refine sp_gets (t := 20) (q := 15) hX flX7_9 fkX7_0 atX_21 srX_21_0 dX7_partMayStart_12 rfl ?_
    refine sp_geti (q := 18) hX flX7_34 fkX10_4 atX_20 dX7_partMayStart_15 rfl ?_
    refine sp_iconst (v := 1) (q := 19) hX dX7_partMayStart_18 li_1 rfl ?_
    refine sp_icmp_eq (tgt := 34) (q := 22) hX dX7_partMayStart_19 (by decide) rfl (fun hc => ?_) (fun hc => ?_)
    · rw [if_pos hc] at hf
      refine sp_drop (lv' := [none]) trivial ?_
      exact hX7_partMayStart_34 hX hR hf
    · rw [if_neg hc] at hf
      refine sp_aload_n (i := 0) (q := 23) hX dX7_partMayStart_22 rfl rfl rfl ?_
      refine sp_gets (t := 20) (q := 26) hX flX7_9 fkX7_0 atX_21 srX_21_0 dX7_partMayStart_23 rfl ?_
      refine sp_geti (q := 29) hX flX7_34 fkX10_4 atX_20 dX7_partMayStart_26 rfl ?_
      refine sp_bipush (v := 40) (q := 31) hX dX7_partMayStart_29 lb_40 rfl ?_
      refine sp_icmp_ne (tgt := 38) (q := 34) hX dX7_partMayStart_31 (by decide) rfl (fun hc => ?_) (fun hc => ?_)
      · rw [if_neg hc] at hf
        refine sp_iconst (v := 0) (q := 39) hX dX7_partMayStart_38 li_0 rfl ?_
        refine sp_drop (lv' := [none]) trivial ?_
        exact hX7_partMayStart_39 hX hR hf
      · rw [if_pos hc] at hf
        refine sp_drop (lv' := [none]) trivial ?_
        exact hX7_partMayStart_34 hX hR hf
set_option maxRecDepth 100000 in
set_option maxHeartbeats 4000000 in
theorem cnX7_partMayStart {l : Launch} (hst : l.stackTraces = false) {w : sp_Wd} {n : Nat}  {σ : sp_St}  {τ : sp_St} {r : Int32}  (hf : X7_partMayStart n σ = some (τ, r)) : sp_Ci shX l w yX7_partMayStart cX7_partMayStart 1 (some .boolean) rmX7_partMayStart 0 0 σ [.ref (w.2.1 21)] τ r :=
  sp_ci (own := RX7) (by decide) rfl hst (Nat.le_of_ble_eq_true rfl) rfl (fun X hX hw hl hR => by subst hw; subst hl; exact hX7_partMayStart hX hR   hf)
def rmX7_valueNamed : Room := { frames := 5, cells := 0, slots := 0, locals := 107 }
def X7_valueNamed_103 (n : Nat) (σ : sp_St) : Option (sp_St × Int32) :=
  some (σ, (0 : Int32))
def X7_valueNamed_81 (n : Nat) (σ : sp_St) : Option (sp_St × Int32) :=
  if (σ.1 21 3) = 0 then
    X7_valueNamed_103 n σ
  else
    sp_bd (X10_isWord n σ 5) fun σ2 v3 =>
    if v3 = 0 then
      X7_valueNamed_103 n σ2
    else
      some (σ2, (-6 : Int32))
def X7_valueNamed (n : Nat)  (σ : sp_St)  : Option (sp_St × Int32) :=
  sp_bd (X10_isWord n σ 0) fun σ2 v3 =>
  if v3 = 0 then
    sp_bd (X10_isWord n σ2 1) fun σ5 v6 =>
    if v6 = 0 then
      sp_bd (X10_isWord n σ5 2) fun σ8 v9 =>
      if v9 = 0 then
        sp_bd (X10_isWord n σ8 3) fun σ11 v12 =>
        if v12 = 0 then
          if (σ11.1 21 3) = 0 then
            X7_valueNamed_81 n σ11
          else
            sp_bd (X10_isWord n σ11 4) fun σ14 v15 =>
            if v15 = 0 then
              X7_valueNamed_81 n σ14
            else
              some (σ14, (-5 : Int32))
        else
          some (σ11, (-4 : Int32))
      else
        some (σ8, (-3 : Int32))
    else
      some (σ5, (-2 : Int32))
  else
    some (σ2, (-1 : Int32))
set_option maxRecDepth 100000 in
set_option maxHeartbeats 4000000 in
theorem hX7_valueNamed_103 {X : sp_X} (hX : sp_OK shX X cX7_valueNamed RX7 1 rmX7_valueNamed) {τ : sp_St} {r : Int32} (hR : sp_Ri shX X (some .int) τ r 0 0) {n : Nat}    {σ : sp_St} (hf : X7_valueNamed_103 n σ = some (τ, r)) : sp_GG shX X σ 1 [none] [] 103 0 0 := by
  unfold X7_valueNamed_103 at hf
  refine sp_iconst (v := 0) (q := 104) hX dX7_valueNamed_103 li_0 rfl ?_
  exact sp_iret hX hR dX7_valueNamed_104 hf (Nat.le_of_ble_eq_true rfl) (Nat.le_of_ble_eq_true rfl)
set_option maxRecDepth 100000 in
set_option maxHeartbeats 4000000 in
theorem hX7_valueNamed_81 {X : sp_X} (hX : sp_OK shX X cX7_valueNamed RX7 1 rmX7_valueNamed) {τ : sp_St} {r : Int32} (hR : sp_Ri shX X (some .int) τ r 0 0) {n : Nat}    {σ : sp_St} (hf : X7_valueNamed_81 n σ = some (τ, r)) : sp_GG shX X σ 1 [some (.ref (sx_ad X 21))] [] 81 0 0 := by
  unfold X7_valueNamed_81 at hf
  refine sp_aload_n (i := 0) (q := 82) hX dX7_valueNamed_81 rfl rfl rfl ?_
  refine sp_geti (q := 85) hX flX7_139 fkX7_3 atX_21 dX7_valueNamed_82 rfl ?_
  refine sp_if_eq (tgt := 103) (q := 88) hX dX7_valueNamed_85 (by decide) rfl (fun hc => ?_) (fun hc => ?_)
  · rw [if_pos hc] at hf
    refine sp_drop (lv' := [none]) trivial ?_
    exact hX7_valueNamed_103 hX hR hf
  · rw [if_neg hc] at hf
    refine sp_aload_n (i := 0) (q := 89) hX dX7_valueNamed_88 rfl rfl rfl ?_
    refine sp_gets (t := 20) (q := 92) hX flX7_9 fkX7_0 atX_21 srX_21_0 dX7_valueNamed_89 rfl ?_
    refine sp_ldcS (i := 5) (tx := "above") (q := 94) hX (by decide) dX7_valueNamed_92 rfl ?_
    obtain ⟨σ2, v3, h1, hf⟩ := sp_bd_so hf
    refine sp_callVi (As := [.ref ((sx_w X).2.2.1 0 5)]) (rest := []) (q := 97) hX (cnX10_isWord (sp_st hX) (by decide) h1) cwX7_49 atX_20 rfl rfl rfl rfl rfl (Nat.le_of_ble_eq_true rfl) (Nat.le_of_ble_eq_true rfl) (Nat.le_of_ble_eq_true rfl) (Nat.le_of_ble_eq_true rfl) (Nat.le_of_ble_eq_true rfl) dX7_valueNamed_94 rfl ?_
    refine sp_if_eq (tgt := 103) (q := 100) hX dX7_valueNamed_97 (by decide) rfl (fun hc => ?_) (fun hc => ?_)
    · rw [if_pos hc] at hf
      refine sp_drop (lv' := [none]) trivial ?_
      exact hX7_valueNamed_103 hX hR hf
    · rw [if_neg hc] at hf
      refine sp_bipush (v := -6) (q := 102) hX dX7_valueNamed_100 lb_m6 rfl ?_
      exact sp_iret hX hR dX7_valueNamed_102 hf (Nat.le_of_ble_eq_true rfl) (Nat.le_of_ble_eq_true rfl)
set_option maxRecDepth 100000 in
set_option maxHeartbeats 4000000 in
theorem hX7_valueNamed {X : sp_X} (hX : sp_OK shX X cX7_valueNamed RX7 1 rmX7_valueNamed) {τ : sp_St} {r : Int32} (hR : sp_Ri shX X (some .int) τ r 0 0) {n : Nat}  {σ : sp_St}   (hf : X7_valueNamed n σ = some (τ, r)) : sp_GG shX X σ 1 [some (.ref (sx_ad X 21))] [] 0 0 0 := by
  unfold X7_valueNamed at hf
  refine sp_aload_n (i := 0) (q := 1) hX dX7_valueNamed_0 rfl rfl rfl ?_
  refine sp_gets (t := 20) (q := 4) hX flX7_9 fkX7_0 atX_21 srX_21_0 dX7_valueNamed_1 rfl ?_
  refine sp_ldcS (i := 0) (tx := "anger") (q := 6) hX (by decide) dX7_valueNamed_4 rfl ?_
  obtain ⟨σ2, v3, h1, hf⟩ := sp_bd_so hf
  refine sp_callVi (As := [.ref ((sx_w X).2.2.1 0 0)]) (rest := []) (q := 9) hX (cnX10_isWord (sp_st hX) (by decide) h1) cwX7_49 atX_20 rfl rfl rfl rfl rfl (Nat.le_of_ble_eq_true rfl) (Nat.le_of_ble_eq_true rfl) (Nat.le_of_ble_eq_true rfl) (Nat.le_of_ble_eq_true rfl) (Nat.le_of_ble_eq_true rfl) dX7_valueNamed_6 rfl ?_
  refine sp_if_eq (tgt := 14) (q := 12) hX dX7_valueNamed_9 (by decide) rfl (fun hc => ?_) (fun hc => ?_)
  · rw [if_pos hc] at hf
    refine sp_aload_n (i := 0) (q := 15) hX dX7_valueNamed_14 rfl rfl rfl ?_
    refine sp_gets (t := 20) (q := 18) hX flX7_9 fkX7_0 atX_21 srX_21_0 dX7_valueNamed_15 rfl ?_
    refine sp_ldcS (i := 1) (tx := "length") (q := 20) hX (by decide) dX7_valueNamed_18 rfl ?_
    obtain ⟨σ5, v6, h4, hf⟩ := sp_bd_so hf
    refine sp_callVi (As := [.ref ((sx_w X).2.2.1 0 1)]) (rest := []) (q := 23) hX (cnX10_isWord (sp_st hX) (by decide) h4) cwX7_49 atX_20 rfl rfl rfl rfl rfl (Nat.le_of_ble_eq_true rfl) (Nat.le_of_ble_eq_true rfl) (Nat.le_of_ble_eq_true rfl) (Nat.le_of_ble_eq_true rfl) (Nat.le_of_ble_eq_true rfl) dX7_valueNamed_20 rfl ?_
    refine sp_if_eq (tgt := 29) (q := 26) hX dX7_valueNamed_23 (by decide) rfl (fun hc => ?_) (fun hc => ?_)
    · rw [if_pos hc] at hf
      refine sp_aload_n (i := 0) (q := 30) hX dX7_valueNamed_29 rfl rfl rfl ?_
      refine sp_gets (t := 20) (q := 33) hX flX7_9 fkX7_0 atX_21 srX_21_0 dX7_valueNamed_30 rfl ?_
      refine sp_ldcS (i := 2) (tx := "day") (q := 35) hX (by decide) dX7_valueNamed_33 rfl ?_
      obtain ⟨σ8, v9, h7, hf⟩ := sp_bd_so hf
      refine sp_callVi (As := [.ref ((sx_w X).2.2.1 0 2)]) (rest := []) (q := 38) hX (cnX10_isWord (sp_st hX) (by decide) h7) cwX7_49 atX_20 rfl rfl rfl rfl rfl (Nat.le_of_ble_eq_true rfl) (Nat.le_of_ble_eq_true rfl) (Nat.le_of_ble_eq_true rfl) (Nat.le_of_ble_eq_true rfl) (Nat.le_of_ble_eq_true rfl) dX7_valueNamed_35 rfl ?_
      refine sp_if_eq (tgt := 44) (q := 41) hX dX7_valueNamed_38 (by decide) rfl (fun hc => ?_) (fun hc => ?_)
      · rw [if_pos hc] at hf
        refine sp_aload_n (i := 0) (q := 45) hX dX7_valueNamed_44 rfl rfl rfl ?_
        refine sp_gets (t := 20) (q := 48) hX flX7_9 fkX7_0 atX_21 srX_21_0 dX7_valueNamed_45 rfl ?_
        refine sp_ldcS (i := 3) (tx := "foes") (q := 50) hX (by decide) dX7_valueNamed_48 rfl ?_
        obtain ⟨σ11, v12, h10, hf⟩ := sp_bd_so hf
        refine sp_callVi (As := [.ref ((sx_w X).2.2.1 0 3)]) (rest := []) (q := 53) hX (cnX10_isWord (sp_st hX) (by decide) h10) cwX7_49 atX_20 rfl rfl rfl rfl rfl (Nat.le_of_ble_eq_true rfl) (Nat.le_of_ble_eq_true rfl) (Nat.le_of_ble_eq_true rfl) (Nat.le_of_ble_eq_true rfl) (Nat.le_of_ble_eq_true rfl) dX7_valueNamed_50 rfl ?_
        refine sp_if_eq (tgt := 59) (q := 56) hX dX7_valueNamed_53 (by decide) rfl (fun hc => ?_) (fun hc => ?_)
        · rw [if_pos hc] at hf
          refine sp_aload_n (i := 0) (q := 60) hX dX7_valueNamed_59 rfl rfl rfl ?_
          refine sp_geti (q := 63) hX flX7_139 fkX7_3 atX_21 dX7_valueNamed_60 rfl ?_
          refine sp_if_eq (tgt := 81) (q := 66) hX dX7_valueNamed_63 (by decide) rfl (fun hc => ?_) (fun hc => ?_)
          · rw [if_pos hc] at hf
            exact hX7_valueNamed_81 hX hR hf
          · rw [if_neg hc] at hf
            refine sp_aload_n (i := 0) (q := 67) hX dX7_valueNamed_66 rfl rfl rfl ?_
            refine sp_gets (t := 20) (q := 70) hX flX7_9 fkX7_0 atX_21 srX_21_0 dX7_valueNamed_67 rfl ?_
            refine sp_ldcS (i := 4) (tx := "within") (q := 72) hX (by decide) dX7_valueNamed_70 rfl ?_
            obtain ⟨σ14, v15, h13, hf⟩ := sp_bd_so hf
            refine sp_callVi (As := [.ref ((sx_w X).2.2.1 0 4)]) (rest := []) (q := 75) hX (cnX10_isWord (sp_st hX) (by decide) h13) cwX7_49 atX_20 rfl rfl rfl rfl rfl (Nat.le_of_ble_eq_true rfl) (Nat.le_of_ble_eq_true rfl) (Nat.le_of_ble_eq_true rfl) (Nat.le_of_ble_eq_true rfl) (Nat.le_of_ble_eq_true rfl) dX7_valueNamed_72 rfl ?_
            refine sp_if_eq (tgt := 81) (q := 78) hX dX7_valueNamed_75 (by decide) rfl (fun hc => ?_) (fun hc => ?_)
            · rw [if_pos hc] at hf
              exact hX7_valueNamed_81 hX hR hf
            · rw [if_neg hc] at hf
              refine sp_bipush (v := -5) (q := 80) hX dX7_valueNamed_78 lb_m5 rfl ?_
              exact sp_iret hX hR dX7_valueNamed_80 hf (Nat.le_of_ble_eq_true rfl) (Nat.le_of_ble_eq_true rfl)
        · rw [if_neg hc] at hf
          refine sp_bipush (v := -4) (q := 58) hX dX7_valueNamed_56 lb_m4 rfl ?_
          exact sp_iret hX hR dX7_valueNamed_58 hf (Nat.le_of_ble_eq_true rfl) (Nat.le_of_ble_eq_true rfl)
      · rw [if_neg hc] at hf
        refine sp_bipush (v := -3) (q := 43) hX dX7_valueNamed_41 lb_m3 rfl ?_
        exact sp_iret hX hR dX7_valueNamed_43 hf (Nat.le_of_ble_eq_true rfl) (Nat.le_of_ble_eq_true rfl)
    · rw [if_neg hc] at hf
      refine sp_bipush (v := -2) (q := 28) hX dX7_valueNamed_26 lb_m2 rfl ?_
      exact sp_iret hX hR dX7_valueNamed_28 hf (Nat.le_of_ble_eq_true rfl) (Nat.le_of_ble_eq_true rfl)
  · rw [if_neg hc] at hf
    refine sp_iconst (v := -1) (q := 13) hX dX7_valueNamed_12 li_m1 rfl ?_
    exact sp_iret hX hR dX7_valueNamed_13 hf (Nat.le_of_ble_eq_true rfl) (Nat.le_of_ble_eq_true rfl)
set_option maxRecDepth 100000 in
set_option maxHeartbeats 4000000 in
theorem cnX7_valueNamed {l : Launch} (hst : l.stackTraces = false) {w : sp_Wd} {n : Nat}  {σ : sp_St}  {τ : sp_St} {r : Int32}  (hf : X7_valueNamed n σ = some (τ, r)) : sp_Ci shX l w yX7_valueNamed cX7_valueNamed 1 (some .int) rmX7_valueNamed 0 0 σ [.ref (w.2.1 21)] τ r :=
  sp_ci (own := RX7) (by decide) rfl hst (Nat.le_of_ble_eq_true rfl) rfl (fun X hX hw hl hR => by subst hw; subst hl; exact hX7_valueNamed hX hR   hf)
def rmX7_part (d : Nat) : Room := { frames := 10 * d + 31, cells := 0, slots := 0, locals := 600 * d + 450 }
def rmX7_product (d : Nat) : Room := { frames := 10 * d + 32, cells := 0, slots := 0, locals := 600 * d + 500 }
def rmX7_sum (d : Nat) : Room := { frames := 10 * d + 33, cells := 0, slots := 0, locals := 600 * d + 550 }
def rmX7_test (d : Nat) : Room := { frames := 10 * d + 34, cells := 0, slots := 0, locals := 600 * d + 600 }
def rmX7_perhapsNot (d : Nat) : Room := { frames := 10 * d + 35, cells := 0, slots := 0, locals := 600 * d + 650 }
def rmX7_both (d : Nat) : Room := { frames := 10 * d + 36, cells := 0, slots := 0, locals := 600 * d + 700 }
def rmX7_either (d : Nat) : Room := { frames := 10 * d + 30, cells := 0, slots := 0, locals := 600 * d + 400 }
def X7_part_111 (n : Nat) (ke : sp_St → Int32 → Option (sp_St × Int32)) (σ : sp_St) (z3 : Int32) : Option (sp_St × Int32) :=
  sp_pl (σ.2.1 21 1) fun c1 =>
  sp_ck (sp_isc c1) <|
  sp_bv (X2_addCode n σ c1 z3) fun σ5 =>
  sp_bv (X10_next n σ5) fun σ7 =>
  some (σ7, (1 : Int32))
def X7_part_96 (n : Nat) (ke : sp_St → Int32 → Option (sp_St × Int32)) (σ : sp_St) (z2 : Int32) (zs0 : Int32) : Option (sp_St × Int32) :=
  if z2 = 0 then
    X7_part_111 n ke σ zs0
  else
    if zs0 = 0 then
      sp_bd (X7_fail n σ ((3 : Int32))) fun σ2 v3 =>
      sp_ck (sp_zb v3) <|
      some (σ2, v3)
    else
      X7_part_111 n ke σ zs0
def X7_part_78 (n : Nat) (ke : sp_St → Int32 → Option (sp_St × Int32)) (σ : sp_St) (z2 : Int32) : Option (sp_St × Int32) :=
  if z2 = 0 then
    X7_part_96 n ke σ z2 (σ.1 20 5)
  else
    sp_bd (X7_valueNamed n σ) fun σ2 v3 =>
    X7_part_96 n ke σ2 z2 v3
def X7_part_43 (n : Nat) (ke : sp_St → Int32 → Option (sp_St × Int32)) (σ : sp_St) (zs0 : Int32) : Option (sp_St × Int32) :=
  sp_ck (sp_zb zs0) <|
  some (σ, zs0)
def X7_part_42 (n : Nat) (ke : sp_St → Int32 → Option (sp_St × Int32)) (σ : sp_St) : Option (sp_St × Int32) :=
  X7_part_43 n ke σ ((0 : Int32))
def X7_part (n : Nat) (ke : sp_St → Int32 → Option (sp_St × Int32)) (σ : sp_St) (a1 : Int32) : Option (sp_St × Int32) :=
  if (σ.1 20 4) = ((40 : Int32)) then
    sp_bv (X10_next n σ) fun σ8 =>
    sp_bd (ke σ8 (a1 + ((1 : Int32)))) fun σ10 v11 =>
    if v11 = 0 then
      X7_part_42 n ke σ10
    else
      sp_bd (X7_passSign n σ10 ((41 : Int32))) fun σ13 v14 =>
      if v14 = 0 then
        X7_part_42 n ke σ13
      else
        X7_part_43 n ke σ13 ((1 : Int32))
  else
    sp_pl (if (σ.1 20 4) = ((1 : Int32)) then ((1 : Int32)) else ((0 : Int32))) fun v1 =>
    if v1 = 0 then
      sp_bd (X7_isNumber n σ ((0 : Int32)) ((9999 : Int32))) fun σ4 v5 =>
      if v5 = 0 then
        some (σ4, (0 : Int32))
      else
        X7_part_78 n ke σ4 v1
    else
      X7_part_78 n ke σ v1
set_option maxRecDepth 100000 in
set_option maxHeartbeats 4000000 in
theorem hX7_part_111 {d : Nat} {X : sp_X} (hX : sp_OK shX X cX7_part RX7 4 (rmX7_part d)) {τ : sp_St} {r : Int32} (hR : sp_Ri shX X (some .boolean) τ r 0 0) {n : Nat} {ke : sp_St → Int32 → Option (sp_St × Int32)} (hke : ∀ (σ : sp_St) (a : Int32) (τ : sp_St) (r : Int32), ke σ a = some (τ, r) → sp_Ci shX (sx_l X) (sx_w X) yX7_either cX7_either 4 (some .boolean) (rmX7_either d) 0 0 σ [.ref ((sx_w X).2.1 21), .int a] τ r)   {σ : sp_St} {z3 : Int32} (hf : X7_part_111 n ke σ z3 = some (τ, r)) : sp_GG shX X σ 4 [some (.ref (sx_ad X 21)), none, none, some (.int z3)] [] 111 0 0 := by
  unfold X7_part_111 at hf
  refine sp_aload_n (i := 0) (q := 112) hX dX7_part_111 rfl rfl rfl ?_
  obtain ⟨c1, e3, hf⟩ := sp_pl_some hf
  obtain ⟨h2, hf⟩ := sp_ck_some hf
  refine sp_getr (q := 115) hX flX7_15 fkX7_1 atX_21 dX7_part_112 rfl ?_
  refine sp_nmr e3 ?_
  refine sp_iload_n (i := 3) (q := 116) hX dX7_part_115 rfl rfl rfl ?_
  obtain ⟨σ5, h4, hf⟩ := sp_bv_so hf
  refine sp_callVv (As := [.int z3]) (rest := []) (q := 119) hX (cnX2_addCode (sp_st hX) (sp_isc_at h2) h4) cwX7_173 (sp_isc_at h2) rfl rfl rfl rfl rfl (by unfold rmX2_addCode rmX7_part; dsimp only; simp; try omega) (by unfold rmX2_addCode rmX7_part; dsimp only; simp; try omega) (Nat.le_of_ble_eq_true rfl) (Nat.le_of_ble_eq_true rfl) (Nat.le_of_ble_eq_true rfl) dX7_part_116 rfl ?_
  refine sp_aload_n (i := 0) (q := 120) hX dX7_part_119 rfl rfl rfl ?_
  refine sp_gets (t := 20) (q := 123) hX flX7_9 fkX7_0 atX_21 srX_21_0 dX7_part_120 rfl ?_
  obtain ⟨σ7, h6, hf⟩ := sp_bv_so hf
  refine sp_callVv (As := []) (rest := []) (q := 126) hX (cnX10_next (sp_st hX)  h6) cwX7_92 atX_20 rfl rfl rfl rfl rfl (by unfold rmX10_next rmX7_part; dsimp only; simp; try omega) (by unfold rmX10_next rmX7_part; dsimp only; simp; try omega) (Nat.le_of_ble_eq_true rfl) (Nat.le_of_ble_eq_true rfl) (Nat.le_of_ble_eq_true rfl) dX7_part_123 rfl ?_
  refine sp_iconst (v := 1) (q := 127) hX dX7_part_126 li_1 rfl ?_
  exact sp_zret hX hR (by decide) dX7_part_127 hf (Nat.le_of_ble_eq_true rfl) (Nat.le_of_ble_eq_true rfl)
set_option maxRecDepth 100000 in
set_option maxHeartbeats 4000000 in
theorem hX7_part_96 {d : Nat} {X : sp_X} (hX : sp_OK shX X cX7_part RX7 4 (rmX7_part d)) {τ : sp_St} {r : Int32} (hR : sp_Ri shX X (some .boolean) τ r 0 0) {n : Nat} {ke : sp_St → Int32 → Option (sp_St × Int32)} (hke : ∀ (σ : sp_St) (a : Int32) (τ : sp_St) (r : Int32), ke σ a = some (τ, r) → sp_Ci shX (sx_l X) (sx_w X) yX7_either cX7_either 4 (some .boolean) (rmX7_either d) 0 0 σ [.ref ((sx_w X).2.1 21), .int a] τ r)   {σ : sp_St} {z2 : Int32} {zs0 : Int32} (hf : X7_part_96 n ke σ z2 zs0 = some (τ, r)) : sp_GG shX X σ 4 [some (.ref (sx_ad X 21)), none, some (.int z2), none] [.int zs0] 96 0 0 := by
  unfold X7_part_96 at hf
  refine sp_istore_n (i := 3) (lv' := [some (.ref (sx_ad X 21)), none, some (.int z2), some (.int zs0)]) (q := 97) hX dX7_part_96 rfl (Nat.le_of_ble_eq_true rfl) rfl rfl rfl ?_
  refine sp_iload_n (i := 2) (q := 98) hX dX7_part_97 rfl rfl rfl ?_
  refine sp_if_eq (tgt := 111) (q := 101) hX dX7_part_98 (by decide) rfl (fun hc => ?_) (fun hc => ?_)
  · rw [if_pos hc] at hf
    refine sp_drop (lv' := [some (.ref (sx_ad X 21)), none, none, some (.int zs0)]) (And.intro rfl (And.intro rfl trivial)) ?_
    exact hX7_part_111 hX hR hke hf
  · rw [if_neg hc] at hf
    refine sp_iload_n (i := 3) (q := 102) hX dX7_part_101 rfl rfl rfl ?_
    refine sp_if_ne (tgt := 111) (q := 105) hX dX7_part_102 (by decide) rfl (fun hc => ?_) (fun hc => ?_)
    · rw [if_neg hc] at hf
      refine sp_drop (lv' := [some (.ref (sx_ad X 21)), none, none, some (.int zs0)]) (And.intro rfl (And.intro rfl trivial)) ?_
      exact hX7_part_111 hX hR hke hf
    · rw [if_pos hc] at hf
      refine sp_aload_n (i := 0) (q := 106) hX dX7_part_105 rfl rfl rfl ?_
      refine sp_iconst (v := 3) (q := 107) hX dX7_part_106 li_3 rfl ?_
      obtain ⟨σ2, v3, h1, hf⟩ := sp_bd_so hf
      refine sp_callVi (As := [.int ((3 : Int32))]) (rest := []) (q := 110) hX (cnX7_fail (sp_st hX)  h1) cwX7_81 atX_21 rfl rfl rfl rfl rfl (by unfold rmX7_fail rmX7_part; dsimp only; simp; try omega) (by unfold rmX7_fail rmX7_part; dsimp only; simp; try omega) (Nat.le_of_ble_eq_true rfl) (Nat.le_of_ble_eq_true rfl) (Nat.le_of_ble_eq_true rfl) dX7_part_107 rfl ?_
      obtain ⟨h4, hf⟩ := sp_ck_some hf
      exact sp_zret hX hR h4 dX7_part_110 hf (Nat.le_of_ble_eq_true rfl) (Nat.le_of_ble_eq_true rfl)
set_option maxRecDepth 100000 in
set_option maxHeartbeats 4000000 in
theorem hX7_part_78 {d : Nat} {X : sp_X} (hX : sp_OK shX X cX7_part RX7 4 (rmX7_part d)) {τ : sp_St} {r : Int32} (hR : sp_Ri shX X (some .boolean) τ r 0 0) {n : Nat} {ke : sp_St → Int32 → Option (sp_St × Int32)} (hke : ∀ (σ : sp_St) (a : Int32) (τ : sp_St) (r : Int32), ke σ a = some (τ, r) → sp_Ci shX (sx_l X) (sx_w X) yX7_either cX7_either 4 (some .boolean) (rmX7_either d) 0 0 σ [.ref ((sx_w X).2.1 21), .int a] τ r)   {σ : sp_St} {z2 : Int32} (hf : X7_part_78 n ke σ z2 = some (τ, r)) : sp_GG shX X σ 4 [some (.ref (sx_ad X 21)), none, some (.int z2), none] [] 78 0 0 := by
  unfold X7_part_78 at hf
  refine sp_iload_n (i := 2) (q := 79) hX dX7_part_78 rfl rfl rfl ?_
  refine sp_if_eq (tgt := 89) (q := 82) hX dX7_part_79 (by decide) rfl (fun hc => ?_) (fun hc => ?_)
  · rw [if_pos hc] at hf
    refine sp_aload_n (i := 0) (q := 90) hX dX7_part_89 rfl rfl rfl ?_
    refine sp_gets (t := 20) (q := 93) hX flX7_9 fkX7_0 atX_21 srX_21_0 dX7_part_90 rfl ?_
    refine sp_geti (q := 96) hX flX7_99 fkX10_5 atX_20 dX7_part_93 rfl ?_
    exact hX7_part_96 hX hR hke hf
  · rw [if_neg hc] at hf
    refine sp_aload_n (i := 0) (q := 83) hX dX7_part_82 rfl rfl rfl ?_
    obtain ⟨σ2, v3, h1, hf⟩ := sp_bd_so hf
    refine sp_callVi (As := []) (rest := []) (q := 86) hX (cnX7_valueNamed (sp_st hX)  h1) cwX7_195 atX_21 rfl rfl rfl rfl rfl (by unfold rmX7_valueNamed rmX7_part; dsimp only; simp; try omega) (by unfold rmX7_valueNamed rmX7_part; dsimp only; simp; try omega) (Nat.le_of_ble_eq_true rfl) (Nat.le_of_ble_eq_true rfl) (Nat.le_of_ble_eq_true rfl) dX7_part_83 rfl ?_
    refine sp_goto (tgt := 96) hX dX7_part_86 (by decide) ?_
    exact hX7_part_96 hX hR hke hf
set_option maxRecDepth 100000 in
set_option maxHeartbeats 4000000 in
theorem hX7_part_43 {d : Nat} {X : sp_X} (hX : sp_OK shX X cX7_part RX7 4 (rmX7_part d)) {τ : sp_St} {r : Int32} (hR : sp_Ri shX X (some .boolean) τ r 0 0) {n : Nat} {ke : sp_St → Int32 → Option (sp_St × Int32)} (hke : ∀ (σ : sp_St) (a : Int32) (τ : sp_St) (r : Int32), ke σ a = some (τ, r) → sp_Ci shX (sx_l X) (sx_w X) yX7_either cX7_either 4 (some .boolean) (rmX7_either d) 0 0 σ [.ref ((sx_w X).2.1 21), .int a] τ r)   {σ : sp_St} {zs0 : Int32} (hf : X7_part_43 n ke σ zs0 = some (τ, r)) : sp_GG shX X σ 4 [none, none, none, none] [.int zs0] 43 0 0 := by
  unfold X7_part_43 at hf
  obtain ⟨h1, hf⟩ := sp_ck_some hf
  exact sp_zret hX hR h1 dX7_part_43 hf (Nat.le_of_ble_eq_true rfl) (Nat.le_of_ble_eq_true rfl)
set_option maxRecDepth 100000 in
set_option maxHeartbeats 4000000 in
theorem hX7_part_42 {d : Nat} {X : sp_X} (hX : sp_OK shX X cX7_part RX7 4 (rmX7_part d)) {τ : sp_St} {r : Int32} (hR : sp_Ri shX X (some .boolean) τ r 0 0) {n : Nat} {ke : sp_St → Int32 → Option (sp_St × Int32)} (hke : ∀ (σ : sp_St) (a : Int32) (τ : sp_St) (r : Int32), ke σ a = some (τ, r) → sp_Ci shX (sx_l X) (sx_w X) yX7_either cX7_either 4 (some .boolean) (rmX7_either d) 0 0 σ [.ref ((sx_w X).2.1 21), .int a] τ r)   {σ : sp_St} (hf : X7_part_42 n ke σ = some (τ, r)) : sp_GG shX X σ 4 [none, none, none, none] [] 42 0 0 := by
  unfold X7_part_42 at hf
  refine sp_iconst (v := 0) (q := 43) hX dX7_part_42 li_0 rfl ?_
  exact hX7_part_43 hX hR hke hf
set_option maxRecDepth 100000 in
set_option maxHeartbeats 4000000 in
theorem hX7_part {d : Nat} {X : sp_X} (hX : sp_OK shX X cX7_part RX7 4 (rmX7_part d)) {τ : sp_St} {r : Int32} (hR : sp_Ri shX X (some .boolean) τ r 0 0) {n : Nat} {ke : sp_St → Int32 → Option (sp_St × Int32)} (hke : ∀ (σ : sp_St) (a : Int32) (τ : sp_St) (r : Int32), ke σ a = some (τ, r) → sp_Ci shX (sx_l X) (sx_w X) yX7_either cX7_either 4 (some .boolean) (rmX7_either d) 0 0 σ [.ref ((sx_w X).2.1 21), .int a] τ r) {σ : sp_St} {a1 : Int32}  (hf : X7_part n ke σ a1 = some (τ, r)) : sp_GG shX X σ 4 [some (.ref (sx_ad X 21)), some (.int a1), none, none] [] 0 0 0 := by
  unfold X7_part at hf
  refine sp_aload_n (i := 0) (q := 1) hX dX7_part_0 rfl rfl rfl ?_
  refine sp_gets (t := 20) (q := 4) hX flX7_9 fkX7_0 atX_21 srX_21_0 dX7_part_1 rfl ?_
  refine sp_geti (q := 7) hX flX7_34 fkX10_4 atX_20 dX7_part_4 rfl ?_
  refine sp_bipush (v := 40) (q := 9) hX dX7_part_7 lb_40 rfl ?_
  refine sp_icmp_ne (tgt := 44) (q := 12) hX dX7_part_9 (by decide) rfl (fun hc => ?_) (fun hc => ?_)
  · rw [if_neg hc] at hf
    refine sp_aload_n (i := 0) (q := 45) hX dX7_part_44 rfl rfl rfl ?_
    refine sp_gets (t := 20) (q := 48) hX flX7_9 fkX7_0 atX_21 srX_21_0 dX7_part_45 rfl ?_
    refine sp_geti (q := 51) hX flX7_34 fkX10_4 atX_20 dX7_part_48 rfl ?_
    refine sp_iconst (v := 1) (q := 52) hX dX7_part_51 li_1 rfl ?_
    obtain ⟨v1, e2, hf⟩ := sp_pl_some hf
    have hj6 : sp_GG shX X σ 4 [some (.ref (sx_ad X 21)), some (.int a1), none, none] [.int v1] 60 0 0 := by
      refine sp_istore_n (i := 2) (lv' := [some (.ref (sx_ad X 21)), some (.int a1), some (.int v1), none]) (q := 61) hX dX7_part_60 rfl (Nat.le_of_ble_eq_true rfl) rfl rfl rfl ?_
      refine sp_iload_n (i := 2) (q := 62) hX dX7_part_61 rfl rfl rfl ?_
      refine sp_if_ne (tgt := 78) (q := 65) hX dX7_part_62 (by decide) rfl (fun hc => ?_) (fun hc => ?_)
      · rw [if_neg hc] at hf
        refine sp_drop (lv' := [some (.ref (sx_ad X 21)), none, some (.int v1), none]) (And.intro rfl (And.intro rfl trivial)) ?_
        exact hX7_part_78 hX hR hke hf
      · rw [if_pos hc] at hf
        refine sp_aload_n (i := 0) (q := 66) hX dX7_part_65 rfl rfl rfl ?_
        refine sp_iconst (v := 0) (q := 67) hX dX7_part_66 li_0 rfl ?_
        refine sp_sipush (v := 9999) (q := 70) hX dX7_part_67 ls_9999 rfl ?_
        obtain ⟨σ4, v5, h3, hf⟩ := sp_bd_so hf
        refine sp_callVi (As := [.int ((0 : Int32)), .int ((9999 : Int32))]) (rest := []) (q := 73) hX (cnX7_isNumber (sp_st hX)  h3) cwX7_95 atX_21 rfl rfl rfl rfl rfl (by unfold rmX7_isNumber rmX7_part; dsimp only; simp; try omega) (by unfold rmX7_isNumber rmX7_part; dsimp only; simp; try omega) (Nat.le_of_ble_eq_true rfl) (Nat.le_of_ble_eq_true rfl) (Nat.le_of_ble_eq_true rfl) dX7_part_70 rfl ?_
        refine sp_if_ne (tgt := 78) (q := 76) hX dX7_part_73 (by decide) rfl (fun hc => ?_) (fun hc => ?_)
        · rw [if_neg hc] at hf
          refine sp_drop (lv' := [some (.ref (sx_ad X 21)), none, some (.int v1), none]) (And.intro rfl (And.intro rfl trivial)) ?_
          exact hX7_part_78 hX hR hke hf
        · rw [if_pos hc] at hf
          refine sp_iconst (v := 0) (q := 77) hX dX7_part_76 li_0 rfl ?_
          exact sp_zret hX hR (by decide) dX7_part_77 hf (Nat.le_of_ble_eq_true rfl) (Nat.le_of_ble_eq_true rfl)
    refine sp_icmp_ne (tgt := 59) (q := 55) hX dX7_part_52 (by decide) rfl (fun hc => ?_) (fun hc => ?_)
    · refine sp_iconst (v := 0) (q := 60) hX dX7_part_59 li_0 rfl ?_
      exact sp_nmi (by rw [e2, if_neg hc]) hj6
    · refine sp_iconst (v := 1) (q := 56) hX dX7_part_55 li_1 rfl ?_
      refine sp_goto (tgt := 60) hX dX7_part_56 (by decide) ?_
      exact sp_nmi (by rw [e2, if_pos hc]) hj6
  · rw [if_pos hc] at hf
    refine sp_aload_n (i := 0) (q := 13) hX dX7_part_12 rfl rfl rfl ?_
    refine sp_gets (t := 20) (q := 16) hX flX7_9 fkX7_0 atX_21 srX_21_0 dX7_part_13 rfl ?_
    obtain ⟨σ8, h7, hf⟩ := sp_bv_so hf
    refine sp_callVv (As := []) (rest := []) (q := 19) hX (cnX10_next (sp_st hX)  h7) cwX7_92 atX_20 rfl rfl rfl rfl rfl (by unfold rmX10_next rmX7_part; dsimp only; simp; try omega) (by unfold rmX10_next rmX7_part; dsimp only; simp; try omega) (Nat.le_of_ble_eq_true rfl) (Nat.le_of_ble_eq_true rfl) (Nat.le_of_ble_eq_true rfl) dX7_part_16 rfl ?_
    refine sp_aload_n (i := 0) (q := 20) hX dX7_part_19 rfl rfl rfl ?_
    refine sp_iload_n (i := 1) (q := 21) hX dX7_part_20 rfl rfl rfl ?_
    refine sp_iconst (v := 1) (q := 22) hX dX7_part_21 li_1 rfl ?_
    refine sp_iadd (q := 23) hX dX7_part_22 rfl ?_
    obtain ⟨σ10, v11, h9, hf⟩ := sp_bd_so hf
    refine sp_callVi (As := [.int (a1 + ((1 : Int32)))]) (rest := []) (q := 26) hX (hke _ _ _ _ h9) cwX7_148 atX_21 rfl rfl rfl rfl rfl (by unfold rmX7_either rmX7_part; dsimp only; simp; try omega) (by unfold rmX7_either rmX7_part; dsimp only; simp; try omega) (Nat.le_of_ble_eq_true rfl) (Nat.le_of_ble_eq_true rfl) (Nat.le_of_ble_eq_true rfl) dX7_part_23 rfl ?_
    refine sp_if_eq (tgt := 42) (q := 29) hX dX7_part_26 (by decide) rfl (fun hc => ?_) (fun hc => ?_)
    · rw [if_pos hc] at hf
      refine sp_drop (lv' := [none, none, none, none]) trivial ?_
      exact hX7_part_42 hX hR hke hf
    · rw [if_neg hc] at hf
      refine sp_aload_n (i := 0) (q := 30) hX dX7_part_29 rfl rfl rfl ?_
      refine sp_bipush (v := 41) (q := 32) hX dX7_part_30 lb_41 rfl ?_
      obtain ⟨σ13, v14, h12, hf⟩ := sp_bd_so hf
      refine sp_callVi (As := [.int ((41 : Int32))]) (rest := []) (q := 35) hX (cnX7_passSign (sp_st hX)  h12) cwX7_85 atX_21 rfl rfl rfl rfl rfl (by unfold rmX7_passSign rmX7_part; dsimp only; simp; try omega) (by unfold rmX7_passSign rmX7_part; dsimp only; simp; try omega) (Nat.le_of_ble_eq_true rfl) (Nat.le_of_ble_eq_true rfl) (Nat.le_of_ble_eq_true rfl) dX7_part_32 rfl ?_
      refine sp_if_eq (tgt := 42) (q := 38) hX dX7_part_35 (by decide) rfl (fun hc => ?_) (fun hc => ?_)
      · rw [if_pos hc] at hf
        refine sp_drop (lv' := [none, none, none, none]) trivial ?_
        exact hX7_part_42 hX hR hke hf
      · rw [if_neg hc] at hf
        refine sp_iconst (v := 1) (q := 39) hX dX7_part_38 li_1 rfl ?_
        refine sp_goto (tgt := 43) hX dX7_part_39 (by decide) ?_
        refine sp_drop (lv' := [none, none, none, none]) trivial ?_
        exact hX7_part_43 hX hR hke hf
set_option maxRecDepth 100000 in
set_option maxHeartbeats 4000000 in
theorem cnX7_part {l : Launch} (hst : l.stackTraces = false) {w : sp_Wd} {n : Nat} {d : Nat} {ke : sp_St → Int32 → Option (sp_St × Int32)} (hke : ∀ (σ : sp_St) (a : Int32) (τ : sp_St) (r : Int32), ke σ a = some (τ, r) → sp_Ci shX l w yX7_either cX7_either 4 (some .boolean) (rmX7_either d) 0 0 σ [.ref (w.2.1 21), .int a] τ r) {σ : sp_St} {a1 : Int32} {τ : sp_St} {r : Int32}  (hf : X7_part n ke σ a1 = some (τ, r)) : sp_Ci shX l w yX7_part cX7_part 4 (some .boolean) (rmX7_part d) 0 0 σ [.ref (w.2.1 21), .int a1] τ r :=
  sp_ci (own := RX7) (by decide) rfl hst (Nat.le_of_ble_eq_true rfl) rfl (fun X hX hw hl hR => by subst hw; subst hl; exact hX7_part hX hR hke  hf)
def X7_product_92 (n : Nat) (ke : sp_St → Int32 → Option (sp_St × Int32)) (σ : sp_St) (z2 : Int32) : Option (sp_St × Int32) :=
  sp_ck (sp_zb z2) <|
  some (σ, z2)
def X7_product_43 (n : Nat) (ke : sp_St → Int32 → Option (sp_St × Int32)) (k8 : sp_St → Int32 → Int32 → Int32 → Option (sp_St × Int32)) (σ : sp_St) (z1 : Int32) (z3 : Int32) : Option (sp_St × Int32) :=
  sp_pl (if (σ.1 20 4) = ((42 : Int32)) then ((-9 : Int32)) else ((-10 : Int32))) fun v1 =>
  sp_bv (X10_next n σ) fun σ4 =>
  sp_bd (X7_part n ke σ4 z1) fun σ6 v7 =>
  sp_pl (σ6.2.1 21 1) fun c8 =>
  sp_ck (sp_isc c8) <|
  sp_bv (X2_addCode n σ6 c8 v1) fun σ12 =>
  sp_pl (z3 + 1) fun x13 =>
  k8 σ12 z1 v7 x13
def X7_product_8 (n : Nat) (ke : sp_St → Int32 → Option (sp_St × Int32)) : Nat → sp_St → Int32 → Int32 → Int32 → Option (sp_St × Int32)
  | 0, _, _, _, _ => none
  | f + 1, σ, z1, z2, z3 =>
    if ((700 : Int32)) ≤ z3 then
      X7_product_92 n ke σ z2
    else
      if z2 = 0 then
        X7_product_92 n ke σ z2
      else
        if (σ.1 20 4) = ((42 : Int32)) then
          X7_product_43 n ke (X7_product_8 n ke f) σ z1 z3
        else
          if (σ.1 20 4) = ((47 : Int32)) then
            X7_product_43 n ke (X7_product_8 n ke f) σ z1 z3
          else
            X7_product_92 n ke σ z2
def X7_product (n : Nat) (ke : sp_St → Int32 → Option (sp_St × Int32)) (σ : sp_St) (a1 : Int32) : Option (sp_St × Int32) :=
  sp_bd (X7_part n ke σ a1) fun σ2 v3 =>
  sp_pl ((0 : Int32)) fun x4 =>
  X7_product_8 n ke n σ2 a1 v3 x4
set_option maxRecDepth 100000 in
set_option maxHeartbeats 4000000 in
theorem hX7_product_92 {d : Nat} {X : sp_X} (hX : sp_OK shX X cX7_product RX7 5 (rmX7_product d)) {τ : sp_St} {r : Int32} (hR : sp_Ri shX X (some .boolean) τ r 0 0) {n : Nat} {ke : sp_St → Int32 → Option (sp_St × Int32)} (hke : ∀ (σ : sp_St) (a : Int32) (τ : sp_St) (r : Int32), ke σ a = some (τ, r) → sp_Ci shX (sx_l X) (sx_w X) yX7_either cX7_either 4 (some .boolean) (rmX7_either d) 0 0 σ [.ref ((sx_w X).2.1 21), .int a] τ r)   {σ : sp_St} {z2 : Int32} (hf : X7_product_92 n ke σ z2 = some (τ, r)) : sp_GG shX X σ 5 [none, none, some (.int z2), none, none] [] 92 0 0 := by
  unfold X7_product_92 at hf
  refine sp_iload_n (i := 2) (q := 93) hX dX7_product_92 rfl rfl rfl ?_
  obtain ⟨h1, hf⟩ := sp_ck_some hf
  exact sp_zret hX hR h1 dX7_product_93 hf (Nat.le_of_ble_eq_true rfl) (Nat.le_of_ble_eq_true rfl)
set_option maxRecDepth 100000 in
set_option maxHeartbeats 4000000 in
theorem hX7_product_43 {d : Nat} {X : sp_X} (hX : sp_OK shX X cX7_product RX7 5 (rmX7_product d)) {τ : sp_St} {r : Int32} (hR : sp_Ri shX X (some .boolean) τ r 0 0) {n : Nat} {ke : sp_St → Int32 → Option (sp_St × Int32)} (hke : ∀ (σ : sp_St) (a : Int32) (τ : sp_St) (r : Int32), ke σ a = some (τ, r) → sp_Ci shX (sx_l X) (sx_w X) yX7_either cX7_either 4 (some .boolean) (rmX7_either d) 0 0 σ [.ref ((sx_w X).2.1 21), .int a] τ r)  {k8 : sp_St → Int32 → Int32 → Int32 → Option (sp_St × Int32)} (hk8 : ∀ (σ : sp_St) (z1 : Int32) (z2 : Int32) (z3 : Int32), k8 σ z1 z2 z3 = some (τ, r) → sp_GG shX X σ 5 [some (.ref (sx_ad X 21)), some (.int z1), some (.int z2), some (.int z3), none] [] 8 0 0) {σ : sp_St} {z1 : Int32} {z3 : Int32} (hf : X7_product_43 n ke k8 σ z1 z3 = some (τ, r)) : sp_GG shX X σ 5 [some (.ref (sx_ad X 21)), some (.int z1), none, some (.int z3), none] [] 43 0 0 := by
  unfold X7_product_43 at hf
  refine sp_aload_n (i := 0) (q := 44) hX dX7_product_43 rfl rfl rfl ?_
  refine sp_gets (t := 20) (q := 47) hX flX7_9 fkX7_0 atX_21 srX_21_0 dX7_product_44 rfl ?_
  refine sp_geti (q := 50) hX flX7_34 fkX10_4 atX_20 dX7_product_47 rfl ?_
  refine sp_bipush (v := 42) (q := 52) hX dX7_product_50 lb_42 rfl ?_
  obtain ⟨v1, e2, hf⟩ := sp_pl_some hf
  have hj15 : sp_GG shX X σ 5 [some (.ref (sx_ad X 21)), some (.int z1), none, some (.int z3), none] [.int v1] 62 0 0 := by
    refine sp_istore (i := 4) (lv' := [some (.ref (sx_ad X 21)), some (.int z1), none, some (.int z3), some (.int v1)]) (q := 64) hX dX7_product_62 (Nat.le_of_ble_eq_true rfl) rfl rfl rfl ?_
    refine sp_aload_n (i := 0) (q := 65) hX dX7_product_64 rfl rfl rfl ?_
    refine sp_gets (t := 20) (q := 68) hX flX7_9 fkX7_0 atX_21 srX_21_0 dX7_product_65 rfl ?_
    obtain ⟨σ4, h3, hf⟩ := sp_bv_so hf
    refine sp_callVv (As := []) (rest := []) (q := 71) hX (cnX10_next (sp_st hX)  h3) cwX7_92 atX_20 rfl rfl rfl rfl rfl (by unfold rmX10_next rmX7_product; dsimp only; simp; try omega) (by unfold rmX10_next rmX7_product; dsimp only; simp; try omega) (Nat.le_of_ble_eq_true rfl) (Nat.le_of_ble_eq_true rfl) (Nat.le_of_ble_eq_true rfl) dX7_product_68 rfl ?_
    refine sp_aload_n (i := 0) (q := 72) hX dX7_product_71 rfl rfl rfl ?_
    refine sp_iload_n (i := 1) (q := 73) hX dX7_product_72 rfl rfl rfl ?_
    obtain ⟨σ6, v7, h5, hf⟩ := sp_bd_so hf
    refine sp_callVi (As := [.int z1]) (rest := []) (q := 76) hX (cnX7_part (sp_st hX) hke  h5) cwX7_192 atX_21 rfl rfl rfl rfl rfl (by unfold rmX7_part rmX7_product; dsimp only; simp; try omega) (by unfold rmX7_part rmX7_product; dsimp only; simp; try omega) (Nat.le_of_ble_eq_true rfl) (Nat.le_of_ble_eq_true rfl) (Nat.le_of_ble_eq_true rfl) dX7_product_73 rfl ?_
    refine sp_istore_n (i := 2) (lv' := [some (.ref (sx_ad X 21)), some (.int z1), some (.int v7), some (.int z3), some (.int v1)]) (q := 77) hX dX7_product_76 rfl (Nat.le_of_ble_eq_true rfl) rfl rfl rfl ?_
    refine sp_aload_n (i := 0) (q := 78) hX dX7_product_77 rfl rfl rfl ?_
    obtain ⟨c8, e10, hf⟩ := sp_pl_some hf
    obtain ⟨h9, hf⟩ := sp_ck_some hf
    refine sp_getr (q := 81) hX flX7_15 fkX7_1 atX_21 dX7_product_78 rfl ?_
    refine sp_nmr e10 ?_
    refine sp_iload (i := 4) (q := 83) hX dX7_product_81 rfl rfl ?_
    obtain ⟨σ12, h11, hf⟩ := sp_bv_so hf
    refine sp_callVv (As := [.int v1]) (rest := []) (q := 86) hX (cnX2_addCode (sp_st hX) (sp_isc_at h9) h11) cwX7_173 (sp_isc_at h9) rfl rfl rfl rfl rfl (by unfold rmX2_addCode rmX7_product; dsimp only; simp; try omega) (by unfold rmX2_addCode rmX7_product; dsimp only; simp; try omega) (Nat.le_of_ble_eq_true rfl) (Nat.le_of_ble_eq_true rfl) (Nat.le_of_ble_eq_true rfl) dX7_product_83 rfl ?_
    obtain ⟨x13, e14, hf⟩ := sp_pl_some hf
    refine sp_iinc (i := 3) (v := x13) (lv' := [some (.ref (sx_ad X 21)), some (.int z1), some (.int v7), some (.int x13), some (.int v1)]) (q := 89) hX dX7_product_86 rfl (by rw [e14, li_1]) (Nat.le_of_ble_eq_true rfl) rfl rfl rfl ?_
    refine sp_goto (tgt := 8) hX dX7_product_89 (by decide) ?_
    refine sp_drop (lv' := [some (.ref (sx_ad X 21)), some (.int z1), some (.int v7), some (.int x13), none]) (And.intro rfl (And.intro rfl (And.intro rfl (And.intro rfl trivial)))) ?_
    exact hk8 σ12 z1 v7 x13 hf
  refine sp_icmp_ne (tgt := 60) (q := 55) hX dX7_product_52 (by decide) rfl (fun hc => ?_) (fun hc => ?_)
  · refine sp_bipush (v := -10) (q := 62) hX dX7_product_60 lb_m10 rfl ?_
    exact sp_nmi (by rw [e2, if_neg hc]) hj15
  · refine sp_bipush (v := -9) (q := 57) hX dX7_product_55 lb_m9 rfl ?_
    refine sp_goto (tgt := 62) hX dX7_product_57 (by decide) ?_
    exact sp_nmi (by rw [e2, if_pos hc]) hj15
set_option maxRecDepth 100000 in
set_option maxHeartbeats 4000000 in
theorem hX7_product_8 {d : Nat} {X : sp_X} (hX : sp_OK shX X cX7_product RX7 5 (rmX7_product d)) {τ : sp_St} {r : Int32} (hR : sp_Ri shX X (some .boolean) τ r 0 0) {n : Nat} {ke : sp_St → Int32 → Option (sp_St × Int32)} (hke : ∀ (σ : sp_St) (a : Int32) (τ : sp_St) (r : Int32), ke σ a = some (τ, r) → sp_Ci shX (sx_l X) (sx_w X) yX7_either cX7_either 4 (some .boolean) (rmX7_either d) 0 0 σ [.ref ((sx_w X).2.1 21), .int a] τ r)   : ∀ (f : Nat) (σ : sp_St) (z1 : Int32) (z2 : Int32) (z3 : Int32), X7_product_8 n ke f σ z1 z2 z3 = some (τ, r) → sp_GG shX X σ 5 [some (.ref (sx_ad X 21)), some (.int z1), some (.int z2), some (.int z3), none] [] 8 0 0 := by
  intro f
  induction f with
  | zero =>
    intro σ z1 z2 z3 hf
    rw [X7_product_8] at hf
    cases hf
  | succ f ih =>
    intro σ z1 z2 z3 hf
    rw [X7_product_8] at hf
    refine sp_iload_n (i := 3) (q := 9) hX dX7_product_8 rfl rfl rfl ?_
    refine sp_sipush (v := 700) (q := 12) hX dX7_product_9 ls_700 rfl ?_
    refine sp_icmp_ge (tgt := 92) (q := 15) hX dX7_product_12 (by decide) rfl (fun hc => ?_) (fun hc => ?_)
    · rw [if_pos hc] at hf
      refine sp_drop (lv' := [none, none, some (.int z2), none, none]) (And.intro rfl trivial) ?_
      exact hX7_product_92 hX hR hke hf
    · rw [if_neg hc] at hf
      refine sp_iload_n (i := 2) (q := 16) hX dX7_product_15 rfl rfl rfl ?_
      refine sp_if_eq (tgt := 92) (q := 19) hX dX7_product_16 (by decide) rfl (fun hc => ?_) (fun hc => ?_)
      · rw [if_pos hc] at hf
        refine sp_drop (lv' := [none, none, some (.int z2), none, none]) (And.intro rfl trivial) ?_
        exact hX7_product_92 hX hR hke hf
      · rw [if_neg hc] at hf
        refine sp_aload_n (i := 0) (q := 20) hX dX7_product_19 rfl rfl rfl ?_
        refine sp_gets (t := 20) (q := 23) hX flX7_9 fkX7_0 atX_21 srX_21_0 dX7_product_20 rfl ?_
        refine sp_geti (q := 26) hX flX7_34 fkX10_4 atX_20 dX7_product_23 rfl ?_
        refine sp_bipush (v := 42) (q := 28) hX dX7_product_26 lb_42 rfl ?_
        refine sp_icmp_eq (tgt := 43) (q := 31) hX dX7_product_28 (by decide) rfl (fun hc => ?_) (fun hc => ?_)
        · rw [if_pos hc] at hf
          refine sp_drop (lv' := [some (.ref (sx_ad X 21)), some (.int z1), none, some (.int z3), none]) (And.intro rfl (And.intro rfl (And.intro rfl trivial))) ?_
          exact hX7_product_43 hX hR hke ih hf
        · rw [if_neg hc] at hf
          refine sp_aload_n (i := 0) (q := 32) hX dX7_product_31 rfl rfl rfl ?_
          refine sp_gets (t := 20) (q := 35) hX flX7_9 fkX7_0 atX_21 srX_21_0 dX7_product_32 rfl ?_
          refine sp_geti (q := 38) hX flX7_34 fkX10_4 atX_20 dX7_product_35 rfl ?_
          refine sp_bipush (v := 47) (q := 40) hX dX7_product_38 lb_47 rfl ?_
          refine sp_icmp_ne (tgt := 92) (q := 43) hX dX7_product_40 (by decide) rfl (fun hc => ?_) (fun hc => ?_)
          · rw [if_neg hc] at hf
            refine sp_drop (lv' := [none, none, some (.int z2), none, none]) (And.intro rfl trivial) ?_
            exact hX7_product_92 hX hR hke hf
          · rw [if_pos hc] at hf
            refine sp_drop (lv' := [some (.ref (sx_ad X 21)), some (.int z1), none, some (.int z3), none]) (And.intro rfl (And.intro rfl (And.intro rfl trivial))) ?_
            exact hX7_product_43 hX hR hke ih hf
set_option maxRecDepth 100000 in
set_option maxHeartbeats 4000000 in
theorem hX7_product {d : Nat} {X : sp_X} (hX : sp_OK shX X cX7_product RX7 5 (rmX7_product d)) {τ : sp_St} {r : Int32} (hR : sp_Ri shX X (some .boolean) τ r 0 0) {n : Nat} {ke : sp_St → Int32 → Option (sp_St × Int32)} (hke : ∀ (σ : sp_St) (a : Int32) (τ : sp_St) (r : Int32), ke σ a = some (τ, r) → sp_Ci shX (sx_l X) (sx_w X) yX7_either cX7_either 4 (some .boolean) (rmX7_either d) 0 0 σ [.ref ((sx_w X).2.1 21), .int a] τ r) {σ : sp_St} {a1 : Int32}  (hf : X7_product n ke σ a1 = some (τ, r)) : sp_GG shX X σ 5 [some (.ref (sx_ad X 21)), some (.int a1), none, none, none] [] 0 0 0 := by
  unfold X7_product at hf
  refine sp_aload_n (i := 0) (q := 1) hX dX7_product_0 rfl rfl rfl ?_
  refine sp_iload_n (i := 1) (q := 2) hX dX7_product_1 rfl rfl rfl ?_
  obtain ⟨σ2, v3, h1, hf⟩ := sp_bd_so hf
  refine sp_callVi (As := [.int a1]) (rest := []) (q := 5) hX (cnX7_part (sp_st hX) hke  h1) cwX7_192 atX_21 rfl rfl rfl rfl rfl (by unfold rmX7_part rmX7_product; dsimp only; simp; try omega) (by unfold rmX7_part rmX7_product; dsimp only; simp; try omega) (Nat.le_of_ble_eq_true rfl) (Nat.le_of_ble_eq_true rfl) (Nat.le_of_ble_eq_true rfl) dX7_product_2 rfl ?_
  refine sp_istore_n (i := 2) (lv' := [some (.ref (sx_ad X 21)), some (.int a1), some (.int v3), none, none]) (q := 6) hX dX7_product_5 rfl (Nat.le_of_ble_eq_true rfl) rfl rfl rfl ?_
  refine sp_iconst (v := 0) (q := 7) hX dX7_product_6 li_0 rfl ?_
  obtain ⟨x4, e5, hf⟩ := sp_pl_some hf
  refine sp_nmi e5 ?_
  refine sp_istore_n (i := 3) (lv' := [some (.ref (sx_ad X 21)), some (.int a1), some (.int v3), some (.int x4), none]) (q := 8) hX dX7_product_7 rfl (Nat.le_of_ble_eq_true rfl) rfl rfl rfl ?_
  exact hX7_product_8 hX hR hke n σ2 a1 v3 x4 hf
set_option maxRecDepth 100000 in
set_option maxHeartbeats 4000000 in
theorem cnX7_product {l : Launch} (hst : l.stackTraces = false) {w : sp_Wd} {n : Nat} {d : Nat} {ke : sp_St → Int32 → Option (sp_St × Int32)} (hke : ∀ (σ : sp_St) (a : Int32) (τ : sp_St) (r : Int32), ke σ a = some (τ, r) → sp_Ci shX l w yX7_either cX7_either 4 (some .boolean) (rmX7_either d) 0 0 σ [.ref (w.2.1 21), .int a] τ r) {σ : sp_St} {a1 : Int32} {τ : sp_St} {r : Int32}  (hf : X7_product n ke σ a1 = some (τ, r)) : sp_Ci shX l w yX7_product cX7_product 5 (some .boolean) (rmX7_product d) 0 0 σ [.ref (w.2.1 21), .int a1] τ r :=
  sp_ci (own := RX7) (by decide) rfl hst (Nat.le_of_ble_eq_true rfl) rfl (fun X hX hw hl hR => by subst hw; subst hl; exact hX7_product hX hR hke  hf)
def X7_sum_92 (n : Nat) (ke : sp_St → Int32 → Option (sp_St × Int32)) (σ : sp_St) (z2 : Int32) : Option (sp_St × Int32) :=
  sp_ck (sp_zb z2) <|
  some (σ, z2)
def X7_sum_43 (n : Nat) (ke : sp_St → Int32 → Option (sp_St × Int32)) (k8 : sp_St → Int32 → Int32 → Int32 → Option (sp_St × Int32)) (σ : sp_St) (z1 : Int32) (z3 : Int32) : Option (sp_St × Int32) :=
  sp_pl (if (σ.1 20 4) = ((43 : Int32)) then ((-7 : Int32)) else ((-8 : Int32))) fun v1 =>
  sp_bv (X10_next n σ) fun σ4 =>
  sp_bd (X7_product n ke σ4 z1) fun σ6 v7 =>
  sp_pl (σ6.2.1 21 1) fun c8 =>
  sp_ck (sp_isc c8) <|
  sp_bv (X2_addCode n σ6 c8 v1) fun σ12 =>
  sp_pl (z3 + 1) fun x13 =>
  k8 σ12 z1 v7 x13
def X7_sum_8 (n : Nat) (ke : sp_St → Int32 → Option (sp_St × Int32)) : Nat → sp_St → Int32 → Int32 → Int32 → Option (sp_St × Int32)
  | 0, _, _, _, _ => none
  | f + 1, σ, z1, z2, z3 =>
    if ((700 : Int32)) ≤ z3 then
      X7_sum_92 n ke σ z2
    else
      if z2 = 0 then
        X7_sum_92 n ke σ z2
      else
        if (σ.1 20 4) = ((43 : Int32)) then
          X7_sum_43 n ke (X7_sum_8 n ke f) σ z1 z3
        else
          if (σ.1 20 4) = ((45 : Int32)) then
            X7_sum_43 n ke (X7_sum_8 n ke f) σ z1 z3
          else
            X7_sum_92 n ke σ z2
def X7_sum (n : Nat) (ke : sp_St → Int32 → Option (sp_St × Int32)) (σ : sp_St) (a1 : Int32) : Option (sp_St × Int32) :=
  sp_bd (X7_product n ke σ a1) fun σ2 v3 =>
  sp_pl ((0 : Int32)) fun x4 =>
  X7_sum_8 n ke n σ2 a1 v3 x4
set_option maxRecDepth 100000 in
set_option maxHeartbeats 4000000 in
theorem hX7_sum_92 {d : Nat} {X : sp_X} (hX : sp_OK shX X cX7_sum RX7 5 (rmX7_sum d)) {τ : sp_St} {r : Int32} (hR : sp_Ri shX X (some .boolean) τ r 0 0) {n : Nat} {ke : sp_St → Int32 → Option (sp_St × Int32)} (hke : ∀ (σ : sp_St) (a : Int32) (τ : sp_St) (r : Int32), ke σ a = some (τ, r) → sp_Ci shX (sx_l X) (sx_w X) yX7_either cX7_either 4 (some .boolean) (rmX7_either d) 0 0 σ [.ref ((sx_w X).2.1 21), .int a] τ r)   {σ : sp_St} {z2 : Int32} (hf : X7_sum_92 n ke σ z2 = some (τ, r)) : sp_GG shX X σ 5 [none, none, some (.int z2), none, none] [] 92 0 0 := by
  unfold X7_sum_92 at hf
  refine sp_iload_n (i := 2) (q := 93) hX dX7_sum_92 rfl rfl rfl ?_
  obtain ⟨h1, hf⟩ := sp_ck_some hf
  exact sp_zret hX hR h1 dX7_sum_93 hf (Nat.le_of_ble_eq_true rfl) (Nat.le_of_ble_eq_true rfl)
set_option maxRecDepth 100000 in
set_option maxHeartbeats 4000000 in
theorem hX7_sum_43 {d : Nat} {X : sp_X} (hX : sp_OK shX X cX7_sum RX7 5 (rmX7_sum d)) {τ : sp_St} {r : Int32} (hR : sp_Ri shX X (some .boolean) τ r 0 0) {n : Nat} {ke : sp_St → Int32 → Option (sp_St × Int32)} (hke : ∀ (σ : sp_St) (a : Int32) (τ : sp_St) (r : Int32), ke σ a = some (τ, r) → sp_Ci shX (sx_l X) (sx_w X) yX7_either cX7_either 4 (some .boolean) (rmX7_either d) 0 0 σ [.ref ((sx_w X).2.1 21), .int a] τ r)  {k8 : sp_St → Int32 → Int32 → Int32 → Option (sp_St × Int32)} (hk8 : ∀ (σ : sp_St) (z1 : Int32) (z2 : Int32) (z3 : Int32), k8 σ z1 z2 z3 = some (τ, r) → sp_GG shX X σ 5 [some (.ref (sx_ad X 21)), some (.int z1), some (.int z2), some (.int z3), none] [] 8 0 0) {σ : sp_St} {z1 : Int32} {z3 : Int32} (hf : X7_sum_43 n ke k8 σ z1 z3 = some (τ, r)) : sp_GG shX X σ 5 [some (.ref (sx_ad X 21)), some (.int z1), none, some (.int z3), none] [] 43 0 0 := by
  unfold X7_sum_43 at hf
  refine sp_aload_n (i := 0) (q := 44) hX dX7_sum_43 rfl rfl rfl ?_
  refine sp_gets (t := 20) (q := 47) hX flX7_9 fkX7_0 atX_21 srX_21_0 dX7_sum_44 rfl ?_
  refine sp_geti (q := 50) hX flX7_34 fkX10_4 atX_20 dX7_sum_47 rfl ?_
  refine sp_bipush (v := 43) (q := 52) hX dX7_sum_50 lb_43 rfl ?_
  obtain ⟨v1, e2, hf⟩ := sp_pl_some hf
  have hj15 : sp_GG shX X σ 5 [some (.ref (sx_ad X 21)), some (.int z1), none, some (.int z3), none] [.int v1] 62 0 0 := by
    refine sp_istore (i := 4) (lv' := [some (.ref (sx_ad X 21)), some (.int z1), none, some (.int z3), some (.int v1)]) (q := 64) hX dX7_sum_62 (Nat.le_of_ble_eq_true rfl) rfl rfl rfl ?_
    refine sp_aload_n (i := 0) (q := 65) hX dX7_sum_64 rfl rfl rfl ?_
    refine sp_gets (t := 20) (q := 68) hX flX7_9 fkX7_0 atX_21 srX_21_0 dX7_sum_65 rfl ?_
    obtain ⟨σ4, h3, hf⟩ := sp_bv_so hf
    refine sp_callVv (As := []) (rest := []) (q := 71) hX (cnX10_next (sp_st hX)  h3) cwX7_92 atX_20 rfl rfl rfl rfl rfl (by unfold rmX10_next rmX7_sum; dsimp only; simp; try omega) (by unfold rmX10_next rmX7_sum; dsimp only; simp; try omega) (Nat.le_of_ble_eq_true rfl) (Nat.le_of_ble_eq_true rfl) (Nat.le_of_ble_eq_true rfl) dX7_sum_68 rfl ?_
    refine sp_aload_n (i := 0) (q := 72) hX dX7_sum_71 rfl rfl rfl ?_
    refine sp_iload_n (i := 1) (q := 73) hX dX7_sum_72 rfl rfl rfl ?_
    obtain ⟨σ6, v7, h5, hf⟩ := sp_bd_so hf
    refine sp_callVi (As := [.int z1]) (rest := []) (q := 76) hX (cnX7_product (sp_st hX) hke  h5) cwX7_189 atX_21 rfl rfl rfl rfl rfl (by unfold rmX7_product rmX7_sum; dsimp only; simp; try omega) (by unfold rmX7_product rmX7_sum; dsimp only; simp; try omega) (Nat.le_of_ble_eq_true rfl) (Nat.le_of_ble_eq_true rfl) (Nat.le_of_ble_eq_true rfl) dX7_sum_73 rfl ?_
    refine sp_istore_n (i := 2) (lv' := [some (.ref (sx_ad X 21)), some (.int z1), some (.int v7), some (.int z3), some (.int v1)]) (q := 77) hX dX7_sum_76 rfl (Nat.le_of_ble_eq_true rfl) rfl rfl rfl ?_
    refine sp_aload_n (i := 0) (q := 78) hX dX7_sum_77 rfl rfl rfl ?_
    obtain ⟨c8, e10, hf⟩ := sp_pl_some hf
    obtain ⟨h9, hf⟩ := sp_ck_some hf
    refine sp_getr (q := 81) hX flX7_15 fkX7_1 atX_21 dX7_sum_78 rfl ?_
    refine sp_nmr e10 ?_
    refine sp_iload (i := 4) (q := 83) hX dX7_sum_81 rfl rfl ?_
    obtain ⟨σ12, h11, hf⟩ := sp_bv_so hf
    refine sp_callVv (As := [.int v1]) (rest := []) (q := 86) hX (cnX2_addCode (sp_st hX) (sp_isc_at h9) h11) cwX7_173 (sp_isc_at h9) rfl rfl rfl rfl rfl (by unfold rmX2_addCode rmX7_sum; dsimp only; simp; try omega) (by unfold rmX2_addCode rmX7_sum; dsimp only; simp; try omega) (Nat.le_of_ble_eq_true rfl) (Nat.le_of_ble_eq_true rfl) (Nat.le_of_ble_eq_true rfl) dX7_sum_83 rfl ?_
    obtain ⟨x13, e14, hf⟩ := sp_pl_some hf
    refine sp_iinc (i := 3) (v := x13) (lv' := [some (.ref (sx_ad X 21)), some (.int z1), some (.int v7), some (.int x13), some (.int v1)]) (q := 89) hX dX7_sum_86 rfl (by rw [e14, li_1]) (Nat.le_of_ble_eq_true rfl) rfl rfl rfl ?_
    refine sp_goto (tgt := 8) hX dX7_sum_89 (by decide) ?_
    refine sp_drop (lv' := [some (.ref (sx_ad X 21)), some (.int z1), some (.int v7), some (.int x13), none]) (And.intro rfl (And.intro rfl (And.intro rfl (And.intro rfl trivial)))) ?_
    exact hk8 σ12 z1 v7 x13 hf
  refine sp_icmp_ne (tgt := 60) (q := 55) hX dX7_sum_52 (by decide) rfl (fun hc => ?_) (fun hc => ?_)
  · refine sp_bipush (v := -8) (q := 62) hX dX7_sum_60 lb_m8 rfl ?_
    exact sp_nmi (by rw [e2, if_neg hc]) hj15
  · refine sp_bipush (v := -7) (q := 57) hX dX7_sum_55 lb_m7 rfl ?_
    refine sp_goto (tgt := 62) hX dX7_sum_57 (by decide) ?_
    exact sp_nmi (by rw [e2, if_pos hc]) hj15
set_option maxRecDepth 100000 in
set_option maxHeartbeats 4000000 in
theorem hX7_sum_8 {d : Nat} {X : sp_X} (hX : sp_OK shX X cX7_sum RX7 5 (rmX7_sum d)) {τ : sp_St} {r : Int32} (hR : sp_Ri shX X (some .boolean) τ r 0 0) {n : Nat} {ke : sp_St → Int32 → Option (sp_St × Int32)} (hke : ∀ (σ : sp_St) (a : Int32) (τ : sp_St) (r : Int32), ke σ a = some (τ, r) → sp_Ci shX (sx_l X) (sx_w X) yX7_either cX7_either 4 (some .boolean) (rmX7_either d) 0 0 σ [.ref ((sx_w X).2.1 21), .int a] τ r)   : ∀ (f : Nat) (σ : sp_St) (z1 : Int32) (z2 : Int32) (z3 : Int32), X7_sum_8 n ke f σ z1 z2 z3 = some (τ, r) → sp_GG shX X σ 5 [some (.ref (sx_ad X 21)), some (.int z1), some (.int z2), some (.int z3), none] [] 8 0 0 := by
  intro f
  induction f with
  | zero =>
    intro σ z1 z2 z3 hf
    rw [X7_sum_8] at hf
    cases hf
  | succ f ih =>
    intro σ z1 z2 z3 hf
    rw [X7_sum_8] at hf
    refine sp_iload_n (i := 3) (q := 9) hX dX7_sum_8 rfl rfl rfl ?_
    refine sp_sipush (v := 700) (q := 12) hX dX7_sum_9 ls_700 rfl ?_
    refine sp_icmp_ge (tgt := 92) (q := 15) hX dX7_sum_12 (by decide) rfl (fun hc => ?_) (fun hc => ?_)
    · rw [if_pos hc] at hf
      refine sp_drop (lv' := [none, none, some (.int z2), none, none]) (And.intro rfl trivial) ?_
      exact hX7_sum_92 hX hR hke hf
    · rw [if_neg hc] at hf
      refine sp_iload_n (i := 2) (q := 16) hX dX7_sum_15 rfl rfl rfl ?_
      refine sp_if_eq (tgt := 92) (q := 19) hX dX7_sum_16 (by decide) rfl (fun hc => ?_) (fun hc => ?_)
      · rw [if_pos hc] at hf
        refine sp_drop (lv' := [none, none, some (.int z2), none, none]) (And.intro rfl trivial) ?_
        exact hX7_sum_92 hX hR hke hf
      · rw [if_neg hc] at hf
        refine sp_aload_n (i := 0) (q := 20) hX dX7_sum_19 rfl rfl rfl ?_
        refine sp_gets (t := 20) (q := 23) hX flX7_9 fkX7_0 atX_21 srX_21_0 dX7_sum_20 rfl ?_
        refine sp_geti (q := 26) hX flX7_34 fkX10_4 atX_20 dX7_sum_23 rfl ?_
        refine sp_bipush (v := 43) (q := 28) hX dX7_sum_26 lb_43 rfl ?_
        refine sp_icmp_eq (tgt := 43) (q := 31) hX dX7_sum_28 (by decide) rfl (fun hc => ?_) (fun hc => ?_)
        · rw [if_pos hc] at hf
          refine sp_drop (lv' := [some (.ref (sx_ad X 21)), some (.int z1), none, some (.int z3), none]) (And.intro rfl (And.intro rfl (And.intro rfl trivial))) ?_
          exact hX7_sum_43 hX hR hke ih hf
        · rw [if_neg hc] at hf
          refine sp_aload_n (i := 0) (q := 32) hX dX7_sum_31 rfl rfl rfl ?_
          refine sp_gets (t := 20) (q := 35) hX flX7_9 fkX7_0 atX_21 srX_21_0 dX7_sum_32 rfl ?_
          refine sp_geti (q := 38) hX flX7_34 fkX10_4 atX_20 dX7_sum_35 rfl ?_
          refine sp_bipush (v := 45) (q := 40) hX dX7_sum_38 lb_45 rfl ?_
          refine sp_icmp_ne (tgt := 92) (q := 43) hX dX7_sum_40 (by decide) rfl (fun hc => ?_) (fun hc => ?_)
          · rw [if_neg hc] at hf
            refine sp_drop (lv' := [none, none, some (.int z2), none, none]) (And.intro rfl trivial) ?_
            exact hX7_sum_92 hX hR hke hf
          · rw [if_pos hc] at hf
            refine sp_drop (lv' := [some (.ref (sx_ad X 21)), some (.int z1), none, some (.int z3), none]) (And.intro rfl (And.intro rfl (And.intro rfl trivial))) ?_
            exact hX7_sum_43 hX hR hke ih hf
set_option maxRecDepth 100000 in
set_option maxHeartbeats 4000000 in
theorem hX7_sum {d : Nat} {X : sp_X} (hX : sp_OK shX X cX7_sum RX7 5 (rmX7_sum d)) {τ : sp_St} {r : Int32} (hR : sp_Ri shX X (some .boolean) τ r 0 0) {n : Nat} {ke : sp_St → Int32 → Option (sp_St × Int32)} (hke : ∀ (σ : sp_St) (a : Int32) (τ : sp_St) (r : Int32), ke σ a = some (τ, r) → sp_Ci shX (sx_l X) (sx_w X) yX7_either cX7_either 4 (some .boolean) (rmX7_either d) 0 0 σ [.ref ((sx_w X).2.1 21), .int a] τ r) {σ : sp_St} {a1 : Int32}  (hf : X7_sum n ke σ a1 = some (τ, r)) : sp_GG shX X σ 5 [some (.ref (sx_ad X 21)), some (.int a1), none, none, none] [] 0 0 0 := by
  unfold X7_sum at hf
  refine sp_aload_n (i := 0) (q := 1) hX dX7_sum_0 rfl rfl rfl ?_
  refine sp_iload_n (i := 1) (q := 2) hX dX7_sum_1 rfl rfl rfl ?_
  obtain ⟨σ2, v3, h1, hf⟩ := sp_bd_so hf
  refine sp_callVi (As := [.int a1]) (rest := []) (q := 5) hX (cnX7_product (sp_st hX) hke  h1) cwX7_189 atX_21 rfl rfl rfl rfl rfl (by unfold rmX7_product rmX7_sum; dsimp only; simp; try omega) (by unfold rmX7_product rmX7_sum; dsimp only; simp; try omega) (Nat.le_of_ble_eq_true rfl) (Nat.le_of_ble_eq_true rfl) (Nat.le_of_ble_eq_true rfl) dX7_sum_2 rfl ?_
  refine sp_istore_n (i := 2) (lv' := [some (.ref (sx_ad X 21)), some (.int a1), some (.int v3), none, none]) (q := 6) hX dX7_sum_5 rfl (Nat.le_of_ble_eq_true rfl) rfl rfl rfl ?_
  refine sp_iconst (v := 0) (q := 7) hX dX7_sum_6 li_0 rfl ?_
  obtain ⟨x4, e5, hf⟩ := sp_pl_some hf
  refine sp_nmi e5 ?_
  refine sp_istore_n (i := 3) (lv' := [some (.ref (sx_ad X 21)), some (.int a1), some (.int v3), some (.int x4), none]) (q := 8) hX dX7_sum_7 rfl (Nat.le_of_ble_eq_true rfl) rfl rfl rfl ?_
  exact hX7_sum_8 hX hR hke n σ2 a1 v3 x4 hf
set_option maxRecDepth 100000 in
set_option maxHeartbeats 4000000 in
theorem cnX7_sum {l : Launch} (hst : l.stackTraces = false) {w : sp_Wd} {n : Nat} {d : Nat} {ke : sp_St → Int32 → Option (sp_St × Int32)} (hke : ∀ (σ : sp_St) (a : Int32) (τ : sp_St) (r : Int32), ke σ a = some (τ, r) → sp_Ci shX l w yX7_either cX7_either 4 (some .boolean) (rmX7_either d) 0 0 σ [.ref (w.2.1 21), .int a] τ r) {σ : sp_St} {a1 : Int32} {τ : sp_St} {r : Int32}  (hf : X7_sum n ke σ a1 = some (τ, r)) : sp_Ci shX l w yX7_sum cX7_sum 5 (some .boolean) (rmX7_sum d) 0 0 σ [.ref (w.2.1 21), .int a1] τ r :=
  sp_ci (own := RX7) (by decide) rfl hst (Nat.le_of_ble_eq_true rfl) rfl (fun X hX hw hl hR => by subst hw; subst hl; exact hX7_sum hX hR hke  hf)
def X7_test_32 (n : Nat) (ke : sp_St → Int32 → Option (sp_St × Int32)) (σ : sp_St) (z1 : Int32) (z2 : Int32) : Option (sp_St × Int32) :=
  sp_bv (X10_next n σ) fun σ2 =>
  sp_bd (X7_sum n ke σ2 z1) fun σ4 v5 =>
  sp_pl (σ4.2.1 21 1) fun c6 =>
  sp_ck (sp_isc c6) <|
  sp_pl (if z2 = ((60 : Int32)) then ((-11 : Int32)) else ((-12 : Int32))) fun v9 =>
  sp_bv (X2_addCode n σ4 c6 v9) fun σ12 =>
  sp_ck (sp_zb v5) <|
  some (σ12, v5)
def X7_test (n : Nat) (ke : sp_St → Int32 → Option (sp_St × Int32)) (σ : sp_St) (a1 : Int32) : Option (sp_St × Int32) :=
  sp_bd (X7_sum n ke σ a1) fun σ2 v3 =>
  if v3 = 0 then
    some (σ2, (0 : Int32))
  else
    sp_pl (σ2.1 20 4) fun x4 =>
    if x4 = ((60 : Int32)) then
      X7_test_32 n ke σ2 a1 x4
    else
      if x4 = ((61 : Int32)) then
        X7_test_32 n ke σ2 a1 x4
      else
        some (σ2, (1 : Int32))
set_option maxRecDepth 100000 in
set_option maxHeartbeats 4000000 in
theorem hX7_test_32 {d : Nat} {X : sp_X} (hX : sp_OK shX X cX7_test RX7 4 (rmX7_test d)) {τ : sp_St} {r : Int32} (hR : sp_Ri shX X (some .boolean) τ r 0 0) {n : Nat} {ke : sp_St → Int32 → Option (sp_St × Int32)} (hke : ∀ (σ : sp_St) (a : Int32) (τ : sp_St) (r : Int32), ke σ a = some (τ, r) → sp_Ci shX (sx_l X) (sx_w X) yX7_either cX7_either 4 (some .boolean) (rmX7_either d) 0 0 σ [.ref ((sx_w X).2.1 21), .int a] τ r)   {σ : sp_St} {z1 : Int32} {z2 : Int32} (hf : X7_test_32 n ke σ z1 z2 = some (τ, r)) : sp_GG shX X σ 4 [some (.ref (sx_ad X 21)), some (.int z1), some (.int z2), none] [] 32 0 0 := by
  unfold X7_test_32 at hf
  refine sp_aload_n (i := 0) (q := 33) hX dX7_test_32 rfl rfl rfl ?_
  refine sp_gets (t := 20) (q := 36) hX flX7_9 fkX7_0 atX_21 srX_21_0 dX7_test_33 rfl ?_
  obtain ⟨σ2, h1, hf⟩ := sp_bv_so hf
  refine sp_callVv (As := []) (rest := []) (q := 39) hX (cnX10_next (sp_st hX)  h1) cwX7_92 atX_20 rfl rfl rfl rfl rfl (by unfold rmX10_next rmX7_test; dsimp only; simp; try omega) (by unfold rmX10_next rmX7_test; dsimp only; simp; try omega) (Nat.le_of_ble_eq_true rfl) (Nat.le_of_ble_eq_true rfl) (Nat.le_of_ble_eq_true rfl) dX7_test_36 rfl ?_
  refine sp_aload_n (i := 0) (q := 40) hX dX7_test_39 rfl rfl rfl ?_
  refine sp_iload_n (i := 1) (q := 41) hX dX7_test_40 rfl rfl rfl ?_
  obtain ⟨σ4, v5, h3, hf⟩ := sp_bd_so hf
  refine sp_callVi (As := [.int z1]) (rest := []) (q := 44) hX (cnX7_sum (sp_st hX) hke  h3) cwX7_186 atX_21 rfl rfl rfl rfl rfl (by unfold rmX7_sum rmX7_test; dsimp only; simp; try omega) (by unfold rmX7_sum rmX7_test; dsimp only; simp; try omega) (Nat.le_of_ble_eq_true rfl) (Nat.le_of_ble_eq_true rfl) (Nat.le_of_ble_eq_true rfl) dX7_test_41 rfl ?_
  refine sp_istore_n (i := 3) (lv' := [some (.ref (sx_ad X 21)), some (.int z1), some (.int z2), some (.int v5)]) (q := 45) hX dX7_test_44 rfl (Nat.le_of_ble_eq_true rfl) rfl rfl rfl ?_
  refine sp_aload_n (i := 0) (q := 46) hX dX7_test_45 rfl rfl rfl ?_
  obtain ⟨c6, e8, hf⟩ := sp_pl_some hf
  obtain ⟨h7, hf⟩ := sp_ck_some hf
  refine sp_getr (q := 49) hX flX7_15 fkX7_1 atX_21 dX7_test_46 rfl ?_
  refine sp_nmr e8 ?_
  refine sp_iload_n (i := 2) (q := 50) hX dX7_test_49 rfl rfl rfl ?_
  refine sp_bipush (v := 60) (q := 52) hX dX7_test_50 lb_60 rfl ?_
  obtain ⟨v9, e10, hf⟩ := sp_pl_some hf
  have hj14 : sp_GG shX X σ4 4 [some (.ref (sx_ad X 21)), some (.int z1), some (.int z2), some (.int v5)] [.int v9, .ref (sx_ad X c6)] 62 0 0 := by
    obtain ⟨σ12, h11, hf⟩ := sp_bv_so hf
    refine sp_callVv (As := [.int v9]) (rest := []) (q := 65) hX (cnX2_addCode (sp_st hX) (sp_isc_at h7) h11) cwX7_173 (sp_isc_at h7) rfl rfl rfl rfl rfl (by unfold rmX2_addCode rmX7_test; dsimp only; simp; try omega) (by unfold rmX2_addCode rmX7_test; dsimp only; simp; try omega) (Nat.le_of_ble_eq_true rfl) (Nat.le_of_ble_eq_true rfl) (Nat.le_of_ble_eq_true rfl) dX7_test_62 rfl ?_
    refine sp_iload_n (i := 3) (q := 66) hX dX7_test_65 rfl rfl rfl ?_
    obtain ⟨h13, hf⟩ := sp_ck_some hf
    exact sp_zret hX hR h13 dX7_test_66 hf (Nat.le_of_ble_eq_true rfl) (Nat.le_of_ble_eq_true rfl)
  refine sp_icmp_ne (tgt := 60) (q := 55) hX dX7_test_52 (by decide) rfl (fun hc => ?_) (fun hc => ?_)
  · refine sp_bipush (v := -12) (q := 62) hX dX7_test_60 lb_m12 rfl ?_
    exact sp_nmi (by rw [e10, if_neg hc]) hj14
  · refine sp_bipush (v := -11) (q := 57) hX dX7_test_55 lb_m11 rfl ?_
    refine sp_goto (tgt := 62) hX dX7_test_57 (by decide) ?_
    exact sp_nmi (by rw [e10, if_pos hc]) hj14
set_option maxRecDepth 100000 in
set_option maxHeartbeats 4000000 in
theorem hX7_test {d : Nat} {X : sp_X} (hX : sp_OK shX X cX7_test RX7 4 (rmX7_test d)) {τ : sp_St} {r : Int32} (hR : sp_Ri shX X (some .boolean) τ r 0 0) {n : Nat} {ke : sp_St → Int32 → Option (sp_St × Int32)} (hke : ∀ (σ : sp_St) (a : Int32) (τ : sp_St) (r : Int32), ke σ a = some (τ, r) → sp_Ci shX (sx_l X) (sx_w X) yX7_either cX7_either 4 (some .boolean) (rmX7_either d) 0 0 σ [.ref ((sx_w X).2.1 21), .int a] τ r) {σ : sp_St} {a1 : Int32}  (hf : X7_test n ke σ a1 = some (τ, r)) : sp_GG shX X σ 4 [some (.ref (sx_ad X 21)), some (.int a1), none, none] [] 0 0 0 := by
  unfold X7_test at hf
  refine sp_aload_n (i := 0) (q := 1) hX dX7_test_0 rfl rfl rfl ?_
  refine sp_iload_n (i := 1) (q := 2) hX dX7_test_1 rfl rfl rfl ?_
  obtain ⟨σ2, v3, h1, hf⟩ := sp_bd_so hf
  refine sp_callVi (As := [.int a1]) (rest := []) (q := 5) hX (cnX7_sum (sp_st hX) hke  h1) cwX7_186 atX_21 rfl rfl rfl rfl rfl (by unfold rmX7_sum rmX7_test; dsimp only; simp; try omega) (by unfold rmX7_sum rmX7_test; dsimp only; simp; try omega) (Nat.le_of_ble_eq_true rfl) (Nat.le_of_ble_eq_true rfl) (Nat.le_of_ble_eq_true rfl) dX7_test_2 rfl ?_
  refine sp_if_ne (tgt := 10) (q := 8) hX dX7_test_5 (by decide) rfl (fun hc => ?_) (fun hc => ?_)
  · rw [if_neg hc] at hf
    refine sp_aload_n (i := 0) (q := 11) hX dX7_test_10 rfl rfl rfl ?_
    refine sp_gets (t := 20) (q := 14) hX flX7_9 fkX7_0 atX_21 srX_21_0 dX7_test_11 rfl ?_
    refine sp_geti (q := 17) hX flX7_34 fkX10_4 atX_20 dX7_test_14 rfl ?_
    obtain ⟨x4, e5, hf⟩ := sp_pl_some hf
    refine sp_nmi e5 ?_
    refine sp_istore_n (i := 2) (lv' := [some (.ref (sx_ad X 21)), some (.int a1), some (.int x4), none]) (q := 18) hX dX7_test_17 rfl (Nat.le_of_ble_eq_true rfl) rfl rfl rfl ?_
    refine sp_iload_n (i := 2) (q := 19) hX dX7_test_18 rfl rfl rfl ?_
    refine sp_bipush (v := 60) (q := 21) hX dX7_test_19 lb_60 rfl ?_
    refine sp_icmp_eq (tgt := 32) (q := 24) hX dX7_test_21 (by decide) rfl (fun hc => ?_) (fun hc => ?_)
    · rw [if_pos hc] at hf
      exact hX7_test_32 hX hR hke hf
    · rw [if_neg hc] at hf
      refine sp_iload_n (i := 2) (q := 25) hX dX7_test_24 rfl rfl rfl ?_
      refine sp_bipush (v := 61) (q := 27) hX dX7_test_25 lb_61 rfl ?_
      refine sp_icmp_eq (tgt := 32) (q := 30) hX dX7_test_27 (by decide) rfl (fun hc => ?_) (fun hc => ?_)
      · rw [if_pos hc] at hf
        exact hX7_test_32 hX hR hke hf
      · rw [if_neg hc] at hf
        refine sp_iconst (v := 1) (q := 31) hX dX7_test_30 li_1 rfl ?_
        exact sp_zret hX hR (by decide) dX7_test_31 hf (Nat.le_of_ble_eq_true rfl) (Nat.le_of_ble_eq_true rfl)
  · rw [if_pos hc] at hf
    refine sp_iconst (v := 0) (q := 9) hX dX7_test_8 li_0 rfl ?_
    exact sp_zret hX hR (by decide) dX7_test_9 hf (Nat.le_of_ble_eq_true rfl) (Nat.le_of_ble_eq_true rfl)
set_option maxRecDepth 100000 in
set_option maxHeartbeats 4000000 in
theorem cnX7_test {l : Launch} (hst : l.stackTraces = false) {w : sp_Wd} {n : Nat} {d : Nat} {ke : sp_St → Int32 → Option (sp_St × Int32)} (hke : ∀ (σ : sp_St) (a : Int32) (τ : sp_St) (r : Int32), ke σ a = some (τ, r) → sp_Ci shX l w yX7_either cX7_either 4 (some .boolean) (rmX7_either d) 0 0 σ [.ref (w.2.1 21), .int a] τ r) {σ : sp_St} {a1 : Int32} {τ : sp_St} {r : Int32}  (hf : X7_test n ke σ a1 = some (τ, r)) : sp_Ci shX l w yX7_test cX7_test 4 (some .boolean) (rmX7_test d) 0 0 σ [.ref (w.2.1 21), .int a1] τ r :=
  sp_ci (own := RX7) (by decide) rfl hst (Nat.le_of_ble_eq_true rfl) rfl (fun X hX hw hl hR => by subst hw; subst hl; exact hX7_test hX hR hke  hf)
def X7_perhapsNot_92 (n : Nat) (ke : sp_St → Int32 → Option (sp_St × Int32)) (σ : sp_St) (z3 : Int32) : Option (sp_St × Int32) :=
  sp_ck (sp_zb z3) <|
  some (σ, z3)
def X7_perhapsNot_71 (n : Nat) (ke : sp_St → Int32 → Option (sp_St × Int32)) : Nat → sp_St → Int32 → Int32 → Int32 → Option (sp_St × Int32)
  | 0, _, _, _, _ => none
  | f + 1, σ, z2, z3, z4 =>
    if z2 ≤ z4 then
      X7_perhapsNot_92 n ke σ z3
    else
      sp_pl (σ.2.1 21 1) fun c1 =>
      sp_ck (sp_isc c1) <|
      sp_bv (X2_addCode n σ c1 ((-13 : Int32))) fun σ5 =>
      sp_pl (z4 + 1) fun x6 =>
      X7_perhapsNot_71 n ke f σ5 z2 z3 x6
def X7_perhapsNot_62 (n : Nat) (ke : sp_St → Int32 → Option (sp_St × Int32)) (σ : sp_St) (z1 : Int32) (z2 : Int32) : Option (sp_St × Int32) :=
  sp_bd (X7_test n ke σ z1) fun σ2 v3 =>
  sp_pl ((0 : Int32)) fun x4 =>
  X7_perhapsNot_71 n ke n σ2 z2 v3 x4
def X7_perhapsNot_38 (n : Nat) (ke : sp_St → Int32 → Option (sp_St × Int32)) (σ : sp_St) (z1 : Int32) (z2 : Int32) : Option (sp_St × Int32) :=
  if z2 = ((6 : Int32)) then
    sp_bd (X10_isWord n σ 6) fun σ2 v3 =>
    if v3 = 0 then
      X7_perhapsNot_62 n ke σ2 z1 z2
    else
      sp_bd (X7_fail n σ2 ((2 : Int32))) fun σ5 v6 =>
      sp_ck (sp_zb v6) <|
      some (σ5, v6)
  else
    X7_perhapsNot_62 n ke σ z1 z2
def X7_perhapsNot_4 (n : Nat) (ke : sp_St → Int32 → Option (sp_St × Int32)) : Nat → sp_St → Int32 → Int32 → Int32 → Option (sp_St × Int32)
  | 0, _, _, _, _ => none
  | f + 1, σ, z1, z2, z3 =>
    if ((6 : Int32)) ≤ z3 then
      X7_perhapsNot_38 n ke σ z1 z2
    else
      sp_bd (X10_isWord n σ 6) fun σ2 v3 =>
      if v3 = 0 then
        X7_perhapsNot_38 n ke σ2 z1 z2
      else
        sp_bv (X10_next n σ2) fun σ5 =>
        sp_pl (z2 + 1) fun x6 =>
        sp_pl (z3 + 1) fun x8 =>
        X7_perhapsNot_4 n ke f σ5 z1 x6 x8
def X7_perhapsNot (n : Nat) (ke : sp_St → Int32 → Option (sp_St × Int32)) (σ : sp_St) (a1 : Int32) : Option (sp_St × Int32) :=
  sp_pl ((0 : Int32)) fun x1 =>
  sp_pl ((0 : Int32)) fun x3 =>
  X7_perhapsNot_4 n ke n σ a1 x1 x3
set_option maxRecDepth 100000 in
set_option maxHeartbeats 4000000 in
theorem hX7_perhapsNot_92 {d : Nat} {X : sp_X} (hX : sp_OK shX X cX7_perhapsNot RX7 5 (rmX7_perhapsNot d)) {τ : sp_St} {r : Int32} (hR : sp_Ri shX X (some .boolean) τ r 0 0) {n : Nat} {ke : sp_St → Int32 → Option (sp_St × Int32)} (hke : ∀ (σ : sp_St) (a : Int32) (τ : sp_St) (r : Int32), ke σ a = some (τ, r) → sp_Ci shX (sx_l X) (sx_w X) yX7_either cX7_either 4 (some .boolean) (rmX7_either d) 0 0 σ [.ref ((sx_w X).2.1 21), .int a] τ r)   {σ : sp_St} {z3 : Int32} (hf : X7_perhapsNot_92 n ke σ z3 = some (τ, r)) : sp_GG shX X σ 5 [none, none, none, some (.int z3), none] [] 92 0 0 := by
  unfold X7_perhapsNot_92 at hf
  refine sp_iload_n (i := 3) (q := 93) hX dX7_perhapsNot_92 rfl rfl rfl ?_
  obtain ⟨h1, hf⟩ := sp_ck_some hf
  exact sp_zret hX hR h1 dX7_perhapsNot_93 hf (Nat.le_of_ble_eq_true rfl) (Nat.le_of_ble_eq_true rfl)
set_option maxRecDepth 100000 in
set_option maxHeartbeats 4000000 in
theorem hX7_perhapsNot_71 {d : Nat} {X : sp_X} (hX : sp_OK shX X cX7_perhapsNot RX7 5 (rmX7_perhapsNot d)) {τ : sp_St} {r : Int32} (hR : sp_Ri shX X (some .boolean) τ r 0 0) {n : Nat} {ke : sp_St → Int32 → Option (sp_St × Int32)} (hke : ∀ (σ : sp_St) (a : Int32) (τ : sp_St) (r : Int32), ke σ a = some (τ, r) → sp_Ci shX (sx_l X) (sx_w X) yX7_either cX7_either 4 (some .boolean) (rmX7_either d) 0 0 σ [.ref ((sx_w X).2.1 21), .int a] τ r)   : ∀ (f : Nat) (σ : sp_St) (z2 : Int32) (z3 : Int32) (z4 : Int32), X7_perhapsNot_71 n ke f σ z2 z3 z4 = some (τ, r) → sp_GG shX X σ 5 [some (.ref (sx_ad X 21)), none, some (.int z2), some (.int z3), some (.int z4)] [] 71 0 0 := by
  intro f
  induction f with
  | zero =>
    intro σ z2 z3 z4 hf
    rw [X7_perhapsNot_71] at hf
    cases hf
  | succ f ih =>
    intro σ z2 z3 z4 hf
    rw [X7_perhapsNot_71] at hf
    refine sp_iload (i := 4) (q := 73) hX dX7_perhapsNot_71 rfl rfl ?_
    refine sp_iload_n (i := 2) (q := 74) hX dX7_perhapsNot_73 rfl rfl rfl ?_
    refine sp_icmp_ge (tgt := 92) (q := 77) hX dX7_perhapsNot_74 (by decide) rfl (fun hc => ?_) (fun hc => ?_)
    · rw [if_pos hc] at hf
      refine sp_drop (lv' := [none, none, none, some (.int z3), none]) (And.intro rfl trivial) ?_
      exact hX7_perhapsNot_92 hX hR hke hf
    · rw [if_neg hc] at hf
      refine sp_aload_n (i := 0) (q := 78) hX dX7_perhapsNot_77 rfl rfl rfl ?_
      obtain ⟨c1, e3, hf⟩ := sp_pl_some hf
      obtain ⟨h2, hf⟩ := sp_ck_some hf
      refine sp_getr (q := 81) hX flX7_15 fkX7_1 atX_21 dX7_perhapsNot_78 rfl ?_
      refine sp_nmr e3 ?_
      refine sp_bipush (v := -13) (q := 83) hX dX7_perhapsNot_81 lb_m13 rfl ?_
      obtain ⟨σ5, h4, hf⟩ := sp_bv_so hf
      refine sp_callVv (As := [.int ((-13 : Int32))]) (rest := []) (q := 86) hX (cnX2_addCode (sp_st hX) (sp_isc_at h2) h4) cwX7_173 (sp_isc_at h2) rfl rfl rfl rfl rfl (by unfold rmX2_addCode rmX7_perhapsNot; dsimp only; simp; try omega) (by unfold rmX2_addCode rmX7_perhapsNot; dsimp only; simp; try omega) (Nat.le_of_ble_eq_true rfl) (Nat.le_of_ble_eq_true rfl) (Nat.le_of_ble_eq_true rfl) dX7_perhapsNot_83 rfl ?_
      obtain ⟨x6, e7, hf⟩ := sp_pl_some hf
      refine sp_iinc (i := 4) (v := x6) (lv' := [some (.ref (sx_ad X 21)), none, some (.int z2), some (.int z3), some (.int x6)]) (q := 89) hX dX7_perhapsNot_86 rfl (by rw [e7, li_1]) (Nat.le_of_ble_eq_true rfl) rfl rfl rfl ?_
      refine sp_goto (tgt := 71) hX dX7_perhapsNot_89 (by decide) ?_
      exact ih σ5 z2 z3 x6 hf
set_option maxRecDepth 100000 in
set_option maxHeartbeats 4000000 in
theorem hX7_perhapsNot_62 {d : Nat} {X : sp_X} (hX : sp_OK shX X cX7_perhapsNot RX7 5 (rmX7_perhapsNot d)) {τ : sp_St} {r : Int32} (hR : sp_Ri shX X (some .boolean) τ r 0 0) {n : Nat} {ke : sp_St → Int32 → Option (sp_St × Int32)} (hke : ∀ (σ : sp_St) (a : Int32) (τ : sp_St) (r : Int32), ke σ a = some (τ, r) → sp_Ci shX (sx_l X) (sx_w X) yX7_either cX7_either 4 (some .boolean) (rmX7_either d) 0 0 σ [.ref ((sx_w X).2.1 21), .int a] τ r)   {σ : sp_St} {z1 : Int32} {z2 : Int32} (hf : X7_perhapsNot_62 n ke σ z1 z2 = some (τ, r)) : sp_GG shX X σ 5 [some (.ref (sx_ad X 21)), some (.int z1), some (.int z2), none, none] [] 62 0 0 := by
  unfold X7_perhapsNot_62 at hf
  refine sp_aload_n (i := 0) (q := 63) hX dX7_perhapsNot_62 rfl rfl rfl ?_
  refine sp_iload_n (i := 1) (q := 64) hX dX7_perhapsNot_63 rfl rfl rfl ?_
  obtain ⟨σ2, v3, h1, hf⟩ := sp_bd_so hf
  refine sp_callVi (As := [.int z1]) (rest := []) (q := 67) hX (cnX7_test (sp_st hX) hke  h1) cwX7_183 atX_21 rfl rfl rfl rfl rfl (by unfold rmX7_test rmX7_perhapsNot; dsimp only; simp; try omega) (by unfold rmX7_test rmX7_perhapsNot; dsimp only; simp; try omega) (Nat.le_of_ble_eq_true rfl) (Nat.le_of_ble_eq_true rfl) (Nat.le_of_ble_eq_true rfl) dX7_perhapsNot_64 rfl ?_
  refine sp_istore_n (i := 3) (lv' := [some (.ref (sx_ad X 21)), some (.int z1), some (.int z2), some (.int v3), none]) (q := 68) hX dX7_perhapsNot_67 rfl (Nat.le_of_ble_eq_true rfl) rfl rfl rfl ?_
  refine sp_iconst (v := 0) (q := 69) hX dX7_perhapsNot_68 li_0 rfl ?_
  obtain ⟨x4, e5, hf⟩ := sp_pl_some hf
  refine sp_nmi e5 ?_
  refine sp_istore (i := 4) (lv' := [some (.ref (sx_ad X 21)), some (.int z1), some (.int z2), some (.int v3), some (.int x4)]) (q := 71) hX dX7_perhapsNot_69 (Nat.le_of_ble_eq_true rfl) rfl rfl rfl ?_
  refine sp_drop (lv' := [some (.ref (sx_ad X 21)), none, some (.int z2), some (.int v3), some (.int x4)]) (And.intro rfl (And.intro rfl (And.intro rfl (And.intro rfl trivial)))) ?_
  exact hX7_perhapsNot_71 hX hR hke n σ2 z2 v3 x4 hf
set_option maxRecDepth 100000 in
set_option maxHeartbeats 4000000 in
theorem hX7_perhapsNot_38 {d : Nat} {X : sp_X} (hX : sp_OK shX X cX7_perhapsNot RX7 5 (rmX7_perhapsNot d)) {τ : sp_St} {r : Int32} (hR : sp_Ri shX X (some .boolean) τ r 0 0) {n : Nat} {ke : sp_St → Int32 → Option (sp_St × Int32)} (hke : ∀ (σ : sp_St) (a : Int32) (τ : sp_St) (r : Int32), ke σ a = some (τ, r) → sp_Ci shX (sx_l X) (sx_w X) yX7_either cX7_either 4 (some .boolean) (rmX7_either d) 0 0 σ [.ref ((sx_w X).2.1 21), .int a] τ r)   {σ : sp_St} {z1 : Int32} {z2 : Int32} (hf : X7_perhapsNot_38 n ke σ z1 z2 = some (τ, r)) : sp_GG shX X σ 5 [some (.ref (sx_ad X 21)), some (.int z1), some (.int z2), none, none] [] 38 0 0 := by
  unfold X7_perhapsNot_38 at hf
  refine sp_iload_n (i := 2) (q := 39) hX dX7_perhapsNot_38 rfl rfl rfl ?_
  refine sp_bipush (v := 6) (q := 41) hX dX7_perhapsNot_39 lb_6 rfl ?_
  refine sp_icmp_ne (tgt := 62) (q := 44) hX dX7_perhapsNot_41 (by decide) rfl (fun hc => ?_) (fun hc => ?_)
  · rw [if_neg hc] at hf
    exact hX7_perhapsNot_62 hX hR hke hf
  · rw [if_pos hc] at hf
    refine sp_aload_n (i := 0) (q := 45) hX dX7_perhapsNot_44 rfl rfl rfl ?_
    refine sp_gets (t := 20) (q := 48) hX flX7_9 fkX7_0 atX_21 srX_21_0 dX7_perhapsNot_45 rfl ?_
    refine sp_ldcS (i := 6) (tx := "not") (q := 50) hX (by decide) dX7_perhapsNot_48 rfl ?_
    obtain ⟨σ2, v3, h1, hf⟩ := sp_bd_so hf
    refine sp_callVi (As := [.ref ((sx_w X).2.2.1 0 6)]) (rest := []) (q := 53) hX (cnX10_isWord (sp_st hX) (by decide) h1) cwX7_49 atX_20 rfl rfl rfl rfl rfl (by unfold rmX10_isWord rmX7_perhapsNot; dsimp only; simp; try omega) (by unfold rmX10_isWord rmX7_perhapsNot; dsimp only; simp; try omega) (Nat.le_of_ble_eq_true rfl) (Nat.le_of_ble_eq_true rfl) (Nat.le_of_ble_eq_true rfl) dX7_perhapsNot_50 rfl ?_
    refine sp_if_eq (tgt := 62) (q := 56) hX dX7_perhapsNot_53 (by decide) rfl (fun hc => ?_) (fun hc => ?_)
    · rw [if_pos hc] at hf
      exact hX7_perhapsNot_62 hX hR hke hf
    · rw [if_neg hc] at hf
      refine sp_aload_n (i := 0) (q := 57) hX dX7_perhapsNot_56 rfl rfl rfl ?_
      refine sp_iconst (v := 2) (q := 58) hX dX7_perhapsNot_57 li_2 rfl ?_
      obtain ⟨σ5, v6, h4, hf⟩ := sp_bd_so hf
      refine sp_callVi (As := [.int ((2 : Int32))]) (rest := []) (q := 61) hX (cnX7_fail (sp_st hX)  h4) cwX7_81 atX_21 rfl rfl rfl rfl rfl (by unfold rmX7_fail rmX7_perhapsNot; dsimp only; simp; try omega) (by unfold rmX7_fail rmX7_perhapsNot; dsimp only; simp; try omega) (Nat.le_of_ble_eq_true rfl) (Nat.le_of_ble_eq_true rfl) (Nat.le_of_ble_eq_true rfl) dX7_perhapsNot_58 rfl ?_
      obtain ⟨h7, hf⟩ := sp_ck_some hf
      exact sp_zret hX hR h7 dX7_perhapsNot_61 hf (Nat.le_of_ble_eq_true rfl) (Nat.le_of_ble_eq_true rfl)
set_option maxRecDepth 100000 in
set_option maxHeartbeats 4000000 in
theorem hX7_perhapsNot_4 {d : Nat} {X : sp_X} (hX : sp_OK shX X cX7_perhapsNot RX7 5 (rmX7_perhapsNot d)) {τ : sp_St} {r : Int32} (hR : sp_Ri shX X (some .boolean) τ r 0 0) {n : Nat} {ke : sp_St → Int32 → Option (sp_St × Int32)} (hke : ∀ (σ : sp_St) (a : Int32) (τ : sp_St) (r : Int32), ke σ a = some (τ, r) → sp_Ci shX (sx_l X) (sx_w X) yX7_either cX7_either 4 (some .boolean) (rmX7_either d) 0 0 σ [.ref ((sx_w X).2.1 21), .int a] τ r)   : ∀ (f : Nat) (σ : sp_St) (z1 : Int32) (z2 : Int32) (z3 : Int32), X7_perhapsNot_4 n ke f σ z1 z2 z3 = some (τ, r) → sp_GG shX X σ 5 [some (.ref (sx_ad X 21)), some (.int z1), some (.int z2), some (.int z3), none] [] 4 0 0 := by
  intro f
  induction f with
  | zero =>
    intro σ z1 z2 z3 hf
    rw [X7_perhapsNot_4] at hf
    cases hf
  | succ f ih =>
    intro σ z1 z2 z3 hf
    rw [X7_perhapsNot_4] at hf
    refine sp_iload_n (i := 3) (q := 5) hX dX7_perhapsNot_4 rfl rfl rfl ?_
    refine sp_bipush (v := 6) (q := 7) hX dX7_perhapsNot_5 lb_6 rfl ?_
    refine sp_icmp_ge (tgt := 38) (q := 10) hX dX7_perhapsNot_7 (by decide) rfl (fun hc => ?_) (fun hc => ?_)
    · rw [if_pos hc] at hf
      refine sp_drop (lv' := [some (.ref (sx_ad X 21)), some (.int z1), some (.int z2), none, none]) (And.intro rfl (And.intro rfl (And.intro rfl trivial))) ?_
      exact hX7_perhapsNot_38 hX hR hke hf
    · rw [if_neg hc] at hf
      refine sp_aload_n (i := 0) (q := 11) hX dX7_perhapsNot_10 rfl rfl rfl ?_
      refine sp_gets (t := 20) (q := 14) hX flX7_9 fkX7_0 atX_21 srX_21_0 dX7_perhapsNot_11 rfl ?_
      refine sp_ldcS (i := 6) (tx := "not") (q := 16) hX (by decide) dX7_perhapsNot_14 rfl ?_
      obtain ⟨σ2, v3, h1, hf⟩ := sp_bd_so hf
      refine sp_callVi (As := [.ref ((sx_w X).2.2.1 0 6)]) (rest := []) (q := 19) hX (cnX10_isWord (sp_st hX) (by decide) h1) cwX7_49 atX_20 rfl rfl rfl rfl rfl (by unfold rmX10_isWord rmX7_perhapsNot; dsimp only; simp; try omega) (by unfold rmX10_isWord rmX7_perhapsNot; dsimp only; simp; try omega) (Nat.le_of_ble_eq_true rfl) (Nat.le_of_ble_eq_true rfl) (Nat.le_of_ble_eq_true rfl) dX7_perhapsNot_16 rfl ?_
      refine sp_if_eq (tgt := 38) (q := 22) hX dX7_perhapsNot_19 (by decide) rfl (fun hc => ?_) (fun hc => ?_)
      · rw [if_pos hc] at hf
        refine sp_drop (lv' := [some (.ref (sx_ad X 21)), some (.int z1), some (.int z2), none, none]) (And.intro rfl (And.intro rfl (And.intro rfl trivial))) ?_
        exact hX7_perhapsNot_38 hX hR hke hf
      · rw [if_neg hc] at hf
        refine sp_aload_n (i := 0) (q := 23) hX dX7_perhapsNot_22 rfl rfl rfl ?_
        refine sp_gets (t := 20) (q := 26) hX flX7_9 fkX7_0 atX_21 srX_21_0 dX7_perhapsNot_23 rfl ?_
        obtain ⟨σ5, h4, hf⟩ := sp_bv_so hf
        refine sp_callVv (As := []) (rest := []) (q := 29) hX (cnX10_next (sp_st hX)  h4) cwX7_92 atX_20 rfl rfl rfl rfl rfl (by unfold rmX10_next rmX7_perhapsNot; dsimp only; simp; try omega) (by unfold rmX10_next rmX7_perhapsNot; dsimp only; simp; try omega) (Nat.le_of_ble_eq_true rfl) (Nat.le_of_ble_eq_true rfl) (Nat.le_of_ble_eq_true rfl) dX7_perhapsNot_26 rfl ?_
        obtain ⟨x6, e7, hf⟩ := sp_pl_some hf
        refine sp_iinc (i := 2) (v := x6) (lv' := [some (.ref (sx_ad X 21)), some (.int z1), some (.int x6), some (.int z3), none]) (q := 32) hX dX7_perhapsNot_29 rfl (by rw [e7, li_1]) (Nat.le_of_ble_eq_true rfl) rfl rfl rfl ?_
        obtain ⟨x8, e9, hf⟩ := sp_pl_some hf
        refine sp_iinc (i := 3) (v := x8) (lv' := [some (.ref (sx_ad X 21)), some (.int z1), some (.int x6), some (.int x8), none]) (q := 35) hX dX7_perhapsNot_32 rfl (by rw [e9, li_1]) (Nat.le_of_ble_eq_true rfl) rfl rfl rfl ?_
        refine sp_goto (tgt := 4) hX dX7_perhapsNot_35 (by decide) ?_
        exact ih σ5 z1 x6 x8 hf
set_option maxRecDepth 100000 in
set_option maxHeartbeats 4000000 in
theorem hX7_perhapsNot {d : Nat} {X : sp_X} (hX : sp_OK shX X cX7_perhapsNot RX7 5 (rmX7_perhapsNot d)) {τ : sp_St} {r : Int32} (hR : sp_Ri shX X (some .boolean) τ r 0 0) {n : Nat} {ke : sp_St → Int32 → Option (sp_St × Int32)} (hke : ∀ (σ : sp_St) (a : Int32) (τ : sp_St) (r : Int32), ke σ a = some (τ, r) → sp_Ci shX (sx_l X) (sx_w X) yX7_either cX7_either 4 (some .boolean) (rmX7_either d) 0 0 σ [.ref ((sx_w X).2.1 21), .int a] τ r) {σ : sp_St} {a1 : Int32}  (hf : X7_perhapsNot n ke σ a1 = some (τ, r)) : sp_GG shX X σ 5 [some (.ref (sx_ad X 21)), some (.int a1), none, none, none] [] 0 0 0 := by
  unfold X7_perhapsNot at hf
  refine sp_iconst (v := 0) (q := 1) hX dX7_perhapsNot_0 li_0 rfl ?_
  obtain ⟨x1, e2, hf⟩ := sp_pl_some hf
  refine sp_nmi e2 ?_
  refine sp_istore_n (i := 2) (lv' := [some (.ref (sx_ad X 21)), some (.int a1), some (.int x1), none, none]) (q := 2) hX dX7_perhapsNot_1 rfl (Nat.le_of_ble_eq_true rfl) rfl rfl rfl ?_
  refine sp_iconst (v := 0) (q := 3) hX dX7_perhapsNot_2 li_0 rfl ?_
  obtain ⟨x3, e4, hf⟩ := sp_pl_some hf
  refine sp_nmi e4 ?_
  refine sp_istore_n (i := 3) (lv' := [some (.ref (sx_ad X 21)), some (.int a1), some (.int x1), some (.int x3), none]) (q := 4) hX dX7_perhapsNot_3 rfl (Nat.le_of_ble_eq_true rfl) rfl rfl rfl ?_
  exact hX7_perhapsNot_4 hX hR hke n σ a1 x1 x3 hf
set_option maxRecDepth 100000 in
set_option maxHeartbeats 4000000 in
theorem cnX7_perhapsNot {l : Launch} (hst : l.stackTraces = false) {w : sp_Wd} {n : Nat} {d : Nat} {ke : sp_St → Int32 → Option (sp_St × Int32)} (hke : ∀ (σ : sp_St) (a : Int32) (τ : sp_St) (r : Int32), ke σ a = some (τ, r) → sp_Ci shX l w yX7_either cX7_either 4 (some .boolean) (rmX7_either d) 0 0 σ [.ref (w.2.1 21), .int a] τ r) {σ : sp_St} {a1 : Int32} {τ : sp_St} {r : Int32}  (hf : X7_perhapsNot n ke σ a1 = some (τ, r)) : sp_Ci shX l w yX7_perhapsNot cX7_perhapsNot 5 (some .boolean) (rmX7_perhapsNot d) 0 0 σ [.ref (w.2.1 21), .int a1] τ r :=
  sp_ci (own := RX7) (by decide) rfl hst (Nat.le_of_ble_eq_true rfl) rfl (fun X hX hw hl hR => by subst hw; subst hl; exact hX7_perhapsNot hX hR hke  hf)
def X7_both_59 (n : Nat) (ke : sp_St → Int32 → Option (sp_St × Int32)) (σ : sp_St) (z2 : Int32) : Option (sp_St × Int32) :=
  sp_ck (sp_zb z2) <|
  some (σ, z2)
def X7_both_8 (n : Nat) (ke : sp_St → Int32 → Option (sp_St × Int32)) : Nat → sp_St → Int32 → Int32 → Int32 → Option (sp_St × Int32)
  | 0, _, _, _, _ => none
  | f + 1, σ, z1, z2, z3 =>
    if ((700 : Int32)) ≤ z3 then
      X7_both_59 n ke σ z2
    else
      if z2 = 0 then
        X7_both_59 n ke σ z2
      else
        sp_bd (X10_isWord n σ 7) fun σ2 v3 =>
        if v3 = 0 then
          X7_both_59 n ke σ2 z2
        else
          sp_bv (X10_next n σ2) fun σ5 =>
          sp_bd (X7_perhapsNot n ke σ5 z1) fun σ7 v8 =>
          sp_pl (σ7.2.1 21 1) fun c9 =>
          sp_ck (sp_isc c9) <|
          sp_bv (X2_addCode n σ7 c9 ((-14 : Int32))) fun σ13 =>
          sp_pl (z3 + 1) fun x14 =>
          X7_both_8 n ke f σ13 z1 v8 x14
def X7_both (n : Nat) (ke : sp_St → Int32 → Option (sp_St × Int32)) (σ : sp_St) (a1 : Int32) : Option (sp_St × Int32) :=
  sp_bd (X7_perhapsNot n ke σ a1) fun σ2 v3 =>
  sp_pl ((0 : Int32)) fun x4 =>
  X7_both_8 n ke n σ2 a1 v3 x4
set_option maxRecDepth 100000 in
set_option maxHeartbeats 4000000 in
theorem hX7_both_59 {d : Nat} {X : sp_X} (hX : sp_OK shX X cX7_both RX7 4 (rmX7_both d)) {τ : sp_St} {r : Int32} (hR : sp_Ri shX X (some .boolean) τ r 0 0) {n : Nat} {ke : sp_St → Int32 → Option (sp_St × Int32)} (hke : ∀ (σ : sp_St) (a : Int32) (τ : sp_St) (r : Int32), ke σ a = some (τ, r) → sp_Ci shX (sx_l X) (sx_w X) yX7_either cX7_either 4 (some .boolean) (rmX7_either d) 0 0 σ [.ref ((sx_w X).2.1 21), .int a] τ r)   {σ : sp_St} {z2 : Int32} (hf : X7_both_59 n ke σ z2 = some (τ, r)) : sp_GG shX X σ 4 [none, none, some (.int z2), none] [] 59 0 0 := by
  unfold X7_both_59 at hf
  refine sp_iload_n (i := 2) (q := 60) hX dX7_both_59 rfl rfl rfl ?_
  obtain ⟨h1, hf⟩ := sp_ck_some hf
  exact sp_zret hX hR h1 dX7_both_60 hf (Nat.le_of_ble_eq_true rfl) (Nat.le_of_ble_eq_true rfl)
set_option maxRecDepth 100000 in
set_option maxHeartbeats 4000000 in
theorem hX7_both_8 {d : Nat} {X : sp_X} (hX : sp_OK shX X cX7_both RX7 4 (rmX7_both d)) {τ : sp_St} {r : Int32} (hR : sp_Ri shX X (some .boolean) τ r 0 0) {n : Nat} {ke : sp_St → Int32 → Option (sp_St × Int32)} (hke : ∀ (σ : sp_St) (a : Int32) (τ : sp_St) (r : Int32), ke σ a = some (τ, r) → sp_Ci shX (sx_l X) (sx_w X) yX7_either cX7_either 4 (some .boolean) (rmX7_either d) 0 0 σ [.ref ((sx_w X).2.1 21), .int a] τ r)   : ∀ (f : Nat) (σ : sp_St) (z1 : Int32) (z2 : Int32) (z3 : Int32), X7_both_8 n ke f σ z1 z2 z3 = some (τ, r) → sp_GG shX X σ 4 [some (.ref (sx_ad X 21)), some (.int z1), some (.int z2), some (.int z3)] [] 8 0 0 := by
  intro f
  induction f with
  | zero =>
    intro σ z1 z2 z3 hf
    rw [X7_both_8] at hf
    cases hf
  | succ f ih =>
    intro σ z1 z2 z3 hf
    rw [X7_both_8] at hf
    refine sp_iload_n (i := 3) (q := 9) hX dX7_both_8 rfl rfl rfl ?_
    refine sp_sipush (v := 700) (q := 12) hX dX7_both_9 ls_700 rfl ?_
    refine sp_icmp_ge (tgt := 59) (q := 15) hX dX7_both_12 (by decide) rfl (fun hc => ?_) (fun hc => ?_)
    · rw [if_pos hc] at hf
      refine sp_drop (lv' := [none, none, some (.int z2), none]) (And.intro rfl trivial) ?_
      exact hX7_both_59 hX hR hke hf
    · rw [if_neg hc] at hf
      refine sp_iload_n (i := 2) (q := 16) hX dX7_both_15 rfl rfl rfl ?_
      refine sp_if_eq (tgt := 59) (q := 19) hX dX7_both_16 (by decide) rfl (fun hc => ?_) (fun hc => ?_)
      · rw [if_pos hc] at hf
        refine sp_drop (lv' := [none, none, some (.int z2), none]) (And.intro rfl trivial) ?_
        exact hX7_both_59 hX hR hke hf
      · rw [if_neg hc] at hf
        refine sp_aload_n (i := 0) (q := 20) hX dX7_both_19 rfl rfl rfl ?_
        refine sp_gets (t := 20) (q := 23) hX flX7_9 fkX7_0 atX_21 srX_21_0 dX7_both_20 rfl ?_
        refine sp_ldcS (i := 7) (tx := "and") (q := 25) hX (by decide) dX7_both_23 rfl ?_
        obtain ⟨σ2, v3, h1, hf⟩ := sp_bd_so hf
        refine sp_callVi (As := [.ref ((sx_w X).2.2.1 0 7)]) (rest := []) (q := 28) hX (cnX10_isWord (sp_st hX) (by decide) h1) cwX7_49 atX_20 rfl rfl rfl rfl rfl (by unfold rmX10_isWord rmX7_both; dsimp only; simp; try omega) (by unfold rmX10_isWord rmX7_both; dsimp only; simp; try omega) (Nat.le_of_ble_eq_true rfl) (Nat.le_of_ble_eq_true rfl) (Nat.le_of_ble_eq_true rfl) dX7_both_25 rfl ?_
        refine sp_if_eq (tgt := 59) (q := 31) hX dX7_both_28 (by decide) rfl (fun hc => ?_) (fun hc => ?_)
        · rw [if_pos hc] at hf
          refine sp_drop (lv' := [none, none, some (.int z2), none]) (And.intro rfl trivial) ?_
          exact hX7_both_59 hX hR hke hf
        · rw [if_neg hc] at hf
          refine sp_aload_n (i := 0) (q := 32) hX dX7_both_31 rfl rfl rfl ?_
          refine sp_gets (t := 20) (q := 35) hX flX7_9 fkX7_0 atX_21 srX_21_0 dX7_both_32 rfl ?_
          obtain ⟨σ5, h4, hf⟩ := sp_bv_so hf
          refine sp_callVv (As := []) (rest := []) (q := 38) hX (cnX10_next (sp_st hX)  h4) cwX7_92 atX_20 rfl rfl rfl rfl rfl (by unfold rmX10_next rmX7_both; dsimp only; simp; try omega) (by unfold rmX10_next rmX7_both; dsimp only; simp; try omega) (Nat.le_of_ble_eq_true rfl) (Nat.le_of_ble_eq_true rfl) (Nat.le_of_ble_eq_true rfl) dX7_both_35 rfl ?_
          refine sp_aload_n (i := 0) (q := 39) hX dX7_both_38 rfl rfl rfl ?_
          refine sp_iload_n (i := 1) (q := 40) hX dX7_both_39 rfl rfl rfl ?_
          obtain ⟨σ7, v8, h6, hf⟩ := sp_bd_so hf
          refine sp_callVi (As := [.int z1]) (rest := []) (q := 43) hX (cnX7_perhapsNot (sp_st hX) hke  h6) cwX7_176 atX_21 rfl rfl rfl rfl rfl (by unfold rmX7_perhapsNot rmX7_both; dsimp only; simp; try omega) (by unfold rmX7_perhapsNot rmX7_both; dsimp only; simp; try omega) (Nat.le_of_ble_eq_true rfl) (Nat.le_of_ble_eq_true rfl) (Nat.le_of_ble_eq_true rfl) dX7_both_40 rfl ?_
          refine sp_istore_n (i := 2) (lv' := [some (.ref (sx_ad X 21)), some (.int z1), some (.int v8), some (.int z3)]) (q := 44) hX dX7_both_43 rfl (Nat.le_of_ble_eq_true rfl) rfl rfl rfl ?_
          refine sp_aload_n (i := 0) (q := 45) hX dX7_both_44 rfl rfl rfl ?_
          obtain ⟨c9, e11, hf⟩ := sp_pl_some hf
          obtain ⟨h10, hf⟩ := sp_ck_some hf
          refine sp_getr (q := 48) hX flX7_15 fkX7_1 atX_21 dX7_both_45 rfl ?_
          refine sp_nmr e11 ?_
          refine sp_bipush (v := -14) (q := 50) hX dX7_both_48 lb_m14 rfl ?_
          obtain ⟨σ13, h12, hf⟩ := sp_bv_so hf
          refine sp_callVv (As := [.int ((-14 : Int32))]) (rest := []) (q := 53) hX (cnX2_addCode (sp_st hX) (sp_isc_at h10) h12) cwX7_173 (sp_isc_at h10) rfl rfl rfl rfl rfl (by unfold rmX2_addCode rmX7_both; dsimp only; simp; try omega) (by unfold rmX2_addCode rmX7_both; dsimp only; simp; try omega) (Nat.le_of_ble_eq_true rfl) (Nat.le_of_ble_eq_true rfl) (Nat.le_of_ble_eq_true rfl) dX7_both_50 rfl ?_
          obtain ⟨x14, e15, hf⟩ := sp_pl_some hf
          refine sp_iinc (i := 3) (v := x14) (lv' := [some (.ref (sx_ad X 21)), some (.int z1), some (.int v8), some (.int x14)]) (q := 56) hX dX7_both_53 rfl (by rw [e15, li_1]) (Nat.le_of_ble_eq_true rfl) rfl rfl rfl ?_
          refine sp_goto (tgt := 8) hX dX7_both_56 (by decide) ?_
          exact ih σ13 z1 v8 x14 hf
set_option maxRecDepth 100000 in
set_option maxHeartbeats 4000000 in
theorem hX7_both {d : Nat} {X : sp_X} (hX : sp_OK shX X cX7_both RX7 4 (rmX7_both d)) {τ : sp_St} {r : Int32} (hR : sp_Ri shX X (some .boolean) τ r 0 0) {n : Nat} {ke : sp_St → Int32 → Option (sp_St × Int32)} (hke : ∀ (σ : sp_St) (a : Int32) (τ : sp_St) (r : Int32), ke σ a = some (τ, r) → sp_Ci shX (sx_l X) (sx_w X) yX7_either cX7_either 4 (some .boolean) (rmX7_either d) 0 0 σ [.ref ((sx_w X).2.1 21), .int a] τ r) {σ : sp_St} {a1 : Int32}  (hf : X7_both n ke σ a1 = some (τ, r)) : sp_GG shX X σ 4 [some (.ref (sx_ad X 21)), some (.int a1), none, none] [] 0 0 0 := by
  unfold X7_both at hf
  refine sp_aload_n (i := 0) (q := 1) hX dX7_both_0 rfl rfl rfl ?_
  refine sp_iload_n (i := 1) (q := 2) hX dX7_both_1 rfl rfl rfl ?_
  obtain ⟨σ2, v3, h1, hf⟩ := sp_bd_so hf
  refine sp_callVi (As := [.int a1]) (rest := []) (q := 5) hX (cnX7_perhapsNot (sp_st hX) hke  h1) cwX7_176 atX_21 rfl rfl rfl rfl rfl (by unfold rmX7_perhapsNot rmX7_both; dsimp only; simp; try omega) (by unfold rmX7_perhapsNot rmX7_both; dsimp only; simp; try omega) (Nat.le_of_ble_eq_true rfl) (Nat.le_of_ble_eq_true rfl) (Nat.le_of_ble_eq_true rfl) dX7_both_2 rfl ?_
  refine sp_istore_n (i := 2) (lv' := [some (.ref (sx_ad X 21)), some (.int a1), some (.int v3), none]) (q := 6) hX dX7_both_5 rfl (Nat.le_of_ble_eq_true rfl) rfl rfl rfl ?_
  refine sp_iconst (v := 0) (q := 7) hX dX7_both_6 li_0 rfl ?_
  obtain ⟨x4, e5, hf⟩ := sp_pl_some hf
  refine sp_nmi e5 ?_
  refine sp_istore_n (i := 3) (lv' := [some (.ref (sx_ad X 21)), some (.int a1), some (.int v3), some (.int x4)]) (q := 8) hX dX7_both_7 rfl (Nat.le_of_ble_eq_true rfl) rfl rfl rfl ?_
  exact hX7_both_8 hX hR hke n σ2 a1 v3 x4 hf
set_option maxRecDepth 100000 in
set_option maxHeartbeats 4000000 in
theorem cnX7_both {l : Launch} (hst : l.stackTraces = false) {w : sp_Wd} {n : Nat} {d : Nat} {ke : sp_St → Int32 → Option (sp_St × Int32)} (hke : ∀ (σ : sp_St) (a : Int32) (τ : sp_St) (r : Int32), ke σ a = some (τ, r) → sp_Ci shX l w yX7_either cX7_either 4 (some .boolean) (rmX7_either d) 0 0 σ [.ref (w.2.1 21), .int a] τ r) {σ : sp_St} {a1 : Int32} {τ : sp_St} {r : Int32}  (hf : X7_both n ke σ a1 = some (τ, r)) : sp_Ci shX l w yX7_both cX7_both 4 (some .boolean) (rmX7_both d) 0 0 σ [.ref (w.2.1 21), .int a1] τ r :=
  sp_ci (own := RX7) (by decide) rfl hst (Nat.le_of_ble_eq_true rfl) rfl (fun X hX hw hl hR => by subst hw; subst hl; exact hX7_both hX hR hke  hf)
def X7_eitherB_81 (n : Nat) (ke : sp_St → Int32 → Option (sp_St × Int32)) (σ : sp_St) (z2 : Int32) : Option (sp_St × Int32) :=
  sp_ck (sp_zb z2) <|
  some (σ, z2)
def X7_eitherB_30 (n : Nat) (ke : sp_St → Int32 → Option (sp_St × Int32)) : Nat → sp_St → Int32 → Int32 → Int32 → Option (sp_St × Int32)
  | 0, _, _, _, _ => none
  | f + 1, σ, z1, z2, z3 =>
    if ((700 : Int32)) ≤ z3 then
      X7_eitherB_81 n ke σ z2
    else
      if z2 = 0 then
        X7_eitherB_81 n ke σ z2
      else
        sp_bd (X10_isWord n σ 8) fun σ2 v3 =>
        if v3 = 0 then
          X7_eitherB_81 n ke σ2 z2
        else
          sp_bv (X10_next n σ2) fun σ5 =>
          sp_bd (X7_both n ke σ5 z1) fun σ7 v8 =>
          sp_pl (σ7.2.1 21 1) fun c9 =>
          sp_ck (sp_isc c9) <|
          sp_bv (X2_addCode n σ7 c9 ((-15 : Int32))) fun σ13 =>
          sp_pl (z3 + 1) fun x14 =>
          X7_eitherB_30 n ke f σ13 z1 v8 x14
def X7_eitherB (n : Nat) (ke : sp_St → Int32 → Option (sp_St × Int32)) (σ : sp_St) (a1 : Int32) : Option (sp_St × Int32) :=
  if a1 ≤ ((5 : Int32)) then
    sp_bd (X7_both n ke σ a1) fun σ2 v3 =>
    sp_pl ((0 : Int32)) fun x4 =>
    X7_eitherB_30 n ke n σ2 a1 v3 x4
  else
    sp_bd (X7_partMayStart n σ) fun σ7 v8 =>
    sp_pl (if v8 = 0 then ((1 : Int32)) else ((2 : Int32))) fun v9 =>
    sp_bd (X7_fail n σ7 v9) fun σ12 v13 =>
    sp_ck (sp_zb v13) <|
    some (σ12, v13)
set_option maxRecDepth 100000 in
set_option maxHeartbeats 4000000 in
theorem hX7_eitherB_81 {d : Nat} {X : sp_X} (hX : sp_OK shX X cX7_either RX7 4 (rmX7_either (d + 1))) {τ : sp_St} {r : Int32} (hR : sp_Ri shX X (some .boolean) τ r 0 0) {n : Nat} {ke : sp_St → Int32 → Option (sp_St × Int32)} (hke : ∀ (σ : sp_St) (a : Int32) (τ : sp_St) (r : Int32), ke σ a = some (τ, r) → sp_Ci shX (sx_l X) (sx_w X) yX7_either cX7_either 4 (some .boolean) (rmX7_either d) 0 0 σ [.ref ((sx_w X).2.1 21), .int a] τ r)   {σ : sp_St} {z2 : Int32} (hf : X7_eitherB_81 n ke σ z2 = some (τ, r)) : sp_GG shX X σ 4 [none, none, some (.int z2), none] [] 81 0 0 := by
  unfold X7_eitherB_81 at hf
  refine sp_iload_n (i := 2) (q := 82) hX dX7_either_81 rfl rfl rfl ?_
  obtain ⟨h1, hf⟩ := sp_ck_some hf
  exact sp_zret hX hR h1 dX7_either_82 hf (Nat.le_of_ble_eq_true rfl) (Nat.le_of_ble_eq_true rfl)
set_option maxRecDepth 100000 in
set_option maxHeartbeats 4000000 in
theorem hX7_eitherB_30 {d : Nat} {X : sp_X} (hX : sp_OK shX X cX7_either RX7 4 (rmX7_either (d + 1))) {τ : sp_St} {r : Int32} (hR : sp_Ri shX X (some .boolean) τ r 0 0) {n : Nat} {ke : sp_St → Int32 → Option (sp_St × Int32)} (hke : ∀ (σ : sp_St) (a : Int32) (τ : sp_St) (r : Int32), ke σ a = some (τ, r) → sp_Ci shX (sx_l X) (sx_w X) yX7_either cX7_either 4 (some .boolean) (rmX7_either d) 0 0 σ [.ref ((sx_w X).2.1 21), .int a] τ r)   : ∀ (f : Nat) (σ : sp_St) (z1 : Int32) (z2 : Int32) (z3 : Int32), X7_eitherB_30 n ke f σ z1 z2 z3 = some (τ, r) → sp_GG shX X σ 4 [some (.ref (sx_ad X 21)), some (.int z1), some (.int z2), some (.int z3)] [] 30 0 0 := by
  intro f
  induction f with
  | zero =>
    intro σ z1 z2 z3 hf
    rw [X7_eitherB_30] at hf
    cases hf
  | succ f ih =>
    intro σ z1 z2 z3 hf
    rw [X7_eitherB_30] at hf
    refine sp_iload_n (i := 3) (q := 31) hX dX7_either_30 rfl rfl rfl ?_
    refine sp_sipush (v := 700) (q := 34) hX dX7_either_31 ls_700 rfl ?_
    refine sp_icmp_ge (tgt := 81) (q := 37) hX dX7_either_34 (by decide) rfl (fun hc => ?_) (fun hc => ?_)
    · rw [if_pos hc] at hf
      refine sp_drop (lv' := [none, none, some (.int z2), none]) (And.intro rfl trivial) ?_
      exact hX7_eitherB_81 hX hR hke hf
    · rw [if_neg hc] at hf
      refine sp_iload_n (i := 2) (q := 38) hX dX7_either_37 rfl rfl rfl ?_
      refine sp_if_eq (tgt := 81) (q := 41) hX dX7_either_38 (by decide) rfl (fun hc => ?_) (fun hc => ?_)
      · rw [if_pos hc] at hf
        refine sp_drop (lv' := [none, none, some (.int z2), none]) (And.intro rfl trivial) ?_
        exact hX7_eitherB_81 hX hR hke hf
      · rw [if_neg hc] at hf
        refine sp_aload_n (i := 0) (q := 42) hX dX7_either_41 rfl rfl rfl ?_
        refine sp_gets (t := 20) (q := 45) hX flX7_9 fkX7_0 atX_21 srX_21_0 dX7_either_42 rfl ?_
        refine sp_ldcS (i := 8) (tx := "or") (q := 47) hX (by decide) dX7_either_45 rfl ?_
        obtain ⟨σ2, v3, h1, hf⟩ := sp_bd_so hf
        refine sp_callVi (As := [.ref ((sx_w X).2.2.1 0 8)]) (rest := []) (q := 50) hX (cnX10_isWord (sp_st hX) (by decide) h1) cwX7_49 atX_20 rfl rfl rfl rfl rfl (by unfold rmX10_isWord rmX7_either; dsimp only; simp; try omega) (by unfold rmX10_isWord rmX7_either; dsimp only; simp; try omega) (Nat.le_of_ble_eq_true rfl) (Nat.le_of_ble_eq_true rfl) (Nat.le_of_ble_eq_true rfl) dX7_either_47 rfl ?_
        refine sp_if_eq (tgt := 81) (q := 53) hX dX7_either_50 (by decide) rfl (fun hc => ?_) (fun hc => ?_)
        · rw [if_pos hc] at hf
          refine sp_drop (lv' := [none, none, some (.int z2), none]) (And.intro rfl trivial) ?_
          exact hX7_eitherB_81 hX hR hke hf
        · rw [if_neg hc] at hf
          refine sp_aload_n (i := 0) (q := 54) hX dX7_either_53 rfl rfl rfl ?_
          refine sp_gets (t := 20) (q := 57) hX flX7_9 fkX7_0 atX_21 srX_21_0 dX7_either_54 rfl ?_
          obtain ⟨σ5, h4, hf⟩ := sp_bv_so hf
          refine sp_callVv (As := []) (rest := []) (q := 60) hX (cnX10_next (sp_st hX)  h4) cwX7_92 atX_20 rfl rfl rfl rfl rfl (by unfold rmX10_next rmX7_either; dsimp only; simp; try omega) (by unfold rmX10_next rmX7_either; dsimp only; simp; try omega) (Nat.le_of_ble_eq_true rfl) (Nat.le_of_ble_eq_true rfl) (Nat.le_of_ble_eq_true rfl) dX7_either_57 rfl ?_
          refine sp_aload_n (i := 0) (q := 61) hX dX7_either_60 rfl rfl rfl ?_
          refine sp_iload_n (i := 1) (q := 62) hX dX7_either_61 rfl rfl rfl ?_
          obtain ⟨σ7, v8, h6, hf⟩ := sp_bd_so hf
          refine sp_callVi (As := [.int z1]) (rest := []) (q := 65) hX (cnX7_both (sp_st hX) hke  h6) cwX7_166 atX_21 rfl rfl rfl rfl rfl (by unfold rmX7_both rmX7_either; dsimp only; simp; try omega) (by unfold rmX7_both rmX7_either; dsimp only; simp; try omega) (Nat.le_of_ble_eq_true rfl) (Nat.le_of_ble_eq_true rfl) (Nat.le_of_ble_eq_true rfl) dX7_either_62 rfl ?_
          refine sp_istore_n (i := 2) (lv' := [some (.ref (sx_ad X 21)), some (.int z1), some (.int v8), some (.int z3)]) (q := 66) hX dX7_either_65 rfl (Nat.le_of_ble_eq_true rfl) rfl rfl rfl ?_
          refine sp_aload_n (i := 0) (q := 67) hX dX7_either_66 rfl rfl rfl ?_
          obtain ⟨c9, e11, hf⟩ := sp_pl_some hf
          obtain ⟨h10, hf⟩ := sp_ck_some hf
          refine sp_getr (q := 70) hX flX7_15 fkX7_1 atX_21 dX7_either_67 rfl ?_
          refine sp_nmr e11 ?_
          refine sp_bipush (v := -15) (q := 72) hX dX7_either_70 lb_m15 rfl ?_
          obtain ⟨σ13, h12, hf⟩ := sp_bv_so hf
          refine sp_callVv (As := [.int ((-15 : Int32))]) (rest := []) (q := 75) hX (cnX2_addCode (sp_st hX) (sp_isc_at h10) h12) cwX7_173 (sp_isc_at h10) rfl rfl rfl rfl rfl (by unfold rmX2_addCode rmX7_either; dsimp only; simp; try omega) (by unfold rmX2_addCode rmX7_either; dsimp only; simp; try omega) (Nat.le_of_ble_eq_true rfl) (Nat.le_of_ble_eq_true rfl) (Nat.le_of_ble_eq_true rfl) dX7_either_72 rfl ?_
          obtain ⟨x14, e15, hf⟩ := sp_pl_some hf
          refine sp_iinc (i := 3) (v := x14) (lv' := [some (.ref (sx_ad X 21)), some (.int z1), some (.int v8), some (.int x14)]) (q := 78) hX dX7_either_75 rfl (by rw [e15, li_1]) (Nat.le_of_ble_eq_true rfl) rfl rfl rfl ?_
          refine sp_goto (tgt := 30) hX dX7_either_78 (by decide) ?_
          exact ih σ13 z1 v8 x14 hf
set_option maxRecDepth 100000 in
set_option maxHeartbeats 4000000 in
theorem hX7_eitherB {d : Nat} {X : sp_X} (hX : sp_OK shX X cX7_either RX7 4 (rmX7_either (d + 1))) {τ : sp_St} {r : Int32} (hR : sp_Ri shX X (some .boolean) τ r 0 0) {n : Nat} {ke : sp_St → Int32 → Option (sp_St × Int32)} (hke : ∀ (σ : sp_St) (a : Int32) (τ : sp_St) (r : Int32), ke σ a = some (τ, r) → sp_Ci shX (sx_l X) (sx_w X) yX7_either cX7_either 4 (some .boolean) (rmX7_either d) 0 0 σ [.ref ((sx_w X).2.1 21), .int a] τ r) {σ : sp_St} {a1 : Int32}  (hf : X7_eitherB n ke σ a1 = some (τ, r)) : sp_GG shX X σ 4 [some (.ref (sx_ad X 21)), some (.int a1), none, none] [] 0 0 0 := by
  unfold X7_eitherB at hf
  refine sp_iload_n (i := 1) (q := 1) hX dX7_either_0 rfl rfl rfl ?_
  refine sp_iconst (v := 5) (q := 2) hX dX7_either_1 li_5 rfl ?_
  refine sp_icmp_le (tgt := 22) (q := 5) hX dX7_either_2 (by decide) rfl (fun hc => ?_) (fun hc => ?_)
  · rw [if_pos hc] at hf
    refine sp_aload_n (i := 0) (q := 23) hX dX7_either_22 rfl rfl rfl ?_
    refine sp_iload_n (i := 1) (q := 24) hX dX7_either_23 rfl rfl rfl ?_
    obtain ⟨σ2, v3, h1, hf⟩ := sp_bd_so hf
    refine sp_callVi (As := [.int a1]) (rest := []) (q := 27) hX (cnX7_both (sp_st hX) hke  h1) cwX7_166 atX_21 rfl rfl rfl rfl rfl (by unfold rmX7_both rmX7_either; dsimp only; simp; try omega) (by unfold rmX7_both rmX7_either; dsimp only; simp; try omega) (Nat.le_of_ble_eq_true rfl) (Nat.le_of_ble_eq_true rfl) (Nat.le_of_ble_eq_true rfl) dX7_either_24 rfl ?_
    refine sp_istore_n (i := 2) (lv' := [some (.ref (sx_ad X 21)), some (.int a1), some (.int v3), none]) (q := 28) hX dX7_either_27 rfl (Nat.le_of_ble_eq_true rfl) rfl rfl rfl ?_
    refine sp_iconst (v := 0) (q := 29) hX dX7_either_28 li_0 rfl ?_
    obtain ⟨x4, e5, hf⟩ := sp_pl_some hf
    refine sp_nmi e5 ?_
    refine sp_istore_n (i := 3) (lv' := [some (.ref (sx_ad X 21)), some (.int a1), some (.int v3), some (.int x4)]) (q := 30) hX dX7_either_29 rfl (Nat.le_of_ble_eq_true rfl) rfl rfl rfl ?_
    exact hX7_eitherB_30 hX hR hke n σ2 a1 v3 x4 hf
  · rw [if_neg hc] at hf
    refine sp_aload_n (i := 0) (q := 6) hX dX7_either_5 rfl rfl rfl ?_
    refine sp_aload_n (i := 0) (q := 7) hX dX7_either_6 rfl rfl rfl ?_
    obtain ⟨σ7, v8, h6, hf⟩ := sp_bd_so hf
    refine sp_callVi (As := []) (rest := [.ref (sx_ad X 21)]) (q := 10) hX (cnX7_partMayStart (sp_st hX)  h6) cwX7_163 atX_21 rfl rfl rfl rfl rfl (by unfold rmX7_partMayStart rmX7_either; dsimp only; simp; try omega) (by unfold rmX7_partMayStart rmX7_either; dsimp only; simp; try omega) (Nat.le_of_ble_eq_true rfl) (Nat.le_of_ble_eq_true rfl) (Nat.le_of_ble_eq_true rfl) dX7_either_7 rfl ?_
    obtain ⟨v9, e10, hf⟩ := sp_pl_some hf
    have hj15 : sp_GG shX X σ7 4 [some (.ref (sx_ad X 21)), some (.int a1), none, none] [.int v9, .ref (sx_ad X 21)] 18 0 0 := by
      obtain ⟨σ12, v13, h11, hf⟩ := sp_bd_so hf
      refine sp_callVi (As := [.int v9]) (rest := []) (q := 21) hX (cnX7_fail (sp_st hX)  h11) cwX7_81 atX_21 rfl rfl rfl rfl rfl (by unfold rmX7_fail rmX7_either; dsimp only; simp; try omega) (by unfold rmX7_fail rmX7_either; dsimp only; simp; try omega) (Nat.le_of_ble_eq_true rfl) (Nat.le_of_ble_eq_true rfl) (Nat.le_of_ble_eq_true rfl) dX7_either_18 rfl ?_
      obtain ⟨h14, hf⟩ := sp_ck_some hf
      exact sp_zret hX hR h14 dX7_either_21 hf (Nat.le_of_ble_eq_true rfl) (Nat.le_of_ble_eq_true rfl)
    refine sp_if_eq (tgt := 17) (q := 13) hX dX7_either_10 (by decide) rfl (fun hc => ?_) (fun hc => ?_)
    · refine sp_iconst (v := 1) (q := 18) hX dX7_either_17 li_1 rfl ?_
      exact sp_nmi (by rw [e10, if_pos hc]) hj15
    · refine sp_iconst (v := 2) (q := 14) hX dX7_either_13 li_2 rfl ?_
      refine sp_goto (tgt := 18) hX dX7_either_14 (by decide) ?_
      exact sp_nmi (by rw [e10, if_neg hc]) hj15
set_option maxRecDepth 100000 in
set_option maxHeartbeats 4000000 in
theorem cnX7_eitherB {l : Launch} (hst : l.stackTraces = false) {w : sp_Wd} {n : Nat} {d : Nat} {ke : sp_St → Int32 → Option (sp_St × Int32)} (hke : ∀ (σ : sp_St) (a : Int32) (τ : sp_St) (r : Int32), ke σ a = some (τ, r) → sp_Ci shX l w yX7_either cX7_either 4 (some .boolean) (rmX7_either d) 0 0 σ [.ref (w.2.1 21), .int a] τ r) {σ : sp_St} {a1 : Int32} {τ : sp_St} {r : Int32}  (hf : X7_eitherB n ke σ a1 = some (τ, r)) : sp_Ci shX l w yX7_either cX7_either 4 (some .boolean) (rmX7_either (d + 1)) 0 0 σ [.ref (w.2.1 21), .int a1] τ r :=
  sp_ci (own := RX7) (by decide) rfl hst (Nat.le_of_ble_eq_true rfl) rfl (fun X hX hw hl hR => by subst hw; subst hl; exact hX7_eitherB hX hR hke  hf)
def X7_either : Nat → Nat → sp_St → Int32 → Option (sp_St × Int32)
  | 0, _, _, _ => none
  | d + 1, n, σ, a => X7_eitherB n (X7_either d n) σ a
theorem cnX7_either {l : Launch} (hst : l.stackTraces = false) {w : sp_Wd} : ∀ (d : Nat) {n : Nat} {σ : sp_St} {a1 : Int32} {τ : sp_St} {r : Int32}, X7_either d n σ a1 = some (τ, r) → sp_Ci shX l w yX7_either cX7_either 4 (some .boolean) (rmX7_either d) 0 0 σ [.ref (w.2.1 21), .int a1] τ r := by
  intro d
  induction d with
  | zero =>
    intro n σ a1 τ r hf
    rw [X7_either] at hf
    cases hf
  | succ d ih =>
    intro n σ a1 τ r hf
    rw [X7_either] at hf
    exact cnX7_eitherB hst (fun σ a τ r h => ih h) hf
