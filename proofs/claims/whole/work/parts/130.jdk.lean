def rmJ6_bitCount_0f7a4 : Room := { frames := 0, cells := 0, slots := 0, locals := 0 }
def J6_bitCount_0f7a4 (n : Nat)  (σ : sp_St) (a0 : Int32) : Option (sp_St × Int32) :=
  sp_pl (a0 - (((a0.toUInt32 >>> (((1 : Int32)).toUInt32 &&& Int32.toUInt32 31)).toInt32) &&& ((1431655765 : Int32)))) fun x1 =>
  sp_pl ((x1 &&& ((858993459 : Int32))) + (((x1.toUInt32 >>> (((2 : Int32)).toUInt32 &&& Int32.toUInt32 31)).toInt32) &&& ((858993459 : Int32)))) fun x3 =>
  sp_pl ((x3 + ((x3.toUInt32 >>> (((4 : Int32)).toUInt32 &&& Int32.toUInt32 31)).toInt32)) &&& ((252645135 : Int32))) fun x5 =>
  sp_pl (x5 + ((x5.toUInt32 >>> (((8 : Int32)).toUInt32 &&& Int32.toUInt32 31)).toInt32)) fun x7 =>
  sp_pl (x7 + ((x7.toUInt32 >>> (((16 : Int32)).toUInt32 &&& Int32.toUInt32 31)).toInt32)) fun x9 =>
  some (σ, x9 &&& ((63 : Int32)))
set_option maxRecDepth 100000 in
set_option maxHeartbeats 4000000 in
theorem hJ6_bitCount_0f7a4 {sh : sp_Sh} {X : sp_X} (hX : sp_OK sh X cJ6_bitCount_0f7a4 RJ6 1 rmJ6_bitCount_0f7a4) {τ : sp_St} {r : Int32} (hR : sp_Ri sh X (some .int) τ r 0 0) {n : Nat}  {σ : sp_St} {a0 : Int32}  (hf : J6_bitCount_0f7a4 n σ a0 = some (τ, r)) : sp_GG sh X σ 1 [some (.int a0)] [] 0 0 0 := by
  unfold J6_bitCount_0f7a4 at hf
  refine sp_iload_n (i := 0) (q := 1) hX dJ6_bitCount_0f7a4_0 rfl rfl rfl ?_
  refine sp_iload_n (i := 0) (q := 2) hX dJ6_bitCount_0f7a4_1 rfl rfl rfl ?_
  refine sp_iconst (v := 1) (q := 3) hX dJ6_bitCount_0f7a4_2 li_1 rfl ?_
  refine sp_iushr (q := 4) hX dJ6_bitCount_0f7a4_3 rfl ?_
  refine sp_ldcw (v := 1431655765) (q := 7) hX wd_636 dJ6_bitCount_0f7a4_4 rfl ?_
  refine sp_iand (q := 8) hX dJ6_bitCount_0f7a4_7 rfl ?_
  refine sp_isub (q := 9) hX dJ6_bitCount_0f7a4_8 rfl ?_
  obtain ⟨x1, e2, hf⟩ := sp_pl_some hf
  refine sp_nmi e2 ?_
  refine sp_istore_n (i := 0) (lv' := [some (.int x1)]) (q := 10) hX dJ6_bitCount_0f7a4_9 rfl (Nat.le_of_ble_eq_true rfl) rfl rfl rfl ?_
  refine sp_iload_n (i := 0) (q := 11) hX dJ6_bitCount_0f7a4_10 rfl rfl rfl ?_
  refine sp_ldcw (v := 858993459) (q := 14) hX wd_637 dJ6_bitCount_0f7a4_11 rfl ?_
  refine sp_iand (q := 15) hX dJ6_bitCount_0f7a4_14 rfl ?_
  refine sp_iload_n (i := 0) (q := 16) hX dJ6_bitCount_0f7a4_15 rfl rfl rfl ?_
  refine sp_iconst (v := 2) (q := 17) hX dJ6_bitCount_0f7a4_16 li_2 rfl ?_
  refine sp_iushr (q := 18) hX dJ6_bitCount_0f7a4_17 rfl ?_
  refine sp_ldcw (v := 858993459) (q := 21) hX wd_637 dJ6_bitCount_0f7a4_18 rfl ?_
  refine sp_iand (q := 22) hX dJ6_bitCount_0f7a4_21 rfl ?_
  refine sp_iadd (q := 23) hX dJ6_bitCount_0f7a4_22 rfl ?_
  obtain ⟨x3, e4, hf⟩ := sp_pl_some hf
  refine sp_nmi e4 ?_
  refine sp_istore_n (i := 0) (lv' := [some (.int x3)]) (q := 24) hX dJ6_bitCount_0f7a4_23 rfl (Nat.le_of_ble_eq_true rfl) rfl rfl rfl ?_
  refine sp_iload_n (i := 0) (q := 25) hX dJ6_bitCount_0f7a4_24 rfl rfl rfl ?_
  refine sp_iload_n (i := 0) (q := 26) hX dJ6_bitCount_0f7a4_25 rfl rfl rfl ?_
  refine sp_iconst (v := 4) (q := 27) hX dJ6_bitCount_0f7a4_26 li_4 rfl ?_
  refine sp_iushr (q := 28) hX dJ6_bitCount_0f7a4_27 rfl ?_
  refine sp_iadd (q := 29) hX dJ6_bitCount_0f7a4_28 rfl ?_
  refine sp_ldcw (v := 252645135) (q := 32) hX wd_638 dJ6_bitCount_0f7a4_29 rfl ?_
  refine sp_iand (q := 33) hX dJ6_bitCount_0f7a4_32 rfl ?_
  obtain ⟨x5, e6, hf⟩ := sp_pl_some hf
  refine sp_nmi e6 ?_
  refine sp_istore_n (i := 0) (lv' := [some (.int x5)]) (q := 34) hX dJ6_bitCount_0f7a4_33 rfl (Nat.le_of_ble_eq_true rfl) rfl rfl rfl ?_
  refine sp_iload_n (i := 0) (q := 35) hX dJ6_bitCount_0f7a4_34 rfl rfl rfl ?_
  refine sp_iload_n (i := 0) (q := 36) hX dJ6_bitCount_0f7a4_35 rfl rfl rfl ?_
  refine sp_bipush (v := 8) (q := 38) hX dJ6_bitCount_0f7a4_36 lb_8 rfl ?_
  refine sp_iushr (q := 39) hX dJ6_bitCount_0f7a4_38 rfl ?_
  refine sp_iadd (q := 40) hX dJ6_bitCount_0f7a4_39 rfl ?_
  obtain ⟨x7, e8, hf⟩ := sp_pl_some hf
  refine sp_nmi e8 ?_
  refine sp_istore_n (i := 0) (lv' := [some (.int x7)]) (q := 41) hX dJ6_bitCount_0f7a4_40 rfl (Nat.le_of_ble_eq_true rfl) rfl rfl rfl ?_
  refine sp_iload_n (i := 0) (q := 42) hX dJ6_bitCount_0f7a4_41 rfl rfl rfl ?_
  refine sp_iload_n (i := 0) (q := 43) hX dJ6_bitCount_0f7a4_42 rfl rfl rfl ?_
  refine sp_bipush (v := 16) (q := 45) hX dJ6_bitCount_0f7a4_43 lb_16 rfl ?_
  refine sp_iushr (q := 46) hX dJ6_bitCount_0f7a4_45 rfl ?_
  refine sp_iadd (q := 47) hX dJ6_bitCount_0f7a4_46 rfl ?_
  obtain ⟨x9, e10, hf⟩ := sp_pl_some hf
  refine sp_nmi e10 ?_
  refine sp_istore_n (i := 0) (lv' := [some (.int x9)]) (q := 48) hX dJ6_bitCount_0f7a4_47 rfl (Nat.le_of_ble_eq_true rfl) rfl rfl rfl ?_
  refine sp_iload_n (i := 0) (q := 49) hX dJ6_bitCount_0f7a4_48 rfl rfl rfl ?_
  refine sp_bipush (v := 63) (q := 51) hX dJ6_bitCount_0f7a4_49 lb_63 rfl ?_
  refine sp_iand (q := 52) hX dJ6_bitCount_0f7a4_51 rfl ?_
  exact sp_iret hX hR dJ6_bitCount_0f7a4_52 hf (Nat.le_of_ble_eq_true rfl) (Nat.le_of_ble_eq_true rfl)
set_option maxRecDepth 100000 in
set_option maxHeartbeats 4000000 in
theorem cnJ6_bitCount_0f7a4 {sh : sp_Sh} {l : Launch} (hst : l.stackTraces = false) {w : sp_Wd} {n : Nat}  {σ : sp_St} {a0 : Int32} {τ : sp_St} {r : Int32}  (hf : J6_bitCount_0f7a4 n σ a0 = some (τ, r)) : sp_Ci sh l w yJ6_bitCount_0f7a4 cJ6_bitCount_0f7a4 1 (some .int) rmJ6_bitCount_0f7a4 0 0 σ [.int a0] τ r :=
  sp_ci (own := RJ6) (by decide) rfl hst (Nat.le_of_ble_eq_true rfl) rfl (fun X hX hw hl hR => by subst hw; subst hl; exact hJ6_bitCount_0f7a4 hX hR   hf)
def rmJ13_bitCount_95d88 : Room := { frames := 0, cells := 0, slots := 0, locals := 0 }
def J13_bitCount_95d88 (n : Nat)  (σ : sp_St) (a0 : Int64) : Option (sp_St × Int32) :=
  sp_pl (a0 - (((a0.toUInt64 >>> (((1 : Int32)).toInt64.toUInt64 &&& Int64.toUInt64 63)).toInt64) &&& ((6148914691236517205 : Int64)))) fun x1 =>
  sp_pl ((x1 &&& ((3689348814741910323 : Int64))) + (((x1.toUInt64 >>> (((2 : Int32)).toInt64.toUInt64 &&& Int64.toUInt64 63)).toInt64) &&& ((3689348814741910323 : Int64)))) fun x3 =>
  sp_pl ((x3 + ((x3.toUInt64 >>> (((4 : Int32)).toInt64.toUInt64 &&& Int64.toUInt64 63)).toInt64)) &&& ((1085102592571150095 : Int64))) fun x5 =>
  sp_pl (x5 + ((x5.toUInt64 >>> (((8 : Int32)).toInt64.toUInt64 &&& Int64.toUInt64 63)).toInt64)) fun x7 =>
  sp_pl (x7 + ((x7.toUInt64 >>> (((16 : Int32)).toInt64.toUInt64 &&& Int64.toUInt64 63)).toInt64)) fun x9 =>
  sp_pl (x9 + ((x9.toUInt64 >>> (((32 : Int32)).toInt64.toUInt64 &&& Int64.toUInt64 63)).toInt64)) fun x11 =>
  some (σ, x11.toInt32 &&& ((127 : Int32)))
set_option maxRecDepth 100000 in
set_option maxHeartbeats 4000000 in
theorem hJ13_bitCount_95d88 {sh : sp_Sh} {X : sp_X} (hX : sp_OK sh X cJ13_bitCount_95d88 RJ13 2 rmJ13_bitCount_95d88) {τ : sp_St} {r : Int32} (hR : sp_Ri sh X (some .int) τ r 0 0) {n : Nat}  {σ : sp_St} {a0 : Int64}  (hf : J13_bitCount_95d88 n σ a0 = some (τ, r)) : sp_GG sh X σ 2 [some (.long a0), none] [] 0 0 0 := by
  unfold J13_bitCount_95d88 at hf
  refine sp_lload_n (i := 0) (q := 1) hX dJ13_bitCount_95d88_0 rfl rfl rfl ?_
  refine sp_lload_n (i := 0) (q := 2) hX dJ13_bitCount_95d88_1 rfl rfl rfl ?_
  refine sp_iconst (v := 1) (q := 3) hX dJ13_bitCount_95d88_2 li_1 rfl ?_
  refine sp_lushr (q := 4) hX dJ13_bitCount_95d88_3 rfl ?_
  refine sp_ldc2 (v := 6148914691236517205) (q := 7) hX wd_1530 dJ13_bitCount_95d88_4 rfl ?_
  refine sp_land (q := 8) hX dJ13_bitCount_95d88_7 rfl ?_
  refine sp_lsub (q := 9) hX dJ13_bitCount_95d88_8 rfl ?_
  obtain ⟨x1, e2, hf⟩ := sp_pl_some hf
  refine sp_nml e2 ?_
  refine sp_lstore0 (q := 10) hX dJ13_bitCount_95d88_9 rfl rfl ?_
  refine sp_lload_n (i := 0) (q := 11) hX dJ13_bitCount_95d88_10 rfl rfl rfl ?_
  refine sp_ldc2 (v := 3689348814741910323) (q := 14) hX wd_1531 dJ13_bitCount_95d88_11 rfl ?_
  refine sp_land (q := 15) hX dJ13_bitCount_95d88_14 rfl ?_
  refine sp_lload_n (i := 0) (q := 16) hX dJ13_bitCount_95d88_15 rfl rfl rfl ?_
  refine sp_iconst (v := 2) (q := 17) hX dJ13_bitCount_95d88_16 li_2 rfl ?_
  refine sp_lushr (q := 18) hX dJ13_bitCount_95d88_17 rfl ?_
  refine sp_ldc2 (v := 3689348814741910323) (q := 21) hX wd_1531 dJ13_bitCount_95d88_18 rfl ?_
  refine sp_land (q := 22) hX dJ13_bitCount_95d88_21 rfl ?_
  refine sp_ladd (q := 23) hX dJ13_bitCount_95d88_22 rfl ?_
  obtain ⟨x3, e4, hf⟩ := sp_pl_some hf
  refine sp_nml e4 ?_
  refine sp_lstore0 (q := 24) hX dJ13_bitCount_95d88_23 rfl rfl ?_
  refine sp_lload_n (i := 0) (q := 25) hX dJ13_bitCount_95d88_24 rfl rfl rfl ?_
  refine sp_lload_n (i := 0) (q := 26) hX dJ13_bitCount_95d88_25 rfl rfl rfl ?_
  refine sp_iconst (v := 4) (q := 27) hX dJ13_bitCount_95d88_26 li_4 rfl ?_
  refine sp_lushr (q := 28) hX dJ13_bitCount_95d88_27 rfl ?_
  refine sp_ladd (q := 29) hX dJ13_bitCount_95d88_28 rfl ?_
  refine sp_ldc2 (v := 1085102592571150095) (q := 32) hX wd_1532 dJ13_bitCount_95d88_29 rfl ?_
  refine sp_land (q := 33) hX dJ13_bitCount_95d88_32 rfl ?_
  obtain ⟨x5, e6, hf⟩ := sp_pl_some hf
  refine sp_nml e6 ?_
  refine sp_lstore0 (q := 34) hX dJ13_bitCount_95d88_33 rfl rfl ?_
  refine sp_lload_n (i := 0) (q := 35) hX dJ13_bitCount_95d88_34 rfl rfl rfl ?_
  refine sp_lload_n (i := 0) (q := 36) hX dJ13_bitCount_95d88_35 rfl rfl rfl ?_
  refine sp_bipush (v := 8) (q := 38) hX dJ13_bitCount_95d88_36 lb_8 rfl ?_
  refine sp_lushr (q := 39) hX dJ13_bitCount_95d88_38 rfl ?_
  refine sp_ladd (q := 40) hX dJ13_bitCount_95d88_39 rfl ?_
  obtain ⟨x7, e8, hf⟩ := sp_pl_some hf
  refine sp_nml e8 ?_
  refine sp_lstore0 (q := 41) hX dJ13_bitCount_95d88_40 rfl rfl ?_
  refine sp_lload_n (i := 0) (q := 42) hX dJ13_bitCount_95d88_41 rfl rfl rfl ?_
  refine sp_lload_n (i := 0) (q := 43) hX dJ13_bitCount_95d88_42 rfl rfl rfl ?_
  refine sp_bipush (v := 16) (q := 45) hX dJ13_bitCount_95d88_43 lb_16 rfl ?_
  refine sp_lushr (q := 46) hX dJ13_bitCount_95d88_45 rfl ?_
  refine sp_ladd (q := 47) hX dJ13_bitCount_95d88_46 rfl ?_
  obtain ⟨x9, e10, hf⟩ := sp_pl_some hf
  refine sp_nml e10 ?_
  refine sp_lstore0 (q := 48) hX dJ13_bitCount_95d88_47 rfl rfl ?_
  refine sp_lload_n (i := 0) (q := 49) hX dJ13_bitCount_95d88_48 rfl rfl rfl ?_
  refine sp_lload_n (i := 0) (q := 50) hX dJ13_bitCount_95d88_49 rfl rfl rfl ?_
  refine sp_bipush (v := 32) (q := 52) hX dJ13_bitCount_95d88_50 lb_32 rfl ?_
  refine sp_lushr (q := 53) hX dJ13_bitCount_95d88_52 rfl ?_
  refine sp_ladd (q := 54) hX dJ13_bitCount_95d88_53 rfl ?_
  obtain ⟨x11, e12, hf⟩ := sp_pl_some hf
  refine sp_nml e12 ?_
  refine sp_lstore0 (q := 55) hX dJ13_bitCount_95d88_54 rfl rfl ?_
  refine sp_lload_n (i := 0) (q := 56) hX dJ13_bitCount_95d88_55 rfl rfl rfl ?_
  refine sp_l2i (q := 57) hX dJ13_bitCount_95d88_56 rfl ?_
  refine sp_bipush (v := 127) (q := 59) hX dJ13_bitCount_95d88_57 lb_127 rfl ?_
  refine sp_iand (q := 60) hX dJ13_bitCount_95d88_59 rfl ?_
  exact sp_iret hX hR dJ13_bitCount_95d88_60 hf (Nat.le_of_ble_eq_true rfl) (Nat.le_of_ble_eq_true rfl)
set_option maxRecDepth 100000 in
set_option maxHeartbeats 4000000 in
theorem cnJ13_bitCount_95d88 {sh : sp_Sh} {l : Launch} (hst : l.stackTraces = false) {w : sp_Wd} {n : Nat}  {σ : sp_St} {a0 : Int64} {τ : sp_St} {r : Int32}  (hf : J13_bitCount_95d88 n σ a0 = some (τ, r)) : sp_Ci sh l w yJ13_bitCount_95d88 cJ13_bitCount_95d88 2 (some .int) rmJ13_bitCount_95d88 0 0 σ [.long a0] τ r :=
  sp_ci (own := RJ13) (by decide) rfl hst (Nat.le_of_ble_eq_true rfl) rfl (fun X hX hw hl hR => by subst hw; subst hl; exact hJ13_bitCount_95d88 hX hR   hf)
def rmJ1_canEncode_9a6ad : Room := { frames := 0, cells := 0, slots := 0, locals := 0 }
def J1_canEncode_9a6ad_16 (n : Nat) (σ : sp_St) (zs0 : Int32) : Option (sp_St × Int32) :=
  sp_ck (sp_zb zs0) <|
  some (σ, zs0)
def J1_canEncode_9a6ad_15 (n : Nat) (σ : sp_St) : Option (sp_St × Int32) :=
  J1_canEncode_9a6ad_16 n σ ((0 : Int32))
def J1_canEncode_9a6ad (n : Nat)  (σ : sp_St) (a0 : Int32) : Option (sp_St × Int32) :=
  if a0 < 0 then
    J1_canEncode_9a6ad_15 n σ
  else
    if ((255 : Int32)) < a0 then
      J1_canEncode_9a6ad_15 n σ
    else
      J1_canEncode_9a6ad_16 n σ ((1 : Int32))
set_option maxRecDepth 100000 in
set_option maxHeartbeats 4000000 in
theorem hJ1_canEncode_9a6ad_16 {sh : sp_Sh} {X : sp_X} (hX : sp_OK sh X cJ1_canEncode_9a6ad RJ1 1 rmJ1_canEncode_9a6ad) {τ : sp_St} {r : Int32} (hR : sp_Ri sh X (some .boolean) τ r 0 0) {n : Nat}    {σ : sp_St} {zs0 : Int32} (hf : J1_canEncode_9a6ad_16 n σ zs0 = some (τ, r)) : sp_GG sh X σ 1 [none] [.int zs0] 16 0 0 := by
  unfold J1_canEncode_9a6ad_16 at hf
  obtain ⟨h1, hf⟩ := sp_ck_some hf
  exact sp_zret hX hR h1 dJ1_canEncode_9a6ad_16 hf (Nat.le_of_ble_eq_true rfl) (Nat.le_of_ble_eq_true rfl)
set_option maxRecDepth 100000 in
set_option maxHeartbeats 4000000 in
theorem hJ1_canEncode_9a6ad_15 {sh : sp_Sh} {X : sp_X} (hX : sp_OK sh X cJ1_canEncode_9a6ad RJ1 1 rmJ1_canEncode_9a6ad) {τ : sp_St} {r : Int32} (hR : sp_Ri sh X (some .boolean) τ r 0 0) {n : Nat}    {σ : sp_St} (hf : J1_canEncode_9a6ad_15 n σ = some (τ, r)) : sp_GG sh X σ 1 [none] [] 15 0 0 := by
  unfold J1_canEncode_9a6ad_15 at hf
  refine sp_iconst (v := 0) (q := 16) hX dJ1_canEncode_9a6ad_15 li_0 rfl ?_
  exact hJ1_canEncode_9a6ad_16 hX hR hf
set_option maxRecDepth 100000 in
set_option maxHeartbeats 4000000 in
theorem hJ1_canEncode_9a6ad {sh : sp_Sh} {X : sp_X} (hX : sp_OK sh X cJ1_canEncode_9a6ad RJ1 1 rmJ1_canEncode_9a6ad) {τ : sp_St} {r : Int32} (hR : sp_Ri sh X (some .boolean) τ r 0 0) {n : Nat}  {σ : sp_St} {a0 : Int32}  (hf : J1_canEncode_9a6ad n σ a0 = some (τ, r)) : sp_GG sh X σ 1 [some (.int a0)] [] 0 0 0 := by
  unfold J1_canEncode_9a6ad at hf
  refine sp_iload_n (i := 0) (q := 1) hX dJ1_canEncode_9a6ad_0 rfl rfl rfl ?_
  refine sp_if_lt (tgt := 15) (q := 4) hX dJ1_canEncode_9a6ad_1 (by decide) rfl (fun hc => ?_) (fun hc => ?_)
  · rw [if_pos hc] at hf
    refine sp_drop (lv' := [none]) trivial ?_
    exact hJ1_canEncode_9a6ad_15 hX hR hf
  · rw [if_neg hc] at hf
    refine sp_iload_n (i := 0) (q := 5) hX dJ1_canEncode_9a6ad_4 rfl rfl rfl ?_
    refine sp_sipush (v := 255) (q := 8) hX dJ1_canEncode_9a6ad_5 ls_255 rfl ?_
    refine sp_icmp_gt (tgt := 15) (q := 11) hX dJ1_canEncode_9a6ad_8 (by decide) rfl (fun hc => ?_) (fun hc => ?_)
    · rw [if_pos hc] at hf
      refine sp_drop (lv' := [none]) trivial ?_
      exact hJ1_canEncode_9a6ad_15 hX hR hf
    · rw [if_neg hc] at hf
      refine sp_iconst (v := 1) (q := 12) hX dJ1_canEncode_9a6ad_11 li_1 rfl ?_
      refine sp_goto (tgt := 16) hX dJ1_canEncode_9a6ad_12 (by decide) ?_
      refine sp_drop (lv' := [none]) trivial ?_
      exact hJ1_canEncode_9a6ad_16 hX hR hf
set_option maxRecDepth 100000 in
set_option maxHeartbeats 4000000 in
theorem cnJ1_canEncode_9a6ad {sh : sp_Sh} {l : Launch} (hst : l.stackTraces = false) {w : sp_Wd} {n : Nat}  {σ : sp_St} {a0 : Int32} {τ : sp_St} {r : Int32}  (hf : J1_canEncode_9a6ad n σ a0 = some (τ, r)) : sp_Ci sh l w yJ1_canEncode_9a6ad cJ1_canEncode_9a6ad 1 (some .boolean) rmJ1_canEncode_9a6ad 0 0 σ [.int a0] τ r :=
  sp_ci (own := RJ1) (by decide) rfl hst (Nat.le_of_ble_eq_true rfl) rfl (fun X hX hw hl hR => by subst hw; subst hl; exact hJ1_canEncode_9a6ad hX hR   hf)
def rmJ1_charAt_3b067 : Room := { frames := 2, cells := 0, slots := 0, locals := 43 }
def J1_charAt_3b067 (n : Nat)  (σ : sp_St) (s0 : Nat) (a1 : Int32) : Option (sp_St × Int32) :=
  sp_bv (J0_checkIndex_df160 n σ a1 (Int32.ofNat (sp_tl s0))) fun σ2 =>
  sp_ck (sp_in a1 (sp_tl s0)) <|
  sp_ck (sp_cb ((((sp_tb s0 a1) &&& ((255 : Int32))).toUInt32 % 65536).toInt32)) <|
  some (σ2, (((sp_tb s0 a1) &&& ((255 : Int32))).toUInt32 % 65536).toInt32)
set_option maxRecDepth 100000 in
set_option maxHeartbeats 4000000 in
theorem hJ1_charAt_3b067 {sh : sp_Sh} {X : sp_X} (hX : sp_OK sh X cJ1_charAt_3b067 RJ1 2 rmJ1_charAt_3b067) {τ : sp_St} {r : Int32} (hR : sp_Ri sh X (some .char) τ r 0 0) {n : Nat}  {σ : sp_St} {s0 : Nat} {a1 : Int32} (hs0 : s0 < 16) (hf : J1_charAt_3b067 n σ s0 a1 = some (τ, r)) : sp_GG sh X σ 2 [some (.ref ((sx_w X).2.2.1 1 s0)), some (.int a1)] [] 0 0 0 := by
  unfold J1_charAt_3b067 at hf
  refine sp_iload_n (i := 1) (q := 1) hX dJ1_charAt_3b067_0 rfl rfl rfl ?_
  refine sp_aload_n (i := 0) (q := 2) hX dJ1_charAt_3b067_1 rfl rfl rfl ?_
  refine sp_txn (q := 3) hX hs0 dJ1_charAt_3b067_2 rfl ?_
  obtain ⟨σ2, h1, hf⟩ := sp_bv_so hf
  refine sp_callSv (As := [.int a1, .int (Int32.ofNat (sp_tl s0))]) (rest := []) (q := 6) hX (cnJ0_checkIndex_df160 (sp_st hX)  h1) cwJ1_9 rfl rfl rfl rfl (Nat.le_of_ble_eq_true rfl) (Nat.le_of_ble_eq_true rfl) (Nat.le_of_ble_eq_true rfl) (Nat.le_of_ble_eq_true rfl) (Nat.le_of_ble_eq_true rfl) dJ1_charAt_3b067_3 rfl ?_
  refine sp_aload_n (i := 0) (q := 7) hX dJ1_charAt_3b067_6 rfl rfl rfl ?_
  refine sp_iload_n (i := 1) (q := 8) hX dJ1_charAt_3b067_7 rfl rfl rfl ?_
  obtain ⟨h3, hf⟩ := sp_ck_some hf
  refine sp_txb (q := 9) hX hs0 h3 dJ1_charAt_3b067_8 rfl ?_
  refine sp_sipush (v := 255) (q := 12) hX dJ1_charAt_3b067_9 ls_255 rfl ?_
  refine sp_iand (q := 13) hX dJ1_charAt_3b067_12 rfl ?_
  refine sp_i2c (q := 14) hX dJ1_charAt_3b067_13 rfl ?_
  obtain ⟨h4, hf⟩ := sp_ck_some hf
  exact sp_nret hX hR (sp_narc h4) dJ1_charAt_3b067_14 hf (Nat.le_of_ble_eq_true rfl) (Nat.le_of_ble_eq_true rfl)
set_option maxRecDepth 100000 in
set_option maxHeartbeats 4000000 in
theorem cnJ1_charAt_3b067 {sh : sp_Sh} {l : Launch} (hst : l.stackTraces = false) {w : sp_Wd} {n : Nat}  {σ : sp_St} {s0 : Nat} {a1 : Int32} {τ : sp_St} {r : Int32} (hs0 : s0 < 16) (hf : J1_charAt_3b067 n σ s0 a1 = some (τ, r)) : sp_Ci sh l w yJ1_charAt_3b067 cJ1_charAt_3b067 2 (some .char) rmJ1_charAt_3b067 0 0 σ [.ref (w.2.2.1 1 s0), .int a1] τ r :=
  sp_ci (own := RJ1) (by decide) rfl hst (Nat.le_of_ble_eq_true rfl) rfl (fun X hX hw hl hR => by subst hw; subst hl; exact hJ1_charAt_3b067 hX hR  hs0 hf)
def rmJ1_indexOfChar_4cfef : Room := { frames := 0, cells := 0, slots := 0, locals := 0 }
def J1_indexOfChar_4cfef_31 (n : Nat) (s0 : Nat) (σ : sp_St) : Option (sp_St × Int32) :=
  some (σ, (-1 : Int32))
def J1_indexOfChar_4cfef_22 (n : Nat) (s0 : Nat) (σ : sp_St) (z5 : Int32) : Option (sp_St × Int32) :=
  some (σ, z5)
def J1_indexOfChar_4cfef_7 (n : Nat) (s0 : Nat) : Nat → sp_St → Int32 → Int32 → Int32 → Option (sp_St × Int32)
  | 0, _, _, _, _ => none
  | f + 1, σ, z3, z4, z5 =>
    if z3 ≤ z5 then
      J1_indexOfChar_4cfef_31 n s0 σ
    else
      sp_ck (sp_in z5 (sp_tl s0)) <|
      if (sp_tb s0 z5) = z4 then
        J1_indexOfChar_4cfef_22 n s0 σ z5
      else
        sp_pl (z5 + 1) fun x2 =>
        J1_indexOfChar_4cfef_7 n s0 f σ z3 z4 x2
def J1_indexOfChar_4cfef (n : Nat)  (σ : sp_St) (s0 : Nat) (a1 : Int32) (a2 : Int32) (a3 : Int32) : Option (sp_St × Int32) :=
  sp_pl (a1.toInt8.toInt32) fun x1 =>
  J1_indexOfChar_4cfef_7 n s0 n σ a3 x1 a2
set_option maxRecDepth 100000 in
set_option maxHeartbeats 4000000 in
theorem hJ1_indexOfChar_4cfef_31 {sh : sp_Sh} {X : sp_X} (hX : sp_OK sh X cJ1_indexOfChar_4cfef RJ1 6 rmJ1_indexOfChar_4cfef) {τ : sp_St} {r : Int32} (hR : sp_Ri sh X (some .int) τ r 0 0) {n : Nat}  {s0 : Nat} (hs0 : s0 < 16)  {σ : sp_St} (hf : J1_indexOfChar_4cfef_31 n s0 σ = some (τ, r)) : sp_GG sh X σ 6 [none, none, none, none, none, none] [] 31 0 0 := by
  unfold J1_indexOfChar_4cfef_31 at hf
  refine sp_iconst (v := -1) (q := 32) hX dJ1_indexOfChar_4cfef_31 li_m1 rfl ?_
  exact sp_iret hX hR dJ1_indexOfChar_4cfef_32 hf (Nat.le_of_ble_eq_true rfl) (Nat.le_of_ble_eq_true rfl)
set_option maxRecDepth 100000 in
set_option maxHeartbeats 4000000 in
theorem hJ1_indexOfChar_4cfef_22 {sh : sp_Sh} {X : sp_X} (hX : sp_OK sh X cJ1_indexOfChar_4cfef RJ1 6 rmJ1_indexOfChar_4cfef) {τ : sp_St} {r : Int32} (hR : sp_Ri sh X (some .int) τ r 0 0) {n : Nat}  {s0 : Nat} (hs0 : s0 < 16)  {σ : sp_St} {z5 : Int32} (hf : J1_indexOfChar_4cfef_22 n s0 σ z5 = some (τ, r)) : sp_GG sh X σ 6 [none, none, none, none, none, some (.int z5)] [] 22 0 0 := by
  unfold J1_indexOfChar_4cfef_22 at hf
  refine sp_iload (i := 5) (q := 24) hX dJ1_indexOfChar_4cfef_22 rfl rfl ?_
  exact sp_iret hX hR dJ1_indexOfChar_4cfef_24 hf (Nat.le_of_ble_eq_true rfl) (Nat.le_of_ble_eq_true rfl)
set_option maxRecDepth 100000 in
set_option maxHeartbeats 4000000 in
theorem hJ1_indexOfChar_4cfef_7 {sh : sp_Sh} {X : sp_X} (hX : sp_OK sh X cJ1_indexOfChar_4cfef RJ1 6 rmJ1_indexOfChar_4cfef) {τ : sp_St} {r : Int32} (hR : sp_Ri sh X (some .int) τ r 0 0) {n : Nat}  {s0 : Nat} (hs0 : s0 < 16)  : ∀ (f : Nat) (σ : sp_St) (z3 : Int32) (z4 : Int32) (z5 : Int32), J1_indexOfChar_4cfef_7 n s0 f σ z3 z4 z5 = some (τ, r) → sp_GG sh X σ 6 [some (.ref ((sx_w X).2.2.1 1 s0)), none, none, some (.int z3), some (.int z4), some (.int z5)] [] 7 0 0 := by
  intro f
  induction f with
  | zero =>
    intro σ z3 z4 z5 hf
    rw [J1_indexOfChar_4cfef_7] at hf
    cases hf
  | succ f ih =>
    intro σ z3 z4 z5 hf
    rw [J1_indexOfChar_4cfef_7] at hf
    refine sp_iload (i := 5) (q := 9) hX dJ1_indexOfChar_4cfef_7 rfl rfl ?_
    refine sp_iload_n (i := 3) (q := 10) hX dJ1_indexOfChar_4cfef_9 rfl rfl rfl ?_
    refine sp_icmp_ge (tgt := 31) (q := 13) hX dJ1_indexOfChar_4cfef_10 (by decide) rfl (fun hc => ?_) (fun hc => ?_)
    · rw [if_pos hc] at hf
      refine sp_drop (lv' := [none, none, none, none, none, none]) trivial ?_
      exact hJ1_indexOfChar_4cfef_31 hX hR hs0 hf
    · rw [if_neg hc] at hf
      refine sp_aload_n (i := 0) (q := 14) hX dJ1_indexOfChar_4cfef_13 rfl rfl rfl ?_
      refine sp_iload (i := 5) (q := 16) hX dJ1_indexOfChar_4cfef_14 rfl rfl ?_
      obtain ⟨h1, hf⟩ := sp_ck_some hf
      refine sp_txb (q := 17) hX hs0 h1 dJ1_indexOfChar_4cfef_16 rfl ?_
      refine sp_iload (i := 4) (q := 19) hX dJ1_indexOfChar_4cfef_17 rfl rfl ?_
      refine sp_icmp_ne (tgt := 25) (q := 22) hX dJ1_indexOfChar_4cfef_19 (by decide) rfl (fun hc => ?_) (fun hc => ?_)
      · rw [if_neg hc] at hf
        obtain ⟨x2, e3, hf⟩ := sp_pl_some hf
        refine sp_iinc (i := 5) (v := x2) (lv' := [some (.ref ((sx_w X).2.2.1 1 s0)), none, none, some (.int z3), some (.int z4), some (.int x2)]) (q := 28) hX dJ1_indexOfChar_4cfef_25 rfl (by rw [e3, li_1]) (Nat.le_of_ble_eq_true rfl) rfl rfl rfl ?_
        refine sp_goto (tgt := 7) hX dJ1_indexOfChar_4cfef_28 (by decide) ?_
        exact ih σ z3 z4 x2 hf
      · rw [if_pos hc] at hf
        refine sp_drop (lv' := [none, none, none, none, none, some (.int z5)]) (And.intro rfl trivial) ?_
        exact hJ1_indexOfChar_4cfef_22 hX hR hs0 hf
set_option maxRecDepth 100000 in
set_option maxHeartbeats 4000000 in
theorem hJ1_indexOfChar_4cfef {sh : sp_Sh} {X : sp_X} (hX : sp_OK sh X cJ1_indexOfChar_4cfef RJ1 6 rmJ1_indexOfChar_4cfef) {τ : sp_St} {r : Int32} (hR : sp_Ri sh X (some .int) τ r 0 0) {n : Nat}  {σ : sp_St} {s0 : Nat} {a1 : Int32} {a2 : Int32} {a3 : Int32} (hs0 : s0 < 16) (hf : J1_indexOfChar_4cfef n σ s0 a1 a2 a3 = some (τ, r)) : sp_GG sh X σ 6 [some (.ref ((sx_w X).2.2.1 1 s0)), some (.int a1), some (.int a2), some (.int a3), none, none] [] 0 0 0 := by
  unfold J1_indexOfChar_4cfef at hf
  refine sp_iload_n (i := 1) (q := 1) hX dJ1_indexOfChar_4cfef_0 rfl rfl rfl ?_
  refine sp_i2b (q := 2) hX dJ1_indexOfChar_4cfef_1 rfl ?_
  obtain ⟨x1, e2, hf⟩ := sp_pl_some hf
  refine sp_nmi e2 ?_
  refine sp_istore (i := 4) (lv' := [some (.ref ((sx_w X).2.2.1 1 s0)), some (.int a1), some (.int a2), some (.int a3), some (.int x1), none]) (q := 4) hX dJ1_indexOfChar_4cfef_2 (Nat.le_of_ble_eq_true rfl) rfl rfl rfl ?_
  refine sp_iload_n (i := 2) (q := 5) hX dJ1_indexOfChar_4cfef_4 rfl rfl rfl ?_
  refine sp_istore (i := 5) (lv' := [some (.ref ((sx_w X).2.2.1 1 s0)), some (.int a1), some (.int a2), some (.int a3), some (.int x1), some (.int a2)]) (q := 7) hX dJ1_indexOfChar_4cfef_5 (Nat.le_of_ble_eq_true rfl) rfl rfl rfl ?_
  refine sp_drop (lv' := [some (.ref ((sx_w X).2.2.1 1 s0)), none, none, some (.int a3), some (.int x1), some (.int a2)]) (And.intro rfl (And.intro rfl (And.intro rfl (And.intro rfl trivial)))) ?_
  exact hJ1_indexOfChar_4cfef_7 hX hR hs0 n σ a3 x1 a2 hf
set_option maxRecDepth 100000 in
set_option maxHeartbeats 4000000 in
theorem cnJ1_indexOfChar_4cfef {sh : sp_Sh} {l : Launch} (hst : l.stackTraces = false) {w : sp_Wd} {n : Nat}  {σ : sp_St} {s0 : Nat} {a1 : Int32} {a2 : Int32} {a3 : Int32} {τ : sp_St} {r : Int32} (hs0 : s0 < 16) (hf : J1_indexOfChar_4cfef n σ s0 a1 a2 a3 = some (τ, r)) : sp_Ci sh l w yJ1_indexOfChar_4cfef cJ1_indexOfChar_4cfef 6 (some .int) rmJ1_indexOfChar_4cfef 0 0 σ [.ref (w.2.2.1 1 s0), .int a1, .int a2, .int a3] τ r :=
  sp_ci (own := RJ1) (by decide) rfl hst (Nat.le_of_ble_eq_true rfl) rfl (fun X hX hw hl hR => by subst hw; subst hl; exact hJ1_indexOfChar_4cfef hX hR  hs0 hf)
def rmJ0_coder_7d493 : Room := { frames := 0, cells := 0, slots := 0, locals := 0 }
def J0_coder_7d493_14 (n : Nat) (s0 : Nat) (σ : sp_St) (zs0 : Int32) : Option (sp_St × Int32) :=
  sp_ck (sp_zb zs0) <|
  some (σ, zs0)
def J0_coder_7d493 (n : Nat)  (σ : sp_St) (s0 : Nat) : Option (sp_St × Int32) :=
  if ((1 : Int32)) = 0 then
    J0_coder_7d493_14 n s0 σ ((1 : Int32))
  else
    J0_coder_7d493_14 n s0 σ ((0 : Int32))
set_option maxRecDepth 100000 in
set_option maxHeartbeats 4000000 in
theorem hJ0_coder_7d493_14 {sh : sp_Sh} {X : sp_X} (hX : sp_OK sh X cJ0_coder_7d493 RJ0 1 rmJ0_coder_7d493) {τ : sp_St} {r : Int32} (hR : sp_Ri sh X (some .byte) τ r 0 0) {n : Nat}  {s0 : Nat} (hs0 : s0 < 16)  {σ : sp_St} {zs0 : Int32} (hf : J0_coder_7d493_14 n s0 σ zs0 = some (τ, r)) : sp_GG sh X σ 1 [none] [.int zs0] 14 0 0 := by
  unfold J0_coder_7d493_14 at hf
  obtain ⟨h1, hf⟩ := sp_ck_some hf
  exact sp_nret hX hR (sp_narb h1) dJ0_coder_7d493_14 hf (Nat.le_of_ble_eq_true rfl) (Nat.le_of_ble_eq_true rfl)
set_option maxRecDepth 100000 in
set_option maxHeartbeats 4000000 in
theorem hJ0_coder_7d493 {sh : sp_Sh} {X : sp_X} (hX : sp_OK sh X cJ0_coder_7d493 RJ0 1 rmJ0_coder_7d493) {τ : sp_St} {r : Int32} (hR : sp_Ri sh X (some .byte) τ r 0 0) {n : Nat}  {σ : sp_St} {s0 : Nat} (hs0 : s0 < 16) (hf : J0_coder_7d493 n σ s0 = some (τ, r)) : sp_GG sh X σ 1 [some (.ref ((sx_w X).2.2.1 0 s0))] [] 0 0 0 := by
  unfold J0_coder_7d493 at hf
  refine sp_cst (q := 3) hX wd_975 dJ0_coder_7d493_0 rfl ?_
  refine sp_if_eq (tgt := 13) (q := 6) hX dJ0_coder_7d493_3 (by decide) rfl (fun hc => ?_) (fun hc => ?_)
  · rw [if_pos hc] at hf
    refine sp_iconst (v := 1) (q := 14) hX dJ0_coder_7d493_13 li_1 rfl ?_
    refine sp_drop (lv' := [none]) trivial ?_
    exact hJ0_coder_7d493_14 hX hR hs0 hf
  · rw [if_neg hc] at hf
    refine sp_aload_n (i := 0) (q := 7) hX dJ0_coder_7d493_6 rfl rfl rfl ?_
    refine sp_txc (q := 10) hX hs0 wd_2276 dJ0_coder_7d493_7 rfl ?_
    refine sp_goto (tgt := 14) hX dJ0_coder_7d493_10 (by decide) ?_
    refine sp_drop (lv' := [none]) trivial ?_
    exact hJ0_coder_7d493_14 hX hR hs0 hf
set_option maxRecDepth 100000 in
set_option maxHeartbeats 4000000 in
theorem cnJ0_coder_7d493 {sh : sp_Sh} {l : Launch} (hst : l.stackTraces = false) {w : sp_Wd} {n : Nat}  {σ : sp_St} {s0 : Nat} {τ : sp_St} {r : Int32} (hs0 : s0 < 16) (hf : J0_coder_7d493 n σ s0 = some (τ, r)) : sp_Ci sh l w yJ0_coder_7d493 cJ0_coder_7d493 1 (some .byte) rmJ0_coder_7d493 0 0 σ [.ref (w.2.2.1 0 s0)] τ r :=
  sp_ci (own := RJ0) (by decide) rfl hst (Nat.le_of_ble_eq_true rfl) rfl (fun X hX hw hl hR => by subst hw; subst hl; exact hJ0_coder_7d493 hX hR  hs0 hf)
def rmJ0_isLatin1_aae02 : Room := { frames := 0, cells := 0, slots := 0, locals := 0 }
def J0_isLatin1_aae02_18 (n : Nat) (s0 : Nat) (σ : sp_St) (zs0 : Int32) : Option (sp_St × Int32) :=
  sp_ck (sp_zb zs0) <|
  some (σ, zs0)
def J0_isLatin1_aae02_17 (n : Nat) (s0 : Nat) (σ : sp_St) : Option (sp_St × Int32) :=
  J0_isLatin1_aae02_18 n s0 σ ((0 : Int32))
def J0_isLatin1_aae02 (n : Nat)  (σ : sp_St) (s0 : Nat) : Option (sp_St × Int32) :=
  if ((1 : Int32)) = 0 then
    J0_isLatin1_aae02_17 n s0 σ
  else
    if ((0 : Int32)) = 0 then
      J0_isLatin1_aae02_18 n s0 σ ((1 : Int32))
    else
      J0_isLatin1_aae02_17 n s0 σ
set_option maxRecDepth 100000 in
set_option maxHeartbeats 4000000 in
theorem hJ0_isLatin1_aae02_18 {sh : sp_Sh} {X : sp_X} (hX : sp_OK sh X cJ0_isLatin1_aae02 RJ0 1 rmJ0_isLatin1_aae02) {τ : sp_St} {r : Int32} (hR : sp_Ri sh X (some .boolean) τ r 0 0) {n : Nat}  {s0 : Nat} (hs0 : s0 < 16)  {σ : sp_St} {zs0 : Int32} (hf : J0_isLatin1_aae02_18 n s0 σ zs0 = some (τ, r)) : sp_GG sh X σ 1 [none] [.int zs0] 18 0 0 := by
  unfold J0_isLatin1_aae02_18 at hf
  obtain ⟨h1, hf⟩ := sp_ck_some hf
  exact sp_zret hX hR h1 dJ0_isLatin1_aae02_18 hf (Nat.le_of_ble_eq_true rfl) (Nat.le_of_ble_eq_true rfl)
set_option maxRecDepth 100000 in
set_option maxHeartbeats 4000000 in
theorem hJ0_isLatin1_aae02_17 {sh : sp_Sh} {X : sp_X} (hX : sp_OK sh X cJ0_isLatin1_aae02 RJ0 1 rmJ0_isLatin1_aae02) {τ : sp_St} {r : Int32} (hR : sp_Ri sh X (some .boolean) τ r 0 0) {n : Nat}  {s0 : Nat} (hs0 : s0 < 16)  {σ : sp_St} (hf : J0_isLatin1_aae02_17 n s0 σ = some (τ, r)) : sp_GG sh X σ 1 [none] [] 17 0 0 := by
  unfold J0_isLatin1_aae02_17 at hf
  refine sp_iconst (v := 0) (q := 18) hX dJ0_isLatin1_aae02_17 li_0 rfl ?_
  exact hJ0_isLatin1_aae02_18 hX hR hs0 hf
set_option maxRecDepth 100000 in
set_option maxHeartbeats 4000000 in
theorem hJ0_isLatin1_aae02 {sh : sp_Sh} {X : sp_X} (hX : sp_OK sh X cJ0_isLatin1_aae02 RJ0 1 rmJ0_isLatin1_aae02) {τ : sp_St} {r : Int32} (hR : sp_Ri sh X (some .boolean) τ r 0 0) {n : Nat}  {σ : sp_St} {s0 : Nat} (hs0 : s0 < 16) (hf : J0_isLatin1_aae02 n σ s0 = some (τ, r)) : sp_GG sh X σ 1 [some (.ref ((sx_w X).2.2.1 0 s0))] [] 0 0 0 := by
  unfold J0_isLatin1_aae02 at hf
  refine sp_cst (q := 3) hX wd_975 dJ0_isLatin1_aae02_0 rfl ?_
  refine sp_if_eq (tgt := 17) (q := 6) hX dJ0_isLatin1_aae02_3 (by decide) rfl (fun hc => ?_) (fun hc => ?_)
  · rw [if_pos hc] at hf
    refine sp_drop (lv' := [none]) trivial ?_
    exact hJ0_isLatin1_aae02_17 hX hR hs0 hf
  · rw [if_neg hc] at hf
    refine sp_aload_n (i := 0) (q := 7) hX dJ0_isLatin1_aae02_6 rfl rfl rfl ?_
    refine sp_txc (q := 10) hX hs0 wd_2276 dJ0_isLatin1_aae02_7 rfl ?_
    refine sp_if_ne (tgt := 17) (q := 13) hX dJ0_isLatin1_aae02_10 (by decide) rfl (fun hc => ?_) (fun hc => ?_)
    · rw [if_neg hc] at hf
      refine sp_drop (lv' := [none]) trivial ?_
      exact hJ0_isLatin1_aae02_17 hX hR hs0 hf
    · rw [if_pos hc] at hf
      refine sp_iconst (v := 1) (q := 14) hX dJ0_isLatin1_aae02_13 li_1 rfl ?_
      refine sp_goto (tgt := 18) hX dJ0_isLatin1_aae02_14 (by decide) ?_
      refine sp_drop (lv' := [none]) trivial ?_
      exact hJ0_isLatin1_aae02_18 hX hR hs0 hf
set_option maxRecDepth 100000 in
set_option maxHeartbeats 4000000 in
theorem cnJ0_isLatin1_aae02 {sh : sp_Sh} {l : Launch} (hst : l.stackTraces = false) {w : sp_Wd} {n : Nat}  {σ : sp_St} {s0 : Nat} {τ : sp_St} {r : Int32} (hs0 : s0 < 16) (hf : J0_isLatin1_aae02 n σ s0 = some (τ, r)) : sp_Ci sh l w yJ0_isLatin1_aae02 cJ0_isLatin1_aae02 1 (some .boolean) rmJ0_isLatin1_aae02 0 0 σ [.ref (w.2.2.1 0 s0)] τ r :=
  sp_ci (own := RJ0) (by decide) rfl hst (Nat.le_of_ble_eq_true rfl) rfl (fun X hX hw hl hR => by subst hw; subst hl; exact hJ0_isLatin1_aae02 hX hR  hs0 hf)
def rmJ0_length_8abf5 : Room := { frames := 1, cells := 0, slots := 0, locals := 20 }
def J0_length_8abf5 (n : Nat)  (σ : sp_St) (s0 : Nat) : Option (sp_St × Int32) :=
  sp_bd (J0_coder_7d493 n σ s0) fun σ2 v3 =>
  some (σ2, (Int32.ofNat (sp_tl s0)) >>> (v3 &&& 31))
set_option maxRecDepth 100000 in
set_option maxHeartbeats 4000000 in
theorem hJ0_length_8abf5 {sh : sp_Sh} {X : sp_X} (hX : sp_OK sh X cJ0_length_8abf5 RJ0 1 rmJ0_length_8abf5) {τ : sp_St} {r : Int32} (hR : sp_Ri sh X (some .int) τ r 0 0) {n : Nat}  {σ : sp_St} {s0 : Nat} (hs0 : s0 < 16) (hf : J0_length_8abf5 n σ s0 = some (τ, r)) : sp_GG sh X σ 1 [some (.ref ((sx_w X).2.2.1 0 s0))] [] 0 0 0 := by
  unfold J0_length_8abf5 at hf
  refine sp_aload_n (i := 0) (q := 1) hX dJ0_length_8abf5_0 rfl rfl rfl ?_
  refine sp_txv (q := 4) hX hs0 wd_2277 dJ0_length_8abf5_1 rfl ?_
  refine sp_txn (q := 5) hX hs0 dJ0_length_8abf5_4 rfl ?_
  refine sp_aload_n (i := 0) (q := 6) hX dJ0_length_8abf5_5 rfl rfl rfl ?_
  obtain ⟨σ2, v3, h1, hf⟩ := sp_bd_so hf
  refine sp_callTi (As := []) (rest := [.int (Int32.ofNat (sp_tl s0))]) (q := 9) hX (cnJ0_coder_7d493 (sp_st hX) hs0 h1) cwJ0_335 hs0 rfl rfl rfl rfl (Nat.le_of_ble_eq_true rfl) (Nat.le_of_ble_eq_true rfl) (Nat.le_of_ble_eq_true rfl) (Nat.le_of_ble_eq_true rfl) (Nat.le_of_ble_eq_true rfl) dJ0_length_8abf5_6 rfl ?_
  refine sp_ishr (q := 10) hX dJ0_length_8abf5_9 rfl ?_
  exact sp_iret hX hR dJ0_length_8abf5_10 hf (Nat.le_of_ble_eq_true rfl) (Nat.le_of_ble_eq_true rfl)
set_option maxRecDepth 100000 in
set_option maxHeartbeats 4000000 in
theorem cnJ0_length_8abf5 {sh : sp_Sh} {l : Launch} (hst : l.stackTraces = false) {w : sp_Wd} {n : Nat}  {σ : sp_St} {s0 : Nat} {τ : sp_St} {r : Int32} (hs0 : s0 < 16) (hf : J0_length_8abf5 n σ s0 = some (τ, r)) : sp_Ci sh l w yJ0_length_8abf5 cJ0_length_8abf5 1 (some .int) rmJ0_length_8abf5 0 0 σ [.ref (w.2.2.1 0 s0)] τ r :=
  sp_ci (own := RJ0) (by decide) rfl hst (Nat.le_of_ble_eq_true rfl) rfl (fun X hX hw hl hR => by subst hw; subst hl; exact hJ0_length_8abf5 hX hR  hs0 hf)
def rmJ1_indexOf_4cfef : Room := { frames := 1, cells := 0, slots := 0, locals := 25 }
def J1_indexOf_4cfef (n : Nat)  (σ : sp_St) (s0 : Nat) (a1 : Int32) (a2 : Int32) (a3 : Int32) : Option (sp_St × Int32) :=
  sp_bd (J1_canEncode_9a6ad n σ a1) fun σ2 v3 =>
  if v3 = 0 then
    some (σ2, (-1 : Int32))
  else
    sp_pl (sp_max a2 ((0 : Int32))) fun v4 =>
    sp_pl (sp_min a3 (Int32.ofNat (sp_tl s0))) fun v6 =>
    if v4 < v6 then
      sp_bd (J1_indexOfChar_4cfef n σ2 s0 a1 v4 v6) fun σ9 v10 =>
      some (σ9, v10)
    else
      some (σ2, (-1 : Int32))
set_option maxRecDepth 100000 in
set_option maxHeartbeats 4000000 in
theorem hJ1_indexOf_4cfef {sh : sp_Sh} {X : sp_X} (hX : sp_OK sh X cJ1_indexOf_4cfef RJ1 4 rmJ1_indexOf_4cfef) {τ : sp_St} {r : Int32} (hR : sp_Ri sh X (some .int) τ r 0 0) {n : Nat}  {σ : sp_St} {s0 : Nat} {a1 : Int32} {a2 : Int32} {a3 : Int32} (hs0 : s0 < 16) (hf : J1_indexOf_4cfef n σ s0 a1 a2 a3 = some (τ, r)) : sp_GG sh X σ 4 [some (.ref ((sx_w X).2.2.1 1 s0)), some (.int a1), some (.int a2), some (.int a3)] [] 0 0 0 := by
  unfold J1_indexOf_4cfef at hf
  refine sp_iload_n (i := 1) (q := 1) hX dJ1_indexOf_4cfef_0 rfl rfl rfl ?_
  obtain ⟨σ2, v3, h1, hf⟩ := sp_bd_so hf
  refine sp_callSi (As := [.int a1]) (rest := []) (q := 4) hX (cnJ1_canEncode_9a6ad (sp_st hX)  h1) cwJ1_88 rfl rfl rfl rfl (Nat.le_of_ble_eq_true rfl) (Nat.le_of_ble_eq_true rfl) (Nat.le_of_ble_eq_true rfl) (Nat.le_of_ble_eq_true rfl) (Nat.le_of_ble_eq_true rfl) dJ1_indexOf_4cfef_1 rfl ?_
  refine sp_if_ne (tgt := 9) (q := 7) hX dJ1_indexOf_4cfef_4 (by decide) rfl (fun hc => ?_) (fun hc => ?_)
  · rw [if_neg hc] at hf
    refine sp_iload_n (i := 2) (q := 10) hX dJ1_indexOf_4cfef_9 rfl rfl rfl ?_
    refine sp_iconst (v := 0) (q := 11) hX dJ1_indexOf_4cfef_10 li_0 rfl ?_
    obtain ⟨v4, e5, hf⟩ := sp_pl_some hf
    refine sp_mmax (q := 14) hX wd_991 wd_656 wd_144 wd_657 (Nat.le_of_ble_eq_true rfl) (Nat.le_of_ble_eq_true rfl) (Nat.le_of_ble_eq_true rfl) (Nat.le_of_ble_eq_true rfl) dJ1_indexOf_4cfef_11 rfl ?_
    refine sp_nmi e5 ?_
    refine sp_istore_n (i := 2) (lv' := [some (.ref ((sx_w X).2.2.1 1 s0)), some (.int a1), some (.int v4), some (.int a3)]) (q := 15) hX dJ1_indexOf_4cfef_14 rfl (Nat.le_of_ble_eq_true rfl) rfl rfl rfl ?_
    refine sp_iload_n (i := 3) (q := 16) hX dJ1_indexOf_4cfef_15 rfl rfl rfl ?_
    refine sp_aload_n (i := 0) (q := 17) hX dJ1_indexOf_4cfef_16 rfl rfl rfl ?_
    refine sp_txn (q := 18) hX hs0 dJ1_indexOf_4cfef_17 rfl ?_
    obtain ⟨v6, e7, hf⟩ := sp_pl_some hf
    refine sp_mmin (q := 21) hX wd_992 wd_607 wd_144 wd_608 (Nat.le_of_ble_eq_true rfl) (Nat.le_of_ble_eq_true rfl) (Nat.le_of_ble_eq_true rfl) (Nat.le_of_ble_eq_true rfl) dJ1_indexOf_4cfef_18 rfl ?_
    refine sp_nmi e7 ?_
    refine sp_istore_n (i := 3) (lv' := [some (.ref ((sx_w X).2.2.1 1 s0)), some (.int a1), some (.int v4), some (.int v6)]) (q := 22) hX dJ1_indexOf_4cfef_21 rfl (Nat.le_of_ble_eq_true rfl) rfl rfl rfl ?_
    refine sp_iload_n (i := 2) (q := 23) hX dJ1_indexOf_4cfef_22 rfl rfl rfl ?_
    refine sp_iload_n (i := 3) (q := 24) hX dJ1_indexOf_4cfef_23 rfl rfl rfl ?_
    refine sp_icmp_lt (tgt := 29) (q := 27) hX dJ1_indexOf_4cfef_24 (by decide) rfl (fun hc => ?_) (fun hc => ?_)
    · rw [if_pos hc] at hf
      refine sp_aload_n (i := 0) (q := 30) hX dJ1_indexOf_4cfef_29 rfl rfl rfl ?_
      refine sp_iload_n (i := 1) (q := 31) hX dJ1_indexOf_4cfef_30 rfl rfl rfl ?_
      refine sp_iload_n (i := 2) (q := 32) hX dJ1_indexOf_4cfef_31 rfl rfl rfl ?_
      refine sp_iload_n (i := 3) (q := 33) hX dJ1_indexOf_4cfef_32 rfl rfl rfl ?_
      obtain ⟨σ9, v10, h8, hf⟩ := sp_bd_so hf
      refine sp_callSi (As := [.ref ((sx_w X).2.2.1 1 s0), .int a1, .int v4, .int v6]) (rest := []) (q := 36) hX (cnJ1_indexOfChar_4cfef (sp_st hX) hs0 h8) cwJ1_95 rfl rfl rfl rfl (Nat.le_of_ble_eq_true rfl) (Nat.le_of_ble_eq_true rfl) (Nat.le_of_ble_eq_true rfl) (Nat.le_of_ble_eq_true rfl) (Nat.le_of_ble_eq_true rfl) dJ1_indexOf_4cfef_33 rfl ?_
      exact sp_iret hX hR dJ1_indexOf_4cfef_36 hf (Nat.le_of_ble_eq_true rfl) (Nat.le_of_ble_eq_true rfl)
    · rw [if_neg hc] at hf
      refine sp_iconst (v := -1) (q := 28) hX dJ1_indexOf_4cfef_27 li_m1 rfl ?_
      exact sp_iret hX hR dJ1_indexOf_4cfef_28 hf (Nat.le_of_ble_eq_true rfl) (Nat.le_of_ble_eq_true rfl)
  · rw [if_pos hc] at hf
    refine sp_iconst (v := -1) (q := 8) hX dJ1_indexOf_4cfef_7 li_m1 rfl ?_
    exact sp_iret hX hR dJ1_indexOf_4cfef_8 hf (Nat.le_of_ble_eq_true rfl) (Nat.le_of_ble_eq_true rfl)
set_option maxRecDepth 100000 in
set_option maxHeartbeats 4000000 in
theorem cnJ1_indexOf_4cfef {sh : sp_Sh} {l : Launch} (hst : l.stackTraces = false) {w : sp_Wd} {n : Nat}  {σ : sp_St} {s0 : Nat} {a1 : Int32} {a2 : Int32} {a3 : Int32} {τ : sp_St} {r : Int32} (hs0 : s0 < 16) (hf : J1_indexOf_4cfef n σ s0 a1 a2 a3 = some (τ, r)) : sp_Ci sh l w yJ1_indexOf_4cfef cJ1_indexOf_4cfef 4 (some .int) rmJ1_indexOf_4cfef 0 0 σ [.ref (w.2.2.1 1 s0), .int a1, .int a2, .int a3] τ r :=
  sp_ci (own := RJ1) (by decide) rfl hst (Nat.le_of_ble_eq_true rfl) rfl (fun X hX hw hl hR => by subst hw; subst hl; exact hJ1_indexOf_4cfef hX hR  hs0 hf)
def rmJ0_charAt_5068e : Room := { frames := 3, cells := 0, slots := 0, locals := 64 }
def J0_charAt_5068e (n : Nat)  (σ : sp_St) (s0 : Nat) (a1 : Int32) : Option (sp_St × Int32) :=
  sp_bd (J0_isLatin1_aae02 n σ s0) fun σ2 v3 =>
  if v3 = 0 then
    none
  else
    sp_bd (J1_charAt_3b067 n σ2 s0 a1) fun σ5 v6 =>
    sp_ck (sp_cb v6) <|
    some (σ5, v6)
set_option maxRecDepth 100000 in
set_option maxHeartbeats 4000000 in
theorem hJ0_charAt_5068e {sh : sp_Sh} {X : sp_X} (hX : sp_OK sh X cJ0_charAt_5068e RJ0 2 rmJ0_charAt_5068e) {τ : sp_St} {r : Int32} (hR : sp_Ri sh X (some .char) τ r 0 0) {n : Nat}  {σ : sp_St} {s0 : Nat} {a1 : Int32} (hs0 : s0 < 16) (hf : J0_charAt_5068e n σ s0 a1 = some (τ, r)) : sp_GG sh X σ 2 [some (.ref ((sx_w X).2.2.1 0 s0)), some (.int a1)] [] 0 0 0 := by
  unfold J0_charAt_5068e at hf
  refine sp_aload_n (i := 0) (q := 1) hX dJ0_charAt_5068e_0 rfl rfl rfl ?_
  obtain ⟨σ2, v3, h1, hf⟩ := sp_bd_so hf
  refine sp_callTi (As := []) (rest := []) (q := 4) hX (cnJ0_isLatin1_aae02 (sp_st hX) hs0 h1) cwJ0_492 hs0 rfl rfl rfl rfl (Nat.le_of_ble_eq_true rfl) (Nat.le_of_ble_eq_true rfl) (Nat.le_of_ble_eq_true rfl) (Nat.le_of_ble_eq_true rfl) (Nat.le_of_ble_eq_true rfl) dJ0_charAt_5068e_1 rfl ?_
  refine sp_if_eq (tgt := 16) (q := 7) hX dJ0_charAt_5068e_4 (by decide) rfl (fun hc => ?_) (fun hc => ?_)
  · rw [if_pos hc] at hf
    refine sp_aload_n (i := 0) (q := 17) hX dJ0_charAt_5068e_16 rfl rfl rfl ?_
    refine sp_txv (q := 20) hX hs0 wd_2277 dJ0_charAt_5068e_17 rfl ?_
    refine sp_iload_n (i := 1) (q := 21) hX dJ0_charAt_5068e_20 rfl rfl rfl ?_
    cases hf
  · rw [if_neg hc] at hf
    refine sp_aload_n (i := 0) (q := 8) hX dJ0_charAt_5068e_7 rfl rfl rfl ?_
    refine sp_txv (q := 11) hX hs0 wd_2277 dJ0_charAt_5068e_8 rfl ?_
    refine sp_iload_n (i := 1) (q := 12) hX dJ0_charAt_5068e_11 rfl rfl rfl ?_
    obtain ⟨σ5, v6, h4, hf⟩ := sp_bd_so hf
    refine sp_callSi (As := [.ref ((sx_w X).2.2.1 1 s0), .int a1]) (rest := []) (q := 15) hX (cnJ1_charAt_3b067 (sp_st hX) hs0 h4) cwJ0_495 rfl rfl rfl rfl (Nat.le_of_ble_eq_true rfl) (Nat.le_of_ble_eq_true rfl) (Nat.le_of_ble_eq_true rfl) (Nat.le_of_ble_eq_true rfl) (Nat.le_of_ble_eq_true rfl) dJ0_charAt_5068e_12 rfl ?_
    obtain ⟨h7, hf⟩ := sp_ck_some hf
    exact sp_nret hX hR (sp_narc h7) dJ0_charAt_5068e_15 hf (Nat.le_of_ble_eq_true rfl) (Nat.le_of_ble_eq_true rfl)
set_option maxRecDepth 100000 in
set_option maxHeartbeats 4000000 in
theorem cnJ0_charAt_5068e {sh : sp_Sh} {l : Launch} (hst : l.stackTraces = false) {w : sp_Wd} {n : Nat}  {σ : sp_St} {s0 : Nat} {a1 : Int32} {τ : sp_St} {r : Int32} (hs0 : s0 < 16) (hf : J0_charAt_5068e n σ s0 a1 = some (τ, r)) : sp_Ci sh l w yJ0_charAt_5068e cJ0_charAt_5068e 2 (some .char) rmJ0_charAt_5068e 0 0 σ [.ref (w.2.2.1 0 s0), .int a1] τ r :=
  sp_ci (own := RJ0) (by decide) rfl hst (Nat.le_of_ble_eq_true rfl) rfl (fun X hX hw hl hR => by subst hw; subst hl; exact hJ0_charAt_5068e hX hR  hs0 hf)
def rmJ0_indexOf_7cf53 : Room := { frames := 2, cells := 0, slots := 0, locals := 48 }
def J0_indexOf_7cf53_36 (n : Nat) (s0 : Nat) (σ : sp_St) (zs0 : Int32) : Option (sp_St × Int32) :=
  some (σ, zs0)
def J0_indexOf_7cf53 (n : Nat)  (σ : sp_St) (s0 : Nat) (a1 : Int32) (a2 : Int32) : Option (sp_St × Int32) :=
  sp_bd (J0_isLatin1_aae02 n σ s0) fun σ2 v3 =>
  if v3 = 0 then
    sp_bd (J0_length_8abf5 n σ2 s0) fun σ5 v6 =>
    none
  else
    sp_bd (J0_length_8abf5 n σ2 s0) fun σ8 v9 =>
    sp_bd (J1_indexOf_4cfef n σ8 s0 a1 a2 v9) fun σ11 v12 =>
    J0_indexOf_7cf53_36 n s0 σ11 v12
set_option maxRecDepth 100000 in
set_option maxHeartbeats 4000000 in
theorem hJ0_indexOf_7cf53_36 {sh : sp_Sh} {X : sp_X} (hX : sp_OK sh X cJ0_indexOf_7cf53 RJ0 3 rmJ0_indexOf_7cf53) {τ : sp_St} {r : Int32} (hR : sp_Ri sh X (some .int) τ r 0 0) {n : Nat}  {s0 : Nat} (hs0 : s0 < 16)  {σ : sp_St} {zs0 : Int32} (hf : J0_indexOf_7cf53_36 n s0 σ zs0 = some (τ, r)) : sp_GG sh X σ 3 [none, none, none] [.int zs0] 36 0 0 := by
  unfold J0_indexOf_7cf53_36 at hf
  exact sp_iret hX hR dJ0_indexOf_7cf53_36 hf (Nat.le_of_ble_eq_true rfl) (Nat.le_of_ble_eq_true rfl)
set_option maxRecDepth 100000 in
set_option maxHeartbeats 4000000 in
theorem hJ0_indexOf_7cf53 {sh : sp_Sh} {X : sp_X} (hX : sp_OK sh X cJ0_indexOf_7cf53 RJ0 3 rmJ0_indexOf_7cf53) {τ : sp_St} {r : Int32} (hR : sp_Ri sh X (some .int) τ r 0 0) {n : Nat}  {σ : sp_St} {s0 : Nat} {a1 : Int32} {a2 : Int32} (hs0 : s0 < 16) (hf : J0_indexOf_7cf53 n σ s0 a1 a2 = some (τ, r)) : sp_GG sh X σ 3 [some (.ref ((sx_w X).2.2.1 0 s0)), some (.int a1), some (.int a2)] [] 0 0 0 := by
  unfold J0_indexOf_7cf53 at hf
  refine sp_aload_n (i := 0) (q := 1) hX dJ0_indexOf_7cf53_0 rfl rfl rfl ?_
  obtain ⟨σ2, v3, h1, hf⟩ := sp_bd_so hf
  refine sp_callTi (As := []) (rest := []) (q := 4) hX (cnJ0_isLatin1_aae02 (sp_st hX) hs0 h1) cwJ0_492 hs0 rfl rfl rfl rfl (Nat.le_of_ble_eq_true rfl) (Nat.le_of_ble_eq_true rfl) (Nat.le_of_ble_eq_true rfl) (Nat.le_of_ble_eq_true rfl) (Nat.le_of_ble_eq_true rfl) dJ0_indexOf_7cf53_1 rfl ?_
  refine sp_if_eq (tgt := 23) (q := 7) hX dJ0_indexOf_7cf53_4 (by decide) rfl (fun hc => ?_) (fun hc => ?_)
  · rw [if_pos hc] at hf
    refine sp_aload_n (i := 0) (q := 24) hX dJ0_indexOf_7cf53_23 rfl rfl rfl ?_
    refine sp_txv (q := 27) hX hs0 wd_2277 dJ0_indexOf_7cf53_24 rfl ?_
    refine sp_iload_n (i := 1) (q := 28) hX dJ0_indexOf_7cf53_27 rfl rfl rfl ?_
    refine sp_iload_n (i := 2) (q := 29) hX dJ0_indexOf_7cf53_28 rfl rfl rfl ?_
    refine sp_aload_n (i := 0) (q := 30) hX dJ0_indexOf_7cf53_29 rfl rfl rfl ?_
    obtain ⟨σ5, v6, h4, hf⟩ := sp_bd_so hf
    refine sp_callTi (As := []) (rest := [.int a2, .int a1, .ref ((sx_w X).2.2.1 1 s0)]) (q := 33) hX (cnJ0_length_8abf5 (sp_st hX) hs0 h4) cwJ0_505 hs0 rfl rfl rfl rfl (Nat.le_of_ble_eq_true rfl) (Nat.le_of_ble_eq_true rfl) (Nat.le_of_ble_eq_true rfl) (Nat.le_of_ble_eq_true rfl) (Nat.le_of_ble_eq_true rfl) dJ0_indexOf_7cf53_30 rfl ?_
    cases hf
  · rw [if_neg hc] at hf
    refine sp_aload_n (i := 0) (q := 8) hX dJ0_indexOf_7cf53_7 rfl rfl rfl ?_
    refine sp_txv (q := 11) hX hs0 wd_2277 dJ0_indexOf_7cf53_8 rfl ?_
    refine sp_iload_n (i := 1) (q := 12) hX dJ0_indexOf_7cf53_11 rfl rfl rfl ?_
    refine sp_iload_n (i := 2) (q := 13) hX dJ0_indexOf_7cf53_12 rfl rfl rfl ?_
    refine sp_aload_n (i := 0) (q := 14) hX dJ0_indexOf_7cf53_13 rfl rfl rfl ?_
    obtain ⟨σ8, v9, h7, hf⟩ := sp_bd_so hf
    refine sp_callTi (As := []) (rest := [.int a2, .int a1, .ref ((sx_w X).2.2.1 1 s0)]) (q := 17) hX (cnJ0_length_8abf5 (sp_st hX) hs0 h7) cwJ0_505 hs0 rfl rfl rfl rfl (Nat.le_of_ble_eq_true rfl) (Nat.le_of_ble_eq_true rfl) (Nat.le_of_ble_eq_true rfl) (Nat.le_of_ble_eq_true rfl) (Nat.le_of_ble_eq_true rfl) dJ0_indexOf_7cf53_14 rfl ?_
    obtain ⟨σ11, v12, h10, hf⟩ := sp_bd_so hf
    refine sp_callSi (As := [.ref ((sx_w X).2.2.1 1 s0), .int a1, .int a2, .int v9]) (rest := []) (q := 20) hX (cnJ1_indexOf_4cfef (sp_st hX) hs0 h10) cwJ0_637 rfl rfl rfl rfl (Nat.le_of_ble_eq_true rfl) (Nat.le_of_ble_eq_true rfl) (Nat.le_of_ble_eq_true rfl) (Nat.le_of_ble_eq_true rfl) (Nat.le_of_ble_eq_true rfl) dJ0_indexOf_7cf53_17 rfl ?_
    refine sp_goto (tgt := 36) hX dJ0_indexOf_7cf53_20 (by decide) ?_
    refine sp_drop (lv' := [none, none, none]) trivial ?_
    exact hJ0_indexOf_7cf53_36 hX hR hs0 hf
set_option maxRecDepth 100000 in
set_option maxHeartbeats 4000000 in
theorem cnJ0_indexOf_7cf53 {sh : sp_Sh} {l : Launch} (hst : l.stackTraces = false) {w : sp_Wd} {n : Nat}  {σ : sp_St} {s0 : Nat} {a1 : Int32} {a2 : Int32} {τ : sp_St} {r : Int32} (hs0 : s0 < 16) (hf : J0_indexOf_7cf53 n σ s0 a1 a2 = some (τ, r)) : sp_Ci sh l w yJ0_indexOf_7cf53 cJ0_indexOf_7cf53 3 (some .int) rmJ0_indexOf_7cf53 0 0 σ [.ref (w.2.2.1 0 s0), .int a1, .int a2] τ r :=
  sp_ci (own := RJ0) (by decide) rfl hst (Nat.le_of_ble_eq_true rfl) rfl (fun X hX hw hl hR => by subst hw; subst hl; exact hJ0_indexOf_7cf53 hX hR  hs0 hf)
def rmJ0_indexOf_0f7a4 : Room := { frames := 3, cells := 0, slots := 0, locals := 70 }
def J0_indexOf_0f7a4 (n : Nat)  (σ : sp_St) (s0 : Nat) (a1 : Int32) : Option (sp_St × Int32) :=
  sp_bd (J0_indexOf_7cf53 n σ s0 a1 ((0 : Int32))) fun σ2 v3 =>
  some (σ2, v3)
set_option maxRecDepth 100000 in
set_option maxHeartbeats 4000000 in
theorem hJ0_indexOf_0f7a4 {sh : sp_Sh} {X : sp_X} (hX : sp_OK sh X cJ0_indexOf_0f7a4 RJ0 2 rmJ0_indexOf_0f7a4) {τ : sp_St} {r : Int32} (hR : sp_Ri sh X (some .int) τ r 0 0) {n : Nat}  {σ : sp_St} {s0 : Nat} {a1 : Int32} (hs0 : s0 < 16) (hf : J0_indexOf_0f7a4 n σ s0 a1 = some (τ, r)) : sp_GG sh X σ 2 [some (.ref ((sx_w X).2.2.1 0 s0)), some (.int a1)] [] 0 0 0 := by
  unfold J0_indexOf_0f7a4 at hf
  refine sp_aload_n (i := 0) (q := 1) hX dJ0_indexOf_0f7a4_0 rfl rfl rfl ?_
  refine sp_iload_n (i := 1) (q := 2) hX dJ0_indexOf_0f7a4_1 rfl rfl rfl ?_
  refine sp_iconst (v := 0) (q := 3) hX dJ0_indexOf_0f7a4_2 li_0 rfl ?_
  obtain ⟨σ2, v3, h1, hf⟩ := sp_bd_so hf
  refine sp_callTi (As := [.int a1, .int ((0 : Int32))]) (rest := []) (q := 6) hX (cnJ0_indexOf_7cf53 (sp_st hX) hs0 h1) cwJ0_633 hs0 rfl rfl rfl rfl (Nat.le_of_ble_eq_true rfl) (Nat.le_of_ble_eq_true rfl) (Nat.le_of_ble_eq_true rfl) (Nat.le_of_ble_eq_true rfl) (Nat.le_of_ble_eq_true rfl) dJ0_indexOf_0f7a4_3 rfl ?_
  exact sp_iret hX hR dJ0_indexOf_0f7a4_6 hf (Nat.le_of_ble_eq_true rfl) (Nat.le_of_ble_eq_true rfl)
set_option maxRecDepth 100000 in
set_option maxHeartbeats 4000000 in
theorem cnJ0_indexOf_0f7a4 {sh : sp_Sh} {l : Launch} (hst : l.stackTraces = false) {w : sp_Wd} {n : Nat}  {σ : sp_St} {s0 : Nat} {a1 : Int32} {τ : sp_St} {r : Int32} (hs0 : s0 < 16) (hf : J0_indexOf_0f7a4 n σ s0 a1 = some (τ, r)) : sp_Ci sh l w yJ0_indexOf_0f7a4 cJ0_indexOf_0f7a4 2 (some .int) rmJ0_indexOf_0f7a4 0 0 σ [.ref (w.2.2.1 0 s0), .int a1] τ r :=
  sp_ci (own := RJ0) (by decide) rfl hst (Nat.le_of_ble_eq_true rfl) rfl (fun X hX hw hl hR => by subst hw; subst hl; exact hJ0_indexOf_0f7a4 hX hR  hs0 hf)
