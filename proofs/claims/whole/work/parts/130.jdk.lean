def rmJ6_bitCount_0f7a4 : Room := { frames := 0, cells := 0, slots := 0, locals := 0 }
def J6_bitCount_0f7a4 (n : Nat)  (σ : sp_St) (a0 : Int32) : Option (sp_St × Int32) :=
  sp_pl (a0 - (((a0.toUInt32 >>> (((1 : Int32)).toUInt32 &&& Int32.toUInt32 31)).toInt32) &&& ((1431655765 : Int32)))) fun x1 =>
  sp_pl ((x1 &&& ((858993459 : Int32))) + (((x1.toUInt32 >>> (((2 : Int32)).toUInt32 &&& Int32.toUInt32 31)).toInt32) &&& ((858993459 : Int32)))) fun x3 =>
  sp_pl ((x3 + ((x3.toUInt32 >>> (((4 : Int32)).toUInt32 &&& Int32.toUInt32 31)).toInt32)) &&& ((252645135 : Int32))) fun x5 =>
  sp_pl (x5 + ((x5.toUInt32 >>> (((8 : Int32)).toUInt32 &&& Int32.toUInt32 31)).toInt32)) fun x7 =>
  sp_pl (x7 + ((x7.toUInt32 >>> (((16 : Int32)).toUInt32 &&& Int32.toUInt32 31)).toInt32)) fun x9 =>
  some (σ, x9 &&& ((63 : Int32)))
set_option maxRecDepth 100000 in
set_option maxHeartbeats 4000000 in
theorem hJ6_bitCount_0f7a4 {X : sp_X} (hX : sp_OK shX X cJ6_bitCount_0f7a4 RJ6 1 rmJ6_bitCount_0f7a4) {τ : sp_St} {r : Int32} (hR : sp_Ri shX X (some .int) τ r 0 0) {n : Nat}  {σ : sp_St} {a0 : Int32}  (hf : J6_bitCount_0f7a4 n σ a0 = some (τ, r)) : sp_GG shX X σ 1 [some (.int a0)] [] 0 0 0 := by
  unfold J6_bitCount_0f7a4 at hf
  refine sp_iload_n (i := 0) (q := 1) hX dJ6_bitCount_0f7a4_0 rfl rfl rfl ?_
  refine sp_iload_n (i := 0) (q := 2) hX dJ6_bitCount_0f7a4_1 rfl rfl rfl ?_
  refine sp_iconst (v := 1) (q := 3) hX dJ6_bitCount_0f7a4_2 li_1 rfl ?_
  refine sp_iushr (q := 4) hX dJ6_bitCount_0f7a4_3 rfl ?_
  refine sp_ldcw (v := 1431655765) (q := 7) hX wd_636 dJ6_bitCount_0f7a4_4 rfl ?_
  refine sp_iand (q := 8) hX dJ6_bitCount_0f7a4_7 rfl ?_
  refine sp_isub (q := 9) hX dJ6_bitCount_0f7a4_8 rfl ?_
  obtain ⟨x1, e2, hf⟩ := sp_pl_some hf
  refine sp_nmi e2 ?_
  refine sp_istore_n (i := 0) (lv' := [some (.int x1)]) (q := 10) hX dJ6_bitCount_0f7a4_9 rfl (Nat.le_of_ble_eq_true rfl) rfl rfl rfl ?_
  refine sp_iload_n (i := 0) (q := 11) hX dJ6_bitCount_0f7a4_10 rfl rfl rfl ?_
  refine sp_ldcw (v := 858993459) (q := 14) hX wd_637 dJ6_bitCount_0f7a4_11 rfl ?_
  refine sp_iand (q := 15) hX dJ6_bitCount_0f7a4_14 rfl ?_
  refine sp_iload_n (i := 0) (q := 16) hX dJ6_bitCount_0f7a4_15 rfl rfl rfl ?_
  refine sp_iconst (v := 2) (q := 17) hX dJ6_bitCount_0f7a4_16 li_2 rfl ?_
  refine sp_iushr (q := 18) hX dJ6_bitCount_0f7a4_17 rfl ?_
  refine sp_ldcw (v := 858993459) (q := 21) hX wd_637 dJ6_bitCount_0f7a4_18 rfl ?_
  refine sp_iand (q := 22) hX dJ6_bitCount_0f7a4_21 rfl ?_
  refine sp_iadd (q := 23) hX dJ6_bitCount_0f7a4_22 rfl ?_
  obtain ⟨x3, e4, hf⟩ := sp_pl_some hf
  refine sp_nmi e4 ?_
  refine sp_istore_n (i := 0) (lv' := [some (.int x3)]) (q := 24) hX dJ6_bitCount_0f7a4_23 rfl (Nat.le_of_ble_eq_true rfl) rfl rfl rfl ?_
  refine sp_iload_n (i := 0) (q := 25) hX dJ6_bitCount_0f7a4_24 rfl rfl rfl ?_
  refine sp_iload_n (i := 0) (q := 26) hX dJ6_bitCount_0f7a4_25 rfl rfl rfl ?_
  refine sp_iconst (v := 4) (q := 27) hX dJ6_bitCount_0f7a4_26 li_4 rfl ?_
  refine sp_iushr (q := 28) hX dJ6_bitCount_0f7a4_27 rfl ?_
  refine sp_iadd (q := 29) hX dJ6_bitCount_0f7a4_28 rfl ?_
  refine sp_ldcw (v := 252645135) (q := 32) hX wd_638 dJ6_bitCount_0f7a4_29 rfl ?_
  refine sp_iand (q := 33) hX dJ6_bitCount_0f7a4_32 rfl ?_
  obtain ⟨x5, e6, hf⟩ := sp_pl_some hf
  refine sp_nmi e6 ?_
  refine sp_istore_n (i := 0) (lv' := [some (.int x5)]) (q := 34) hX dJ6_bitCount_0f7a4_33 rfl (Nat.le_of_ble_eq_true rfl) rfl rfl rfl ?_
  refine sp_iload_n (i := 0) (q := 35) hX dJ6_bitCount_0f7a4_34 rfl rfl rfl ?_
  refine sp_iload_n (i := 0) (q := 36) hX dJ6_bitCount_0f7a4_35 rfl rfl rfl ?_
  refine sp_bipush (v := 8) (q := 38) hX dJ6_bitCount_0f7a4_36 lb_8 rfl ?_
  refine sp_iushr (q := 39) hX dJ6_bitCount_0f7a4_38 rfl ?_
  refine sp_iadd (q := 40) hX dJ6_bitCount_0f7a4_39 rfl ?_
  obtain ⟨x7, e8, hf⟩ := sp_pl_some hf
  refine sp_nmi e8 ?_
  refine sp_istore_n (i := 0) (lv' := [some (.int x7)]) (q := 41) hX dJ6_bitCount_0f7a4_40 rfl (Nat.le_of_ble_eq_true rfl) rfl rfl rfl ?_
  refine sp_iload_n (i := 0) (q := 42) hX dJ6_bitCount_0f7a4_41 rfl rfl rfl ?_
  refine sp_iload_n (i := 0) (q := 43) hX dJ6_bitCount_0f7a4_42 rfl rfl rfl ?_
  refine sp_bipush (v := 16) (q := 45) hX dJ6_bitCount_0f7a4_43 lb_16 rfl ?_
  refine sp_iushr (q := 46) hX dJ6_bitCount_0f7a4_45 rfl ?_
  refine sp_iadd (q := 47) hX dJ6_bitCount_0f7a4_46 rfl ?_
  obtain ⟨x9, e10, hf⟩ := sp_pl_some hf
  refine sp_nmi e10 ?_
  refine sp_istore_n (i := 0) (lv' := [some (.int x9)]) (q := 48) hX dJ6_bitCount_0f7a4_47 rfl (Nat.le_of_ble_eq_true rfl) rfl rfl rfl ?_
  refine sp_iload_n (i := 0) (q := 49) hX dJ6_bitCount_0f7a4_48 rfl rfl rfl ?_
  refine sp_bipush (v := 63) (q := 51) hX dJ6_bitCount_0f7a4_49 lb_63 rfl ?_
  refine sp_iand (q := 52) hX dJ6_bitCount_0f7a4_51 rfl ?_
  exact sp_iret hX hR dJ6_bitCount_0f7a4_52 hf (Nat.le_of_ble_eq_true rfl) (Nat.le_of_ble_eq_true rfl)
set_option maxRecDepth 100000 in
set_option maxHeartbeats 4000000 in
theorem cnJ6_bitCount_0f7a4 {l : Launch} (hst : l.stackTraces = false) {w : sp_Wd} {n : Nat}  {σ : sp_St} {a0 : Int32} {τ : sp_St} {r : Int32}  (hf : J6_bitCount_0f7a4 n σ a0 = some (τ, r)) : sp_Ci shX l w yJ6_bitCount_0f7a4 cJ6_bitCount_0f7a4 1 (some .int) rmJ6_bitCount_0f7a4 0 0 σ [.int a0] τ r :=
  sp_ci (own := RJ6) (by decide) rfl hst (Nat.le_of_ble_eq_true rfl) rfl (fun X hX hw hl hR => by subst hw; subst hl; exact hJ6_bitCount_0f7a4 hX hR   hf)
def rmJ13_bitCount_95d88 : Room := { frames := 0, cells := 0, slots := 0, locals := 0 }
def J13_bitCount_95d88 (n : Nat)  (σ : sp_St) (a0 : Int64) : Option (sp_St × Int32) :=
  sp_pl (a0 - (((a0.toUInt64 >>> (((1 : Int32)).toInt64.toUInt64 &&& Int64.toUInt64 63)).toInt64) &&& ((6148914691236517205 : Int64)))) fun x1 =>
  sp_pl ((x1 &&& ((3689348814741910323 : Int64))) + (((x1.toUInt64 >>> (((2 : Int32)).toInt64.toUInt64 &&& Int64.toUInt64 63)).toInt64) &&& ((3689348814741910323 : Int64)))) fun x3 =>
  sp_pl ((x3 + ((x3.toUInt64 >>> (((4 : Int32)).toInt64.toUInt64 &&& Int64.toUInt64 63)).toInt64)) &&& ((1085102592571150095 : Int64))) fun x5 =>
  sp_pl (x5 + ((x5.toUInt64 >>> (((8 : Int32)).toInt64.toUInt64 &&& Int64.toUInt64 63)).toInt64)) fun x7 =>
  sp_pl (x7 + ((x7.toUInt64 >>> (((16 : Int32)).toInt64.toUInt64 &&& Int64.toUInt64 63)).toInt64)) fun x9 =>
  sp_pl (x9 + ((x9.toUInt64 >>> (((32 : Int32)).toInt64.toUInt64 &&& Int64.toUInt64 63)).toInt64)) fun x11 =>
  some (σ, x11.toInt32 &&& ((127 : Int32)))
set_option maxRecDepth 100000 in
set_option maxHeartbeats 4000000 in
theorem hJ13_bitCount_95d88 {X : sp_X} (hX : sp_OK shX X cJ13_bitCount_95d88 RJ13 2 rmJ13_bitCount_95d88) {τ : sp_St} {r : Int32} (hR : sp_Ri shX X (some .int) τ r 0 0) {n : Nat}  {σ : sp_St} {a0 : Int64}  (hf : J13_bitCount_95d88 n σ a0 = some (τ, r)) : sp_GG shX X σ 2 [some (.long a0), none] [] 0 0 0 := by
  unfold J13_bitCount_95d88 at hf
  refine sp_lload_n (i := 0) (q := 1) hX dJ13_bitCount_95d88_0 rfl rfl rfl ?_
  refine sp_lload_n (i := 0) (q := 2) hX dJ13_bitCount_95d88_1 rfl rfl rfl ?_
  refine sp_iconst (v := 1) (q := 3) hX dJ13_bitCount_95d88_2 li_1 rfl ?_
  refine sp_lushr (q := 4) hX dJ13_bitCount_95d88_3 rfl ?_
  refine sp_ldc2 (v := 6148914691236517205) (q := 7) hX wd_1530 dJ13_bitCount_95d88_4 rfl ?_
  refine sp_land (q := 8) hX dJ13_bitCount_95d88_7 rfl ?_
  refine sp_lsub (q := 9) hX dJ13_bitCount_95d88_8 rfl ?_
  obtain ⟨x1, e2, hf⟩ := sp_pl_some hf
  refine sp_nml e2 ?_
  refine sp_lstore0 (q := 10) hX dJ13_bitCount_95d88_9 rfl rfl ?_
  refine sp_lload_n (i := 0) (q := 11) hX dJ13_bitCount_95d88_10 rfl rfl rfl ?_
  refine sp_ldc2 (v := 3689348814741910323) (q := 14) hX wd_1531 dJ13_bitCount_95d88_11 rfl ?_
  refine sp_land (q := 15) hX dJ13_bitCount_95d88_14 rfl ?_
  refine sp_lload_n (i := 0) (q := 16) hX dJ13_bitCount_95d88_15 rfl rfl rfl ?_
  refine sp_iconst (v := 2) (q := 17) hX dJ13_bitCount_95d88_16 li_2 rfl ?_
  refine sp_lushr (q := 18) hX dJ13_bitCount_95d88_17 rfl ?_
  refine sp_ldc2 (v := 3689348814741910323) (q := 21) hX wd_1531 dJ13_bitCount_95d88_18 rfl ?_
  refine sp_land (q := 22) hX dJ13_bitCount_95d88_21 rfl ?_
  refine sp_ladd (q := 23) hX dJ13_bitCount_95d88_22 rfl ?_
  obtain ⟨x3, e4, hf⟩ := sp_pl_some hf
  refine sp_nml e4 ?_
  refine sp_lstore0 (q := 24) hX dJ13_bitCount_95d88_23 rfl rfl ?_
  refine sp_lload_n (i := 0) (q := 25) hX dJ13_bitCount_95d88_24 rfl rfl rfl ?_
  refine sp_lload_n (i := 0) (q := 26) hX dJ13_bitCount_95d88_25 rfl rfl rfl ?_
  refine sp_iconst (v := 4) (q := 27) hX dJ13_bitCount_95d88_26 li_4 rfl ?_
  refine sp_lushr (q := 28) hX dJ13_bitCount_95d88_27 rfl ?_
  refine sp_ladd (q := 29) hX dJ13_bitCount_95d88_28 rfl ?_
  refine sp_ldc2 (v := 1085102592571150095) (q := 32) hX wd_1532 dJ13_bitCount_95d88_29 rfl ?_
  refine sp_land (q := 33) hX dJ13_bitCount_95d88_32 rfl ?_
  obtain ⟨x5, e6, hf⟩ := sp_pl_some hf
  refine sp_nml e6 ?_
  refine sp_lstore0 (q := 34) hX dJ13_bitCount_95d88_33 rfl rfl ?_
  refine sp_lload_n (i := 0) (q := 35) hX dJ13_bitCount_95d88_34 rfl rfl rfl ?_
  refine sp_lload_n (i := 0) (q := 36) hX dJ13_bitCount_95d88_35 rfl rfl rfl ?_
  refine sp_bipush (v := 8) (q := 38) hX dJ13_bitCount_95d88_36 lb_8 rfl ?_
  refine sp_lushr (q := 39) hX dJ13_bitCount_95d88_38 rfl ?_
  refine sp_ladd (q := 40) hX dJ13_bitCount_95d88_39 rfl ?_
  obtain ⟨x7, e8, hf⟩ := sp_pl_some hf
  refine sp_nml e8 ?_
  refine sp_lstore0 (q := 41) hX dJ13_bitCount_95d88_40 rfl rfl ?_
  refine sp_lload_n (i := 0) (q := 42) hX dJ13_bitCount_95d88_41 rfl rfl rfl ?_
  refine sp_lload_n (i := 0) (q := 43) hX dJ13_bitCount_95d88_42 rfl rfl rfl ?_
  refine sp_bipush (v := 16) (q := 45) hX dJ13_bitCount_95d88_43 lb_16 rfl ?_
  refine sp_lushr (q := 46) hX dJ13_bitCount_95d88_45 rfl ?_
  refine sp_ladd (q := 47) hX dJ13_bitCount_95d88_46 rfl ?_
  obtain ⟨x9, e10, hf⟩ := sp_pl_some hf
  refine sp_nml e10 ?_
  refine sp_lstore0 (q := 48) hX dJ13_bitCount_95d88_47 rfl rfl ?_
  refine sp_lload_n (i := 0) (q := 49) hX dJ13_bitCount_95d88_48 rfl rfl rfl ?_
  refine sp_lload_n (i := 0) (q := 50) hX dJ13_bitCount_95d88_49 rfl rfl rfl ?_
  refine sp_bipush (v := 32) (q := 52) hX dJ13_bitCount_95d88_50 lb_32 rfl ?_
  refine sp_lushr (q := 53) hX dJ13_bitCount_95d88_52 rfl ?_
  refine sp_ladd (q := 54) hX dJ13_bitCount_95d88_53 rfl ?_
  obtain ⟨x11, e12, hf⟩ := sp_pl_some hf
  refine sp_nml e12 ?_
  refine sp_lstore0 (q := 55) hX dJ13_bitCount_95d88_54 rfl rfl ?_
  refine sp_lload_n (i := 0) (q := 56) hX dJ13_bitCount_95d88_55 rfl rfl rfl ?_
  refine sp_l2i (q := 57) hX dJ13_bitCount_95d88_56 rfl ?_
  refine sp_bipush (v := 127) (q := 59) hX dJ13_bitCount_95d88_57 lb_127 rfl ?_
  refine sp_iand (q := 60) hX dJ13_bitCount_95d88_59 rfl ?_
  exact sp_iret hX hR dJ13_bitCount_95d88_60 hf (Nat.le_of_ble_eq_true rfl) (Nat.le_of_ble_eq_true rfl)
set_option maxRecDepth 100000 in
set_option maxHeartbeats 4000000 in
theorem cnJ13_bitCount_95d88 {l : Launch} (hst : l.stackTraces = false) {w : sp_Wd} {n : Nat}  {σ : sp_St} {a0 : Int64} {τ : sp_St} {r : Int32}  (hf : J13_bitCount_95d88 n σ a0 = some (τ, r)) : sp_Ci shX l w yJ13_bitCount_95d88 cJ13_bitCount_95d88 2 (some .int) rmJ13_bitCount_95d88 0 0 σ [.long a0] τ r :=
  sp_ci (own := RJ13) (by decide) rfl hst (Nat.le_of_ble_eq_true rfl) rfl (fun X hX hw hl hR => by subst hw; subst hl; exact hJ13_bitCount_95d88 hX hR   hf)
