def LCX0 (w : sp_Wd) (h0 : Nat) (q : Nat → Nat) : va_W := [(h0, .inr (0, [.ref (q 0), .int 0, .int 0, .int 0, .int 0, .int 0, .int 0])), ((q 0), .inl (w.2.2.2 0, 40, .inl (fun _ => 0)))]
def rmX0_init : Room := { frames := 1, cells := 1, slots := 40, locals := 20 }
set_option maxRecDepth 100000 in
set_option maxHeartbeats 8000000 in
theorem ctX0_init {l : Launch} (hst : l.stackTraces = false) {w : sp_Wd} {h0 : Nat} : ng_C l w yX0_init cX0_init 1 rmX0_init 1 40 h0 0 [.null, .int 0, .int 0, .int 0, .int 0, .int 0, .int 0] [] (LCX0 w h0) := by
  refine ng_c (own := RX0) (by decide) rfl rfl hst (Nat.le_of_ble_eq_true rfl) rfl (fun X hX hw hl hni hR => ?_)
  subst hw
  subst hl
  show ng_G X _ _ [some (.ref h0)] _ _ _ _
  refine ng_aload_n (i := 0) (q := 1) hX dX0_init_0 rfl rfl rfl ?_
  refine ng_obj (q := 4) hX wc_362 wc_160 wc_161 dX0_init_1 rfl (Nat.le_of_ble_eq_true rfl) (Nat.le_of_ble_eq_true rfl) ?_
  refine ng_aload_n (i := 0) (q := 5) hX dX0_init_4 rfl rfl rfl ?_
  refine ng_bipush (v := 40) (q := 7) hX dX0_init_5 lb_40 rfl ?_
  refine ng_newa (at_ := .int) (ty := .int) (t0 := 0) (N := 40) (a0 := (40, .inl (fun _ => 0))) (cA := (sx_w X).2.2.2 0) (q := 9) hX wc_268 rfl rfl (fun C h => by cases h) (fun _ => rfl) (by decide) (by decide) (Nat.le_of_ble_eq_true rfl) (Nat.le_of_ble_eq_true rfl) (Nat.le_of_ble_eq_true rfl) dX0_init_7 rfl (fun n0 => ?_)
  refine ng_putF (p := 0) (k := 0) (ws' := [(h0, .inr (0, [.ref n0, .int 0, .int 0, .int 0, .int 0, .int 0, .int 0])), (n0, .inl ((sx_w X).2.2.2 0, 40, .inl (fun _ => 0)))]) (q := 12) hX hni ffX0_9 rfl rfl rfl (Nat.le_of_ble_eq_true rfl) rfl dX0_init_9 rfl ?_
  exact ng_vret (fun i => [n0].getD i 0) hX hR rfl dX0_init_12 (Nat.le_of_ble_eq_true rfl) (Nat.le_of_ble_eq_true rfl)
def LCX2 (w : sp_Wd) (h0 : Nat) (q : Nat → Nat) : va_W := [(h0, .inr (2, [.ref (q 0), .ref (q 1), .ref (q 2), .ref (q 3), .ref (q 4), .ref (q 5), .ref (q 6), .ref (q 7), .int 0, .int 0, .int 0, .int 0, .int 0, .int 0, .int 0, .int 0, .int (50), .int 0])), ((q 0), .inl (w.2.2.2 0, 10, .inl (fun _ => 0))), ((q 1), .inl (w.2.2.2 0, 10, .inl (fun _ => 0))), ((q 2), .inl (w.2.2.2 0, 10, .inl (fun _ => 0))), ((q 3), .inl (w.2.2.2 0, 6, .inl (fun _ => 0))), ((q 4), .inl (w.2.2.2 0, 5, .inl (fun _ => 0))), ((q 5), .inl (w.2.2.2 0, 5, .inl (fun _ => 0))), ((q 6), .inl (w.2.2.2 0, 6, .inl (fun _ => 0))), ((q 7), .inl (w.2.2.2 0, 700, .inl (fun _ => 0)))]
def rmX2_init : Room := { frames := 1, cells := 8, slots := 752, locals := 20 }
set_option maxRecDepth 100000 in
set_option maxHeartbeats 8000000 in
theorem ctX2_init {l : Launch} (hst : l.stackTraces = false) {w : sp_Wd} {h0 : Nat} : ng_C l w yX2_init cX2_init 1 rmX2_init 8 752 h0 2 [.null, .null, .null, .null, .null, .null, .null, .null, .int 0, .int 0, .int 0, .int 0, .int 0, .int 0, .int 0, .int 0, .int 0, .int 0] [] (LCX2 w h0) := by
  refine ng_c (own := RX2) (by decide) rfl rfl hst (Nat.le_of_ble_eq_true rfl) rfl (fun X hX hw hl hni hR => ?_)
  subst hw
  subst hl
  show ng_G X _ _ [some (.ref h0)] _ _ _ _
  refine ng_aload_n (i := 0) (q := 1) hX dX2_init_0 rfl rfl rfl ?_
  refine ng_obj (q := 4) hX wc_167 wc_160 wc_161 dX2_init_1 rfl (Nat.le_of_ble_eq_true rfl) (Nat.le_of_ble_eq_true rfl) ?_
  refine ng_aload_n (i := 0) (q := 5) hX dX2_init_4 rfl rfl rfl ?_
  refine ng_bipush (v := 10) (q := 7) hX dX2_init_5 lb_10 rfl ?_
  refine ng_newa (at_ := .int) (ty := .int) (t0 := 0) (N := 10) (a0 := (10, .inl (fun _ => 0))) (cA := (sx_w X).2.2.2 0) (q := 9) hX wc_268 rfl rfl (fun C h => by cases h) (fun _ => rfl) (by decide) (by decide) (Nat.le_of_ble_eq_true rfl) (Nat.le_of_ble_eq_true rfl) (Nat.le_of_ble_eq_true rfl) dX2_init_7 rfl (fun n0 => ?_)
  refine ng_putF (p := 0) (k := 0) (ws' := [(h0, .inr (2, [.ref n0, .null, .null, .null, .null, .null, .null, .null, .int 0, .int 0, .int 0, .int 0, .int 0, .int 0, .int 0, .int 0, .int 0, .int 0])), (n0, .inl ((sx_w X).2.2.2 0, 10, .inl (fun _ => 0)))]) (q := 12) hX hni ffX2_9 rfl rfl rfl (Nat.le_of_ble_eq_true rfl) rfl dX2_init_9 rfl ?_
  refine ng_aload_n (i := 0) (q := 13) hX dX2_init_12 rfl rfl rfl ?_
  refine ng_bipush (v := 10) (q := 15) hX dX2_init_13 lb_10 rfl ?_
  refine ng_newa (at_ := .int) (ty := .int) (t0 := 0) (N := 10) (a0 := (10, .inl (fun _ => 0))) (cA := (sx_w X).2.2.2 0) (q := 17) hX wc_268 rfl rfl (fun C h => by cases h) (fun _ => rfl) (by decide) (by decide) (Nat.le_of_ble_eq_true rfl) (Nat.le_of_ble_eq_true rfl) (Nat.le_of_ble_eq_true rfl) dX2_init_15 rfl (fun n1 => ?_)
  refine ng_putF (p := 0) (k := 1) (ws' := [(h0, .inr (2, [.ref n0, .ref n1, .null, .null, .null, .null, .null, .null, .int 0, .int 0, .int 0, .int 0, .int 0, .int 0, .int 0, .int 0, .int 0, .int 0])), (n0, .inl ((sx_w X).2.2.2 0, 10, .inl (fun _ => 0))), (n1, .inl ((sx_w X).2.2.2 0, 10, .inl (fun _ => 0)))]) (q := 20) hX hni ffX2_15 rfl rfl rfl (Nat.le_of_ble_eq_true rfl) rfl dX2_init_17 rfl ?_
  refine ng_aload_n (i := 0) (q := 21) hX dX2_init_20 rfl rfl rfl ?_
  refine ng_bipush (v := 10) (q := 23) hX dX2_init_21 lb_10 rfl ?_
  refine ng_newa (at_ := .int) (ty := .int) (t0 := 0) (N := 10) (a0 := (10, .inl (fun _ => 0))) (cA := (sx_w X).2.2.2 0) (q := 25) hX wc_268 rfl rfl (fun C h => by cases h) (fun _ => rfl) (by decide) (by decide) (Nat.le_of_ble_eq_true rfl) (Nat.le_of_ble_eq_true rfl) (Nat.le_of_ble_eq_true rfl) dX2_init_23 rfl (fun n2 => ?_)
  refine ng_putF (p := 0) (k := 2) (ws' := [(h0, .inr (2, [.ref n0, .ref n1, .ref n2, .null, .null, .null, .null, .null, .int 0, .int 0, .int 0, .int 0, .int 0, .int 0, .int 0, .int 0, .int 0, .int 0])), (n0, .inl ((sx_w X).2.2.2 0, 10, .inl (fun _ => 0))), (n1, .inl ((sx_w X).2.2.2 0, 10, .inl (fun _ => 0))), (n2, .inl ((sx_w X).2.2.2 0, 10, .inl (fun _ => 0)))]) (q := 28) hX hni ffX2_18 rfl rfl rfl (Nat.le_of_ble_eq_true rfl) rfl dX2_init_25 rfl ?_
  refine ng_aload_n (i := 0) (q := 29) hX dX2_init_28 rfl rfl rfl ?_
  refine ng_bipush (v := 6) (q := 31) hX dX2_init_29 lb_6 rfl ?_
  refine ng_newa (at_ := .int) (ty := .int) (t0 := 0) (N := 6) (a0 := (6, .inl (fun _ => 0))) (cA := (sx_w X).2.2.2 0) (q := 33) hX wc_268 rfl rfl (fun C h => by cases h) (fun _ => rfl) (by decide) (by decide) (Nat.le_of_ble_eq_true rfl) (Nat.le_of_ble_eq_true rfl) (Nat.le_of_ble_eq_true rfl) dX2_init_31 rfl (fun n3 => ?_)
  refine ng_putF (p := 0) (k := 3) (ws' := [(h0, .inr (2, [.ref n0, .ref n1, .ref n2, .ref n3, .null, .null, .null, .null, .int 0, .int 0, .int 0, .int 0, .int 0, .int 0, .int 0, .int 0, .int 0, .int 0])), (n0, .inl ((sx_w X).2.2.2 0, 10, .inl (fun _ => 0))), (n1, .inl ((sx_w X).2.2.2 0, 10, .inl (fun _ => 0))), (n2, .inl ((sx_w X).2.2.2 0, 10, .inl (fun _ => 0))), (n3, .inl ((sx_w X).2.2.2 0, 6, .inl (fun _ => 0)))]) (q := 36) hX hni ffX2_21 rfl rfl rfl (Nat.le_of_ble_eq_true rfl) rfl dX2_init_33 rfl ?_
  refine ng_aload_n (i := 0) (q := 37) hX dX2_init_36 rfl rfl rfl ?_
  refine ng_iconst (v := 5) (q := 38) hX dX2_init_37 li_5 rfl ?_
  refine ng_newa (at_ := .int) (ty := .int) (t0 := 0) (N := 5) (a0 := (5, .inl (fun _ => 0))) (cA := (sx_w X).2.2.2 0) (q := 40) hX wc_268 rfl rfl (fun C h => by cases h) (fun _ => rfl) (by decide) (by decide) (Nat.le_of_ble_eq_true rfl) (Nat.le_of_ble_eq_true rfl) (Nat.le_of_ble_eq_true rfl) dX2_init_38 rfl (fun n4 => ?_)
  refine ng_putF (p := 0) (k := 4) (ws' := [(h0, .inr (2, [.ref n0, .ref n1, .ref n2, .ref n3, .ref n4, .null, .null, .null, .int 0, .int 0, .int 0, .int 0, .int 0, .int 0, .int 0, .int 0, .int 0, .int 0])), (n0, .inl ((sx_w X).2.2.2 0, 10, .inl (fun _ => 0))), (n1, .inl ((sx_w X).2.2.2 0, 10, .inl (fun _ => 0))), (n2, .inl ((sx_w X).2.2.2 0, 10, .inl (fun _ => 0))), (n3, .inl ((sx_w X).2.2.2 0, 6, .inl (fun _ => 0))), (n4, .inl ((sx_w X).2.2.2 0, 5, .inl (fun _ => 0)))]) (q := 43) hX hni ffX2_24 rfl rfl rfl (Nat.le_of_ble_eq_true rfl) rfl dX2_init_40 rfl ?_
  refine ng_aload_n (i := 0) (q := 44) hX dX2_init_43 rfl rfl rfl ?_
  refine ng_iconst (v := 5) (q := 45) hX dX2_init_44 li_5 rfl ?_
  refine ng_newa (at_ := .int) (ty := .int) (t0 := 0) (N := 5) (a0 := (5, .inl (fun _ => 0))) (cA := (sx_w X).2.2.2 0) (q := 47) hX wc_268 rfl rfl (fun C h => by cases h) (fun _ => rfl) (by decide) (by decide) (Nat.le_of_ble_eq_true rfl) (Nat.le_of_ble_eq_true rfl) (Nat.le_of_ble_eq_true rfl) dX2_init_45 rfl (fun n5 => ?_)
  refine ng_putF (p := 0) (k := 5) (ws' := [(h0, .inr (2, [.ref n0, .ref n1, .ref n2, .ref n3, .ref n4, .ref n5, .null, .null, .int 0, .int 0, .int 0, .int 0, .int 0, .int 0, .int 0, .int 0, .int 0, .int 0])), (n0, .inl ((sx_w X).2.2.2 0, 10, .inl (fun _ => 0))), (n1, .inl ((sx_w X).2.2.2 0, 10, .inl (fun _ => 0))), (n2, .inl ((sx_w X).2.2.2 0, 10, .inl (fun _ => 0))), (n3, .inl ((sx_w X).2.2.2 0, 6, .inl (fun _ => 0))), (n4, .inl ((sx_w X).2.2.2 0, 5, .inl (fun _ => 0))), (n5, .inl ((sx_w X).2.2.2 0, 5, .inl (fun _ => 0)))]) (q := 50) hX hni ffX2_27 rfl rfl rfl (Nat.le_of_ble_eq_true rfl) rfl dX2_init_47 rfl ?_
  refine ng_aload_n (i := 0) (q := 51) hX dX2_init_50 rfl rfl rfl ?_
  refine ng_bipush (v := 6) (q := 53) hX dX2_init_51 lb_6 rfl ?_
  refine ng_newa (at_ := .int) (ty := .int) (t0 := 0) (N := 6) (a0 := (6, .inl (fun _ => 0))) (cA := (sx_w X).2.2.2 0) (q := 55) hX wc_268 rfl rfl (fun C h => by cases h) (fun _ => rfl) (by decide) (by decide) (Nat.le_of_ble_eq_true rfl) (Nat.le_of_ble_eq_true rfl) (Nat.le_of_ble_eq_true rfl) dX2_init_53 rfl (fun n6 => ?_)
  refine ng_putF (p := 0) (k := 6) (ws' := [(h0, .inr (2, [.ref n0, .ref n1, .ref n2, .ref n3, .ref n4, .ref n5, .ref n6, .null, .int 0, .int 0, .int 0, .int 0, .int 0, .int 0, .int 0, .int 0, .int 0, .int 0])), (n0, .inl ((sx_w X).2.2.2 0, 10, .inl (fun _ => 0))), (n1, .inl ((sx_w X).2.2.2 0, 10, .inl (fun _ => 0))), (n2, .inl ((sx_w X).2.2.2 0, 10, .inl (fun _ => 0))), (n3, .inl ((sx_w X).2.2.2 0, 6, .inl (fun _ => 0))), (n4, .inl ((sx_w X).2.2.2 0, 5, .inl (fun _ => 0))), (n5, .inl ((sx_w X).2.2.2 0, 5, .inl (fun _ => 0))), (n6, .inl ((sx_w X).2.2.2 0, 6, .inl (fun _ => 0)))]) (q := 58) hX hni ffX2_30 rfl rfl rfl (Nat.le_of_ble_eq_true rfl) rfl dX2_init_55 rfl ?_
  refine ng_aload_n (i := 0) (q := 59) hX dX2_init_58 rfl rfl rfl ?_
  refine ng_sipush (v := 700) (q := 62) hX dX2_init_59 ls_700 rfl ?_
  refine ng_newa (at_ := .int) (ty := .int) (t0 := 0) (N := 700) (a0 := (700, .inl (fun _ => 0))) (cA := (sx_w X).2.2.2 0) (q := 64) hX wc_268 rfl rfl (fun C h => by cases h) (fun _ => rfl) (by decide) (by decide) (Nat.le_of_ble_eq_true rfl) (Nat.le_of_ble_eq_true rfl) (Nat.le_of_ble_eq_true rfl) dX2_init_62 rfl (fun n7 => ?_)
  refine ng_putF (p := 0) (k := 7) (ws' := [(h0, .inr (2, [.ref n0, .ref n1, .ref n2, .ref n3, .ref n4, .ref n5, .ref n6, .ref n7, .int 0, .int 0, .int 0, .int 0, .int 0, .int 0, .int 0, .int 0, .int 0, .int 0])), (n0, .inl ((sx_w X).2.2.2 0, 10, .inl (fun _ => 0))), (n1, .inl ((sx_w X).2.2.2 0, 10, .inl (fun _ => 0))), (n2, .inl ((sx_w X).2.2.2 0, 10, .inl (fun _ => 0))), (n3, .inl ((sx_w X).2.2.2 0, 6, .inl (fun _ => 0))), (n4, .inl ((sx_w X).2.2.2 0, 5, .inl (fun _ => 0))), (n5, .inl ((sx_w X).2.2.2 0, 5, .inl (fun _ => 0))), (n6, .inl ((sx_w X).2.2.2 0, 6, .inl (fun _ => 0))), (n7, .inl ((sx_w X).2.2.2 0, 700, .inl (fun _ => 0)))]) (q := 67) hX hni ffX2_33 rfl rfl rfl (Nat.le_of_ble_eq_true rfl) rfl dX2_init_64 rfl ?_
  refine ng_aload_n (i := 0) (q := 68) hX dX2_init_67 rfl rfl rfl ?_
  refine ng_bipush (v := 50) (q := 70) hX dX2_init_68 lb_50 rfl ?_
  refine ng_put (p := 0) (k := 16) (ws' := [(h0, .inr (2, [.ref n0, .ref n1, .ref n2, .ref n3, .ref n4, .ref n5, .ref n6, .ref n7, .int 0, .int 0, .int 0, .int 0, .int 0, .int 0, .int 0, .int 0, .int (50), .int 0])), (n0, .inl ((sx_w X).2.2.2 0, 10, .inl (fun _ => 0))), (n1, .inl ((sx_w X).2.2.2 0, 10, .inl (fun _ => 0))), (n2, .inl ((sx_w X).2.2.2 0, 10, .inl (fun _ => 0))), (n3, .inl ((sx_w X).2.2.2 0, 6, .inl (fun _ => 0))), (n4, .inl ((sx_w X).2.2.2 0, 5, .inl (fun _ => 0))), (n5, .inl ((sx_w X).2.2.2 0, 5, .inl (fun _ => 0))), (n6, .inl ((sx_w X).2.2.2 0, 6, .inl (fun _ => 0))), (n7, .inl ((sx_w X).2.2.2 0, 700, .inl (fun _ => 0)))]) (q := 73) hX fpX2_36 rfl rfl rfl (Nat.le_of_ble_eq_true rfl) rfl dX2_init_70 rfl ?_
  exact ng_vret (fun i => [n0, n1, n2, n3, n4, n5, n6, n7].getD i 0) hX hR rfl dX2_init_73 (Nat.le_of_ble_eq_true rfl) (Nat.le_of_ble_eq_true rfl)
def LCX9 (w : sp_Wd) (h0 : Nat) (q : Nat → Nat) : va_W := [(h0, .inr (9, [.ref (q 0), .ref (q 1), .ref (q 2), .int 0])), ((q 0), .inl (w.2.2.2 0, 8, .inl (fun _ => 0))), ((q 1), .inl (w.2.2.2 0, 8, .inl (fun _ => 0))), ((q 2), .inl (w.2.2.2 0, 8, .inl (fun _ => 0)))]
def rmX9_init : Room := { frames := 1, cells := 3, slots := 24, locals := 20 }
set_option maxRecDepth 100000 in
set_option maxHeartbeats 8000000 in
theorem ctX9_init {l : Launch} (hst : l.stackTraces = false) {w : sp_Wd} {h0 : Nat} : ng_C l w yX9_init cX9_init 1 rmX9_init 3 24 h0 9 [.null, .null, .null, .int 0] [] (LCX9 w h0) := by
  refine ng_c (own := RX9) (by decide) rfl rfl hst (Nat.le_of_ble_eq_true rfl) rfl (fun X hX hw hl hni hR => ?_)
  subst hw
  subst hl
  show ng_G X _ _ [some (.ref h0)] _ _ _ _
  refine ng_aload_n (i := 0) (q := 1) hX dX9_init_0 rfl rfl rfl ?_
  refine ng_obj (q := 4) hX wc_331 wc_160 wc_161 dX9_init_1 rfl (Nat.le_of_ble_eq_true rfl) (Nat.le_of_ble_eq_true rfl) ?_
  refine ng_aload_n (i := 0) (q := 5) hX dX9_init_4 rfl rfl rfl ?_
  refine ng_bipush (v := 8) (q := 7) hX dX9_init_5 lb_8 rfl ?_
  refine ng_newa (at_ := .int) (ty := .int) (t0 := 0) (N := 8) (a0 := (8, .inl (fun _ => 0))) (cA := (sx_w X).2.2.2 0) (q := 9) hX wc_268 rfl rfl (fun C h => by cases h) (fun _ => rfl) (by decide) (by decide) (Nat.le_of_ble_eq_true rfl) (Nat.le_of_ble_eq_true rfl) (Nat.le_of_ble_eq_true rfl) dX9_init_7 rfl (fun n0 => ?_)
  refine ng_putF (p := 0) (k := 0) (ws' := [(h0, .inr (9, [.ref n0, .null, .null, .int 0])), (n0, .inl ((sx_w X).2.2.2 0, 8, .inl (fun _ => 0)))]) (q := 12) hX hni ffX9_9 rfl rfl rfl (Nat.le_of_ble_eq_true rfl) rfl dX9_init_9 rfl ?_
  refine ng_aload_n (i := 0) (q := 13) hX dX9_init_12 rfl rfl rfl ?_
  refine ng_bipush (v := 8) (q := 15) hX dX9_init_13 lb_8 rfl ?_
  refine ng_newa (at_ := .int) (ty := .int) (t0 := 0) (N := 8) (a0 := (8, .inl (fun _ => 0))) (cA := (sx_w X).2.2.2 0) (q := 17) hX wc_268 rfl rfl (fun C h => by cases h) (fun _ => rfl) (by decide) (by decide) (Nat.le_of_ble_eq_true rfl) (Nat.le_of_ble_eq_true rfl) (Nat.le_of_ble_eq_true rfl) dX9_init_15 rfl (fun n1 => ?_)
  refine ng_putF (p := 0) (k := 1) (ws' := [(h0, .inr (9, [.ref n0, .ref n1, .null, .int 0])), (n0, .inl ((sx_w X).2.2.2 0, 8, .inl (fun _ => 0))), (n1, .inl ((sx_w X).2.2.2 0, 8, .inl (fun _ => 0)))]) (q := 20) hX hni ffX9_15 rfl rfl rfl (Nat.le_of_ble_eq_true rfl) rfl dX9_init_17 rfl ?_
  refine ng_aload_n (i := 0) (q := 21) hX dX9_init_20 rfl rfl rfl ?_
  refine ng_bipush (v := 8) (q := 23) hX dX9_init_21 lb_8 rfl ?_
  refine ng_newa (at_ := .int) (ty := .int) (t0 := 0) (N := 8) (a0 := (8, .inl (fun _ => 0))) (cA := (sx_w X).2.2.2 0) (q := 25) hX wc_268 rfl rfl (fun C h => by cases h) (fun _ => rfl) (by decide) (by decide) (Nat.le_of_ble_eq_true rfl) (Nat.le_of_ble_eq_true rfl) (Nat.le_of_ble_eq_true rfl) dX9_init_23 rfl (fun n2 => ?_)
  refine ng_putF (p := 0) (k := 2) (ws' := [(h0, .inr (9, [.ref n0, .ref n1, .ref n2, .int 0])), (n0, .inl ((sx_w X).2.2.2 0, 8, .inl (fun _ => 0))), (n1, .inl ((sx_w X).2.2.2 0, 8, .inl (fun _ => 0))), (n2, .inl ((sx_w X).2.2.2 0, 8, .inl (fun _ => 0)))]) (q := 28) hX hni ffX9_18 rfl rfl rfl (Nat.le_of_ble_eq_true rfl) rfl dX9_init_25 rfl ?_
  exact ng_vret (fun i => [n0, n1, n2].getD i 0) hX hR rfl dX9_init_28 (Nat.le_of_ble_eq_true rfl) (Nat.le_of_ble_eq_true rfl)
def LCX10 (w : sp_Wd) (h0 : Nat) (p1 : Nat) (q : Nat → Nat) : va_W := [(h0, .inr (10, [.ref p1, .int 0, .int 0, .int 0, .int 0, .int 0]))]
def rmX10_init : Room := { frames := 1, cells := 0, slots := 0, locals := 20 }
set_option maxRecDepth 100000 in
set_option maxHeartbeats 8000000 in
theorem ctX10_init {l : Launch} (hst : l.stackTraces = false) {w : sp_Wd} {h0 p1 : Nat} : ng_C l w yX10_init cX10_init 2 rmX10_init 0 0 h0 10 [.null, .int 0, .int 0, .int 0, .int 0, .int 0] [.ref p1] (LCX10 w h0 p1) := by
  refine ng_c (own := RX10) (by decide) rfl rfl hst (Nat.le_of_ble_eq_true rfl) rfl (fun X hX hw hl hni hR => ?_)
  subst hw
  subst hl
  show ng_G X _ _ [some (.ref h0), some (.ref p1)] _ _ _ _
  refine ng_aload_n (i := 0) (q := 1) hX dX10_init_0 rfl rfl rfl ?_
  refine ng_obj (q := 4) hX wc_276 wc_160 wc_161 dX10_init_1 rfl (Nat.le_of_ble_eq_true rfl) (Nat.le_of_ble_eq_true rfl) ?_
  refine ng_aload_n (i := 0) (q := 5) hX dX10_init_4 rfl rfl rfl ?_
  refine ng_aload_n (i := 1) (q := 6) hX dX10_init_5 rfl rfl rfl ?_
  refine ng_putF (p := 0) (k := 0) (ws' := [(h0, .inr (10, [.ref p1, .int 0, .int 0, .int 0, .int 0, .int 0]))]) (q := 9) hX hni ffX10_7 rfl rfl rfl (Nat.le_of_ble_eq_true rfl) rfl dX10_init_6 rfl ?_
  exact ng_vret (fun i => [].getD i 0) hX hR rfl dX10_init_9 (Nat.le_of_ble_eq_true rfl) (Nat.le_of_ble_eq_true rfl)
def LCX6 (w : sp_Wd) (h0 : Nat) (p1 : Nat) (q : Nat → Nat) : va_W := [(h0, .inr (6, [.ref p1, .ref (q 0)])), ((q 0), .inl (w.2.2.2 0, 64, .inl (fun _ => 0)))]
def rmX6_init : Room := { frames := 1, cells := 1, slots := 64, locals := 20 }
set_option maxRecDepth 100000 in
set_option maxHeartbeats 8000000 in
theorem ctX6_init {l : Launch} (hst : l.stackTraces = false) {w : sp_Wd} {h0 p1 : Nat} : ng_C l w yX6_init cX6_init 2 rmX6_init 1 64 h0 6 [.null, .null] [.ref p1] (LCX6 w h0 p1) := by
  refine ng_c (own := RX6) (by decide) rfl rfl hst (Nat.le_of_ble_eq_true rfl) rfl (fun X hX hw hl hni hR => ?_)
  subst hw
  subst hl
  show ng_G X _ _ [some (.ref h0), some (.ref p1)] _ _ _ _
  refine ng_aload_n (i := 0) (q := 1) hX dX6_init_0 rfl rfl rfl ?_
  refine ng_obj (q := 4) hX wc_531 wc_160 wc_161 dX6_init_1 rfl (Nat.le_of_ble_eq_true rfl) (Nat.le_of_ble_eq_true rfl) ?_
  refine ng_aload_n (i := 0) (q := 5) hX dX6_init_4 rfl rfl rfl ?_
  refine ng_bipush (v := 64) (q := 7) hX dX6_init_5 lb_64 rfl ?_
  refine ng_newa (at_ := .int) (ty := .int) (t0 := 0) (N := 64) (a0 := (64, .inl (fun _ => 0))) (cA := (sx_w X).2.2.2 0) (q := 9) hX wc_268 rfl rfl (fun C h => by cases h) (fun _ => rfl) (by decide) (by decide) (Nat.le_of_ble_eq_true rfl) (Nat.le_of_ble_eq_true rfl) (Nat.le_of_ble_eq_true rfl) dX6_init_7 rfl (fun n0 => ?_)
  refine ng_putF (p := 0) (k := 1) (ws' := [(h0, .inr (6, [.null, .ref n0])), (n0, .inl ((sx_w X).2.2.2 0, 64, .inl (fun _ => 0)))]) (q := 12) hX hni ffX6_11 rfl rfl rfl (Nat.le_of_ble_eq_true rfl) rfl dX6_init_9 rfl ?_
  refine ng_aload_n (i := 0) (q := 13) hX dX6_init_12 rfl rfl rfl ?_
  refine ng_aload_n (i := 1) (q := 14) hX dX6_init_13 rfl rfl rfl ?_
  refine ng_putF (p := 0) (k := 0) (ws' := [(h0, .inr (6, [.ref p1, .ref n0])), (n0, .inl ((sx_w X).2.2.2 0, 64, .inl (fun _ => 0)))]) (q := 17) hX hni ffX6_15 rfl rfl rfl (Nat.le_of_ble_eq_true rfl) rfl dX6_init_14 rfl ?_
  exact ng_vret (fun i => [n0].getD i 0) hX hR rfl dX6_init_17 (Nat.le_of_ble_eq_true rfl) (Nat.le_of_ble_eq_true rfl)
def LCX7 (w : sp_Wd) (h0 : Nat) (p1 : Nat) (p2 : Nat) (q : Nat → Nat) : va_W := [(h0, .inr (7, [.ref p1, .ref p2, .int 0, .int 0, .int 0]))]
def rmX7_init : Room := { frames := 1, cells := 0, slots := 0, locals := 20 }
set_option maxRecDepth 100000 in
set_option maxHeartbeats 8000000 in
theorem ctX7_init {l : Launch} (hst : l.stackTraces = false) {w : sp_Wd} {h0 p1 p2 : Nat} : ng_C l w yX7_init cX7_init 3 rmX7_init 0 0 h0 7 [.null, .null, .int 0, .int 0, .int 0] [.ref p1, .ref p2] (LCX7 w h0 p1 p2) := by
  refine ng_c (own := RX7) (by decide) rfl rfl hst (Nat.le_of_ble_eq_true rfl) rfl (fun X hX hw hl hni hR => ?_)
  subst hw
  subst hl
  show ng_G X _ _ [some (.ref h0), some (.ref p1), some (.ref p2)] _ _ _ _
  refine ng_aload_n (i := 0) (q := 1) hX dX7_init_0 rfl rfl rfl ?_
  refine ng_obj (q := 4) hX wc_302 wc_160 wc_161 dX7_init_1 rfl (Nat.le_of_ble_eq_true rfl) (Nat.le_of_ble_eq_true rfl) ?_
  refine ng_aload_n (i := 0) (q := 5) hX dX7_init_4 rfl rfl rfl ?_
  refine ng_aload_n (i := 1) (q := 6) hX dX7_init_5 rfl rfl rfl ?_
  refine ng_putF (p := 0) (k := 0) (ws' := [(h0, .inr (7, [.ref p1, .null, .int 0, .int 0, .int 0]))]) (q := 9) hX hni ffX7_9 rfl rfl rfl (Nat.le_of_ble_eq_true rfl) rfl dX7_init_6 rfl ?_
  refine ng_aload_n (i := 0) (q := 10) hX dX7_init_9 rfl rfl rfl ?_
  refine ng_aload_n (i := 2) (q := 11) hX dX7_init_10 rfl rfl rfl ?_
  refine ng_put (p := 0) (k := 1) (ws' := [(h0, .inr (7, [.ref p1, .ref p2, .int 0, .int 0, .int 0]))]) (q := 14) hX fpX7_15 rfl rfl rfl (Nat.le_of_ble_eq_true rfl) rfl dX7_init_11 rfl ?_
  exact ng_vret (fun i => [].getD i 0) hX hR rfl dX7_init_14 (Nat.le_of_ble_eq_true rfl) (Nat.le_of_ble_eq_true rfl)
def LCX8 (w : sp_Wd) (h0 : Nat) (p1 : Nat) (q : Nat → Nat) : va_W := [(h0, .inr (8, [.ref p1, .ref (q 0), .ref (q 1), .ref (q 2), .ref (q 3), .ref (q 4)])), ((q 0), .inl (w.2.2.2 0, 50, .inl (fun _ => 0))), ((q 1), .inl (w.2.2.2 0, 6, .inl (fun _ => 0))), ((q 2), .inl (w.2.2.2 0, 7, .inl (fun _ => 0))), ((q 3), .inl (w.2.2.2 0, 10, .inl (fun _ => 0))), ((q 4), .inr (0, [.ref (q 5), .int 0, .int 0, .int 0, .int 0, .int 0, .int 0])), ((q 5), .inl (w.2.2.2 0, 40, .inl (fun _ => 0)))]
def rmX8_init : Room := { frames := 2, cells := 6, slots := 120, locals := 40 }
set_option maxRecDepth 100000 in
set_option maxHeartbeats 8000000 in
theorem ctX8_init {l : Launch} (hst : l.stackTraces = false) {w : sp_Wd} {h0 p1 : Nat} : ng_C l w yX8_init cX8_init 2 rmX8_init 6 120 h0 8 [.null, .null, .null, .null, .null, .null] [.ref p1] (LCX8 w h0 p1) := by
  refine ng_c (own := RX8) (by decide) rfl rfl hst (Nat.le_of_ble_eq_true rfl) rfl (fun X hX hw hl hni hR => ?_)
  subst hw
  subst hl
  show ng_G X _ _ [some (.ref h0), some (.ref p1)] _ _ _ _
  refine ng_aload_n (i := 0) (q := 1) hX dX8_init_0 rfl rfl rfl ?_
  refine ng_obj (q := 4) hX wc_356 wc_160 wc_161 dX8_init_1 rfl (Nat.le_of_ble_eq_true rfl) (Nat.le_of_ble_eq_true rfl) ?_
  refine ng_aload_n (i := 0) (q := 5) hX dX8_init_4 rfl rfl rfl ?_
  refine ng_bipush (v := 50) (q := 7) hX dX8_init_5 lb_50 rfl ?_
  refine ng_newa (at_ := .int) (ty := .int) (t0 := 0) (N := 50) (a0 := (50, .inl (fun _ => 0))) (cA := (sx_w X).2.2.2 0) (q := 9) hX wc_268 rfl rfl (fun C h => by cases h) (fun _ => rfl) (by decide) (by decide) (Nat.le_of_ble_eq_true rfl) (Nat.le_of_ble_eq_true rfl) (Nat.le_of_ble_eq_true rfl) dX8_init_7 rfl (fun n0 => ?_)
  refine ng_putF (p := 0) (k := 1) (ws' := [(h0, .inr (8, [.null, .ref n0, .null, .null, .null, .null])), (n0, .inl ((sx_w X).2.2.2 0, 50, .inl (fun _ => 0)))]) (q := 12) hX hni ffX8_11 rfl rfl rfl (Nat.le_of_ble_eq_true rfl) rfl dX8_init_9 rfl ?_
  refine ng_aload_n (i := 0) (q := 13) hX dX8_init_12 rfl rfl rfl ?_
  refine ng_bipush (v := 6) (q := 15) hX dX8_init_13 lb_6 rfl ?_
  refine ng_newa (at_ := .int) (ty := .int) (t0 := 0) (N := 6) (a0 := (6, .inl (fun _ => 0))) (cA := (sx_w X).2.2.2 0) (q := 17) hX wc_268 rfl rfl (fun C h => by cases h) (fun _ => rfl) (by decide) (by decide) (Nat.le_of_ble_eq_true rfl) (Nat.le_of_ble_eq_true rfl) (Nat.le_of_ble_eq_true rfl) dX8_init_15 rfl (fun n1 => ?_)
  refine ng_putF (p := 0) (k := 2) (ws' := [(h0, .inr (8, [.null, .ref n0, .ref n1, .null, .null, .null])), (n0, .inl ((sx_w X).2.2.2 0, 50, .inl (fun _ => 0))), (n1, .inl ((sx_w X).2.2.2 0, 6, .inl (fun _ => 0)))]) (q := 20) hX hni ffX8_15 rfl rfl rfl (Nat.le_of_ble_eq_true rfl) rfl dX8_init_17 rfl ?_
  refine ng_aload_n (i := 0) (q := 21) hX dX8_init_20 rfl rfl rfl ?_
  refine ng_bipush (v := 7) (q := 23) hX dX8_init_21 lb_7 rfl ?_
  refine ng_newa (at_ := .int) (ty := .int) (t0 := 0) (N := 7) (a0 := (7, .inl (fun _ => 0))) (cA := (sx_w X).2.2.2 0) (q := 25) hX wc_268 rfl rfl (fun C h => by cases h) (fun _ => rfl) (by decide) (by decide) (Nat.le_of_ble_eq_true rfl) (Nat.le_of_ble_eq_true rfl) (Nat.le_of_ble_eq_true rfl) dX8_init_23 rfl (fun n2 => ?_)
  refine ng_putF (p := 0) (k := 3) (ws' := [(h0, .inr (8, [.null, .ref n0, .ref n1, .ref n2, .null, .null])), (n0, .inl ((sx_w X).2.2.2 0, 50, .inl (fun _ => 0))), (n1, .inl ((sx_w X).2.2.2 0, 6, .inl (fun _ => 0))), (n2, .inl ((sx_w X).2.2.2 0, 7, .inl (fun _ => 0)))]) (q := 28) hX hni ffX8_18 rfl rfl rfl (Nat.le_of_ble_eq_true rfl) rfl dX8_init_25 rfl ?_
  refine ng_aload_n (i := 0) (q := 29) hX dX8_init_28 rfl rfl rfl ?_
  refine ng_bipush (v := 10) (q := 31) hX dX8_init_29 lb_10 rfl ?_
  refine ng_newa (at_ := .int) (ty := .int) (t0 := 0) (N := 10) (a0 := (10, .inl (fun _ => 0))) (cA := (sx_w X).2.2.2 0) (q := 33) hX wc_268 rfl rfl (fun C h => by cases h) (fun _ => rfl) (by decide) (by decide) (Nat.le_of_ble_eq_true rfl) (Nat.le_of_ble_eq_true rfl) (Nat.le_of_ble_eq_true rfl) dX8_init_31 rfl (fun n3 => ?_)
  refine ng_putF (p := 0) (k := 4) (ws' := [(h0, .inr (8, [.null, .ref n0, .ref n1, .ref n2, .ref n3, .null])), (n0, .inl ((sx_w X).2.2.2 0, 50, .inl (fun _ => 0))), (n1, .inl ((sx_w X).2.2.2 0, 6, .inl (fun _ => 0))), (n2, .inl ((sx_w X).2.2.2 0, 7, .inl (fun _ => 0))), (n3, .inl ((sx_w X).2.2.2 0, 10, .inl (fun _ => 0)))]) (q := 36) hX hni ffX8_21 rfl rfl rfl (Nat.le_of_ble_eq_true rfl) rfl dX8_init_33 rfl ?_
  refine ng_aload_n (i := 0) (q := 37) hX dX8_init_36 rfl rfl rfl ?_
  refine ng_new (ci := 0) (N := 7) (fs := [.null, .int 0, .int 0, .int 0, .int 0, .int 0, .int 0]) (q := 40) hX fwX0 tyX0_ok wc_357 wc_358 wd_134 rfl dfX0 (Nat.le_of_ble_eq_true rfl) (Nat.le_of_ble_eq_true rfl) dX8_init_37 rfl (fun n4 => ?_)
  refine ng_dup (q := 41) hX dX8_init_40 rfl rfl ?_
  refine ng_ctorN (n := 0) (k := 5) (As := []) (rest := [.ref n4, .ref h0]) (q := 44) (host := "SwordPeace") hX (ctX0_init (sp_st hX)) (by decide) wd_360 wd_134 wd_361 rfl (by decide +kernel) rfl rfl rfl rfl rfl (Nat.le_of_ble_eq_true rfl) (Nat.le_of_ble_eq_true rfl) (Nat.le_of_ble_eq_true rfl) (Nat.le_of_ble_eq_true rfl) (Nat.le_of_ble_eq_true rfl) dX8_init_41 rfl (fun q41 => ?_)
  show ng_G X [(h0, .inr (8, [.null, .ref n0, .ref n1, .ref n2, .ref n3, .null])), (n0, .inl ((sx_w X).2.2.2 0, 50, .inl (fun _ => 0))), (n1, .inl ((sx_w X).2.2.2 0, 6, .inl (fun _ => 0))), (n2, .inl ((sx_w X).2.2.2 0, 7, .inl (fun _ => 0))), (n3, .inl ((sx_w X).2.2.2 0, 10, .inl (fun _ => 0))), (n4, .inr (0, [.ref (q41 0), .int 0, .int 0, .int 0, .int 0, .int 0, .int 0])), (q41 0, .inl ((sx_w X).2.2.2 0, 40, .inl (fun _ => 0)))] _ _ _ _ _ _
  refine ng_putF (p := 0) (k := 5) (ws' := [(h0, .inr (8, [.null, .ref n0, .ref n1, .ref n2, .ref n3, .ref n4])), (n0, .inl ((sx_w X).2.2.2 0, 50, .inl (fun _ => 0))), (n1, .inl ((sx_w X).2.2.2 0, 6, .inl (fun _ => 0))), (n2, .inl ((sx_w X).2.2.2 0, 7, .inl (fun _ => 0))), (n3, .inl ((sx_w X).2.2.2 0, 10, .inl (fun _ => 0))), (n4, .inr (0, [.ref (q41 0), .int 0, .int 0, .int 0, .int 0, .int 0, .int 0])), (q41 0, .inl ((sx_w X).2.2.2 0, 40, .inl (fun _ => 0)))]) (q := 47) hX hni ffX8_27 rfl rfl rfl (Nat.le_of_ble_eq_true rfl) rfl dX8_init_44 rfl ?_
  refine ng_aload_n (i := 0) (q := 48) hX dX8_init_47 rfl rfl rfl ?_
  refine ng_aload_n (i := 1) (q := 49) hX dX8_init_48 rfl rfl rfl ?_
  refine ng_put (p := 0) (k := 0) (ws' := [(h0, .inr (8, [.ref p1, .ref n0, .ref n1, .ref n2, .ref n3, .ref n4])), (n0, .inl ((sx_w X).2.2.2 0, 50, .inl (fun _ => 0))), (n1, .inl ((sx_w X).2.2.2 0, 6, .inl (fun _ => 0))), (n2, .inl ((sx_w X).2.2.2 0, 7, .inl (fun _ => 0))), (n3, .inl ((sx_w X).2.2.2 0, 10, .inl (fun _ => 0))), (n4, .inr (0, [.ref (q41 0), .int 0, .int 0, .int 0, .int 0, .int 0, .int 0])), (q41 0, .inl ((sx_w X).2.2.2 0, 40, .inl (fun _ => 0)))]) (q := 52) hX fpX8_31 rfl rfl rfl (Nat.le_of_ble_eq_true rfl) rfl dX8_init_49 rfl ?_
  exact ng_vret (fun i => [n0, n1, n2, n3, n4, q41 0].getD i 0) hX hR rfl dX8_init_52 (Nat.le_of_ble_eq_true rfl) (Nat.le_of_ble_eq_true rfl)
def LCX1 (w : sp_Wd) (h0 : Nat) (p1 : Nat) (q : Nat → Nat) : va_W := [(h0, .inr (1, [.ref (q 6), .ref (q 0), .ref (q 4), .ref (q 5), .int 0, .int 0])), ((q 0), .inr (9, [.ref (q 1), .ref (q 2), .ref (q 3), .int 0])), ((q 1), .inl (w.2.2.2 0, 8, .inl (fun _ => 0))), ((q 2), .inl (w.2.2.2 0, 8, .inl (fun _ => 0))), ((q 3), .inl (w.2.2.2 0, 8, .inl (fun _ => 0))), ((q 4), .inl (w.2.2.2 0, 3, .inl (fun _ => 0))), ((q 5), .inl (w.2.2.2 0, 2000, .inl (fun _ => 0))), ((q 6), .inr (8, [.ref p1, .ref (q 7), .ref (q 8), .ref (q 9), .ref (q 10), .ref (q 11)])), ((q 7), .inl (w.2.2.2 0, 50, .inl (fun _ => 0))), ((q 8), .inl (w.2.2.2 0, 6, .inl (fun _ => 0))), ((q 9), .inl (w.2.2.2 0, 7, .inl (fun _ => 0))), ((q 10), .inl (w.2.2.2 0, 10, .inl (fun _ => 0))), ((q 11), .inr (0, [.ref (q 12), .int 0, .int 0, .int 0, .int 0, .int 0, .int 0])), ((q 12), .inl (w.2.2.2 0, 40, .inl (fun _ => 0)))]
def rmX1_init : Room := { frames := 3, cells := 13, slots := 2157, locals := 61 }
set_option maxRecDepth 100000 in
set_option maxHeartbeats 8000000 in
theorem ctX1_init {l : Launch} (hst : l.stackTraces = false) {w : sp_Wd} {h0 p1 : Nat} : ng_C l w yX1_init cX1_init 2 rmX1_init 13 2157 h0 1 [.null, .null, .null, .null, .int 0, .int 0] [.ref p1] (LCX1 w h0 p1) := by
  refine ng_c (own := RX1) (by decide) rfl rfl hst (Nat.le_of_ble_eq_true rfl) rfl (fun X hX hw hl hni hR => ?_)
  subst hw
  subst hl
  show ng_G X _ _ [some (.ref h0), some (.ref p1)] _ _ _ _
  refine ng_aload_n (i := 0) (q := 1) hX dX1_init_0 rfl rfl rfl ?_
  refine ng_obj (q := 4) hX wc_325 wc_160 wc_161 dX1_init_1 rfl (Nat.le_of_ble_eq_true rfl) (Nat.le_of_ble_eq_true rfl) ?_
  refine ng_aload_n (i := 0) (q := 5) hX dX1_init_4 rfl rfl rfl ?_
  refine ng_new (ci := 9) (N := 4) (fs := [.null, .null, .null, .int 0]) (q := 8) hX fwX9 tyX9_ok wc_326 wc_327 wd_132 rfl dfX9 (Nat.le_of_ble_eq_true rfl) (Nat.le_of_ble_eq_true rfl) dX1_init_5 rfl (fun n0 => ?_)
  refine ng_dup (q := 9) hX dX1_init_8 rfl rfl ?_
  refine ng_ctorN (n := 0) (k := 1) (As := []) (rest := [.ref n0, .ref h0]) (q := 12) (host := "SwordPeace") hX (ctX9_init (sp_st hX)) (by decide) wd_329 wd_132 wd_330 rfl (by decide +kernel) rfl rfl rfl rfl rfl (Nat.le_of_ble_eq_true rfl) (Nat.le_of_ble_eq_true rfl) (Nat.le_of_ble_eq_true rfl) (Nat.le_of_ble_eq_true rfl) (Nat.le_of_ble_eq_true rfl) dX1_init_9 rfl (fun q9 => ?_)
  show ng_G X [(h0, .inr (1, [.null, .null, .null, .null, .int 0, .int 0])), (n0, .inr (9, [.ref (q9 0), .ref (q9 1), .ref (q9 2), .int 0])), (q9 0, .inl ((sx_w X).2.2.2 0, 8, .inl (fun _ => 0))), (q9 1, .inl ((sx_w X).2.2.2 0, 8, .inl (fun _ => 0))), (q9 2, .inl ((sx_w X).2.2.2 0, 8, .inl (fun _ => 0)))] _ _ _ _ _ _
  refine ng_putF (p := 0) (k := 1) (ws' := [(h0, .inr (1, [.null, .ref n0, .null, .null, .int 0, .int 0])), (n0, .inr (9, [.ref (q9 0), .ref (q9 1), .ref (q9 2), .int 0])), (q9 0, .inl ((sx_w X).2.2.2 0, 8, .inl (fun _ => 0))), (q9 1, .inl ((sx_w X).2.2.2 0, 8, .inl (fun _ => 0))), (q9 2, .inl ((sx_w X).2.2.2 0, 8, .inl (fun _ => 0)))]) (q := 15) hX hni ffX1_12 rfl rfl rfl (Nat.le_of_ble_eq_true rfl) rfl dX1_init_12 rfl ?_
  refine ng_aload_n (i := 0) (q := 16) hX dX1_init_15 rfl rfl rfl ?_
  refine ng_iconst (v := 3) (q := 17) hX dX1_init_16 li_3 rfl ?_
  refine ng_newa (at_ := .int) (ty := .int) (t0 := 0) (N := 3) (a0 := (3, .inl (fun _ => 0))) (cA := (sx_w X).2.2.2 0) (q := 19) hX wc_268 rfl rfl (fun C h => by cases h) (fun _ => rfl) (by decide) (by decide) (Nat.le_of_ble_eq_true rfl) (Nat.le_of_ble_eq_true rfl) (Nat.le_of_ble_eq_true rfl) dX1_init_17 rfl (fun n4 => ?_)
  refine ng_putF (p := 0) (k := 2) (ws' := [(h0, .inr (1, [.null, .ref n0, .ref n4, .null, .int 0, .int 0])), (n0, .inr (9, [.ref (q9 0), .ref (q9 1), .ref (q9 2), .int 0])), (q9 0, .inl ((sx_w X).2.2.2 0, 8, .inl (fun _ => 0))), (q9 1, .inl ((sx_w X).2.2.2 0, 8, .inl (fun _ => 0))), (q9 2, .inl ((sx_w X).2.2.2 0, 8, .inl (fun _ => 0))), (n4, .inl ((sx_w X).2.2.2 0, 3, .inl (fun _ => 0)))]) (q := 22) hX hni ffX1_18 rfl rfl rfl (Nat.le_of_ble_eq_true rfl) rfl dX1_init_19 rfl ?_
  refine ng_aload_n (i := 0) (q := 23) hX dX1_init_22 rfl rfl rfl ?_
  refine ng_sipush (v := 2000) (q := 26) hX dX1_init_23 ls_2000 rfl ?_
  refine ng_newa (at_ := .int) (ty := .int) (t0 := 0) (N := 2000) (a0 := (2000, .inl (fun _ => 0))) (cA := (sx_w X).2.2.2 0) (q := 28) hX wc_268 rfl rfl (fun C h => by cases h) (fun _ => rfl) (by decide) (by decide) (Nat.le_of_ble_eq_true rfl) (Nat.le_of_ble_eq_true rfl) (Nat.le_of_ble_eq_true rfl) dX1_init_26 rfl (fun n5 => ?_)
  refine ng_putF (p := 0) (k := 3) (ws' := [(h0, .inr (1, [.null, .ref n0, .ref n4, .ref n5, .int 0, .int 0])), (n0, .inr (9, [.ref (q9 0), .ref (q9 1), .ref (q9 2), .int 0])), (q9 0, .inl ((sx_w X).2.2.2 0, 8, .inl (fun _ => 0))), (q9 1, .inl ((sx_w X).2.2.2 0, 8, .inl (fun _ => 0))), (q9 2, .inl ((sx_w X).2.2.2 0, 8, .inl (fun _ => 0))), (n4, .inl ((sx_w X).2.2.2 0, 3, .inl (fun _ => 0))), (n5, .inl ((sx_w X).2.2.2 0, 2000, .inl (fun _ => 0)))]) (q := 31) hX hni ffX1_24 rfl rfl rfl (Nat.le_of_ble_eq_true rfl) rfl dX1_init_28 rfl ?_
  refine ng_aload_n (i := 0) (q := 32) hX dX1_init_31 rfl rfl rfl ?_
  refine ng_new (ci := 8) (N := 6) (fs := [.null, .null, .null, .null, .null, .null]) (q := 35) hX fwX8 tyX8_ok wc_351 wc_352 wd_133 rfl dfX8 (Nat.le_of_ble_eq_true rfl) (Nat.le_of_ble_eq_true rfl) dX1_init_32 rfl (fun n6 => ?_)
  refine ng_dup (q := 36) hX dX1_init_35 rfl rfl ?_
  refine ng_aload_n (i := 1) (q := 37) hX dX1_init_36 rfl rfl rfl ?_
  refine ng_ctor (n := 1) (k := 7) (As := [.ref p1]) (rest := [.ref n6, .ref h0]) (q := 40) hX (ctX8_init (sp_st hX)) wd_353 wd_354 wd_133 wd_355 rfl (by decide +kernel) rfl rfl rfl rfl rfl (Nat.le_of_ble_eq_true rfl) (Nat.le_of_ble_eq_true rfl) (Nat.le_of_ble_eq_true rfl) (Nat.le_of_ble_eq_true rfl) (Nat.le_of_ble_eq_true rfl) dX1_init_37 rfl (fun q37 => ?_)
  show ng_G X [(h0, .inr (1, [.null, .ref n0, .ref n4, .ref n5, .int 0, .int 0])), (n0, .inr (9, [.ref (q9 0), .ref (q9 1), .ref (q9 2), .int 0])), (q9 0, .inl ((sx_w X).2.2.2 0, 8, .inl (fun _ => 0))), (q9 1, .inl ((sx_w X).2.2.2 0, 8, .inl (fun _ => 0))), (q9 2, .inl ((sx_w X).2.2.2 0, 8, .inl (fun _ => 0))), (n4, .inl ((sx_w X).2.2.2 0, 3, .inl (fun _ => 0))), (n5, .inl ((sx_w X).2.2.2 0, 2000, .inl (fun _ => 0))), (n6, .inr (8, [.ref p1, .ref (q37 0), .ref (q37 1), .ref (q37 2), .ref (q37 3), .ref (q37 4)])), (q37 0, .inl ((sx_w X).2.2.2 0, 50, .inl (fun _ => 0))), (q37 1, .inl ((sx_w X).2.2.2 0, 6, .inl (fun _ => 0))), (q37 2, .inl ((sx_w X).2.2.2 0, 7, .inl (fun _ => 0))), (q37 3, .inl ((sx_w X).2.2.2 0, 10, .inl (fun _ => 0))), (q37 4, .inr (0, [.ref (q37 5), .int 0, .int 0, .int 0, .int 0, .int 0, .int 0])), (q37 5, .inl ((sx_w X).2.2.2 0, 40, .inl (fun _ => 0)))] _ _ _ _ _ _
  refine ng_putF (p := 0) (k := 0) (ws' := [(h0, .inr (1, [.ref n6, .ref n0, .ref n4, .ref n5, .int 0, .int 0])), (n0, .inr (9, [.ref (q9 0), .ref (q9 1), .ref (q9 2), .int 0])), (q9 0, .inl ((sx_w X).2.2.2 0, 8, .inl (fun _ => 0))), (q9 1, .inl ((sx_w X).2.2.2 0, 8, .inl (fun _ => 0))), (q9 2, .inl ((sx_w X).2.2.2 0, 8, .inl (fun _ => 0))), (n4, .inl ((sx_w X).2.2.2 0, 3, .inl (fun _ => 0))), (n5, .inl ((sx_w X).2.2.2 0, 2000, .inl (fun _ => 0))), (n6, .inr (8, [.ref p1, .ref (q37 0), .ref (q37 1), .ref (q37 2), .ref (q37 3), .ref (q37 4)])), (q37 0, .inl ((sx_w X).2.2.2 0, 50, .inl (fun _ => 0))), (q37 1, .inl ((sx_w X).2.2.2 0, 6, .inl (fun _ => 0))), (q37 2, .inl ((sx_w X).2.2.2 0, 7, .inl (fun _ => 0))), (q37 3, .inl ((sx_w X).2.2.2 0, 10, .inl (fun _ => 0))), (q37 4, .inr (0, [.ref (q37 5), .int 0, .int 0, .int 0, .int 0, .int 0, .int 0])), (q37 5, .inl ((sx_w X).2.2.2 0, 40, .inl (fun _ => 0)))]) (q := 43) hX hni ffX1_30 rfl rfl rfl (Nat.le_of_ble_eq_true rfl) rfl dX1_init_40 rfl ?_
  exact ng_vret (fun i => [n0, q9 0, q9 1, q9 2, n4, n5, n6, q37 0, q37 1, q37 2, q37 3, q37 4, q37 5].getD i 0) hX hR rfl dX1_init_43 (Nat.le_of_ble_eq_true rfl) (Nat.le_of_ble_eq_true rfl)
def LCX3 (w : sp_Wd) (h0 : Nat) (p1 : Nat) (p2 : Nat) (p3 : Nat) (q : Nat → Nat) : va_W := [(h0, .inr (3, [.ref p1, .ref p2, .ref p3, .ref (q 0), .int 0, .int 0])), ((q 0), .inl (w.2.2.2 2, 20, .inr (.inl (fun _ => 0))))]
def rmX3_init : Room := { frames := 1, cells := 1, slots := 20, locals := 20 }
set_option maxRecDepth 100000 in
set_option maxHeartbeats 8000000 in
theorem ctX3_init {l : Launch} (hst : l.stackTraces = false) {w : sp_Wd} {h0 p1 p2 p3 : Nat} : ng_C l w yX3_init cX3_init 4 rmX3_init 1 20 h0 3 [.null, .null, .null, .null, .int 0, .int 0] [.ref p1, .ref p2, .ref p3] (LCX3 w h0 p1 p2 p3) := by
  refine ng_c (own := RX3) (by decide) rfl rfl hst (Nat.le_of_ble_eq_true rfl) rfl (fun X hX hw hl hni hR => ?_)
  subst hw
  subst hl
  show ng_G X _ _ [some (.ref h0), some (.ref p1), some (.ref p2), some (.ref p3)] _ _ _ _
  refine ng_aload_n (i := 0) (q := 1) hX dX3_init_0 rfl rfl rfl ?_
  refine ng_obj (q := 4) hX wc_503 wc_160 wc_161 dX3_init_1 rfl (Nat.le_of_ble_eq_true rfl) (Nat.le_of_ble_eq_true rfl) ?_
  refine ng_aload_n (i := 0) (q := 5) hX dX3_init_4 rfl rfl rfl ?_
  refine ng_bipush (v := 20) (q := 7) hX dX3_init_5 lb_20 rfl ?_
  refine ng_newa (at_ := .long) (ty := .long) (t0 := 2) (N := 20) (a0 := (20, .inr (.inl (fun _ => 0)))) (cA := (sx_w X).2.2.2 2) (q := 9) hX wc_525 rfl rfl (fun C h => by cases h) (fun _ => rfl) (by decide) (by decide) (Nat.le_of_ble_eq_true rfl) (Nat.le_of_ble_eq_true rfl) (Nat.le_of_ble_eq_true rfl) dX3_init_7 rfl (fun n0 => ?_)
  refine ng_putF (p := 0) (k := 3) (ws' := [(h0, .inr (3, [.null, .null, .null, .ref n0, .int 0, .int 0])), (n0, .inl ((sx_w X).2.2.2 2, 20, .inr (.inl (fun _ => 0))))]) (q := 12) hX hni ffX3_9 rfl rfl rfl (Nat.le_of_ble_eq_true rfl) rfl dX3_init_9 rfl ?_
  refine ng_aload_n (i := 0) (q := 13) hX dX3_init_12 rfl rfl rfl ?_
  refine ng_aload_n (i := 1) (q := 14) hX dX3_init_13 rfl rfl rfl ?_
  refine ng_putF (p := 0) (k := 0) (ws' := [(h0, .inr (3, [.ref p1, .null, .null, .ref n0, .int 0, .int 0])), (n0, .inl ((sx_w X).2.2.2 2, 20, .inr (.inl (fun _ => 0))))]) (q := 17) hX hni ffX3_15 rfl rfl rfl (Nat.le_of_ble_eq_true rfl) rfl dX3_init_14 rfl ?_
  refine ng_aload_n (i := 0) (q := 18) hX dX3_init_17 rfl rfl rfl ?_
  refine ng_aload_n (i := 2) (q := 19) hX dX3_init_18 rfl rfl rfl ?_
  refine ng_putF (p := 0) (k := 1) (ws' := [(h0, .inr (3, [.ref p1, .ref p2, .null, .ref n0, .int 0, .int 0])), (n0, .inl ((sx_w X).2.2.2 2, 20, .inr (.inl (fun _ => 0))))]) (q := 22) hX hni ffX3_19 rfl rfl rfl (Nat.le_of_ble_eq_true rfl) rfl dX3_init_19 rfl ?_
  refine ng_aload_n (i := 0) (q := 23) hX dX3_init_22 rfl rfl rfl ?_
  refine ng_aload_n (i := 3) (q := 24) hX dX3_init_23 rfl rfl rfl ?_
  refine ng_putF (p := 0) (k := 2) (ws' := [(h0, .inr (3, [.ref p1, .ref p2, .ref p3, .ref n0, .int 0, .int 0])), (n0, .inl ((sx_w X).2.2.2 2, 20, .inr (.inl (fun _ => 0))))]) (q := 27) hX hni ffX3_23 rfl rfl rfl (Nat.le_of_ble_eq_true rfl) rfl dX3_init_24 rfl ?_
  exact ng_vret (fun i => [n0].getD i 0) hX hR rfl dX3_init_27 (Nat.le_of_ble_eq_true rfl) (Nat.le_of_ble_eq_true rfl)
def LCX4 (w : sp_Wd) (h0 : Nat) (p1 : Nat) (p2 : Nat) (q : Nat → Nat) : va_W := [(h0, .inr (4, [.ref p1, .ref p2, .ref (q 0), .ref (q 1), .int 0, .int 0, .int 0, .int 0, .int 0])), ((q 0), .inl (w.2.2.2 0, 4, .inl (fun _ => 0))), ((q 1), .inl (w.2.2.2 0, 4, .inl (fun _ => 0)))]
def rmX4_init : Room := { frames := 1, cells := 2, slots := 8, locals := 20 }
set_option maxRecDepth 100000 in
set_option maxHeartbeats 8000000 in
theorem ctX4_init {l : Launch} (hst : l.stackTraces = false) {w : sp_Wd} {h0 p1 p2 : Nat} : ng_C l w yX4_init cX4_init 3 rmX4_init 2 8 h0 4 [.null, .null, .null, .null, .int 0, .int 0, .int 0, .int 0, .int 0] [.ref p1, .ref p2] (LCX4 w h0 p1 p2) := by
  refine ng_c (own := RX4) (by decide) rfl rfl hst (Nat.le_of_ble_eq_true rfl) rfl (fun X hX hw hl hni hR => ?_)
  subst hw
  subst hl
  show ng_G X _ _ [some (.ref h0), some (.ref p1), some (.ref p2)] _ _ _ _
  refine ng_aload_n (i := 0) (q := 1) hX dX4_init_0 rfl rfl rfl ?_
  refine ng_obj (q := 4) hX wc_443 wc_160 wc_161 dX4_init_1 rfl (Nat.le_of_ble_eq_true rfl) (Nat.le_of_ble_eq_true rfl) ?_
  refine ng_aload_n (i := 0) (q := 5) hX dX4_init_4 rfl rfl rfl ?_
  refine ng_iconst (v := 4) (q := 6) hX dX4_init_5 li_4 rfl ?_
  refine ng_newa (at_ := .int) (ty := .int) (t0 := 0) (N := 4) (a0 := (4, .inl (fun _ => 0))) (cA := (sx_w X).2.2.2 0) (q := 8) hX wc_268 rfl rfl (fun C h => by cases h) (fun _ => rfl) (by decide) (by decide) (Nat.le_of_ble_eq_true rfl) (Nat.le_of_ble_eq_true rfl) (Nat.le_of_ble_eq_true rfl) dX4_init_6 rfl (fun n0 => ?_)
  refine ng_putF (p := 0) (k := 2) (ws' := [(h0, .inr (4, [.null, .null, .ref n0, .null, .int 0, .int 0, .int 0, .int 0, .int 0])), (n0, .inl ((sx_w X).2.2.2 0, 4, .inl (fun _ => 0)))]) (q := 11) hX hni ffX4_9 rfl rfl rfl (Nat.le_of_ble_eq_true rfl) rfl dX4_init_8 rfl ?_
  refine ng_aload_n (i := 0) (q := 12) hX dX4_init_11 rfl rfl rfl ?_
  refine ng_iconst (v := 4) (q := 13) hX dX4_init_12 li_4 rfl ?_
  refine ng_newa (at_ := .int) (ty := .int) (t0 := 0) (N := 4) (a0 := (4, .inl (fun _ => 0))) (cA := (sx_w X).2.2.2 0) (q := 15) hX wc_268 rfl rfl (fun C h => by cases h) (fun _ => rfl) (by decide) (by decide) (Nat.le_of_ble_eq_true rfl) (Nat.le_of_ble_eq_true rfl) (Nat.le_of_ble_eq_true rfl) dX4_init_13 rfl (fun n1 => ?_)
  refine ng_putF (p := 0) (k := 3) (ws' := [(h0, .inr (4, [.null, .null, .ref n0, .ref n1, .int 0, .int 0, .int 0, .int 0, .int 0])), (n0, .inl ((sx_w X).2.2.2 0, 4, .inl (fun _ => 0))), (n1, .inl ((sx_w X).2.2.2 0, 4, .inl (fun _ => 0)))]) (q := 18) hX hni ffX4_15 rfl rfl rfl (Nat.le_of_ble_eq_true rfl) rfl dX4_init_15 rfl ?_
  refine ng_aload_n (i := 0) (q := 19) hX dX4_init_18 rfl rfl rfl ?_
  refine ng_aload_n (i := 1) (q := 20) hX dX4_init_19 rfl rfl rfl ?_
  refine ng_putF (p := 0) (k := 0) (ws' := [(h0, .inr (4, [.ref p1, .null, .ref n0, .ref n1, .int 0, .int 0, .int 0, .int 0, .int 0])), (n0, .inl ((sx_w X).2.2.2 0, 4, .inl (fun _ => 0))), (n1, .inl ((sx_w X).2.2.2 0, 4, .inl (fun _ => 0)))]) (q := 23) hX hni ffX4_18 rfl rfl rfl (Nat.le_of_ble_eq_true rfl) rfl dX4_init_20 rfl ?_
  refine ng_aload_n (i := 0) (q := 24) hX dX4_init_23 rfl rfl rfl ?_
  refine ng_aload_n (i := 2) (q := 25) hX dX4_init_24 rfl rfl rfl ?_
  refine ng_putF (p := 0) (k := 1) (ws' := [(h0, .inr (4, [.ref p1, .ref p2, .ref n0, .ref n1, .int 0, .int 0, .int 0, .int 0, .int 0])), (n0, .inl ((sx_w X).2.2.2 0, 4, .inl (fun _ => 0))), (n1, .inl ((sx_w X).2.2.2 0, 4, .inl (fun _ => 0)))]) (q := 28) hX hni ffX4_22 rfl rfl rfl (Nat.le_of_ble_eq_true rfl) rfl dX4_init_25 rfl ?_
  exact ng_vret (fun i => [n0, n1].getD i 0) hX hR rfl dX4_init_28 (Nat.le_of_ble_eq_true rfl) (Nat.le_of_ble_eq_true rfl)
def LCX5 (w : sp_Wd) (h0 : Nat) (p1 : Nat) (q : Nat → Nat) : va_W := [(h0, .inr (5, [.ref p1, .ref (q 0), .ref (q 1), .ref (q 2), .int 0])), ((q 0), .inl (w.2.2.2 0, 1024, .inl (fun _ => 0))), ((q 1), .inl (w.2.2.2 0, 1024, .inl (fun _ => 0))), ((q 2), .inl (w.2.2.2 0, 5, .inl (fun _ => 0)))]
def rmX5_init : Room := { frames := 1, cells := 3, slots := 2053, locals := 20 }
set_option maxRecDepth 100000 in
set_option maxHeartbeats 8000000 in
theorem ctX5_init {l : Launch} (hst : l.stackTraces = false) {w : sp_Wd} {h0 p1 : Nat} : ng_C l w yX5_init cX5_init 2 rmX5_init 3 2053 h0 5 [.null, .null, .null, .null, .int 0] [.ref p1] (LCX5 w h0 p1) := by
  refine ng_c (own := RX5) (by decide) rfl rfl hst (Nat.le_of_ble_eq_true rfl) rfl (fun X hX hw hl hni hR => ?_)
  subst hw
  subst hl
  show ng_G X _ _ [some (.ref h0), some (.ref p1)] _ _ _ _
  refine ng_aload_n (i := 0) (q := 1) hX dX5_init_0 rfl rfl rfl ?_
  refine ng_obj (q := 4) hX wc_481 wc_160 wc_161 dX5_init_1 rfl (Nat.le_of_ble_eq_true rfl) (Nat.le_of_ble_eq_true rfl) ?_
  refine ng_aload_n (i := 0) (q := 5) hX dX5_init_4 rfl rfl rfl ?_
  refine ng_sipush (v := 1024) (q := 8) hX dX5_init_5 ls_1024 rfl ?_
  refine ng_newa (at_ := .int) (ty := .int) (t0 := 0) (N := 1024) (a0 := (1024, .inl (fun _ => 0))) (cA := (sx_w X).2.2.2 0) (q := 10) hX wc_268 rfl rfl (fun C h => by cases h) (fun _ => rfl) (by decide) (by decide) (Nat.le_of_ble_eq_true rfl) (Nat.le_of_ble_eq_true rfl) (Nat.le_of_ble_eq_true rfl) dX5_init_8 rfl (fun n0 => ?_)
  refine ng_putF (p := 0) (k := 1) (ws' := [(h0, .inr (5, [.null, .ref n0, .null, .null, .int 0])), (n0, .inl ((sx_w X).2.2.2 0, 1024, .inl (fun _ => 0)))]) (q := 13) hX hni ffX5_11 rfl rfl rfl (Nat.le_of_ble_eq_true rfl) rfl dX5_init_10 rfl ?_
  refine ng_aload_n (i := 0) (q := 14) hX dX5_init_13 rfl rfl rfl ?_
  refine ng_sipush (v := 1024) (q := 17) hX dX5_init_14 ls_1024 rfl ?_
  refine ng_newa (at_ := .int) (ty := .int) (t0 := 0) (N := 1024) (a0 := (1024, .inl (fun _ => 0))) (cA := (sx_w X).2.2.2 0) (q := 19) hX wc_268 rfl rfl (fun C h => by cases h) (fun _ => rfl) (by decide) (by decide) (Nat.le_of_ble_eq_true rfl) (Nat.le_of_ble_eq_true rfl) (Nat.le_of_ble_eq_true rfl) dX5_init_17 rfl (fun n1 => ?_)
  refine ng_putF (p := 0) (k := 2) (ws' := [(h0, .inr (5, [.null, .ref n0, .ref n1, .null, .int 0])), (n0, .inl ((sx_w X).2.2.2 0, 1024, .inl (fun _ => 0))), (n1, .inl ((sx_w X).2.2.2 0, 1024, .inl (fun _ => 0)))]) (q := 22) hX hni ffX5_15 rfl rfl rfl (Nat.le_of_ble_eq_true rfl) rfl dX5_init_19 rfl ?_
  refine ng_aload_n (i := 0) (q := 23) hX dX5_init_22 rfl rfl rfl ?_
  refine ng_iconst (v := 5) (q := 24) hX dX5_init_23 li_5 rfl ?_
  refine ng_newa (at_ := .int) (ty := .int) (t0 := 0) (N := 5) (a0 := (5, .inl (fun _ => 0))) (cA := (sx_w X).2.2.2 0) (q := 26) hX wc_268 rfl rfl (fun C h => by cases h) (fun _ => rfl) (by decide) (by decide) (Nat.le_of_ble_eq_true rfl) (Nat.le_of_ble_eq_true rfl) (Nat.le_of_ble_eq_true rfl) dX5_init_24 rfl (fun n2 => ?_)
  refine ng_putF (p := 0) (k := 3) (ws' := [(h0, .inr (5, [.null, .ref n0, .ref n1, .ref n2, .int 0])), (n0, .inl ((sx_w X).2.2.2 0, 1024, .inl (fun _ => 0))), (n1, .inl ((sx_w X).2.2.2 0, 1024, .inl (fun _ => 0))), (n2, .inl ((sx_w X).2.2.2 0, 5, .inl (fun _ => 0)))]) (q := 29) hX hni ffX5_18 rfl rfl rfl (Nat.le_of_ble_eq_true rfl) rfl dX5_init_26 rfl ?_
  refine ng_aload_n (i := 0) (q := 30) hX dX5_init_29 rfl rfl rfl ?_
  refine ng_aload_n (i := 1) (q := 31) hX dX5_init_30 rfl rfl rfl ?_
  refine ng_putF (p := 0) (k := 0) (ws' := [(h0, .inr (5, [.ref p1, .ref n0, .ref n1, .ref n2, .int 0])), (n0, .inl ((sx_w X).2.2.2 0, 1024, .inl (fun _ => 0))), (n1, .inl ((sx_w X).2.2.2 0, 1024, .inl (fun _ => 0))), (n2, .inl ((sx_w X).2.2.2 0, 5, .inl (fun _ => 0)))]) (q := 34) hX hni ffX5_21 rfl rfl rfl (Nat.le_of_ble_eq_true rfl) rfl dX5_init_31 rfl ?_
  exact ng_vret (fun i => [n0, n1, n2].getD i 0) hX hR rfl dX5_init_34 (Nat.le_of_ble_eq_true rfl) (Nat.le_of_ble_eq_true rfl)
