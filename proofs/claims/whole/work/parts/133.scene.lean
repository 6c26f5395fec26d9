def rmX8_turnFeud : Room := { frames := 0, cells := 0, slots := 0, locals := 0 }
def X8_turnFeud (n : Nat)  (σ : sp_St) (t : Nat) (a1 : Int32) (a2 : Int32) : Option (sp_St) :=
  sp_ck (sp_in (((35 : Int32)) + a1) 50) <|
  sp_ck (sp_in (((35 : Int32)) + a1) 50) <|
  sp_pl (sp_sa σ (t + 1) (((35 : Int32)) + a1).toNatClampNeg ((sp_g σ (t + 1) (((35 : Int32)) + a1)) ^^^ (((1 : Int32)) <<< (a2 &&& 31)))) fun σ3 =>
  sp_ck (sp_in (((35 : Int32)) + a2) 50) <|
  sp_ck (sp_in (((35 : Int32)) + a2) 50) <|
  sp_pl (sp_sa σ3 (t + 1) (((35 : Int32)) + a2).toNatClampNeg ((sp_g σ3 (t + 1) (((35 : Int32)) + a2)) ^^^ (((1 : Int32)) <<< (a1 &&& 31)))) fun σ7 =>
  sp_ck (sp_in (((41 : Int32)) + a1) 50) <|
  sp_pl (σ7.2.1 t 0) fun c10 =>
  sp_ck (sp_isc c10) <|
  sp_ck (sp_in a2 6) <|
  sp_ck (sp_in (((41 : Int32)) + a1) 50) <|
  sp_pl (sp_sa σ7 (t + 1) (((41 : Int32)) + a1).toNatClampNeg ((sp_g σ7 (t + 1) (((41 : Int32)) + a1)) ^^^ (sp_g σ7 (c10 + 4) a2))) fun σ15 =>
  sp_ck (sp_in (((41 : Int32)) + a2) 50) <|
  sp_pl (σ15.2.1 t 0) fun c18 =>
  sp_ck (sp_isc c18) <|
  sp_ck (sp_in a1 6) <|
  sp_ck (sp_in (((41 : Int32)) + a2) 50) <|
  sp_pl (sp_sa σ15 (t + 1) (((41 : Int32)) + a2).toNatClampNeg ((sp_g σ15 (t + 1) (((41 : Int32)) + a2)) ^^^ (sp_g σ15 (c18 + 4) a1))) fun σ23 =>
  some σ23
set_option maxRecDepth 100000 in
set_option maxHeartbeats 4000000 in
theorem hX8_turnFeud {X : sp_X} (hX : sp_OK shX X cX8_turnFeud RX8 3 rmX8_turnFeud) {τ : sp_St} (hR : sp_Rv shX X τ 0 0) {n : Nat}  {σ : sp_St} {t : Nat} {a1 : Int32} {a2 : Int32} (ht : sp_at shX t 8 6) (hf : X8_turnFeud n σ t a1 a2 = some τ) : sp_GG shX X σ 3 [some (.ref (sx_ad X t)), some (.int a1), some (.int a2)] [] 0 0 0 := by
  unfold X8_turnFeud at hf
  refine sp_aload_n (i := 0) (q := 1) hX dX8_turnFeud_0 rfl rfl rfl ?_
  refine sp_gets (t := t + 1) (q := 4) hX flX8_11 fkX8_1 ht (msX8_1 ht) dX8_turnFeud_1 rfl ?_
  refine sp_bipush (v := 35) (q := 6) hX dX8_turnFeud_4 lb_35 rfl ?_
  refine sp_iload_n (i := 1) (q := 7) hX dX8_turnFeud_6 rfl rfl rfl ?_
  refine sp_iadd (q := 8) hX dX8_turnFeud_7 rfl ?_
  refine sp_dup2 (q := 9) hX dX8_turnFeud_8 rfl rfl rfl ?_
  obtain ⟨h1, hf⟩ := sp_ck_some hf
  refine sp_iald (q := 10) hX (mfX8_1 ht) h1 dX8_turnFeud_9 rfl ?_
  refine sp_iconst (v := 1) (q := 11) hX dX8_turnFeud_10 li_1 rfl ?_
  refine sp_iload_n (i := 2) (q := 12) hX dX8_turnFeud_11 rfl rfl rfl ?_
  refine sp_ishl (q := 13) hX dX8_turnFeud_12 rfl ?_
  refine sp_ixor (q := 14) hX dX8_turnFeud_13 rfl ?_
  obtain ⟨h2, hf⟩ := sp_ck_some hf
  obtain ⟨σ3, e4, hf⟩ := sp_pl_some hf
  refine sp_iast (q := 15) hX (mfX8_1 ht) h2 dX8_turnFeud_14 rfl ?_
  refine sp_nms e4 ?_
  refine sp_aload_n (i := 0) (q := 16) hX dX8_turnFeud_15 rfl rfl rfl ?_
  refine sp_gets (t := t + 1) (q := 19) hX flX8_11 fkX8_1 ht (msX8_1 ht) dX8_turnFeud_16 rfl ?_
  refine sp_bipush (v := 35) (q := 21) hX dX8_turnFeud_19 lb_35 rfl ?_
  refine sp_iload_n (i := 2) (q := 22) hX dX8_turnFeud_21 rfl rfl rfl ?_
  refine sp_iadd (q := 23) hX dX8_turnFeud_22 rfl ?_
  refine sp_dup2 (q := 24) hX dX8_turnFeud_23 rfl rfl rfl ?_
  obtain ⟨h5, hf⟩ := sp_ck_some hf
  refine sp_iald (q := 25) hX (mfX8_1 ht) h5 dX8_turnFeud_24 rfl ?_
  refine sp_iconst (v := 1) (q := 26) hX dX8_turnFeud_25 li_1 rfl ?_
  refine sp_iload_n (i := 1) (q := 27) hX dX8_turnFeud_26 rfl rfl rfl ?_
  refine sp_ishl (q := 28) hX dX8_turnFeud_27 rfl ?_
  refine sp_ixor (q := 29) hX dX8_turnFeud_28 rfl ?_
  obtain ⟨h6, hf⟩ := sp_ck_some hf
  obtain ⟨σ7, e8, hf⟩ := sp_pl_some hf
  refine sp_iast (q := 30) hX (mfX8_1 ht) h6 dX8_turnFeud_29 rfl ?_
  refine sp_nms e8 ?_
  refine sp_aload_n (i := 0) (q := 31) hX dX8_turnFeud_30 rfl rfl rfl ?_
  refine sp_gets (t := t + 1) (q := 34) hX flX8_11 fkX8_1 ht (msX8_1 ht) dX8_turnFeud_31 rfl ?_
  refine sp_bipush (v := 41) (q := 36) hX dX8_turnFeud_34 lb_41 rfl ?_
  refine sp_iload_n (i := 1) (q := 37) hX dX8_turnFeud_36 rfl rfl rfl ?_
  refine sp_iadd (q := 38) hX dX8_turnFeud_37 rfl ?_
  refine sp_dup2 (q := 39) hX dX8_turnFeud_38 rfl rfl rfl ?_
  obtain ⟨h9, hf⟩ := sp_ck_some hf
  refine sp_iald (q := 40) hX (mfX8_1 ht) h9 dX8_turnFeud_39 rfl ?_
  refine sp_aload_n (i := 0) (q := 41) hX dX8_turnFeud_40 rfl rfl rfl ?_
  obtain ⟨c10, e12, hf⟩ := sp_pl_some hf
  obtain ⟨h11, hf⟩ := sp_ck_some hf
  refine sp_getr (q := 44) hX flX8_31 fkX8_0 ht dX8_turnFeud_41 rfl ?_
  refine sp_nmr e12 ?_
  refine sp_gets (t := c10 + 4) (q := 47) hX flX8_63 fkX2_3 (sp_isc_at h11) (msX2_3 (sp_isc_at h11)) dX8_turnFeud_44 rfl ?_
  refine sp_iload_n (i := 2) (q := 48) hX dX8_turnFeud_47 rfl rfl rfl ?_
  obtain ⟨h13, hf⟩ := sp_ck_some hf
  refine sp_iald (q := 49) hX (mfX2_3 (sp_isc_at h11)) h13 dX8_turnFeud_48 rfl ?_
  refine sp_ixor (q := 50) hX dX8_turnFeud_49 rfl ?_
  obtain ⟨h14, hf⟩ := sp_ck_some hf
  obtain ⟨σ15, e16, hf⟩ := sp_pl_some hf
  refine sp_iast (q := 51) hX (mfX8_1 ht) h14 dX8_turnFeud_50 rfl ?_
  refine sp_nms e16 ?_
  refine sp_aload_n (i := 0) (q := 52) hX dX8_turnFeud_51 rfl rfl rfl ?_
  refine sp_gets (t := t + 1) (q := 55) hX flX8_11 fkX8_1 ht (msX8_1 ht) dX8_turnFeud_52 rfl ?_
  refine sp_bipush (v := 41) (q := 57) hX dX8_turnFeud_55 lb_41 rfl ?_
  refine sp_iload_n (i := 2) (q := 58) hX dX8_turnFeud_57 rfl rfl rfl ?_
  refine sp_iadd (q := 59) hX dX8_turnFeud_58 rfl ?_
  refine sp_dup2 (q := 60) hX dX8_turnFeud_59 rfl rfl rfl ?_
  obtain ⟨h17, hf⟩ := sp_ck_some hf
  refine sp_iald (q := 61) hX (mfX8_1 ht) h17 dX8_turnFeud_60 rfl ?_
  refine sp_aload_n (i := 0) (q := 62) hX dX8_turnFeud_61 rfl rfl rfl ?_
  obtain ⟨c18, e20, hf⟩ := sp_pl_some hf
  obtain ⟨h19, hf⟩ := sp_ck_some hf
  refine sp_getr (q := 65) hX flX8_31 fkX8_0 ht dX8_turnFeud_62 rfl ?_
  refine sp_nmr e20 ?_
  refine sp_gets (t := c18 + 4) (q := 68) hX flX8_63 fkX2_3 (sp_isc_at h19) (msX2_3 (sp_isc_at h19)) dX8_turnFeud_65 rfl ?_
  refine sp_iload_n (i := 1) (q := 69) hX dX8_turnFeud_68 rfl rfl rfl ?_
  obtain ⟨h21, hf⟩ := sp_ck_some hf
  refine sp_iald (q := 70) hX (mfX2_3 (sp_isc_at h19)) h21 dX8_turnFeud_69 rfl ?_
  refine sp_ixor (q := 71) hX dX8_turnFeud_70 rfl ?_
  obtain ⟨h22, hf⟩ := sp_ck_some hf
  obtain ⟨σ23, e24, hf⟩ := sp_pl_some hf
  refine sp_iast (q := 72) hX (mfX8_1 ht) h22 dX8_turnFeud_71 rfl ?_
  refine sp_nms e24 ?_
  exact sp_vret hX hR dX8_turnFeud_72 hf (Nat.le_of_ble_eq_true rfl) (Nat.le_of_ble_eq_true rfl)
set_option maxRecDepth 100000 in
set_option maxHeartbeats 4000000 in
theorem cnX8_turnFeud {l : Launch} (hst : l.stackTraces = false) {w : sp_Wd} {n : Nat}  {σ : sp_St} {t : Nat} {a1 : Int32} {a2 : Int32} {τ : sp_St} (ht : sp_at shX t 8 6) (hf : X8_turnFeud n σ t a1 a2 = some τ) : sp_Cv shX l w yX8_turnFeud cX8_turnFeud 3 rmX8_turnFeud 0 0 σ [.ref (w.2.1 t), .int a1, .int a2] τ :=
  sp_cv (own := RX8) (by decide) rfl hst (Nat.le_of_ble_eq_true rfl) rfl (fun X hX hw hl hR => by subst hw; subst hl; exact hX8_turnFeud hX hR  ht hf)
def rmX8_copy : Room := { frames := 1, cells := 0, slots := 0, locals := 100 }
def X8_copy_25 (n : Nat) (t : Nat) (p1 : Nat) : Nat → sp_St → Int32 → Option (sp_St)
  | 0, _, _ => none
  | f + 1, σ, z2 =>
    if ((6 : Int32)) ≤ z2 then
      some σ
    else
      sp_ck (sp_in z2 6) <|
      sp_pl (sp_sa σ (t + 2) z2.toNatClampNeg ((0 : Int32))) fun σ2 =>
      sp_pl (z2 + 1) fun x4 =>
      X8_copy_25 n t p1 f σ2 x4
def X8_copy (n : Nat)  (σ : sp_St) (t : Nat) (p1 : Nat) : Option (sp_St) :=
  sp_pl (σ.2.1 p1 0) fun c1 =>
  sp_ck (sp_isc c1) <|
  sp_pl (sp_sr σ t 0 c1) fun σ4 =>
  sp_pl (sp_cp σ4 (p1 + 1) ((0 : Int32)) (t + 1) ((0 : Int32)) ((50 : Int32))) fun σ7 =>
  sp_pl ((0 : Int32)) fun x9 =>
  X8_copy_25 n t p1 n σ7 x9
set_option maxRecDepth 100000 in
set_option maxHeartbeats 4000000 in
theorem hX8_copy_25 {X : sp_X} (hX : sp_OK shX X cX8_copy RX8 3 rmX8_copy) {τ : sp_St} (hR : sp_Rv shX X τ 0 0) {n : Nat}  {t : Nat} (ht : sp_at shX t 8 6) {p1 : Nat} (hp1 : sp_at shX p1 8 6)  : ∀ (f : Nat) (σ : sp_St) (z2 : Int32), X8_copy_25 n t p1 f σ z2 = some τ → sp_GG shX X σ 3 [some (.ref (sx_ad X t)), none, some (.int z2)] [] 25 0 0 := by
  intro f
  induction f with
  | zero =>
    intro σ z2 hf
    rw [X8_copy_25] at hf
    cases hf
  | succ f ih =>
    intro σ z2 hf
    rw [X8_copy_25] at hf
    refine sp_iload_n (i := 2) (q := 26) hX dX8_copy_25 rfl rfl rfl ?_
    refine sp_bipush (v := 6) (q := 28) hX dX8_copy_26 lb_6 rfl ?_
    refine sp_icmp_ge (tgt := 44) (q := 31) hX dX8_copy_28 (by decide) rfl (fun hc => ?_) (fun hc => ?_)
    · rw [if_pos hc] at hf
      exact sp_vret hX hR dX8_copy_44 hf (Nat.le_of_ble_eq_true rfl) (Nat.le_of_ble_eq_true rfl)
    · rw [if_neg hc] at hf
      refine sp_aload_n (i := 0) (q := 32) hX dX8_copy_31 rfl rfl rfl ?_
      refine sp_gets (t := t + 2) (q := 35) hX flX8_15 fkX8_2 ht (msX8_2 ht) dX8_copy_32 rfl ?_
      refine sp_iload_n (i := 2) (q := 36) hX dX8_copy_35 rfl rfl rfl ?_
      refine sp_iconst (v := 0) (q := 37) hX dX8_copy_36 li_0 rfl ?_
      obtain ⟨h1, hf⟩ := sp_ck_some hf
      obtain ⟨σ2, e3, hf⟩ := sp_pl_some hf
      refine sp_iast (q := 38) hX (mfX8_2 ht) h1 dX8_copy_37 rfl ?_
      refine sp_nms e3 ?_
      obtain ⟨x4, e5, hf⟩ := sp_pl_some hf
      refine sp_iinc (i := 2) (v := x4) (lv' := [some (.ref (sx_ad X t)), none, some (.int x4)]) (q := 41) hX dX8_copy_38 rfl (by rw [e5, li_1]) (Nat.le_of_ble_eq_true rfl) rfl rfl rfl ?_
      refine sp_goto (tgt := 25) hX dX8_copy_41 (by decide) ?_
      exact ih σ2 x4 hf
set_option maxRecDepth 100000 in
set_option maxHeartbeats 4000000 in
theorem hX8_copy {X : sp_X} (hX : sp_OK shX X cX8_copy RX8 3 rmX8_copy) {τ : sp_St} (hR : sp_Rv shX X τ 0 0) {n : Nat}  {σ : sp_St} {t : Nat} {p1 : Nat} (ht : sp_at shX t 8 6) (hp1 : sp_at shX p1 8 6) (hf : X8_copy n σ t p1 = some τ) : sp_GG shX X σ 3 [some (.ref (sx_ad X t)), some (.ref (sx_ad X p1)), none] [] 0 0 0 := by
  unfold X8_copy at hf
  refine sp_aload_n (i := 0) (q := 1) hX dX8_copy_0 rfl rfl rfl ?_
  refine sp_aload_n (i := 1) (q := 2) hX dX8_copy_1 rfl rfl rfl ?_
  obtain ⟨c1, e3, hf⟩ := sp_pl_some hf
  obtain ⟨h2, hf⟩ := sp_ck_some hf
  refine sp_getr (q := 5) hX flX8_31 fkX8_0 hp1 dX8_copy_2 rfl ?_
  refine sp_nmr e3 ?_
  obtain ⟨σ4, e5, hf⟩ := sp_pl_some hf
  refine sp_putr (q := 8) hX fpX8_31 fkX8_0 ht (fun _ => rfl) (fun _ => rfl) dX8_copy_5 rfl ?_
  refine sp_nms e5 ?_
  refine sp_aload_n (i := 1) (q := 9) hX dX8_copy_8 rfl rfl rfl ?_
  refine sp_gets (t := p1 + 1) (q := 12) hX flX8_11 fkX8_1 hp1 (msX8_1 hp1) dX8_copy_9 rfl ?_
  refine sp_iconst (v := 0) (q := 13) hX dX8_copy_12 li_0 rfl ?_
  refine sp_aload_n (i := 0) (q := 14) hX dX8_copy_13 rfl rfl rfl ?_
  refine sp_gets (t := t + 1) (q := 17) hX flX8_11 fkX8_1 ht (msX8_1 ht) dX8_copy_14 rfl ?_
  refine sp_iconst (v := 0) (q := 18) hX dX8_copy_17 li_0 rfl ?_
  refine sp_bipush (v := 50) (q := 20) hX dX8_copy_18 lb_50 rfl ?_
  obtain ⟨σ7, e8, hf⟩ := sp_pl_some hf
  refine sp_copy (q := 23) hX wd_731 wd_605 wd_604 wd_150 (mfX8_1 hp1) (mfX8_1 ht) (by decide) (Nat.le_of_ble_eq_true rfl) (Nat.le_of_ble_eq_true rfl) dX8_copy_20 rfl ?_
  refine sp_nms e8 ?_
  refine sp_iconst (v := 0) (q := 24) hX dX8_copy_23 li_0 rfl ?_
  obtain ⟨x9, e10, hf⟩ := sp_pl_some hf
  refine sp_nmi e10 ?_
  refine sp_istore_n (i := 2) (lv' := [some (.ref (sx_ad X t)), some (.ref (sx_ad X p1)), some (.int x9)]) (q := 25) hX dX8_copy_24 rfl (Nat.le_of_ble_eq_true rfl) rfl rfl rfl ?_
  refine sp_drop (lv' := [some (.ref (sx_ad X t)), none, some (.int x9)]) (And.intro rfl (And.intro rfl trivial)) ?_
  exact hX8_copy_25 hX hR ht hp1 n σ7 x9 hf
set_option maxRecDepth 100000 in
set_option maxHeartbeats 4000000 in
theorem cnX8_copy {l : Launch} (hst : l.stackTraces = false) {w : sp_Wd} {n : Nat}  {σ : sp_St} {t : Nat} {p1 : Nat} {τ : sp_St} (ht : sp_at shX t 8 6) (hp1 : sp_at shX p1 8 6) (hf : X8_copy n σ t p1 = some τ) : sp_Cv shX l w yX8_copy cX8_copy 3 rmX8_copy 0 0 σ [.ref (w.2.1 t), .ref (w.2.1 p1)] τ :=
  sp_cv (own := RX8) (by decide) rfl hst (Nat.le_of_ble_eq_true rfl) rfl (fun X hX hw hl hR => by subst hw; subst hl; exact hX8_copy hX hR  ht hp1 hf)
def rmX8_isOut : Room := { frames := 0, cells := 0, slots := 0, locals := 0 }
def X8_isOut (n : Nat)  (σ : sp_St) (t : Nat) (a1 : Int32) : Option (sp_St × Int32) :=
  sp_ck (sp_in (((10 : Int32)) + a1) 50) <|
  sp_pl (if (sp_g σ (t + 1) (((10 : Int32)) + a1)) = 0 then ((1 : Int32)) else ((0 : Int32))) fun v2 =>
  sp_ck (sp_zb v2) <|
  some (σ, v2)
set_option maxRecDepth 100000 in
set_option maxHeartbeats 4000000 in
theorem hX8_isOut {X : sp_X} (hX : sp_OK shX X cX8_isOut RX8 2 rmX8_isOut) {τ : sp_St} {r : Int32} (hR : sp_Ri shX X (some .boolean) τ r 0 0) {n : Nat}  {σ : sp_St} {t : Nat} {a1 : Int32} (ht : sp_at shX t 8 6) (hf : X8_isOut n σ t a1 = some (τ, r)) : sp_GG shX X σ 2 [some (.ref (sx_ad X t)), some (.int a1)] [] 0 0 0 := by
  unfold X8_isOut at hf
  refine sp_aload_n (i := 0) (q := 1) hX dX8_isOut_0 rfl rfl rfl ?_
  refine sp_gets (t := t + 1) (q := 4) hX flX8_11 fkX8_1 ht (msX8_1 ht) dX8_isOut_1 rfl ?_
  refine sp_bipush (v := 10) (q := 6) hX dX8_isOut_4 lb_10 rfl ?_
  refine sp_iload_n (i := 1) (q := 7) hX dX8_isOut_6 rfl rfl rfl ?_
  refine sp_iadd (q := 8) hX dX8_isOut_7 rfl ?_
  obtain ⟨h1, hf⟩ := sp_ck_some hf
  refine sp_iald (q := 9) hX (mfX8_1 ht) h1 dX8_isOut_8 rfl ?_
  obtain ⟨v2, e3, hf⟩ := sp_pl_some hf
  have hj5 : sp_GG shX X σ 2 [some (.ref (sx_ad X t)), some (.int a1)] [.int v2] 17 0 0 := by
    obtain ⟨h4, hf⟩ := sp_ck_some hf
    exact sp_zret hX hR h4 dX8_isOut_17 hf (Nat.le_of_ble_eq_true rfl) (Nat.le_of_ble_eq_true rfl)
  refine sp_if_ne (tgt := 16) (q := 12) hX dX8_isOut_9 (by decide) rfl (fun hc => ?_) (fun hc => ?_)
  · refine sp_iconst (v := 0) (q := 17) hX dX8_isOut_16 li_0 rfl ?_
    exact sp_nmi (by rw [e3, if_neg hc]) hj5
  · refine sp_iconst (v := 1) (q := 13) hX dX8_isOut_12 li_1 rfl ?_
    refine sp_goto (tgt := 17) hX dX8_isOut_13 (by decide) ?_
    exact sp_nmi (by rw [e3, if_pos hc]) hj5
set_option maxRecDepth 100000 in
set_option maxHeartbeats 4000000 in
theorem cnX8_isOut {l : Launch} (hst : l.stackTraces = false) {w : sp_Wd} {n : Nat}  {σ : sp_St} {t : Nat} {a1 : Int32} {τ : sp_St} {r : Int32} (ht : sp_at shX t 8 6) (hf : X8_isOut n σ t a1 = some (τ, r)) : sp_Ci shX l w yX8_isOut cX8_isOut 2 (some .boolean) rmX8_isOut 0 0 σ [.ref (w.2.1 t), .int a1] τ r :=
  sp_ci (own := RX8) (by decide) rfl hst (Nat.le_of_ble_eq_true rfl) rfl (fun X hX hw hl hR => by subst hw; subst hl; exact hX8_isOut hX hR  ht hf)
def rmX8_isIn : Room := { frames := 0, cells := 0, slots := 0, locals := 0 }
def X8_isIn_31 (n : Nat) (t : Nat) (σ : sp_St) (zs0 : Int32) : Option (sp_St × Int32) :=
  sp_ck (sp_zb zs0) <|
  some (σ, zs0)
def X8_isIn_30 (n : Nat) (t : Nat) (σ : sp_St) : Option (sp_St × Int32) :=
  X8_isIn_31 n t σ ((0 : Int32))
def X8_isIn (n : Nat)  (σ : sp_St) (t : Nat) (a1 : Int32) : Option (sp_St × Int32) :=
  sp_ck (sp_in (((10 : Int32)) + a1) 50) <|
  if (sp_g σ (t + 1) (((10 : Int32)) + a1)) = 0 then
    X8_isIn_30 n t σ
  else
    sp_ck (sp_in (((10 : Int32)) + a1) 50) <|
    if (sp_g σ (t + 1) (((10 : Int32)) + a1)) = ((6 : Int32)) then
      X8_isIn_30 n t σ
    else
      X8_isIn_31 n t σ ((1 : Int32))
set_option maxRecDepth 100000 in
set_option maxHeartbeats 4000000 in
theorem hX8_isIn_31 {X : sp_X} (hX : sp_OK shX X cX8_isIn RX8 2 rmX8_isIn) {τ : sp_St} {r : Int32} (hR : sp_Ri shX X (some .boolean) τ r 0 0) {n : Nat}  {t : Nat} (ht : sp_at shX t 8 6)  {σ : sp_St} {zs0 : Int32} (hf : X8_isIn_31 n t σ zs0 = some (τ, r)) : sp_GG shX X σ 2 [none, none] [.int zs0] 31 0 0 := by
  unfold X8_isIn_31 at hf
  obtain ⟨h1, hf⟩ := sp_ck_some hf
  exact sp_zret hX hR h1 dX8_isIn_31 hf (Nat.le_of_ble_eq_true rfl) (Nat.le_of_ble_eq_true rfl)
set_option maxRecDepth 100000 in
set_option maxHeartbeats 4000000 in
theorem hX8_isIn_30 {X : sp_X} (hX : sp_OK shX X cX8_isIn RX8 2 rmX8_isIn) {τ : sp_St} {r : Int32} (hR : sp_Ri shX X (some .boolean) τ r 0 0) {n : Nat}  {t : Nat} (ht : sp_at shX t 8 6)  {σ : sp_St} (hf : X8_isIn_30 n t σ = some (τ, r)) : sp_GG shX X σ 2 [none, none] [] 30 0 0 := by
  unfold X8_isIn_30 at hf
  refine sp_iconst (v := 0) (q := 31) hX dX8_isIn_30 li_0 rfl ?_
  exact hX8_isIn_31 hX hR ht hf
set_option maxRecDepth 100000 in
set_option maxHeartbeats 4000000 in
theorem hX8_isIn {X : sp_X} (hX : sp_OK shX X cX8_isIn RX8 2 rmX8_isIn) {τ : sp_St} {r : Int32} (hR : sp_Ri shX X (some .boolean) τ r 0 0) {n : Nat}  {σ : sp_St} {t : Nat} {a1 : Int32} (ht : sp_at shX t 8 6) (hf : X8_isIn n σ t a1 = some (τ, r)) : sp_GG shX X σ 2 [some (.ref (sx_ad X t)), some (.int a1)] [] 0 0 0 := by
  unfold X8_isIn at hf
  refine sp_aload_n (i := 0) (q := 1) hX dX8_isIn_0 rfl rfl rfl ?_
  refine sp_gets (t := t + 1) (q := 4) hX flX8_11 fkX8_1 ht (msX8_1 ht) dX8_isIn_1 rfl ?_
  refine sp_bipush (v := 10) (q := 6) hX dX8_isIn_4 lb_10 rfl ?_
  refine sp_iload_n (i := 1) (q := 7) hX dX8_isIn_6 rfl rfl rfl ?_
  refine sp_iadd (q := 8) hX dX8_isIn_7 rfl ?_
  obtain ⟨h1, hf⟩ := sp_ck_some hf
  refine sp_iald (q := 9) hX (mfX8_1 ht) h1 dX8_isIn_8 rfl ?_
  refine sp_if_eq (tgt := 30) (q := 12) hX dX8_isIn_9 (by decide) rfl (fun hc => ?_) (fun hc => ?_)
  · rw [if_pos hc] at hf
    refine sp_drop (lv' := [none, none]) trivial ?_
    exact hX8_isIn_30 hX hR ht hf
  · rw [if_neg hc] at hf
    refine sp_aload_n (i := 0) (q := 13) hX dX8_isIn_12 rfl rfl rfl ?_
    refine sp_gets (t := t + 1) (q := 16) hX flX8_11 fkX8_1 ht (msX8_1 ht) dX8_isIn_13 rfl ?_
    refine sp_bipush (v := 10) (q := 18) hX dX8_isIn_16 lb_10 rfl ?_
    refine sp_iload_n (i := 1) (q := 19) hX dX8_isIn_18 rfl rfl rfl ?_
    refine sp_iadd (q := 20) hX dX8_isIn_19 rfl ?_
    obtain ⟨h2, hf⟩ := sp_ck_some hf
    refine sp_iald (q := 21) hX (mfX8_1 ht) h2 dX8_isIn_20 rfl ?_
    refine sp_bipush (v := 6) (q := 23) hX dX8_isIn_21 lb_6 rfl ?_
    refine sp_icmp_eq (tgt := 30) (q := 26) hX dX8_isIn_23 (by decide) rfl (fun hc => ?_) (fun hc => ?_)
    · rw [if_pos hc] at hf
      refine sp_drop (lv' := [none, none]) trivial ?_
      exact hX8_isIn_30 hX hR ht hf
    · rw [if_neg hc] at hf
      refine sp_iconst (v := 1) (q := 27) hX dX8_isIn_26 li_1 rfl ?_
      refine sp_goto (tgt := 31) hX dX8_isIn_27 (by decide) ?_
      refine sp_drop (lv' := [none, none]) trivial ?_
      exact hX8_isIn_31 hX hR ht hf
set_option maxRecDepth 100000 in
set_option maxHeartbeats 4000000 in
theorem cnX8_isIn {l : Launch} (hst : l.stackTraces = false) {w : sp_Wd} {n : Nat}  {σ : sp_St} {t : Nat} {a1 : Int32} {τ : sp_St} {r : Int32} (ht : sp_at shX t 8 6) (hf : X8_isIn n σ t a1 = some (τ, r)) : sp_Ci shX l w yX8_isIn cX8_isIn 2 (some .boolean) rmX8_isIn 0 0 σ [.ref (w.2.1 t), .int a1] τ r :=
  sp_ci (own := RX8) (by decide) rfl hst (Nat.le_of_ble_eq_true rfl) rfl (fun X hX hw hl hR => by subst hw; subst hl; exact hX8_isIn hX hR  ht hf)
def rmX8_state : Room := { frames := 1, cells := 0, slots := 0, locals := 21 }
def X8_state (n : Nat)  (σ : sp_St) (t : Nat) (a1 : Int32) : Option (sp_St × Int32) :=
  sp_bd (X8_isOut n σ t a1) fun σ2 v3 =>
  if v3 = 0 then
    sp_bd (X8_isIn n σ2 t a1) fun σ5 v6 =>
    sp_pl (if v6 = 0 then ((2 : Int32)) else ((1 : Int32))) fun v7 =>
    some (σ5, v7)
  else
    some (σ2, (0 : Int32))
set_option maxRecDepth 100000 in
set_option maxHeartbeats 4000000 in
theorem hX8_state {X : sp_X} (hX : sp_OK shX X cX8_state RX8 2 rmX8_state) {τ : sp_St} {r : Int32} (hR : sp_Ri shX X (some .int) τ r 0 0) {n : Nat}  {σ : sp_St} {t : Nat} {a1 : Int32} (ht : sp_at shX t 8 6) (hf : X8_state n σ t a1 = some (τ, r)) : sp_GG shX X σ 2 [some (.ref (sx_ad X t)), some (.int a1)] [] 0 0 0 := by
  unfold X8_state at hf
  refine sp_aload_n (i := 0) (q := 1) hX dX8_state_0 rfl rfl rfl ?_
  refine sp_iload_n (i := 1) (q := 2) hX dX8_state_1 rfl rfl rfl ?_
  obtain ⟨σ2, v3, h1, hf⟩ := sp_bd_so hf
  refine sp_callVi (As := [.int a1]) (rest := []) (q := 5) hX (cnX8_isOut (sp_st hX) ht h1) cwX8_66 ht rfl rfl rfl rfl rfl (Nat.le_of_ble_eq_true rfl) (Nat.le_of_ble_eq_true rfl) (Nat.le_of_ble_eq_true rfl) (Nat.le_of_ble_eq_true rfl) (Nat.le_of_ble_eq_true rfl) dX8_state_2 rfl ?_
  refine sp_if_eq (tgt := 10) (q := 8) hX dX8_state_5 (by decide) rfl (fun hc => ?_) (fun hc => ?_)
  · rw [if_pos hc] at hf
    refine sp_aload_n (i := 0) (q := 11) hX dX8_state_10 rfl rfl rfl ?_
    refine sp_iload_n (i := 1) (q := 12) hX dX8_state_11 rfl rfl rfl ?_
    obtain ⟨σ5, v6, h4, hf⟩ := sp_bd_so hf
    refine sp_callVi (As := [.int a1]) (rest := []) (q := 15) hX (cnX8_isIn (sp_st hX) ht h4) cwX8_70 ht rfl rfl rfl rfl rfl (Nat.le_of_ble_eq_true rfl) (Nat.le_of_ble_eq_true rfl) (Nat.le_of_ble_eq_true rfl) (Nat.le_of_ble_eq_true rfl) (Nat.le_of_ble_eq_true rfl) dX8_state_12 rfl ?_
    obtain ⟨v7, e8, hf⟩ := sp_pl_some hf
    have hj9 : sp_GG shX X σ5 2 [some (.ref (sx_ad X t)), some (.int a1)] [.int v7] 23 0 0 := by
      exact sp_iret hX hR dX8_state_23 hf (Nat.le_of_ble_eq_true rfl) (Nat.le_of_ble_eq_true rfl)
    refine sp_if_eq (tgt := 22) (q := 18) hX dX8_state_15 (by decide) rfl (fun hc => ?_) (fun hc => ?_)
    · refine sp_iconst (v := 2) (q := 23) hX dX8_state_22 li_2 rfl ?_
      exact sp_nmi (by rw [e8, if_pos hc]) hj9
    · refine sp_iconst (v := 1) (q := 19) hX dX8_state_18 li_1 rfl ?_
      refine sp_goto (tgt := 23) hX dX8_state_19 (by decide) ?_
      exact sp_nmi (by rw [e8, if_neg hc]) hj9
  · rw [if_neg hc] at hf
    refine sp_iconst (v := 0) (q := 9) hX dX8_state_8 li_0 rfl ?_
    exact sp_iret hX hR dX8_state_9 hf (Nat.le_of_ble_eq_true rfl) (Nat.le_of_ble_eq_true rfl)
set_option maxRecDepth 100000 in
set_option maxHeartbeats 4000000 in
theorem cnX8_state {l : Launch} (hst : l.stackTraces = false) {w : sp_Wd} {n : Nat}  {σ : sp_St} {t : Nat} {a1 : Int32} {τ : sp_St} {r : Int32} (ht : sp_at shX t 8 6) (hf : X8_state n σ t a1 = some (τ, r)) : sp_Ci shX l w yX8_state cX8_state 2 (some .int) rmX8_state 0 0 σ [.ref (w.2.1 t), .int a1] τ r :=
  sp_ci (own := RX8) (by decide) rfl hst (Nat.le_of_ble_eq_true rfl) rfl (fun X hX hw hl hR => by subst hw; subst hl; exact hX8_state hX hR  ht hf)
def rmX8_swallowerOf : Room := { frames := 1, cells := 0, slots := 0, locals := 21 }
def X8_swallowerOf_23 (n : Nat) (t : Nat) (σ : sp_St) (zs0 : Int32) : Option (sp_St × Int32) :=
  some (σ, zs0)
def X8_swallowerOf (n : Nat)  (σ : sp_St) (t : Nat) (a1 : Int32) : Option (sp_St × Int32) :=
  sp_bd (X8_isIn n σ t a1) fun σ2 v3 =>
  if v3 = 0 then
    X8_swallowerOf_23 n t σ2 ((-1 : Int32))
  else
    sp_ck (sp_in (((10 : Int32)) + a1) 50) <|
    X8_swallowerOf_23 n t σ2 ((sp_g σ2 (t + 1) (((10 : Int32)) + a1)) - ((1 : Int32)))
set_option maxRecDepth 100000 in
set_option maxHeartbeats 4000000 in
theorem hX8_swallowerOf_23 {X : sp_X} (hX : sp_OK shX X cX8_swallowerOf RX8 2 rmX8_swallowerOf) {τ : sp_St} {r : Int32} (hR : sp_Ri shX X (some .int) τ r 0 0) {n : Nat}  {t : Nat} (ht : sp_at shX t 8 6)  {σ : sp_St} {zs0 : Int32} (hf : X8_swallowerOf_23 n t σ zs0 = some (τ, r)) : sp_GG shX X σ 2 [none, none] [.int zs0] 23 0 0 := by
  unfold X8_swallowerOf_23 at hf
  exact sp_iret hX hR dX8_swallowerOf_23 hf (Nat.le_of_ble_eq_true rfl) (Nat.le_of_ble_eq_true rfl)
set_option maxRecDepth 100000 in
set_option maxHeartbeats 4000000 in
theorem hX8_swallowerOf {X : sp_X} (hX : sp_OK shX X cX8_swallowerOf RX8 2 rmX8_swallowerOf) {τ : sp_St} {r : Int32} (hR : sp_Ri shX X (some .int) τ r 0 0) {n : Nat}  {σ : sp_St} {t : Nat} {a1 : Int32} (ht : sp_at shX t 8 6) (hf : X8_swallowerOf n σ t a1 = some (τ, r)) : sp_GG shX X σ 2 [some (.ref (sx_ad X t)), some (.int a1)] [] 0 0 0 := by
  unfold X8_swallowerOf at hf
  refine sp_aload_n (i := 0) (q := 1) hX dX8_swallowerOf_0 rfl rfl rfl ?_
  refine sp_iload_n (i := 1) (q := 2) hX dX8_swallowerOf_1 rfl rfl rfl ?_
  obtain ⟨σ2, v3, h1, hf⟩ := sp_bd_so hf
  refine sp_callVi (As := [.int a1]) (rest := []) (q := 5) hX (cnX8_isIn (sp_st hX) ht h1) cwX8_70 ht rfl rfl rfl rfl rfl (Nat.le_of_ble_eq_true rfl) (Nat.le_of_ble_eq_true rfl) (Nat.le_of_ble_eq_true rfl) (Nat.le_of_ble_eq_true rfl) (Nat.le_of_ble_eq_true rfl) dX8_swallowerOf_2 rfl ?_
  refine sp_if_eq (tgt := 22) (q := 8) hX dX8_swallowerOf_5 (by decide) rfl (fun hc => ?_) (fun hc => ?_)
  · rw [if_pos hc] at hf
    refine sp_iconst (v := -1) (q := 23) hX dX8_swallowerOf_22 li_m1 rfl ?_
    refine sp_drop (lv' := [none, none]) trivial ?_
    exact hX8_swallowerOf_23 hX hR ht hf
  · rw [if_neg hc] at hf
    refine sp_aload_n (i := 0) (q := 9) hX dX8_swallowerOf_8 rfl rfl rfl ?_
    refine sp_gets (t := t + 1) (q := 12) hX flX8_11 fkX8_1 ht (msX8_1 ht) dX8_swallowerOf_9 rfl ?_
    refine sp_bipush (v := 10) (q := 14) hX dX8_swallowerOf_12 lb_10 rfl ?_
    refine sp_iload_n (i := 1) (q := 15) hX dX8_swallowerOf_14 rfl rfl rfl ?_
    refine sp_iadd (q := 16) hX dX8_swallowerOf_15 rfl ?_
    obtain ⟨h4, hf⟩ := sp_ck_some hf
    refine sp_iald (q := 17) hX (mfX8_1 ht) h4 dX8_swallowerOf_16 rfl ?_
    refine sp_iconst (v := 1) (q := 18) hX dX8_swallowerOf_17 li_1 rfl ?_
    refine sp_isub (q := 19) hX dX8_swallowerOf_18 rfl ?_
    refine sp_goto (tgt := 23) hX dX8_swallowerOf_19 (by decide) ?_
    refine sp_drop (lv' := [none, none]) trivial ?_
    exact hX8_swallowerOf_23 hX hR ht hf
set_option maxRecDepth 100000 in
set_option maxHeartbeats 4000000 in
theorem cnX8_swallowerOf {l : Launch} (hst : l.stackTraces = false) {w : sp_Wd} {n : Nat}  {σ : sp_St} {t : Nat} {a1 : Int32} {τ : sp_St} {r : Int32} (ht : sp_at shX t 8 6) (hf : X8_swallowerOf n σ t a1 = some (τ, r)) : sp_Ci shX l w yX8_swallowerOf cX8_swallowerOf 2 (some .int) rmX8_swallowerOf 0 0 σ [.ref (w.2.1 t), .int a1] τ r :=
  sp_ci (own := RX8) (by decide) rfl hst (Nat.le_of_ble_eq_true rfl) rfl (fun X hX hw hl hR => by subst hw; subst hl; exact hX8_swallowerOf hX hR  ht hf)
def rmX8_bladesAt : Room := { frames := 0, cells := 0, slots := 0, locals := 0 }
def X8_bladesAt_40 (n : Nat) (t : Nat) (σ : sp_St) (z2 : Int32) : Option (sp_St × Int32) :=
  some (σ, z2)
def X8_bladesAt_34 (n : Nat) (t : Nat) (k4 : sp_St → Int32 → Int32 → Int32 → Option (sp_St × Int32)) (σ : sp_St) (z1 : Int32) (z2 : Int32) (z3 : Int32) : Option (sp_St × Int32) :=
  sp_pl (z3 + 1) fun x1 =>
  k4 σ z1 z2 x1
def X8_bladesAt_4 (n : Nat) (t : Nat) : Nat → sp_St → Int32 → Int32 → Int32 → Option (sp_St × Int32)
  | 0, _, _, _, _ => none
  | f + 1, σ, z1, z2, z3 =>
    sp_pl (σ.2.1 t 0) fun c1 =>
    sp_ck (sp_isc c1) <|
    if (σ.1 c1 13) ≤ z3 then
      X8_bladesAt_40 n t σ z2
    else
      sp_ck (sp_in (((10 : Int32)) + z3) 50) <|
      if (sp_g σ (t + 1) (((10 : Int32)) + z3)) = z1 then
        sp_pl (z2 ||| (((1 : Int32)) <<< (z3 &&& 31))) fun x5 =>
        X8_bladesAt_34 n t (X8_bladesAt_4 n t f) σ z1 x5 z3
      else
        X8_bladesAt_34 n t (X8_bladesAt_4 n t f) σ z1 z2 z3
def X8_bladesAt (n : Nat)  (σ : sp_St) (t : Nat) (a1 : Int32) : Option (sp_St × Int32) :=
  sp_pl ((0 : Int32)) fun x1 =>
  sp_pl ((0 : Int32)) fun x3 =>
  X8_bladesAt_4 n t n σ a1 x1 x3
set_option maxRecDepth 100000 in
set_option maxHeartbeats 4000000 in
theorem hX8_bladesAt_40 {X : sp_X} (hX : sp_OK shX X cX8_bladesAt RX8 4 rmX8_bladesAt) {τ : sp_St} {r : Int32} (hR : sp_Ri shX X (some .int) τ r 0 0) {n : Nat}  {t : Nat} (ht : sp_at shX t 8 6)  {σ : sp_St} {z2 : Int32} (hf : X8_bladesAt_40 n t σ z2 = some (τ, r)) : sp_GG shX X σ 4 [none, none, some (.int z2), none] [] 40 0 0 := by
  unfold X8_bladesAt_40 at hf
  refine sp_iload_n (i := 2) (q := 41) hX dX8_bladesAt_40 rfl rfl rfl ?_
  exact sp_iret hX hR dX8_bladesAt_41 hf (Nat.le_of_ble_eq_true rfl) (Nat.le_of_ble_eq_true rfl)
set_option maxRecDepth 100000 in
set_option maxHeartbeats 4000000 in
theorem hX8_bladesAt_34 {X : sp_X} (hX : sp_OK shX X cX8_bladesAt RX8 4 rmX8_bladesAt) {τ : sp_St} {r : Int32} (hR : sp_Ri shX X (some .int) τ r 0 0) {n : Nat}  {t : Nat} (ht : sp_at shX t 8 6) {k4 : sp_St → Int32 → Int32 → Int32 → Option (sp_St × Int32)} (hk4 : ∀ (σ : sp_St) (z1 : Int32) (z2 : Int32) (z3 : Int32), k4 σ z1 z2 z3 = some (τ, r) → sp_GG shX X σ 4 [some (.ref (sx_ad X t)), some (.int z1), some (.int z2), some (.int z3)] [] 4 0 0) {σ : sp_St} {z1 : Int32} {z2 : Int32} {z3 : Int32} (hf : X8_bladesAt_34 n t k4 σ z1 z2 z3 = some (τ, r)) : sp_GG shX X σ 4 [some (.ref (sx_ad X t)), some (.int z1), some (.int z2), some (.int z3)] [] 34 0 0 := by
  unfold X8_bladesAt_34 at hf
  obtain ⟨x1, e2, hf⟩ := sp_pl_some hf
  refine sp_iinc (i := 3) (v := x1) (lv' := [some (.ref (sx_ad X t)), some (.int z1), some (.int z2), some (.int x1)]) (q := 37) hX dX8_bladesAt_34 rfl (by rw [e2, li_1]) (Nat.le_of_ble_eq_true rfl) rfl rfl rfl ?_
  refine sp_goto (tgt := 4) hX dX8_bladesAt_37 (by decide) ?_
  exact hk4 σ z1 z2 x1 hf
set_option maxRecDepth 100000 in
set_option maxHeartbeats 4000000 in
theorem hX8_bladesAt_4 {X : sp_X} (hX : sp_OK shX X cX8_bladesAt RX8 4 rmX8_bladesAt) {τ : sp_St} {r : Int32} (hR : sp_Ri shX X (some .int) τ r 0 0) {n : Nat}  {t : Nat} (ht : sp_at shX t 8 6)  : ∀ (f : Nat) (σ : sp_St) (z1 : Int32) (z2 : Int32) (z3 : Int32), X8_bladesAt_4 n t f σ z1 z2 z3 = some (τ, r) → sp_GG shX X σ 4 [some (.ref (sx_ad X t)), some (.int z1), some (.int z2), some (.int z3)] [] 4 0 0 := by
  intro f
  induction f with
  | zero =>
    intro σ z1 z2 z3 hf
    rw [X8_bladesAt_4] at hf
    cases hf
  | succ f ih =>
    intro σ z1 z2 z3 hf
    rw [X8_bladesAt_4] at hf
    refine sp_iload_n (i := 3) (q := 5) hX dX8_bladesAt_4 rfl rfl rfl ?_
    refine sp_aload_n (i := 0) (q := 6) hX dX8_bladesAt_5 rfl rfl rfl ?_
    obtain ⟨c1, e3, hf⟩ := sp_pl_some hf
    obtain ⟨h2, hf⟩ := sp_ck_some hf
    refine sp_getr (q := 9) hX flX8_31 fkX8_0 ht dX8_bladesAt_6 rfl ?_
    refine sp_nmr e3 ?_
    refine sp_geti (q := 12) hX flX8_40 fkX2_13 (sp_isc_at h2) dX8_bladesAt_9 rfl ?_
    refine sp_icmp_ge (tgt := 40) (q := 15) hX dX8_bladesAt_12 (by decide) rfl (fun hc => ?_) (fun hc => ?_)
    · rw [if_pos hc] at hf
      refine sp_drop (lv' := [none, none, some (.int z2), none]) (And.intro rfl trivial) ?_
      exact hX8_bladesAt_40 hX hR ht hf
    · rw [if_neg hc] at hf
      refine sp_aload_n (i := 0) (q := 16) hX dX8_bladesAt_15 rfl rfl rfl ?_
      refine sp_gets (t := t + 1) (q := 19) hX flX8_11 fkX8_1 ht (msX8_1 ht) dX8_bladesAt_16 rfl ?_
      refine sp_bipush (v := 10) (q := 21) hX dX8_bladesAt_19 lb_10 rfl ?_
      refine sp_iload_n (i := 3) (q := 22) hX dX8_bladesAt_21 rfl rfl rfl ?_
      refine sp_iadd (q := 23) hX dX8_bladesAt_22 rfl ?_
      obtain ⟨h4, hf⟩ := sp_ck_some hf
      refine sp_iald (q := 24) hX (mfX8_1 ht) h4 dX8_bladesAt_23 rfl ?_
      refine sp_iload_n (i := 1) (q := 25) hX dX8_bladesAt_24 rfl rfl rfl ?_
      refine sp_icmp_ne (tgt := 34) (q := 28) hX dX8_bladesAt_25 (by decide) rfl (fun hc => ?_) (fun hc => ?_)
      · rw [if_neg hc] at hf
        exact hX8_bladesAt_34 hX hR ht ih hf
      · rw [if_pos hc] at hf
        refine sp_iload_n (i := 2) (q := 29) hX dX8_bladesAt_28 rfl rfl rfl ?_
        refine sp_iconst (v := 1) (q := 30) hX dX8_bladesAt_29 li_1 rfl ?_
        refine sp_iload_n (i := 3) (q := 31) hX dX8_bladesAt_30 rfl rfl rfl ?_
        refine sp_ishl (q := 32) hX dX8_bladesAt_31 rfl ?_
        refine sp_ior (q := 33) hX dX8_bladesAt_32 rfl ?_
        obtain ⟨x5, e6, hf⟩ := sp_pl_some hf
        refine sp_nmi e6 ?_
        refine sp_istore_n (i := 2) (lv' := [some (.ref (sx_ad X t)), some (.int z1), some (.int x5), some (.int z3)]) (q := 34) hX dX8_bladesAt_33 rfl (Nat.le_of_ble_eq_true rfl) rfl rfl rfl ?_
        exact hX8_bladesAt_34 hX hR ht ih hf
set_option maxRecDepth 100000 in
set_option maxHeartbeats 4000000 in
theorem hX8_bladesAt {X : sp_X} (hX : sp_OK shX X cX8_bladesAt RX8 4 rmX8_bladesAt) {τ : sp_St} {r : Int32} (hR : sp_Ri shX X (some .int) τ r 0 0) {n : Nat}  {σ : sp_St} {t : Nat} {a1 : Int32} (ht : sp_at shX t 8 6) (hf : X8_bladesAt n σ t a1 = some (τ, r)) : sp_GG shX X σ 4 [some (.ref (sx_ad X t)), some (.int a1), none, none] [] 0 0 0 := by
  unfold X8_bladesAt at hf
  refine sp_iconst (v := 0) (q := 1) hX dX8_bladesAt_0 li_0 rfl ?_
  obtain ⟨x1, e2, hf⟩ := sp_pl_some hf
  refine sp_nmi e2 ?_
  refine sp_istore_n (i := 2) (lv' := [some (.ref (sx_ad X t)), some (.int a1), some (.int x1), none]) (q := 2) hX dX8_bladesAt_1 rfl (Nat.le_of_ble_eq_true rfl) rfl rfl rfl ?_
  refine sp_iconst (v := 0) (q := 3) hX dX8_bladesAt_2 li_0 rfl ?_
  obtain ⟨x3, e4, hf⟩ := sp_pl_some hf
  refine sp_nmi e4 ?_
  refine sp_istore_n (i := 3) (lv' := [some (.ref (sx_ad X t)), some (.int a1), some (.int x1), some (.int x3)]) (q := 4) hX dX8_bladesAt_3 rfl (Nat.le_of_ble_eq_true rfl) rfl rfl rfl ?_
  exact hX8_bladesAt_4 hX hR ht n σ a1 x1 x3 hf
set_option maxRecDepth 100000 in
set_option maxHeartbeats 4000000 in
theorem cnX8_bladesAt {l : Launch} (hst : l.stackTraces = false) {w : sp_Wd} {n : Nat}  {σ : sp_St} {t : Nat} {a1 : Int32} {τ : sp_St} {r : Int32} (ht : sp_at shX t 8 6) (hf : X8_bladesAt n σ t a1 = some (τ, r)) : sp_Ci shX l w yX8_bladesAt cX8_bladesAt 4 (some .int) rmX8_bladesAt 0 0 σ [.ref (w.2.1 t), .int a1] τ r :=
  sp_ci (own := RX8) (by decide) rfl hst (Nat.le_of_ble_eq_true rfl) rfl (fun X hX hw hl hR => by subst hw; subst hl; exact hX8_bladesAt hX hR  ht hf)
def rmX8_bladesOut : Room := { frames := 1, cells := 0, slots := 0, locals := 23 }
def X8_bladesOut (n : Nat)  (σ : sp_St) (t : Nat) : Option (sp_St × Int32) :=
  sp_bd (X8_bladesAt n σ t ((0 : Int32))) fun σ2 v3 =>
  some (σ2, v3)
set_option maxRecDepth 100000 in
set_option maxHeartbeats 4000000 in
theorem hX8_bladesOut {X : sp_X} (hX : sp_OK shX X cX8_bladesOut RX8 1 rmX8_bladesOut) {τ : sp_St} {r : Int32} (hR : sp_Ri shX X (some .int) τ r 0 0) {n : Nat}  {σ : sp_St} {t : Nat} (ht : sp_at shX t 8 6) (hf : X8_bladesOut n σ t = some (τ, r)) : sp_GG shX X σ 1 [some (.ref (sx_ad X t))] [] 0 0 0 := by
  unfold X8_bladesOut at hf
  refine sp_aload_n (i := 0) (q := 1) hX dX8_bladesOut_0 rfl rfl rfl ?_
  refine sp_iconst (v := 0) (q := 2) hX dX8_bladesOut_1 li_0 rfl ?_
  obtain ⟨σ2, v3, h1, hf⟩ := sp_bd_so hf
  refine sp_callVi (As := [.int ((0 : Int32))]) (rest := []) (q := 5) hX (cnX8_bladesAt (sp_st hX) ht h1) cwX8_73 ht rfl rfl rfl rfl rfl (Nat.le_of_ble_eq_true rfl) (Nat.le_of_ble_eq_true rfl) (Nat.le_of_ble_eq_true rfl) (Nat.le_of_ble_eq_true rfl) (Nat.le_of_ble_eq_true rfl) dX8_bladesOut_2 rfl ?_
  exact sp_iret hX hR dX8_bladesOut_5 hf (Nat.le_of_ble_eq_true rfl) (Nat.le_of_ble_eq_true rfl)
set_option maxRecDepth 100000 in
set_option maxHeartbeats 4000000 in
theorem cnX8_bladesOut {l : Launch} (hst : l.stackTraces = false) {w : sp_Wd} {n : Nat}  {σ : sp_St} {t : Nat} {τ : sp_St} {r : Int32} (ht : sp_at shX t 8 6) (hf : X8_bladesOut n σ t = some (τ, r)) : sp_Ci shX l w yX8_bladesOut cX8_bladesOut 1 (some .int) rmX8_bladesOut 0 0 σ [.ref (w.2.1 t)] τ r :=
  sp_ci (own := RX8) (by decide) rfl hst (Nat.le_of_ble_eq_true rfl) rfl (fun X hX hw hl hR => by subst hw; subst hl; exact hX8_bladesOut hX hR  ht hf)
def rmX8_bladesAtRest : Room := { frames := 1, cells := 0, slots := 0, locals := 23 }
def X8_bladesAtRest (n : Nat)  (σ : sp_St) (t : Nat) : Option (sp_St × Int32) :=
  sp_bd (X8_bladesAt n σ t ((6 : Int32))) fun σ2 v3 =>
  some (σ2, v3)
set_option maxRecDepth 100000 in
set_option maxHeartbeats 4000000 in
theorem hX8_bladesAtRest {X : sp_X} (hX : sp_OK shX X cX8_bladesAtRest RX8 1 rmX8_bladesAtRest) {τ : sp_St} {r : Int32} (hR : sp_Ri shX X (some .int) τ r 0 0) {n : Nat}  {σ : sp_St} {t : Nat} (ht : sp_at shX t 8 6) (hf : X8_bladesAtRest n σ t = some (τ, r)) : sp_GG shX X σ 1 [some (.ref (sx_ad X t))] [] 0 0 0 := by
  unfold X8_bladesAtRest at hf
  refine sp_aload_n (i := 0) (q := 1) hX dX8_bladesAtRest_0 rfl rfl rfl ?_
  refine sp_bipush (v := 6) (q := 3) hX dX8_bladesAtRest_1 lb_6 rfl ?_
  obtain ⟨σ2, v3, h1, hf⟩ := sp_bd_so hf
  refine sp_callVi (As := [.int ((6 : Int32))]) (rest := []) (q := 6) hX (cnX8_bladesAt (sp_st hX) ht h1) cwX8_73 ht rfl rfl rfl rfl rfl (Nat.le_of_ble_eq_true rfl) (Nat.le_of_ble_eq_true rfl) (Nat.le_of_ble_eq_true rfl) (Nat.le_of_ble_eq_true rfl) (Nat.le_of_ble_eq_true rfl) dX8_bladesAtRest_3 rfl ?_
  exact sp_iret hX hR dX8_bladesAtRest_6 hf (Nat.le_of_ble_eq_true rfl) (Nat.le_of_ble_eq_true rfl)
set_option maxRecDepth 100000 in
set_option maxHeartbeats 4000000 in
theorem cnX8_bladesAtRest {l : Launch} (hst : l.stackTraces = false) {w : sp_Wd} {n : Nat}  {σ : sp_St} {t : Nat} {τ : sp_St} {r : Int32} (ht : sp_at shX t 8 6) (hf : X8_bladesAtRest n σ t = some (τ, r)) : sp_Ci shX l w yX8_bladesAtRest cX8_bladesAtRest 1 (some .int) rmX8_bladesAtRest 0 0 σ [.ref (w.2.1 t)] τ r :=
  sp_ci (own := RX8) (by decide) rfl hst (Nat.le_of_ble_eq_true rfl) rfl (fun X hX hw hl hR => by subst hw; subst hl; exact hX8_bladesAtRest hX hR  ht hf)
def rmX8_bladesIn : Room := { frames := 2, cells := 0, slots := 0, locals := 43 }
def X8_bladesIn (n : Nat)  (σ : sp_St) (t : Nat) : Option (sp_St × Int32) :=
  sp_pl (σ.2.1 t 0) fun c1 =>
  sp_ck (sp_isc c1) <|
  sp_bd (X8_bladesOut n σ t) fun σ5 v6 =>
  sp_bd (X8_bladesAtRest n σ5 t) fun σ8 v9 =>
  some (σ8, (((((1 : Int32)) <<< ((σ.1 c1 13) &&& 31)) - ((1 : Int32))) &&& (v6 ^^^ ((-1 : Int32)))) &&& (v9 ^^^ ((-1 : Int32))))
set_option maxRecDepth 100000 in
set_option maxHeartbeats 4000000 in
theorem hX8_bladesIn {X : sp_X} (hX : sp_OK shX X cX8_bladesIn RX8 1 rmX8_bladesIn) {τ : sp_St} {r : Int32} (hR : sp_Ri shX X (some .int) τ r 0 0) {n : Nat}  {σ : sp_St} {t : Nat} (ht : sp_at shX t 8 6) (hf : X8_bladesIn n σ t = some (τ, r)) : sp_GG shX X σ 1 [some (.ref (sx_ad X t))] [] 0 0 0 := by
  unfold X8_bladesIn at hf
  refine sp_iconst (v := 1) (q := 1) hX dX8_bladesIn_0 li_1 rfl ?_
  refine sp_aload_n (i := 0) (q := 2) hX dX8_bladesIn_1 rfl rfl rfl ?_
  obtain ⟨c1, e3, hf⟩ := sp_pl_some hf
  obtain ⟨h2, hf⟩ := sp_ck_some hf
  refine sp_getr (q := 5) hX flX8_31 fkX8_0 ht dX8_bladesIn_2 rfl ?_
  refine sp_nmr e3 ?_
  refine sp_geti (q := 8) hX flX8_40 fkX2_13 (sp_isc_at h2) dX8_bladesIn_5 rfl ?_
  refine sp_ishl (q := 9) hX dX8_bladesIn_8 rfl ?_
  refine sp_iconst (v := 1) (q := 10) hX dX8_bladesIn_9 li_1 rfl ?_
  refine sp_isub (q := 11) hX dX8_bladesIn_10 rfl ?_
  refine sp_aload_n (i := 0) (q := 12) hX dX8_bladesIn_11 rfl rfl rfl ?_
  obtain ⟨σ5, v6, h4, hf⟩ := sp_bd_so hf
  refine sp_callVi (As := []) (rest := [.int ((((1 : Int32)) <<< ((σ.1 c1 13) &&& 31)) - ((1 : Int32)))]) (q := 15) hX (cnX8_bladesOut (sp_st hX) ht h4) cwX8_77 ht rfl rfl rfl rfl rfl (Nat.le_of_ble_eq_true rfl) (Nat.le_of_ble_eq_true rfl) (Nat.le_of_ble_eq_true rfl) (Nat.le_of_ble_eq_true rfl) (Nat.le_of_ble_eq_true rfl) dX8_bladesIn_12 rfl ?_
  refine sp_iconst (v := -1) (q := 16) hX dX8_bladesIn_15 li_m1 rfl ?_
  refine sp_ixor (q := 17) hX dX8_bladesIn_16 rfl ?_
  refine sp_iand (q := 18) hX dX8_bladesIn_17 rfl ?_
  refine sp_aload_n (i := 0) (q := 19) hX dX8_bladesIn_18 rfl rfl rfl ?_
  obtain ⟨σ8, v9, h7, hf⟩ := sp_bd_so hf
  refine sp_callVi (As := []) (rest := [.int (((((1 : Int32)) <<< ((σ.1 c1 13) &&& 31)) - ((1 : Int32))) &&& (v6 ^^^ ((-1 : Int32))))]) (q := 22) hX (cnX8_bladesAtRest (sp_st hX) ht h7) cwX8_81 ht rfl rfl rfl rfl rfl (Nat.le_of_ble_eq_true rfl) (Nat.le_of_ble_eq_true rfl) (Nat.le_of_ble_eq_true rfl) (Nat.le_of_ble_eq_true rfl) (Nat.le_of_ble_eq_true rfl) dX8_bladesIn_19 rfl ?_
  refine sp_iconst (v := -1) (q := 23) hX dX8_bladesIn_22 li_m1 rfl ?_
  refine sp_ixor (q := 24) hX dX8_bladesIn_23 rfl ?_
  refine sp_iand (q := 25) hX dX8_bladesIn_24 rfl ?_
  exact sp_iret hX hR dX8_bladesIn_25 hf (Nat.le_of_ble_eq_true rfl) (Nat.le_of_ble_eq_true rfl)
set_option maxRecDepth 100000 in
set_option maxHeartbeats 4000000 in
theorem cnX8_bladesIn {l : Launch} (hst : l.stackTraces = false) {w : sp_Wd} {n : Nat}  {σ : sp_St} {t : Nat} {τ : sp_St} {r : Int32} (ht : sp_at shX t 8 6) (hf : X8_bladesIn n σ t = some (τ, r)) : sp_Ci shX l w yX8_bladesIn cX8_bladesIn 1 (some .int) rmX8_bladesIn 0 0 σ [.ref (w.2.1 t)] τ r :=
  sp_ci (own := RX8) (by decide) rfl hst (Nat.le_of_ble_eq_true rfl) rfl (fun X hX hw hl hR => by subst hw; subst hl; exact hX8_bladesIn hX hR  ht hf)
def rmX8_left : Room := { frames := 0, cells := 0, slots := 0, locals := 0 }
def X8_left_56 (n : Nat) (t : Nat) (σ : sp_St) (z2 : Int32) : Option (sp_St × Int32) :=
  some (σ, z2)
def X8_left_50 (n : Nat) (t : Nat) (k12 : sp_St → Int32 → Int32 → Int32 → Option (sp_St × Int32)) (σ : sp_St) (z1 : Int32) (z2 : Int32) (z3 : Int32) : Option (sp_St × Int32) :=
  sp_pl (z3 + 1) fun x1 =>
  k12 σ z1 z2 x1
def X8_left_12 (n : Nat) (t : Nat) : Nat → sp_St → Int32 → Int32 → Int32 → Option (sp_St × Int32)
  | 0, _, _, _, _ => none
  | f + 1, σ, z1, z2, z3 =>
    sp_pl (σ.2.1 t 0) fun c1 =>
    sp_ck (sp_isc c1) <|
    if (σ.1 c1 13) ≤ z3 then
      X8_left_56 n t σ z2
    else
      sp_ck (sp_in (((10 : Int32)) + z3) 50) <|
      if (sp_g σ (t + 1) (((10 : Int32)) + z3)) = (z1 + ((1 : Int32))) then
        sp_ck (sp_in z3 10) <|
        sp_pl (z2 - (sp_g σ (c1 + 2) z3)) fun x6 =>
        X8_left_50 n t (X8_left_12 n t f) σ z1 x6 z3
      else
        X8_left_50 n t (X8_left_12 n t f) σ z1 z2 z3
def X8_left (n : Nat)  (σ : sp_St) (t : Nat) (a1 : Int32) : Option (sp_St × Int32) :=
  sp_ck (sp_in (((30 : Int32)) + a1) 50) <|
  sp_pl (sp_g σ (t + 1) (((30 : Int32)) + a1)) fun x2 =>
  sp_pl ((0 : Int32)) fun x4 =>
  X8_left_12 n t n σ a1 x2 x4
set_option maxRecDepth 100000 in
set_option maxHeartbeats 4000000 in
theorem hX8_left_56 {X : sp_X} (hX : sp_OK shX X cX8_left RX8 4 rmX8_left) {τ : sp_St} {r : Int32} (hR : sp_Ri shX X (some .int) τ r 0 0) {n : Nat}  {t : Nat} (ht : sp_at shX t 8 6)  {σ : sp_St} {z2 : Int32} (hf : X8_left_56 n t σ z2 = some (τ, r)) : sp_GG shX X σ 4 [none, none, some (.int z2), none] [] 56 0 0 := by
  unfold X8_left_56 at hf
  refine sp_iload_n (i := 2) (q := 57) hX dX8_left_56 rfl rfl rfl ?_
  exact sp_iret hX hR dX8_left_57 hf (Nat.le_of_ble_eq_true rfl) (Nat.le_of_ble_eq_true rfl)
set_option maxRecDepth 100000 in
set_option maxHeartbeats 4000000 in
theorem hX8_left_50 {X : sp_X} (hX : sp_OK shX X cX8_left RX8 4 rmX8_left) {τ : sp_St} {r : Int32} (hR : sp_Ri shX X (some .int) τ r 0 0) {n : Nat}  {t : Nat} (ht : sp_at shX t 8 6) {k12 : sp_St → Int32 → Int32 → Int32 → Option (sp_St × Int32)} (hk12 : ∀ (σ : sp_St) (z1 : Int32) (z2 : Int32) (z3 : Int32), k12 σ z1 z2 z3 = some (τ, r) → sp_GG shX X σ 4 [some (.ref (sx_ad X t)), some (.int z1), some (.int z2), some (.int z3)] [] 12 0 0) {σ : sp_St} {z1 : Int32} {z2 : Int32} {z3 : Int32} (hf : X8_left_50 n t k12 σ z1 z2 z3 = some (τ, r)) : sp_GG shX X σ 4 [some (.ref (sx_ad X t)), some (.int z1), some (.int z2), some (.int z3)] [] 50 0 0 := by
  unfold X8_left_50 at hf
  obtain ⟨x1, e2, hf⟩ := sp_pl_some hf
  refine sp_iinc (i := 3) (v := x1) (lv' := [some (.ref (sx_ad X t)), some (.int z1), some (.int z2), some (.int x1)]) (q := 53) hX dX8_left_50 rfl (by rw [e2, li_1]) (Nat.le_of_ble_eq_true rfl) rfl rfl rfl ?_
  refine sp_goto (tgt := 12) hX dX8_left_53 (by decide) ?_
  exact hk12 σ z1 z2 x1 hf
set_option maxRecDepth 100000 in
set_option maxHeartbeats 4000000 in
theorem hX8_left_12 {X : sp_X} (hX : sp_OK shX X cX8_left RX8 4 rmX8_left) {τ : sp_St} {r : Int32} (hR : sp_Ri shX X (some .int) τ r 0 0) {n : Nat}  {t : Nat} (ht : sp_at shX t 8 6)  : ∀ (f : Nat) (σ : sp_St) (z1 : Int32) (z2 : Int32) (z3 : Int32), X8_left_12 n t f σ z1 z2 z3 = some (τ, r) → sp_GG shX X σ 4 [some (.ref (sx_ad X t)), some (.int z1), some (.int z2), some (.int z3)] [] 12 0 0 := by
  intro f
  induction f with
  | zero =>
    intro σ z1 z2 z3 hf
    rw [X8_left_12] at hf
    cases hf
  | succ f ih =>
    intro σ z1 z2 z3 hf
    rw [X8_left_12] at hf
    refine sp_iload_n (i := 3) (q := 13) hX dX8_left_12 rfl rfl rfl ?_
    refine sp_aload_n (i := 0) (q := 14) hX dX8_left_13 rfl rfl rfl ?_
    obtain ⟨c1, e3, hf⟩ := sp_pl_some hf
    obtain ⟨h2, hf⟩ := sp_ck_some hf
    refine sp_getr (q := 17) hX flX8_31 fkX8_0 ht dX8_left_14 rfl ?_
    refine sp_nmr e3 ?_
    refine sp_geti (q := 20) hX flX8_40 fkX2_13 (sp_isc_at h2) dX8_left_17 rfl ?_
    refine sp_icmp_ge (tgt := 56) (q := 23) hX dX8_left_20 (by decide) rfl (fun hc => ?_) (fun hc => ?_)
    · rw [if_pos hc] at hf
      refine sp_drop (lv' := [none, none, some (.int z2), none]) (And.intro rfl trivial) ?_
      exact hX8_left_56 hX hR ht hf
    · rw [if_neg hc] at hf
      refine sp_aload_n (i := 0) (q := 24) hX dX8_left_23 rfl rfl rfl ?_
      refine sp_gets (t := t + 1) (q := 27) hX flX8_11 fkX8_1 ht (msX8_1 ht) dX8_left_24 rfl ?_
      refine sp_bipush (v := 10) (q := 29) hX dX8_left_27 lb_10 rfl ?_
      refine sp_iload_n (i := 3) (q := 30) hX dX8_left_29 rfl rfl rfl ?_
      refine sp_iadd (q := 31) hX dX8_left_30 rfl ?_
      obtain ⟨h4, hf⟩ := sp_ck_some hf
      refine sp_iald (q := 32) hX (mfX8_1 ht) h4 dX8_left_31 rfl ?_
      refine sp_iload_n (i := 1) (q := 33) hX dX8_left_32 rfl rfl rfl ?_
      refine sp_iconst (v := 1) (q := 34) hX dX8_left_33 li_1 rfl ?_
      refine sp_iadd (q := 35) hX dX8_left_34 rfl ?_
      refine sp_icmp_ne (tgt := 50) (q := 38) hX dX8_left_35 (by decide) rfl (fun hc => ?_) (fun hc => ?_)
      · rw [if_neg hc] at hf
        exact hX8_left_50 hX hR ht ih hf
      · rw [if_pos hc] at hf
        refine sp_iload_n (i := 2) (q := 39) hX dX8_left_38 rfl rfl rfl ?_
        refine sp_aload_n (i := 0) (q := 40) hX dX8_left_39 rfl rfl rfl ?_
        refine sp_getr (q := 43) hX flX8_31 fkX8_0 ht dX8_left_40 rfl ?_
        refine sp_nmr e3 ?_
        refine sp_gets (t := c1 + 2) (q := 46) hX flX8_84 fkX2_1 (sp_isc_at h2) (msX2_1 (sp_isc_at h2)) dX8_left_43 rfl ?_
        refine sp_iload_n (i := 3) (q := 47) hX dX8_left_46 rfl rfl rfl ?_
        obtain ⟨h5, hf⟩ := sp_ck_some hf
        refine sp_iald (q := 48) hX (mfX2_1 (sp_isc_at h2)) h5 dX8_left_47 rfl ?_
        refine sp_isub (q := 49) hX dX8_left_48 rfl ?_
        obtain ⟨x6, e7, hf⟩ := sp_pl_some hf
        refine sp_nmi e7 ?_
        refine sp_istore_n (i := 2) (lv' := [some (.ref (sx_ad X t)), some (.int z1), some (.int x6), some (.int z3)]) (q := 50) hX dX8_left_49 rfl (Nat.le_of_ble_eq_true rfl) rfl rfl rfl ?_
        exact hX8_left_50 hX hR ht ih hf
set_option maxRecDepth 100000 in
set_option maxHeartbeats 4000000 in
theorem hX8_left {X : sp_X} (hX : sp_OK shX X cX8_left RX8 4 rmX8_left) {τ : sp_St} {r : Int32} (hR : sp_Ri shX X (some .int) τ r 0 0) {n : Nat}  {σ : sp_St} {t : Nat} {a1 : Int32} (ht : sp_at shX t 8 6) (hf : X8_left n σ t a1 = some (τ, r)) : sp_GG shX X σ 4 [some (.ref (sx_ad X t)), some (.int a1), none, none] [] 0 0 0 := by
  unfold X8_left at hf
  refine sp_aload_n (i := 0) (q := 1) hX dX8_left_0 rfl rfl rfl ?_
  refine sp_gets (t := t + 1) (q := 4) hX flX8_11 fkX8_1 ht (msX8_1 ht) dX8_left_1 rfl ?_
  refine sp_bipush (v := 30) (q := 6) hX dX8_left_4 lb_30 rfl ?_
  refine sp_iload_n (i := 1) (q := 7) hX dX8_left_6 rfl rfl rfl ?_
  refine sp_iadd (q := 8) hX dX8_left_7 rfl ?_
  obtain ⟨h1, hf⟩ := sp_ck_some hf
  refine sp_iald (q := 9) hX (mfX8_1 ht) h1 dX8_left_8 rfl ?_
  obtain ⟨x2, e3, hf⟩ := sp_pl_some hf
  refine sp_nmi e3 ?_
  refine sp_istore_n (i := 2) (lv' := [some (.ref (sx_ad X t)), some (.int a1), some (.int x2), none]) (q := 10) hX dX8_left_9 rfl (Nat.le_of_ble_eq_true rfl) rfl rfl rfl ?_
  refine sp_iconst (v := 0) (q := 11) hX dX8_left_10 li_0 rfl ?_
  obtain ⟨x4, e5, hf⟩ := sp_pl_some hf
  refine sp_nmi e5 ?_
  refine sp_istore_n (i := 3) (lv' := [some (.ref (sx_ad X t)), some (.int a1), some (.int x2), some (.int x4)]) (q := 12) hX dX8_left_11 rfl (Nat.le_of_ble_eq_true rfl) rfl rfl rfl ?_
  exact hX8_left_12 hX hR ht n σ a1 x2 x4 hf
set_option maxRecDepth 100000 in
set_option maxHeartbeats 4000000 in
theorem cnX8_left {l : Launch} (hst : l.stackTraces = false) {w : sp_Wd} {n : Nat}  {σ : sp_St} {t : Nat} {a1 : Int32} {τ : sp_St} {r : Int32} (ht : sp_at shX t 8 6) (hf : X8_left n σ t a1 = some (τ, r)) : sp_Ci shX l w yX8_left cX8_left 4 (some .int) rmX8_left 0 0 σ [.ref (w.2.1 t), .int a1] τ r :=
  sp_ci (own := RX8) (by decide) rfl hst (Nat.le_of_ble_eq_true rfl) rfl (fun X hX hw hl hR => by subst hw; subst hl; exact hX8_left hX hR  ht hf)
def rmX8_hasRoom : Room := { frames := 1, cells := 0, slots := 0, locals := 23 }
def X8_hasRoom (n : Nat)  (σ : sp_St) (t : Nat) (a1 : Int32) (a2 : Int32) : Option (sp_St × Int32) :=
  sp_bd (X8_left n σ t a1) fun σ2 v3 =>
  sp_pl (σ2.2.1 t 0) fun c4 =>
  sp_ck (sp_isc c4) <|
  sp_ck (sp_in a2 10) <|
  sp_pl (if v3 < (sp_g σ2 (c4 + 2) a2) then ((0 : Int32)) else ((1 : Int32))) fun v8 =>
  sp_ck (sp_zb v8) <|
  some (σ2, v8)
set_option maxRecDepth 100000 in
set_option maxHeartbeats 4000000 in
theorem hX8_hasRoom {X : sp_X} (hX : sp_OK shX X cX8_hasRoom RX8 3 rmX8_hasRoom) {τ : sp_St} {r : Int32} (hR : sp_Ri shX X (some .boolean) τ r 0 0) {n : Nat}  {σ : sp_St} {t : Nat} {a1 : Int32} {a2 : Int32} (ht : sp_at shX t 8 6) (hf : X8_hasRoom n σ t a1 a2 = some (τ, r)) : sp_GG shX X σ 3 [some (.ref (sx_ad X t)), some (.int a1), some (.int a2)] [] 0 0 0 := by
  unfold X8_hasRoom at hf
  refine sp_aload_n (i := 0) (q := 1) hX dX8_hasRoom_0 rfl rfl rfl ?_
  refine sp_iload_n (i := 1) (q := 2) hX dX8_hasRoom_1 rfl rfl rfl ?_
  obtain ⟨σ2, v3, h1, hf⟩ := sp_bd_so hf
  refine sp_callVi (As := [.int a1]) (rest := []) (q := 5) hX (cnX8_left (sp_st hX) ht h1) cwX8_87 ht rfl rfl rfl rfl rfl (Nat.le_of_ble_eq_true rfl) (Nat.le_of_ble_eq_true rfl) (Nat.le_of_ble_eq_true rfl) (Nat.le_of_ble_eq_true rfl) (Nat.le_of_ble_eq_true rfl) dX8_hasRoom_2 rfl ?_
  refine sp_aload_n (i := 0) (q := 6) hX dX8_hasRoom_5 rfl rfl rfl ?_
  obtain ⟨c4, e6, hf⟩ := sp_pl_some hf
  obtain ⟨h5, hf⟩ := sp_ck_some hf
  refine sp_getr (q := 9) hX flX8_31 fkX8_0 ht dX8_hasRoom_6 rfl ?_
  refine sp_nmr e6 ?_
  refine sp_gets (t := c4 + 2) (q := 12) hX flX8_84 fkX2_1 (sp_isc_at h5) (msX2_1 (sp_isc_at h5)) dX8_hasRoom_9 rfl ?_
  refine sp_iload_n (i := 2) (q := 13) hX dX8_hasRoom_12 rfl rfl rfl ?_
  obtain ⟨h7, hf⟩ := sp_ck_some hf
  refine sp_iald (q := 14) hX (mfX2_1 (sp_isc_at h5)) h7 dX8_hasRoom_13 rfl ?_
  obtain ⟨v8, e9, hf⟩ := sp_pl_some hf
  have hj11 : sp_GG shX X σ2 3 [some (.ref (sx_ad X t)), some (.int a1), some (.int a2)] [.int v8] 22 0 0 := by
    obtain ⟨h10, hf⟩ := sp_ck_some hf
    exact sp_zret hX hR h10 dX8_hasRoom_22 hf (Nat.le_of_ble_eq_true rfl) (Nat.le_of_ble_eq_true rfl)
  refine sp_icmp_lt (tgt := 21) (q := 17) hX dX8_hasRoom_14 (by decide) rfl (fun hc => ?_) (fun hc => ?_)
  · refine sp_iconst (v := 0) (q := 22) hX dX8_hasRoom_21 li_0 rfl ?_
    exact sp_nmi (by rw [e9, if_pos hc]) hj11
  · refine sp_iconst (v := 1) (q := 18) hX dX8_hasRoom_17 li_1 rfl ?_
    refine sp_goto (tgt := 22) hX dX8_hasRoom_18 (by decide) ?_
    exact sp_nmi (by rw [e9, if_neg hc]) hj11
set_option maxRecDepth 100000 in
set_option maxHeartbeats 4000000 in
theorem cnX8_hasRoom {l : Launch} (hst : l.stackTraces = false) {w : sp_Wd} {n : Nat}  {σ : sp_St} {t : Nat} {a1 : Int32} {a2 : Int32} {τ : sp_St} {r : Int32} (ht : sp_at shX t 8 6) (hf : X8_hasRoom n σ t a1 a2 = some (τ, r)) : sp_Ci shX l w yX8_hasRoom cX8_hasRoom 3 (some .boolean) rmX8_hasRoom 0 0 σ [.ref (w.2.1 t), .int a1, .int a2] τ r :=
  sp_ci (own := RX8) (by decide) rfl hst (Nat.le_of_ble_eq_true rfl) rfl (fun X hX hw hl hR => by subst hw; subst hl; exact hX8_hasRoom hX hR  ht hf)
def rmX8_top : Room := { frames := 0, cells := 0, slots := 0, locals := 0 }
def X8_top_64 (n : Nat) (t : Nat) (σ : sp_St) (z2 : Int32) : Option (sp_St × Int32) :=
  some (σ, z2)
def X8_top_58 (n : Nat) (t : Nat) (k4 : sp_St → Int32 → Int32 → Int32 → Option (sp_St × Int32)) (σ : sp_St) (z1 : Int32) (z2 : Int32) (z3 : Int32) : Option (sp_St × Int32) :=
  sp_pl (z3 + 1) fun x1 =>
  k4 σ z1 z2 x1
def X8_top_56 (n : Nat) (t : Nat) (k4 : sp_St → Int32 → Int32 → Int32 → Option (sp_St × Int32)) (σ : sp_St) (z1 : Int32) (z3 : Int32) : Option (sp_St × Int32) :=
  X8_top_58 n t k4 σ z1 z3 z3
def X8_top_4 (n : Nat) (t : Nat) : Nat → sp_St → Int32 → Int32 → Int32 → Option (sp_St × Int32)
  | 0, _, _, _, _ => none
  | f + 1, σ, z1, z2, z3 =>
    sp_pl (σ.2.1 t 0) fun c1 =>
    sp_ck (sp_isc c1) <|
    if (σ.1 c1 13) ≤ z3 then
      X8_top_64 n t σ z2
    else
      sp_ck (sp_in (((10 : Int32)) + z3) 50) <|
      if (sp_g σ (t + 1) (((10 : Int32)) + z3)) = (z1 + ((1 : Int32))) then
        if z2 = ((-1 : Int32)) then
          X8_top_56 n t (X8_top_4 n t f) σ z1 z3
        else
          sp_ck (sp_in (((20 : Int32)) + z3) 50) <|
          sp_ck (sp_in (((20 : Int32)) + z2) 50) <|
          if (sp_g σ (t + 1) (((20 : Int32)) + z3)) ≤ (sp_g σ (t + 1) (((20 : Int32)) + z2)) then
            X8_top_58 n t (X8_top_4 n t f) σ z1 z2 z3
          else
            X8_top_56 n t (X8_top_4 n t f) σ z1 z3
      else
        X8_top_58 n t (X8_top_4 n t f) σ z1 z2 z3
def X8_top (n : Nat)  (σ : sp_St) (t : Nat) (a1 : Int32) : Option (sp_St × Int32) :=
  sp_pl ((-1 : Int32)) fun x1 =>
  sp_pl ((0 : Int32)) fun x3 =>
  X8_top_4 n t n σ a1 x1 x3
set_option maxRecDepth 100000 in
set_option maxHeartbeats 4000000 in
theorem hX8_top_64 {X : sp_X} (hX : sp_OK shX X cX8_top RX8 4 rmX8_top) {τ : sp_St} {r : Int32} (hR : sp_Ri shX X (some .int) τ r 0 0) {n : Nat}  {t : Nat} (ht : sp_at shX t 8 6)  {σ : sp_St} {z2 : Int32} (hf : X8_top_64 n t σ z2 = some (τ, r)) : sp_GG shX X σ 4 [none, none, some (.int z2), none] [] 64 0 0 := by
  unfold X8_top_64 at hf
  refine sp_iload_n (i := 2) (q := 65) hX dX8_top_64 rfl rfl rfl ?_
  exact sp_iret hX hR dX8_top_65 hf (Nat.le_of_ble_eq_true rfl) (Nat.le_of_ble_eq_true rfl)
set_option maxRecDepth 100000 in
set_option maxHeartbeats 4000000 in
theorem hX8_top_58 {X : sp_X} (hX : sp_OK shX X cX8_top RX8 4 rmX8_top) {τ : sp_St} {r : Int32} (hR : sp_Ri shX X (some .int) τ r 0 0) {n : Nat}  {t : Nat} (ht : sp_at shX t 8 6) {k4 : sp_St → Int32 → Int32 → Int32 → Option (sp_St × Int32)} (hk4 : ∀ (σ : sp_St) (z1 : Int32) (z2 : Int32) (z3 : Int32), k4 σ z1 z2 z3 = some (τ, r) → sp_GG shX X σ 4 [some (.ref (sx_ad X t)), some (.int z1), some (.int z2), some (.int z3)] [] 4 0 0) {σ : sp_St} {z1 : Int32} {z2 : Int32} {z3 : Int32} (hf : X8_top_58 n t k4 σ z1 z2 z3 = some (τ, r)) : sp_GG shX X σ 4 [some (.ref (sx_ad X t)), some (.int z1), some (.int z2), some (.int z3)] [] 58 0 0 := by
  unfold X8_top_58 at hf
  obtain ⟨x1, e2, hf⟩ := sp_pl_some hf
  refine sp_iinc (i := 3) (v := x1) (lv' := [some (.ref (sx_ad X t)), some (.int z1), some (.int z2), some (.int x1)]) (q := 61) hX dX8_top_58 rfl (by rw [e2, li_1]) (Nat.le_of_ble_eq_true rfl) rfl rfl rfl ?_
  refine sp_goto (tgt := 4) hX dX8_top_61 (by decide) ?_
  exact hk4 σ z1 z2 x1 hf
set_option maxRecDepth 100000 in
set_option maxHeartbeats 4000000 in
theorem hX8_top_56 {X : sp_X} (hX : sp_OK shX X cX8_top RX8 4 rmX8_top) {τ : sp_St} {r : Int32} (hR : sp_Ri shX X (some .int) τ r 0 0) {n : Nat}  {t : Nat} (ht : sp_at shX t 8 6) {k4 : sp_St → Int32 → Int32 → Int32 → Option (sp_St × Int32)} (hk4 : ∀ (σ : sp_St) (z1 : Int32) (z2 : Int32) (z3 : Int32), k4 σ z1 z2 z3 = some (τ, r) → sp_GG shX X σ 4 [some (.ref (sx_ad X t)), some (.int z1), some (.int z2), some (.int z3)] [] 4 0 0) {σ : sp_St} {z1 : Int32} {z3 : Int32} (hf : X8_top_56 n t k4 σ z1 z3 = some (τ, r)) : sp_GG shX X σ 4 [some (.ref (sx_ad X t)), some (.int z1), none, some (.int z3)] [] 56 0 0 := by
  unfold X8_top_56 at hf
  refine sp_iload_n (i := 3) (q := 57) hX dX8_top_56 rfl rfl rfl ?_
  refine sp_istore_n (i := 2) (lv' := [some (.ref (sx_ad X t)), some (.int z1), some (.int z3), some (.int z3)]) (q := 58) hX dX8_top_57 rfl (Nat.le_of_ble_eq_true rfl) rfl rfl rfl ?_
  exact hX8_top_58 hX hR ht hk4 hf
set_option maxRecDepth 100000 in
set_option maxHeartbeats 4000000 in
theorem hX8_top_4 {X : sp_X} (hX : sp_OK shX X cX8_top RX8 4 rmX8_top) {τ : sp_St} {r : Int32} (hR : sp_Ri shX X (some .int) τ r 0 0) {n : Nat}  {t : Nat} (ht : sp_at shX t 8 6)  : ∀ (f : Nat) (σ : sp_St) (z1 : Int32) (z2 : Int32) (z3 : Int32), X8_top_4 n t f σ z1 z2 z3 = some (τ, r) → sp_GG shX X σ 4 [some (.ref (sx_ad X t)), some (.int z1), some (.int z2), some (.int z3)] [] 4 0 0 := by
  intro f
  induction f with
  | zero =>
    intro σ z1 z2 z3 hf
    rw [X8_top_4] at hf
    cases hf
  | succ f ih =>
    intro σ z1 z2 z3 hf
    rw [X8_top_4] at hf
    refine sp_iload_n (i := 3) (q := 5) hX dX8_top_4 rfl rfl rfl ?_
    refine sp_aload_n (i := 0) (q := 6) hX dX8_top_5 rfl rfl rfl ?_
    obtain ⟨c1, e3, hf⟩ := sp_pl_some hf
    obtain ⟨h2, hf⟩ := sp_ck_some hf
    refine sp_getr (q := 9) hX flX8_31 fkX8_0 ht dX8_top_6 rfl ?_
    refine sp_nmr e3 ?_
    refine sp_geti (q := 12) hX flX8_40 fkX2_13 (sp_isc_at h2) dX8_top_9 rfl ?_
    refine sp_icmp_ge (tgt := 64) (q := 15) hX dX8_top_12 (by decide) rfl (fun hc => ?_) (fun hc => ?_)
    · rw [if_pos hc] at hf
      refine sp_drop (lv' := [none, none, some (.int z2), none]) (And.intro rfl trivial) ?_
      exact hX8_top_64 hX hR ht hf
    · rw [if_neg hc] at hf
      refine sp_aload_n (i := 0) (q := 16) hX dX8_top_15 rfl rfl rfl ?_
      refine sp_gets (t := t + 1) (q := 19) hX flX8_11 fkX8_1 ht (msX8_1 ht) dX8_top_16 rfl ?_
      refine sp_bipush (v := 10) (q := 21) hX dX8_top_19 lb_10 rfl ?_
      refine sp_iload_n (i := 3) (q := 22) hX dX8_top_21 rfl rfl rfl ?_
      refine sp_iadd (q := 23) hX dX8_top_22 rfl ?_
      obtain ⟨h4, hf⟩ := sp_ck_some hf
      refine sp_iald (q := 24) hX (mfX8_1 ht) h4 dX8_top_23 rfl ?_
      refine sp_iload_n (i := 1) (q := 25) hX dX8_top_24 rfl rfl rfl ?_
      refine sp_iconst (v := 1) (q := 26) hX dX8_top_25 li_1 rfl ?_
      refine sp_iadd (q := 27) hX dX8_top_26 rfl ?_
      refine sp_icmp_ne (tgt := 58) (q := 30) hX dX8_top_27 (by decide) rfl (fun hc => ?_) (fun hc => ?_)
      · rw [if_neg hc] at hf
        exact hX8_top_58 hX hR ht ih hf
      · rw [if_pos hc] at hf
        refine sp_iload_n (i := 2) (q := 31) hX dX8_top_30 rfl rfl rfl ?_
        refine sp_iconst (v := -1) (q := 32) hX dX8_top_31 li_m1 rfl ?_
        refine sp_icmp_eq (tgt := 56) (q := 35) hX dX8_top_32 (by decide) rfl (fun hc => ?_) (fun hc => ?_)
        · rw [if_pos hc] at hf
          refine sp_drop (lv' := [some (.ref (sx_ad X t)), some (.int z1), none, some (.int z3)]) (And.intro rfl (And.intro rfl (And.intro rfl trivial))) ?_
          exact hX8_top_56 hX hR ht ih hf
        · rw [if_neg hc] at hf
          refine sp_aload_n (i := 0) (q := 36) hX dX8_top_35 rfl rfl rfl ?_
          refine sp_gets (t := t + 1) (q := 39) hX flX8_11 fkX8_1 ht (msX8_1 ht) dX8_top_36 rfl ?_
          refine sp_bipush (v := 20) (q := 41) hX dX8_top_39 lb_20 rfl ?_
          refine sp_iload_n (i := 3) (q := 42) hX dX8_top_41 rfl rfl rfl ?_
          refine sp_iadd (q := 43) hX dX8_top_42 rfl ?_
          obtain ⟨h5, hf⟩ := sp_ck_some hf
          refine sp_iald (q := 44) hX (mfX8_1 ht) h5 dX8_top_43 rfl ?_
          refine sp_aload_n (i := 0) (q := 45) hX dX8_top_44 rfl rfl rfl ?_
          refine sp_gets (t := t + 1) (q := 48) hX flX8_11 fkX8_1 ht (msX8_1 ht) dX8_top_45 rfl ?_
          refine sp_bipush (v := 20) (q := 50) hX dX8_top_48 lb_20 rfl ?_
          refine sp_iload_n (i := 2) (q := 51) hX dX8_top_50 rfl rfl rfl ?_
          refine sp_iadd (q := 52) hX dX8_top_51 rfl ?_
          obtain ⟨h6, hf⟩ := sp_ck_some hf
          refine sp_iald (q := 53) hX (mfX8_1 ht) h6 dX8_top_52 rfl ?_
          refine sp_icmp_le (tgt := 58) (q := 56) hX dX8_top_53 (by decide) rfl (fun hc => ?_) (fun hc => ?_)
          · rw [if_pos hc] at hf
            exact hX8_top_58 hX hR ht ih hf
          · rw [if_neg hc] at hf
            refine sp_drop (lv' := [some (.ref (sx_ad X t)), some (.int z1), none, some (.int z3)]) (And.intro rfl (And.intro rfl (And.intro rfl trivial))) ?_
            exact hX8_top_56 hX hR ht ih hf
set_option maxRecDepth 100000 in
set_option maxHeartbeats 4000000 in
theorem hX8_top {X : sp_X} (hX : sp_OK shX X cX8_top RX8 4 rmX8_top) {τ : sp_St} {r : Int32} (hR : sp_Ri shX X (some .int) τ r 0 0) {n : Nat}  {σ : sp_St} {t : Nat} {a1 : Int32} (ht : sp_at shX t 8 6) (hf : X8_top n σ t a1 = some (τ, r)) : sp_GG shX X σ 4 [some (.ref (sx_ad X t)), some (.int a1), none, none] [] 0 0 0 := by
  unfold X8_top at hf
  refine sp_iconst (v := -1) (q := 1) hX dX8_top_0 li_m1 rfl ?_
  obtain ⟨x1, e2, hf⟩ := sp_pl_some hf
  refine sp_nmi e2 ?_
  refine sp_istore_n (i := 2) (lv' := [some (.ref (sx_ad X t)), some (.int a1), some (.int x1), none]) (q := 2) hX dX8_top_1 rfl (Nat.le_of_ble_eq_true rfl) rfl rfl rfl ?_
  refine sp_iconst (v := 0) (q := 3) hX dX8_top_2 li_0 rfl ?_
  obtain ⟨x3, e4, hf⟩ := sp_pl_some hf
  refine sp_nmi e4 ?_
  refine sp_istore_n (i := 3) (lv' := [some (.ref (sx_ad X t)), some (.int a1), some (.int x1), some (.int x3)]) (q := 4) hX dX8_top_3 rfl (Nat.le_of_ble_eq_true rfl) rfl rfl rfl ?_
  exact hX8_top_4 hX hR ht n σ a1 x1 x3 hf
set_option maxRecDepth 100000 in
set_option maxHeartbeats 4000000 in
theorem cnX8_top {l : Launch} (hst : l.stackTraces = false) {w : sp_Wd} {n : Nat}  {σ : sp_St} {t : Nat} {a1 : Int32} {τ : sp_St} {r : Int32} (ht : sp_at shX t 8 6) (hf : X8_top n σ t a1 = some (τ, r)) : sp_Ci shX l w yX8_top cX8_top 4 (some .int) rmX8_top 0 0 σ [.ref (w.2.1 t), .int a1] τ r :=
  sp_ci (own := RX8) (by decide) rfl hst (Nat.le_of_ble_eq_true rfl) rfl (fun X hX hw hl hR => by subst hw; subst hl; exact hX8_top hX hR  ht hf)
def rmX8_bladesAbove : Room := { frames := 0, cells := 0, slots := 0, locals := 0 }
def X8_bladesAbove_69 (n : Nat) (t : Nat) (σ : sp_St) (z2 : Int32) : Option (sp_St × Int32) :=
  some (σ, z2)
def X8_bladesAbove_63 (n : Nat) (t : Nat) (k4 : sp_St → Int32 → Int32 → Int32 → Option (sp_St × Int32)) (σ : sp_St) (z1 : Int32) (z2 : Int32) (z3 : Int32) : Option (sp_St × Int32) :=
  sp_pl (z3 + 1) fun x1 =>
  k4 σ z1 z2 x1
def X8_bladesAbove_4 (n : Nat) (t : Nat) : Nat → sp_St → Int32 → Int32 → Int32 → Option (sp_St × Int32)
  | 0, _, _, _, _ => none
  | f + 1, σ, z1, z2, z3 =>
    sp_pl (σ.2.1 t 0) fun c1 =>
    sp_ck (sp_isc c1) <|
    if (σ.1 c1 13) ≤ z3 then
      X8_bladesAbove_69 n t σ z2
    else
      sp_ck (sp_in (((10 : Int32)) + z3) 50) <|
      sp_ck (sp_in (((10 : Int32)) + z1) 50) <|
      if (sp_g σ (t + 1) (((10 : Int32)) + z3)) = (sp_g σ (t + 1) (((10 : Int32)) + z1)) then
        sp_ck (sp_in (((20 : Int32)) + z3) 50) <|
        sp_ck (sp_in (((20 : Int32)) + z1) 50) <|
        if (sp_g σ (t + 1) (((20 : Int32)) + z3)) ≤ (sp_g σ (t + 1) (((20 : Int32)) + z1)) then
          X8_bladesAbove_63 n t (X8_bladesAbove_4 n t f) σ z1 z2 z3
        else
          sp_pl (z2 ||| (((1 : Int32)) <<< (z3 &&& 31))) fun x8 =>
          X8_bladesAbove_63 n t (X8_bladesAbove_4 n t f) σ z1 x8 z3
      else
        X8_bladesAbove_63 n t (X8_bladesAbove_4 n t f) σ z1 z2 z3
def X8_bladesAbove (n : Nat)  (σ : sp_St) (t : Nat) (a1 : Int32) : Option (sp_St × Int32) :=
  sp_pl ((0 : Int32)) fun x1 =>
  sp_pl ((0 : Int32)) fun x3 =>
  X8_bladesAbove_4 n t n σ a1 x1 x3
set_option maxRecDepth 100000 in
set_option maxHeartbeats 4000000 in
theorem hX8_bladesAbove_69 {X : sp_X} (hX : sp_OK shX X cX8_bladesAbove RX8 4 rmX8_bladesAbove) {τ : sp_St} {r : Int32} (hR : sp_Ri shX X (some .int) τ r 0 0) {n : Nat}  {t : Nat} (ht : sp_at shX t 8 6)  {σ : sp_St} {z2 : Int32} (hf : X8_bladesAbove_69 n t σ z2 = some (τ, r)) : sp_GG shX X σ 4 [none, none, some (.int z2), none] [] 69 0 0 := by
  unfold X8_bladesAbove_69 at hf
  refine sp_iload_n (i := 2) (q := 70) hX dX8_bladesAbove_69 rfl rfl rfl ?_
  exact sp_iret hX hR dX8_bladesAbove_70 hf (Nat.le_of_ble_eq_true rfl) (Nat.le_of_ble_eq_true rfl)
set_option maxRecDepth 100000 in
set_option maxHeartbeats 4000000 in
theorem hX8_bladesAbove_63 {X : sp_X} (hX : sp_OK shX X cX8_bladesAbove RX8 4 rmX8_bladesAbove) {τ : sp_St} {r : Int32} (hR : sp_Ri shX X (some .int) τ r 0 0) {n : Nat}  {t : Nat} (ht : sp_at shX t 8 6) {k4 : sp_St → Int32 → Int32 → Int32 → Option (sp_St × Int32)} (hk4 : ∀ (σ : sp_St) (z1 : Int32) (z2 : Int32) (z3 : Int32), k4 σ z1 z2 z3 = some (τ, r) → sp_GG shX X σ 4 [some (.ref (sx_ad X t)), some (.int z1), some (.int z2), some (.int z3)] [] 4 0 0) {σ : sp_St} {z1 : Int32} {z2 : Int32} {z3 : Int32} (hf : X8_bladesAbove_63 n t k4 σ z1 z2 z3 = some (τ, r)) : sp_GG shX X σ 4 [some (.ref (sx_ad X t)), some (.int z1), some (.int z2), some (.int z3)] [] 63 0 0 := by
  unfold X8_bladesAbove_63 at hf
  obtain ⟨x1, e2, hf⟩ := sp_pl_some hf
  refine sp_iinc (i := 3) (v := x1) (lv' := [some (.ref (sx_ad X t)), some (.int z1), some (.int z2), some (.int x1)]) (q := 66) hX dX8_bladesAbove_63 rfl (by rw [e2, li_1]) (Nat.le_of_ble_eq_true rfl) rfl rfl rfl ?_
  refine sp_goto (tgt := 4) hX dX8_bladesAbove_66 (by decide) ?_
  exact hk4 σ z1 z2 x1 hf
set_option maxRecDepth 100000 in
set_option maxHeartbeats 4000000 in
theorem hX8_bladesAbove_4 {X : sp_X} (hX : sp_OK shX X cX8_bladesAbove RX8 4 rmX8_bladesAbove) {τ : sp_St} {r : Int32} (hR : sp_Ri shX X (some .int) τ r 0 0) {n : Nat}  {t : Nat} (ht : sp_at shX t 8 6)  : ∀ (f : Nat) (σ : sp_St) (z1 : Int32) (z2 : Int32) (z3 : Int32), X8_bladesAbove_4 n t f σ z1 z2 z3 = some (τ, r) → sp_GG shX X σ 4 [some (.ref (sx_ad X t)), some (.int z1), some (.int z2), some (.int z3)] [] 4 0 0 := by
  intro f
  induction f with
  | zero =>
    intro σ z1 z2 z3 hf
    rw [X8_bladesAbove_4] at hf
    cases hf
  | succ f ih =>
    intro σ z1 z2 z3 hf
    rw [X8_bladesAbove_4] at hf
    refine sp_iload_n (i := 3) (q := 5) hX dX8_bladesAbove_4 rfl rfl rfl ?_
    refine sp_aload_n (i := 0) (q := 6) hX dX8_bladesAbove_5 rfl rfl rfl ?_
    obtain ⟨c1, e3, hf⟩ := sp_pl_some hf
    obtain ⟨h2, hf⟩ := sp_ck_some hf
    refine sp_getr (q := 9) hX flX8_31 fkX8_0 ht dX8_bladesAbove_6 rfl ?_
    refine sp_nmr e3 ?_
    refine sp_geti (q := 12) hX flX8_40 fkX2_13 (sp_isc_at h2) dX8_bladesAbove_9 rfl ?_
    refine sp_icmp_ge (tgt := 69) (q := 15) hX dX8_bladesAbove_12 (by decide) rfl (fun hc => ?_) (fun hc => ?_)
    · rw [if_pos hc] at hf
      refine sp_drop (lv' := [none, none, some (.int z2), none]) (And.intro rfl trivial) ?_
      exact hX8_bladesAbove_69 hX hR ht hf
    · rw [if_neg hc] at hf
      refine sp_aload_n (i := 0) (q := 16) hX dX8_bladesAbove_15 rfl rfl rfl ?_
      refine sp_gets (t := t + 1) (q := 19) hX flX8_11 fkX8_1 ht (msX8_1 ht) dX8_bladesAbove_16 rfl ?_
      refine sp_bipush (v := 10) (q := 21) hX dX8_bladesAbove_19 lb_10 rfl ?_
      refine sp_iload_n (i := 3) (q := 22) hX dX8_bladesAbove_21 rfl rfl rfl ?_
      refine sp_iadd (q := 23) hX dX8_bladesAbove_22 rfl ?_
      obtain ⟨h4, hf⟩ := sp_ck_some hf
      refine sp_iald (q := 24) hX (mfX8_1 ht) h4 dX8_bladesAbove_23 rfl ?_
      refine sp_aload_n (i := 0) (q := 25) hX dX8_bladesAbove_24 rfl rfl rfl ?_
      refine sp_gets (t := t + 1) (q := 28) hX flX8_11 fkX8_1 ht (msX8_1 ht) dX8_bladesAbove_25 rfl ?_
      refine sp_bipush (v := 10) (q := 30) hX dX8_bladesAbove_28 lb_10 rfl ?_
      refine sp_iload_n (i := 1) (q := 31) hX dX8_bladesAbove_30 rfl rfl rfl ?_
      refine sp_iadd (q := 32) hX dX8_bladesAbove_31 rfl ?_
      obtain ⟨h5, hf⟩ := sp_ck_some hf
      refine sp_iald (q := 33) hX (mfX8_1 ht) h5 dX8_bladesAbove_32 rfl ?_
      refine sp_icmp_ne (tgt := 63) (q := 36) hX dX8_bladesAbove_33 (by decide) rfl (fun hc => ?_) (fun hc => ?_)
      · rw [if_neg hc] at hf
        exact hX8_bladesAbove_63 hX hR ht ih hf
      · rw [if_pos hc] at hf
        refine sp_aload_n (i := 0) (q := 37) hX dX8_bladesAbove_36 rfl rfl rfl ?_
        refine sp_gets (t := t + 1) (q := 40) hX flX8_11 fkX8_1 ht (msX8_1 ht) dX8_bladesAbove_37 rfl ?_
        refine sp_bipush (v := 20) (q := 42) hX dX8_bladesAbove_40 lb_20 rfl ?_
        refine sp_iload_n (i := 3) (q := 43) hX dX8_bladesAbove_42 rfl rfl rfl ?_
        refine sp_iadd (q := 44) hX dX8_bladesAbove_43 rfl ?_
        obtain ⟨h6, hf⟩ := sp_ck_some hf
        refine sp_iald (q := 45) hX (mfX8_1 ht) h6 dX8_bladesAbove_44 rfl ?_
        refine sp_aload_n (i := 0) (q := 46) hX dX8_bladesAbove_45 rfl rfl rfl ?_
        refine sp_gets (t := t + 1) (q := 49) hX flX8_11 fkX8_1 ht (msX8_1 ht) dX8_bladesAbove_46 rfl ?_
        refine sp_bipush (v := 20) (q := 51) hX dX8_bladesAbove_49 lb_20 rfl ?_
        refine sp_iload_n (i := 1) (q := 52) hX dX8_bladesAbove_51 rfl rfl rfl ?_
        refine sp_iadd (q := 53) hX dX8_bladesAbove_52 rfl ?_
        obtain ⟨h7, hf⟩ := sp_ck_some hf
        refine sp_iald (q := 54) hX (mfX8_1 ht) h7 dX8_bladesAbove_53 rfl ?_
        refine sp_icmp_le (tgt := 63) (q := 57) hX dX8_bladesAbove_54 (by decide) rfl (fun hc => ?_) (fun hc => ?_)
        · rw [if_pos hc] at hf
          exact hX8_bladesAbove_63 hX hR ht ih hf
        · rw [if_neg hc] at hf
          refine sp_iload_n (i := 2) (q := 58) hX dX8_bladesAbove_57 rfl rfl rfl ?_
          refine sp_iconst (v := 1) (q := 59) hX dX8_bladesAbove_58 li_1 rfl ?_
          refine sp_iload_n (i := 3) (q := 60) hX dX8_bladesAbove_59 rfl rfl rfl ?_
          refine sp_ishl (q := 61) hX dX8_bladesAbove_60 rfl ?_
          refine sp_ior (q := 62) hX dX8_bladesAbove_61 rfl ?_
          obtain ⟨x8, e9, hf⟩ := sp_pl_some hf
          refine sp_nmi e9 ?_
          refine sp_istore_n (i := 2) (lv' := [some (.ref (sx_ad X t)), some (.int z1), some (.int x8), some (.int z3)]) (q := 63) hX dX8_bladesAbove_62 rfl (Nat.le_of_ble_eq_true rfl) rfl rfl rfl ?_
          exact hX8_bladesAbove_63 hX hR ht ih hf
set_option maxRecDepth 100000 in
set_option maxHeartbeats 4000000 in
theorem hX8_bladesAbove {X : sp_X} (hX : sp_OK shX X cX8_bladesAbove RX8 4 rmX8_bladesAbove) {τ : sp_St} {r : Int32} (hR : sp_Ri shX X (some .int) τ r 0 0) {n : Nat}  {σ : sp_St} {t : Nat} {a1 : Int32} (ht : sp_at shX t 8 6) (hf : X8_bladesAbove n σ t a1 = some (τ, r)) : sp_GG shX X σ 4 [some (.ref (sx_ad X t)), some (.int a1), none, none] [] 0 0 0 := by
  unfold X8_bladesAbove at hf
  refine sp_iconst (v := 0) (q := 1) hX dX8_bladesAbove_0 li_0 rfl ?_
  obtain ⟨x1, e2, hf⟩ := sp_pl_some hf
  refine sp_nmi e2 ?_
  refine sp_istore_n (i := 2) (lv' := [some (.ref (sx_ad X t)), some (.int a1), some (.int x1), none]) (q := 2) hX dX8_bladesAbove_1 rfl (Nat.le_of_ble_eq_true rfl) rfl rfl rfl ?_
  refine sp_iconst (v := 0) (q := 3) hX dX8_bladesAbove_2 li_0 rfl ?_
  obtain ⟨x3, e4, hf⟩ := sp_pl_some hf
  refine sp_nmi e4 ?_
  refine sp_istore_n (i := 3) (lv' := [some (.ref (sx_ad X t)), some (.int a1), some (.int x1), some (.int x3)]) (q := 4) hX dX8_bladesAbove_3 rfl (Nat.le_of_ble_eq_true rfl) rfl rfl rfl ?_
  exact hX8_bladesAbove_4 hX hR ht n σ a1 x1 x3 hf
set_option maxRecDepth 100000 in
set_option maxHeartbeats 4000000 in
theorem cnX8_bladesAbove {l : Launch} (hst : l.stackTraces = false) {w : sp_Wd} {n : Nat}  {σ : sp_St} {t : Nat} {a1 : Int32} {τ : sp_St} {r : Int32} (ht : sp_at shX t 8 6) (hf : X8_bladesAbove n σ t a1 = some (τ, r)) : sp_Ci shX l w yX8_bladesAbove cX8_bladesAbove 4 (some .int) rmX8_bladesAbove 0 0 σ [.ref (w.2.1 t), .int a1] τ r :=
  sp_ci (own := RX8) (by decide) rfl hst (Nat.le_of_ble_eq_true rfl) rfl (fun X hX hw hl hR => by subst hw; subst hl; exact hX8_bladesAbove hX hR  ht hf)
def rmX8_putInto : Room := { frames := 0, cells := 0, slots := 0, locals := 0 }
def X8_putInto (n : Nat)  (σ : sp_St) (t : Nat) (a1 : Int32) (a2 : Int32) : Option (sp_St) :=
  sp_pl (sp_sa σ (t + 1) ((49 : Int32)).toNatClampNeg ((sp_g σ (t + 1) ((49 : Int32))) + ((1 : Int32)))) fun σ1 =>
  sp_ck (sp_in (((20 : Int32)) + a1) 50) <|
  sp_pl (sp_sa σ1 (t + 1) (((20 : Int32)) + a1).toNatClampNeg (sp_g σ1 (t + 1) ((49 : Int32)))) fun σ4 =>
  sp_ck (sp_in (((10 : Int32)) + a1) 50) <|
  sp_pl (sp_sa σ4 (t + 1) (((10 : Int32)) + a1).toNatClampNeg (a2 + ((1 : Int32)))) fun σ7 =>
  some σ7
set_option maxRecDepth 100000 in
set_option maxHeartbeats 4000000 in
theorem hX8_putInto {X : sp_X} (hX : sp_OK shX X cX8_putInto RX8 3 rmX8_putInto) {τ : sp_St} (hR : sp_Rv shX X τ 0 0) {n : Nat}  {σ : sp_St} {t : Nat} {a1 : Int32} {a2 : Int32} (ht : sp_at shX t 8 6) (hf : X8_putInto n σ t a1 a2 = some τ) : sp_GG shX X σ 3 [some (.ref (sx_ad X t)), some (.int a1), some (.int a2)] [] 0 0 0 := by
  unfold X8_putInto at hf
  refine sp_aload_n (i := 0) (q := 1) hX dX8_putInto_0 rfl rfl rfl ?_
  refine sp_gets (t := t + 1) (q := 4) hX flX8_11 fkX8_1 ht (msX8_1 ht) dX8_putInto_1 rfl ?_
  refine sp_bipush (v := 49) (q := 6) hX dX8_putInto_4 lb_49 rfl ?_
  refine sp_dup2 (q := 7) hX dX8_putInto_6 rfl rfl rfl ?_
  refine sp_iald (q := 8) hX (mfX8_1 ht) (by decide) dX8_putInto_7 rfl ?_
  refine sp_iconst (v := 1) (q := 9) hX dX8_putInto_8 li_1 rfl ?_
  refine sp_iadd (q := 10) hX dX8_putInto_9 rfl ?_
  obtain ⟨σ1, e2, hf⟩ := sp_pl_some hf
  refine sp_iast (q := 11) hX (mfX8_1 ht) (by decide) dX8_putInto_10 rfl ?_
  refine sp_nms e2 ?_
  refine sp_aload_n (i := 0) (q := 12) hX dX8_putInto_11 rfl rfl rfl ?_
  refine sp_gets (t := t + 1) (q := 15) hX flX8_11 fkX8_1 ht (msX8_1 ht) dX8_putInto_12 rfl ?_
  refine sp_bipush (v := 20) (q := 17) hX dX8_putInto_15 lb_20 rfl ?_
  refine sp_iload_n (i := 1) (q := 18) hX dX8_putInto_17 rfl rfl rfl ?_
  refine sp_iadd (q := 19) hX dX8_putInto_18 rfl ?_
  refine sp_aload_n (i := 0) (q := 20) hX dX8_putInto_19 rfl rfl rfl ?_
  refine sp_gets (t := t + 1) (q := 23) hX flX8_11 fkX8_1 ht (msX8_1 ht) dX8_putInto_20 rfl ?_
  refine sp_bipush (v := 49) (q := 25) hX dX8_putInto_23 lb_49 rfl ?_
  refine sp_iald (q := 26) hX (mfX8_1 ht) (by decide) dX8_putInto_25 rfl ?_
  obtain ⟨h3, hf⟩ := sp_ck_some hf
  obtain ⟨σ4, e5, hf⟩ := sp_pl_some hf
  refine sp_iast (q := 27) hX (mfX8_1 ht) h3 dX8_putInto_26 rfl ?_
  refine sp_nms e5 ?_
  refine sp_aload_n (i := 0) (q := 28) hX dX8_putInto_27 rfl rfl rfl ?_
  refine sp_gets (t := t + 1) (q := 31) hX flX8_11 fkX8_1 ht (msX8_1 ht) dX8_putInto_28 rfl ?_
  refine sp_bipush (v := 10) (q := 33) hX dX8_putInto_31 lb_10 rfl ?_
  refine sp_iload_n (i := 1) (q := 34) hX dX8_putInto_33 rfl rfl rfl ?_
  refine sp_iadd (q := 35) hX dX8_putInto_34 rfl ?_
  refine sp_iload_n (i := 2) (q := 36) hX dX8_putInto_35 rfl rfl rfl ?_
  refine sp_iconst (v := 1) (q := 37) hX dX8_putInto_36 li_1 rfl ?_
  refine sp_iadd (q := 38) hX dX8_putInto_37 rfl ?_
  obtain ⟨h6, hf⟩ := sp_ck_some hf
  obtain ⟨σ7, e8, hf⟩ := sp_pl_some hf
  refine sp_iast (q := 39) hX (mfX8_1 ht) h6 dX8_putInto_38 rfl ?_
  refine sp_nms e8 ?_
  exact sp_vret hX hR dX8_putInto_39 hf (Nat.le_of_ble_eq_true rfl) (Nat.le_of_ble_eq_true rfl)
set_option maxRecDepth 100000 in
set_option maxHeartbeats 4000000 in
theorem cnX8_putInto {l : Launch} (hst : l.stackTraces = false) {w : sp_Wd} {n : Nat}  {σ : sp_St} {t : Nat} {a1 : Int32} {a2 : Int32} {τ : sp_St} (ht : sp_at shX t 8 6) (hf : X8_putInto n σ t a1 a2 = some τ) : sp_Cv shX l w yX8_putInto cX8_putInto 3 rmX8_putInto 0 0 σ [.ref (w.2.1 t), .int a1, .int a2] τ :=
  sp_cv (own := RX8) (by decide) rfl hst (Nat.le_of_ble_eq_true rfl) rfl (fun X hX hw hl hR => by subst hw; subst hl; exact hX8_putInto hX hR  ht hf)
def rmX8_putIntoLeast : Room := { frames := 2, cells := 0, slots := 0, locals := 45 }
def X8_putIntoLeast_22 (n : Nat) (t : Nat) (σ : sp_St) (z1 : Int32) (z2 : Int32) : Option (sp_St) :=
  sp_bv (X8_putInto n σ t z1 z2) fun σ2 =>
  some σ2
def X8_putIntoLeast_2 (n : Nat) (t : Nat) : Nat → sp_St → Int32 → Int32 → Option (sp_St)
  | 0, _, _, _ => none
  | f + 1, σ, z1, z2 =>
    sp_pl (σ.2.1 t 0) fun c1 =>
    sp_ck (sp_isc c1) <|
    if (σ.1 c1 14) ≤ z2 then
      some σ
    else
      sp_bd (X8_hasRoom n σ t z2 z1) fun σ5 v6 =>
      if v6 = 0 then
        sp_pl (z2 + 1) fun x7 =>
        X8_putIntoLeast_2 n t f σ5 z1 x7
      else
        X8_putIntoLeast_22 n t σ5 z1 z2
def X8_putIntoLeast (n : Nat)  (σ : sp_St) (t : Nat) (a1 : Int32) : Option (sp_St) :=
  sp_pl ((0 : Int32)) fun x1 =>
  X8_putIntoLeast_2 n t n σ a1 x1
set_option maxRecDepth 100000 in
set_option maxHeartbeats 4000000 in
theorem hX8_putIntoLeast_22 {X : sp_X} (hX : sp_OK shX X cX8_putIntoLeast RX8 3 rmX8_putIntoLeast) {τ : sp_St} (hR : sp_Rv shX X τ 0 0) {n : Nat}  {t : Nat} (ht : sp_at shX t 8 6)  {σ : sp_St} {z1 : Int32} {z2 : Int32} (hf : X8_putIntoLeast_22 n t σ z1 z2 = some τ) : sp_GG shX X σ 3 [some (.ref (sx_ad X t)), some (.int z1), some (.int z2)] [] 22 0 0 := by
  unfold X8_putIntoLeast_22 at hf
  refine sp_aload_n (i := 0) (q := 23) hX dX8_putIntoLeast_22 rfl rfl rfl ?_
  refine sp_iload_n (i := 1) (q := 24) hX dX8_putIntoLeast_23 rfl rfl rfl ?_
  refine sp_iload_n (i := 2) (q := 25) hX dX8_putIntoLeast_24 rfl rfl rfl ?_
  obtain ⟨σ2, h1, hf⟩ := sp_bv_so hf
  refine sp_callVv (As := [.int z1, .int z2]) (rest := []) (q := 28) hX (cnX8_putInto (sp_st hX) ht h1) cwX8_94 ht rfl rfl rfl rfl rfl (Nat.le_of_ble_eq_true rfl) (Nat.le_of_ble_eq_true rfl) (Nat.le_of_ble_eq_true rfl) (Nat.le_of_ble_eq_true rfl) (Nat.le_of_ble_eq_true rfl) dX8_putIntoLeast_25 rfl ?_
  exact sp_vret hX hR dX8_putIntoLeast_28 hf (Nat.le_of_ble_eq_true rfl) (Nat.le_of_ble_eq_true rfl)
set_option maxRecDepth 100000 in
set_option maxHeartbeats 4000000 in
theorem hX8_putIntoLeast_2 {X : sp_X} (hX : sp_OK shX X cX8_putIntoLeast RX8 3 rmX8_putIntoLeast) {τ : sp_St} (hR : sp_Rv shX X τ 0 0) {n : Nat}  {t : Nat} (ht : sp_at shX t 8 6)  : ∀ (f : Nat) (σ : sp_St) (z1 : Int32) (z2 : Int32), X8_putIntoLeast_2 n t f σ z1 z2 = some τ → sp_GG shX X σ 3 [some (.ref (sx_ad X t)), some (.int z1), some (.int z2)] [] 2 0 0 := by
  intro f
  induction f with
  | zero =>
    intro σ z1 z2 hf
    rw [X8_putIntoLeast_2] at hf
    cases hf
  | succ f ih =>
    intro σ z1 z2 hf
    rw [X8_putIntoLeast_2] at hf
    refine sp_iload_n (i := 2) (q := 3) hX dX8_putIntoLeast_2 rfl rfl rfl ?_
    refine sp_aload_n (i := 0) (q := 4) hX dX8_putIntoLeast_3 rfl rfl rfl ?_
    obtain ⟨c1, e3, hf⟩ := sp_pl_some hf
    obtain ⟨h2, hf⟩ := sp_ck_some hf
    refine sp_getr (q := 7) hX flX8_31 fkX8_0 ht dX8_putIntoLeast_4 rfl ?_
    refine sp_nmr e3 ?_
    refine sp_geti (q := 10) hX flX8_53 fkX2_14 (sp_isc_at h2) dX8_putIntoLeast_7 rfl ?_
    refine sp_icmp_ge (tgt := 35) (q := 13) hX dX8_putIntoLeast_10 (by decide) rfl (fun hc => ?_) (fun hc => ?_)
    · rw [if_pos hc] at hf
      exact sp_vret hX hR dX8_putIntoLeast_35 hf (Nat.le_of_ble_eq_true rfl) (Nat.le_of_ble_eq_true rfl)
    · rw [if_neg hc] at hf
      refine sp_aload_n (i := 0) (q := 14) hX dX8_putIntoLeast_13 rfl rfl rfl ?_
      refine sp_iload_n (i := 2) (q := 15) hX dX8_putIntoLeast_14 rfl rfl rfl ?_
      refine sp_iload_n (i := 1) (q := 16) hX dX8_putIntoLeast_15 rfl rfl rfl ?_
      obtain ⟨σ5, v6, h4, hf⟩ := sp_bd_so hf
      refine sp_callVi (As := [.int z2, .int z1]) (rest := []) (q := 19) hX (cnX8_hasRoom (sp_st hX) ht h4) cwX8_90 ht rfl rfl rfl rfl rfl (Nat.le_of_ble_eq_true rfl) (Nat.le_of_ble_eq_true rfl) (Nat.le_of_ble_eq_true rfl) (Nat.le_of_ble_eq_true rfl) (Nat.le_of_ble_eq_true rfl) dX8_putIntoLeast_16 rfl ?_
      refine sp_if_eq (tgt := 29) (q := 22) hX dX8_putIntoLeast_19 (by decide) rfl (fun hc => ?_) (fun hc => ?_)
      · rw [if_pos hc] at hf
        obtain ⟨x7, e8, hf⟩ := sp_pl_some hf
        refine sp_iinc (i := 2) (v := x7) (lv' := [some (.ref (sx_ad X t)), some (.int z1), some (.int x7)]) (q := 32) hX dX8_putIntoLeast_29 rfl (by rw [e8, li_1]) (Nat.le_of_ble_eq_true rfl) rfl rfl rfl ?_
        refine sp_goto (tgt := 2) hX dX8_putIntoLeast_32 (by decide) ?_
        exact ih σ5 z1 x7 hf
      · rw [if_neg hc] at hf
        exact hX8_putIntoLeast_22 hX hR ht hf
set_option maxRecDepth 100000 in
set_option maxHeartbeats 4000000 in
theorem hX8_putIntoLeast {X : sp_X} (hX : sp_OK shX X cX8_putIntoLeast RX8 3 rmX8_putIntoLeast) {τ : sp_St} (hR : sp_Rv shX X τ 0 0) {n : Nat}  {σ : sp_St} {t : Nat} {a1 : Int32} (ht : sp_at shX t 8 6) (hf : X8_putIntoLeast n σ t a1 = some τ) : sp_GG shX X σ 3 [some (.ref (sx_ad X t)), some (.int a1), none] [] 0 0 0 := by
  unfold X8_putIntoLeast at hf
  refine sp_iconst (v := 0) (q := 1) hX dX8_putIntoLeast_0 li_0 rfl ?_
  obtain ⟨x1, e2, hf⟩ := sp_pl_some hf
  refine sp_nmi e2 ?_
  refine sp_istore_n (i := 2) (lv' := [some (.ref (sx_ad X t)), some (.int a1), some (.int x1)]) (q := 2) hX dX8_putIntoLeast_1 rfl (Nat.le_of_ble_eq_true rfl) rfl rfl rfl ?_
  exact hX8_putIntoLeast_2 hX hR ht n σ a1 x1 hf
set_option maxRecDepth 100000 in
set_option maxHeartbeats 4000000 in
theorem cnX8_putIntoLeast {l : Launch} (hst : l.stackTraces = false) {w : sp_Wd} {n : Nat}  {σ : sp_St} {t : Nat} {a1 : Int32} {τ : sp_St} (ht : sp_at shX t 8 6) (hf : X8_putIntoLeast n σ t a1 = some τ) : sp_Cv shX l w yX8_putIntoLeast cX8_putIntoLeast 3 rmX8_putIntoLeast 0 0 σ [.ref (w.2.1 t), .int a1] τ :=
  sp_cv (own := RX8) (by decide) rfl hst (Nat.le_of_ble_eq_true rfl) rfl (fun X hX hw hl hR => by subst hw; subst hl; exact hX8_putIntoLeast hX hR  ht hf)
def rmX8_letTopOut : Room := { frames := 1, cells := 0, slots := 0, locals := 23 }
def X8_letTopOut_21 (n : Nat) (t : Nat) (σ : sp_St) : Option (sp_St) :=
  some σ
def X8_letTopOut (n : Nat)  (σ : sp_St) (t : Nat) (a1 : Int32) : Option (sp_St) :=
  sp_bd (X8_top n σ t a1) fun σ2 v3 =>
  if v3 = ((-1 : Int32)) then
    X8_letTopOut_21 n t σ2
  else
    sp_ck (sp_in (((10 : Int32)) + v3) 50) <|
    sp_pl (sp_sa σ2 (t + 1) (((10 : Int32)) + v3).toNatClampNeg ((0 : Int32))) fun σ5 =>
    X8_letTopOut_21 n t σ5
set_option maxRecDepth 100000 in
set_option maxHeartbeats 4000000 in
theorem hX8_letTopOut_21 {X : sp_X} (hX : sp_OK shX X cX8_letTopOut RX8 3 rmX8_letTopOut) {τ : sp_St} (hR : sp_Rv shX X τ 0 0) {n : Nat}  {t : Nat} (ht : sp_at shX t 8 6)  {σ : sp_St} (hf : X8_letTopOut_21 n t σ = some τ) : sp_GG shX X σ 3 [none, none, none] [] 21 0 0 := by
  unfold X8_letTopOut_21 at hf
  exact sp_vret hX hR dX8_letTopOut_21 hf (Nat.le_of_ble_eq_true rfl) (Nat.le_of_ble_eq_true rfl)
set_option maxRecDepth 100000 in
set_option maxHeartbeats 4000000 in
theorem hX8_letTopOut {X : sp_X} (hX : sp_OK shX X cX8_letTopOut RX8 3 rmX8_letTopOut) {τ : sp_St} (hR : sp_Rv shX X τ 0 0) {n : Nat}  {σ : sp_St} {t : Nat} {a1 : Int32} (ht : sp_at shX t 8 6) (hf : X8_letTopOut n σ t a1 = some τ) : sp_GG shX X σ 3 [some (.ref (sx_ad X t)), some (.int a1), none] [] 0 0 0 := by
  unfold X8_letTopOut at hf
  refine sp_aload_n (i := 0) (q := 1) hX dX8_letTopOut_0 rfl rfl rfl ?_
  refine sp_iload_n (i := 1) (q := 2) hX dX8_letTopOut_1 rfl rfl rfl ?_
  obtain ⟨σ2, v3, h1, hf⟩ := sp_bd_so hf
  refine sp_callVi (As := [.int a1]) (rest := []) (q := 5) hX (cnX8_top (sp_st hX) ht h1) cwX8_97 ht rfl rfl rfl rfl rfl (Nat.le_of_ble_eq_true rfl) (Nat.le_of_ble_eq_true rfl) (Nat.le_of_ble_eq_true rfl) (Nat.le_of_ble_eq_true rfl) (Nat.le_of_ble_eq_true rfl) dX8_letTopOut_2 rfl ?_
  refine sp_istore_n (i := 2) (lv' := [some (.ref (sx_ad X t)), some (.int a1), some (.int v3)]) (q := 6) hX dX8_letTopOut_5 rfl (Nat.le_of_ble_eq_true rfl) rfl rfl rfl ?_
  refine sp_iload_n (i := 2) (q := 7) hX dX8_letTopOut_6 rfl rfl rfl ?_
  refine sp_iconst (v := -1) (q := 8) hX dX8_letTopOut_7 li_m1 rfl ?_
  refine sp_icmp_eq (tgt := 21) (q := 11) hX dX8_letTopOut_8 (by decide) rfl (fun hc => ?_) (fun hc => ?_)
  · rw [if_pos hc] at hf
    refine sp_drop (lv' := [none, none, none]) trivial ?_
    exact hX8_letTopOut_21 hX hR ht hf
  · rw [if_neg hc] at hf
    refine sp_aload_n (i := 0) (q := 12) hX dX8_letTopOut_11 rfl rfl rfl ?_
    refine sp_gets (t := t + 1) (q := 15) hX flX8_11 fkX8_1 ht (msX8_1 ht) dX8_letTopOut_12 rfl ?_
    refine sp_bipush (v := 10) (q := 17) hX dX8_letTopOut_15 lb_10 rfl ?_
    refine sp_iload_n (i := 2) (q := 18) hX dX8_letTopOut_17 rfl rfl rfl ?_
    refine sp_iadd (q := 19) hX dX8_letTopOut_18 rfl ?_
    refine sp_iconst (v := 0) (q := 20) hX dX8_letTopOut_19 li_0 rfl ?_
    obtain ⟨h4, hf⟩ := sp_ck_some hf
    obtain ⟨σ5, e6, hf⟩ := sp_pl_some hf
    refine sp_iast (q := 21) hX (mfX8_1 ht) h4 dX8_letTopOut_20 rfl ?_
    refine sp_nms e6 ?_
    refine sp_drop (lv' := [none, none, none]) trivial ?_
    exact hX8_letTopOut_21 hX hR ht hf
set_option maxRecDepth 100000 in
set_option maxHeartbeats 4000000 in
theorem cnX8_letTopOut {l : Launch} (hst : l.stackTraces = false) {w : sp_Wd} {n : Nat}  {σ : sp_St} {t : Nat} {a1 : Int32} {τ : sp_St} (ht : sp_at shX t 8 6) (hf : X8_letTopOut n σ t a1 = some τ) : sp_Cv shX l w yX8_letTopOut cX8_letTopOut 3 rmX8_letTopOut 0 0 σ [.ref (w.2.1 t), .int a1] τ :=
  sp_cv (own := RX8) (by decide) rfl hst (Nat.le_of_ble_eq_true rfl) rfl (fun X hX hw hl hR => by subst hw; subst hl; exact hX8_letTopOut hX hR  ht hf)
def rmX8_angerOfAll : Room := { frames := 0, cells := 0, slots := 0, locals := 0 }
def X8_angerOfAll_30 (n : Nat) (t : Nat) (σ : sp_St) (z1 : Int32) : Option (sp_St × Int32) :=
  some (σ, z1)
def X8_angerOfAll_4 (n : Nat) (t : Nat) : Nat → sp_St → Int32 → Int32 → Option (sp_St × Int32)
  | 0, _, _, _ => none
  | f + 1, σ, z1, z2 =>
    sp_pl (σ.2.1 t 0) fun c1 =>
    sp_ck (sp_isc c1) <|
    if (σ.1 c1 13) ≤ z2 then
      X8_angerOfAll_30 n t σ z1
    else
      sp_ck (sp_in z2 50) <|
      sp_pl (z1 + (sp_g σ (t + 1) z2)) fun x5 =>
      sp_pl (z2 + 1) fun x7 =>
      X8_angerOfAll_4 n t f σ x5 x7
def X8_angerOfAll (n : Nat)  (σ : sp_St) (t : Nat) : Option (sp_St × Int32) :=
  sp_pl ((0 : Int32)) fun x1 =>
  sp_pl ((0 : Int32)) fun x3 =>
  X8_angerOfAll_4 n t n σ x1 x3
set_option maxRecDepth 100000 in
set_option maxHeartbeats 4000000 in
theorem hX8_angerOfAll_30 {X : sp_X} (hX : sp_OK shX X cX8_angerOfAll RX8 3 rmX8_angerOfAll) {τ : sp_St} {r : Int32} (hR : sp_Ri shX X (some .int) τ r 0 0) {n : Nat}  {t : Nat} (ht : sp_at shX t 8 6)  {σ : sp_St} {z1 : Int32} (hf : X8_angerOfAll_30 n t σ z1 = some (τ, r)) : sp_GG shX X σ 3 [none, some (.int z1), none] [] 30 0 0 := by
  unfold X8_angerOfAll_30 at hf
  refine sp_iload_n (i := 1) (q := 31) hX dX8_angerOfAll_30 rfl rfl rfl ?_
  exact sp_iret hX hR dX8_angerOfAll_31 hf (Nat.le_of_ble_eq_true rfl) (Nat.le_of_ble_eq_true rfl)
set_option maxRecDepth 100000 in
set_option maxHeartbeats 4000000 in
theorem hX8_angerOfAll_4 {X : sp_X} (hX : sp_OK shX X cX8_angerOfAll RX8 3 rmX8_angerOfAll) {τ : sp_St} {r : Int32} (hR : sp_Ri shX X (some .int) τ r 0 0) {n : Nat}  {t : Nat} (ht : sp_at shX t 8 6)  : ∀ (f : Nat) (σ : sp_St) (z1 : Int32) (z2 : Int32), X8_angerOfAll_4 n t f σ z1 z2 = some (τ, r) → sp_GG shX X σ 3 [some (.ref (sx_ad X t)), some (.int z1), some (.int z2)] [] 4 0 0 := by
  intro f
  induction f with
  | zero =>
    intro σ z1 z2 hf
    rw [X8_angerOfAll_4] at hf
    cases hf
  | succ f ih =>
    intro σ z1 z2 hf
    rw [X8_angerOfAll_4] at hf
    refine sp_iload_n (i := 2) (q := 5) hX dX8_angerOfAll_4 rfl rfl rfl ?_
    refine sp_aload_n (i := 0) (q := 6) hX dX8_angerOfAll_5 rfl rfl rfl ?_
    obtain ⟨c1, e3, hf⟩ := sp_pl_some hf
    obtain ⟨h2, hf⟩ := sp_ck_some hf
    refine sp_getr (q := 9) hX flX8_31 fkX8_0 ht dX8_angerOfAll_6 rfl ?_
    refine sp_nmr e3 ?_
    refine sp_geti (q := 12) hX flX8_40 fkX2_13 (sp_isc_at h2) dX8_angerOfAll_9 rfl ?_
    refine sp_icmp_ge (tgt := 30) (q := 15) hX dX8_angerOfAll_12 (by decide) rfl (fun hc => ?_) (fun hc => ?_)
    · rw [if_pos hc] at hf
      refine sp_drop (lv' := [none, some (.int z1), none]) (And.intro rfl trivial) ?_
      exact hX8_angerOfAll_30 hX hR ht hf
    · rw [if_neg hc] at hf
      refine sp_iload_n (i := 1) (q := 16) hX dX8_angerOfAll_15 rfl rfl rfl ?_
      refine sp_aload_n (i := 0) (q := 17) hX dX8_angerOfAll_16 rfl rfl rfl ?_
      refine sp_gets (t := t + 1) (q := 20) hX flX8_11 fkX8_1 ht (msX8_1 ht) dX8_angerOfAll_17 rfl ?_
      refine sp_iload_n (i := 2) (q := 21) hX dX8_angerOfAll_20 rfl rfl rfl ?_
      obtain ⟨h4, hf⟩ := sp_ck_some hf
      refine sp_iald (q := 22) hX (mfX8_1 ht) h4 dX8_angerOfAll_21 rfl ?_
      refine sp_iadd (q := 23) hX dX8_angerOfAll_22 rfl ?_
      obtain ⟨x5, e6, hf⟩ := sp_pl_some hf
      refine sp_nmi e6 ?_
      refine sp_istore_n (i := 1) (lv' := [some (.ref (sx_ad X t)), some (.int x5), some (.int z2)]) (q := 24) hX dX8_angerOfAll_23 rfl (Nat.le_of_ble_eq_true rfl) rfl rfl rfl ?_
      obtain ⟨x7, e8, hf⟩ := sp_pl_some hf
      refine sp_iinc (i := 2) (v := x7) (lv' := [some (.ref (sx_ad X t)), some (.int x5), some (.int x7)]) (q := 27) hX dX8_angerOfAll_24 rfl (by rw [e8, li_1]) (Nat.le_of_ble_eq_true rfl) rfl rfl rfl ?_
      refine sp_goto (tgt := 4) hX dX8_angerOfAll_27 (by decide) ?_
      exact ih σ x5 x7 hf
set_option maxRecDepth 100000 in
set_option maxHeartbeats 4000000 in
theorem hX8_angerOfAll {X : sp_X} (hX : sp_OK shX X cX8_angerOfAll RX8 3 rmX8_angerOfAll) {τ : sp_St} {r : Int32} (hR : sp_Ri shX X (some .int) τ r 0 0) {n : Nat}  {σ : sp_St} {t : Nat} (ht : sp_at shX t 8 6) (hf : X8_angerOfAll n σ t = some (τ, r)) : sp_GG shX X σ 3 [some (.ref (sx_ad X t)), none, none] [] 0 0 0 := by
  unfold X8_angerOfAll at hf
  refine sp_iconst (v := 0) (q := 1) hX dX8_angerOfAll_0 li_0 rfl ?_
  obtain ⟨x1, e2, hf⟩ := sp_pl_some hf
  refine sp_nmi e2 ?_
  refine sp_istore_n (i := 1) (lv' := [some (.ref (sx_ad X t)), some (.int x1), none]) (q := 2) hX dX8_angerOfAll_1 rfl (Nat.le_of_ble_eq_true rfl) rfl rfl rfl ?_
  refine sp_iconst (v := 0) (q := 3) hX dX8_angerOfAll_2 li_0 rfl ?_
  obtain ⟨x3, e4, hf⟩ := sp_pl_some hf
  refine sp_nmi e4 ?_
  refine sp_istore_n (i := 2) (lv' := [some (.ref (sx_ad X t)), some (.int x1), some (.int x3)]) (q := 4) hX dX8_angerOfAll_3 rfl (Nat.le_of_ble_eq_true rfl) rfl rfl rfl ?_
  exact hX8_angerOfAll_4 hX hR ht n σ x1 x3 hf
set_option maxRecDepth 100000 in
set_option maxHeartbeats 4000000 in
theorem cnX8_angerOfAll {l : Launch} (hst : l.stackTraces = false) {w : sp_Wd} {n : Nat}  {σ : sp_St} {t : Nat} {τ : sp_St} {r : Int32} (ht : sp_at shX t 8 6) (hf : X8_angerOfAll n σ t = some (τ, r)) : sp_Ci shX l w yX8_angerOfAll cX8_angerOfAll 3 (some .int) rmX8_angerOfAll 0 0 σ [.ref (w.2.1 t)] τ r :=
  sp_ci (own := RX8) (by decide) rfl hst (Nat.le_of_ble_eq_true rfl) rfl (fun X hX hw hl hR => by subst hw; subst hl; exact hX8_angerOfAll hX hR  ht hf)
def rmX8_lookRound : Room := { frames := 0, cells := 0, slots := 0, locals := 0 }
def X8_lookRound_66 (n : Nat) (t : Nat) (k23 : sp_St → Int32 → Option (sp_St)) (σ : sp_St) (z1 : Int32) : Option (sp_St) :=
  sp_pl (z1 + 1) fun x1 =>
  k23 σ x1
def X8_lookRound_23 (n : Nat) (t : Nat) : Nat → sp_St → Int32 → Option (sp_St)
  | 0, _, _ => none
  | f + 1, σ, z1 =>
    sp_pl (σ.2.1 t 0) fun c1 =>
    sp_ck (sp_isc c1) <|
    if (σ.1 c1 13) ≤ z1 then
      some σ
    else
      sp_ck (sp_in (((10 : Int32)) + z1) 50) <|
      sp_pl (sp_g σ (t + 1) (((10 : Int32)) + z1)) fun x5 =>
      if x5 < 0 then
        X8_lookRound_66 n t (X8_lookRound_23 n t f) σ z1
      else
        if ((6 : Int32)) < x5 then
          X8_lookRound_66 n t (X8_lookRound_23 n t f) σ z1
        else
          sp_ck (sp_in x5 7) <|
          sp_ck (sp_in x5 7) <|
          sp_pl (sp_sa σ (t + 3) x5.toNatClampNeg ((sp_g σ (t + 3) x5) ||| (((1 : Int32)) <<< (z1 &&& 31)))) fun σ9 =>
          X8_lookRound_66 n t (X8_lookRound_23 n t f) σ9 z1
def X8_lookRound_21 (n : Nat) (t : Nat) (σ : sp_St) : Option (sp_St) :=
  sp_pl ((0 : Int32)) fun x1 =>
  X8_lookRound_23 n t n σ x1
def X8_lookRound_2 (n : Nat) (t : Nat) : Nat → sp_St → Int32 → Option (sp_St)
  | 0, _, _ => none
  | f + 1, σ, z1 =>
    if ((6 : Int32)) < z1 then
      X8_lookRound_21 n t σ
    else
      sp_ck (sp_in z1 7) <|
      sp_pl (sp_sa σ (t + 3) z1.toNatClampNeg ((0 : Int32))) fun σ2 =>
      sp_pl (z1 + 1) fun x4 =>
      X8_lookRound_2 n t f σ2 x4
def X8_lookRound (n : Nat)  (σ : sp_St) (t : Nat) : Option (sp_St) :=
  sp_pl ((0 : Int32)) fun x1 =>
  X8_lookRound_2 n t n σ x1
set_option maxRecDepth 100000 in
set_option maxHeartbeats 4000000 in
theorem hX8_lookRound_66 {X : sp_X} (hX : sp_OK shX X cX8_lookRound RX8 3 rmX8_lookRound) {τ : sp_St} (hR : sp_Rv shX X τ 0 0) {n : Nat}  {t : Nat} (ht : sp_at shX t 8 6) {k23 : sp_St → Int32 → Option (sp_St)} (hk23 : ∀ (σ : sp_St) (z1 : Int32), k23 σ z1 = some τ → sp_GG shX X σ 3 [some (.ref (sx_ad X t)), some (.int z1), none] [] 23 0 0) {σ : sp_St} {z1 : Int32} (hf : X8_lookRound_66 n t k23 σ z1 = some τ) : sp_GG shX X σ 3 [some (.ref (sx_ad X t)), some (.int z1), none] [] 66 0 0 := by
  unfold X8_lookRound_66 at hf
  obtain ⟨x1, e2, hf⟩ := sp_pl_some hf
  refine sp_iinc (i := 1) (v := x1) (lv' := [some (.ref (sx_ad X t)), some (.int x1), none]) (q := 69) hX dX8_lookRound_66 rfl (by rw [e2, li_1]) (Nat.le_of_ble_eq_true rfl) rfl rfl rfl ?_
  refine sp_goto (tgt := 23) hX dX8_lookRound_69 (by decide) ?_
  exact hk23 σ x1 hf
set_option maxRecDepth 100000 in
set_option maxHeartbeats 4000000 in
theorem hX8_lookRound_23 {X : sp_X} (hX : sp_OK shX X cX8_lookRound RX8 3 rmX8_lookRound) {τ : sp_St} (hR : sp_Rv shX X τ 0 0) {n : Nat}  {t : Nat} (ht : sp_at shX t 8 6)  : ∀ (f : Nat) (σ : sp_St) (z1 : Int32), X8_lookRound_23 n t f σ z1 = some τ → sp_GG shX X σ 3 [some (.ref (sx_ad X t)), some (.int z1), none] [] 23 0 0 := by
  intro f
  induction f with
  | zero =>
    intro σ z1 hf
    rw [X8_lookRound_23] at hf
    cases hf
  | succ f ih =>
    intro σ z1 hf
    rw [X8_lookRound_23] at hf
    refine sp_iload_n (i := 1) (q := 24) hX dX8_lookRound_23 rfl rfl rfl ?_
    refine sp_aload_n (i := 0) (q := 25) hX dX8_lookRound_24 rfl rfl rfl ?_
    obtain ⟨c1, e3, hf⟩ := sp_pl_some hf
    obtain ⟨h2, hf⟩ := sp_ck_some hf
    refine sp_getr (q := 28) hX flX8_31 fkX8_0 ht dX8_lookRound_25 rfl ?_
    refine sp_nmr e3 ?_
    refine sp_geti (q := 31) hX flX8_40 fkX2_13 (sp_isc_at h2) dX8_lookRound_28 rfl ?_
    refine sp_icmp_ge (tgt := 72) (q := 34) hX dX8_lookRound_31 (by decide) rfl (fun hc => ?_) (fun hc => ?_)
    · rw [if_pos hc] at hf
      exact sp_vret hX hR dX8_lookRound_72 hf (Nat.le_of_ble_eq_true rfl) (Nat.le_of_ble_eq_true rfl)
    · rw [if_neg hc] at hf
      refine sp_aload_n (i := 0) (q := 35) hX dX8_lookRound_34 rfl rfl rfl ?_
      refine sp_gets (t := t + 1) (q := 38) hX flX8_11 fkX8_1 ht (msX8_1 ht) dX8_lookRound_35 rfl ?_
      refine sp_bipush (v := 10) (q := 40) hX dX8_lookRound_38 lb_10 rfl ?_
      refine sp_iload_n (i := 1) (q := 41) hX dX8_lookRound_40 rfl rfl rfl ?_
      refine sp_iadd (q := 42) hX dX8_lookRound_41 rfl ?_
      obtain ⟨h4, hf⟩ := sp_ck_some hf
      refine sp_iald (q := 43) hX (mfX8_1 ht) h4 dX8_lookRound_42 rfl ?_
      obtain ⟨x5, e6, hf⟩ := sp_pl_some hf
      refine sp_nmi e6 ?_
      refine sp_istore_n (i := 2) (lv' := [some (.ref (sx_ad X t)), some (.int z1), some (.int x5)]) (q := 44) hX dX8_lookRound_43 rfl (Nat.le_of_ble_eq_true rfl) rfl rfl rfl ?_
      refine sp_iload_n (i := 2) (q := 45) hX dX8_lookRound_44 rfl rfl rfl ?_
      refine sp_if_lt (tgt := 66) (q := 48) hX dX8_lookRound_45 (by decide) rfl (fun hc => ?_) (fun hc => ?_)
      · rw [if_pos hc] at hf
        refine sp_drop (lv' := [some (.ref (sx_ad X t)), some (.int z1), none]) (And.intro rfl (And.intro rfl trivial)) ?_
        exact hX8_lookRound_66 hX hR ht ih hf
      · rw [if_neg hc] at hf
        refine sp_iload_n (i := 2) (q := 49) hX dX8_lookRound_48 rfl rfl rfl ?_
        refine sp_bipush (v := 6) (q := 51) hX dX8_lookRound_49 lb_6 rfl ?_
        refine sp_icmp_gt (tgt := 66) (q := 54) hX dX8_lookRound_51 (by decide) rfl (fun hc => ?_) (fun hc => ?_)
        · rw [if_pos hc] at hf
          refine sp_drop (lv' := [some (.ref (sx_ad X t)), some (.int z1), none]) (And.intro rfl (And.intro rfl trivial)) ?_
          exact hX8_lookRound_66 hX hR ht ih hf
        · rw [if_neg hc] at hf
          refine sp_aload_n (i := 0) (q := 55) hX dX8_lookRound_54 rfl rfl rfl ?_
          refine sp_gets (t := t + 3) (q := 58) hX flX8_18 fkX8_3 ht (msX8_3 ht) dX8_lookRound_55 rfl ?_
          refine sp_iload_n (i := 2) (q := 59) hX dX8_lookRound_58 rfl rfl rfl ?_
          refine sp_dup2 (q := 60) hX dX8_lookRound_59 rfl rfl rfl ?_
          obtain ⟨h7, hf⟩ := sp_ck_some hf
          refine sp_iald (q := 61) hX (mfX8_3 ht) h7 dX8_lookRound_60 rfl ?_
          refine sp_iconst (v := 1) (q := 62) hX dX8_lookRound_61 li_1 rfl ?_
          refine sp_iload_n (i := 1) (q := 63) hX dX8_lookRound_62 rfl rfl rfl ?_
          refine sp_ishl (q := 64) hX dX8_lookRound_63 rfl ?_
          refine sp_ior (q := 65) hX dX8_lookRound_64 rfl ?_
          obtain ⟨h8, hf⟩ := sp_ck_some hf
          obtain ⟨σ9, e10, hf⟩ := sp_pl_some hf
          refine sp_iast (q := 66) hX (mfX8_3 ht) h8 dX8_lookRound_65 rfl ?_
          refine sp_nms e10 ?_
          refine sp_drop (lv' := [some (.ref (sx_ad X t)), some (.int z1), none]) (And.intro rfl (And.intro rfl trivial)) ?_
          exact hX8_lookRound_66 hX hR ht ih hf
set_option maxRecDepth 100000 in
set_option maxHeartbeats 4000000 in
theorem hX8_lookRound_21 {X : sp_X} (hX : sp_OK shX X cX8_lookRound RX8 3 rmX8_lookRound) {τ : sp_St} (hR : sp_Rv shX X τ 0 0) {n : Nat}  {t : Nat} (ht : sp_at shX t 8 6)  {σ : sp_St} (hf : X8_lookRound_21 n t σ = some τ) : sp_GG shX X σ 3 [some (.ref (sx_ad X t)), none, none] [] 21 0 0 := by
  unfold X8_lookRound_21 at hf
  refine sp_iconst (v := 0) (q := 22) hX dX8_lookRound_21 li_0 rfl ?_
  obtain ⟨x1, e2, hf⟩ := sp_pl_some hf
  refine sp_nmi e2 ?_
  refine sp_istore_n (i := 1) (lv' := [some (.ref (sx_ad X t)), some (.int x1), none]) (q := 23) hX dX8_lookRound_22 rfl (Nat.le_of_ble_eq_true rfl) rfl rfl rfl ?_
  exact hX8_lookRound_23 hX hR ht n σ x1 hf
set_option maxRecDepth 100000 in
set_option maxHeartbeats 4000000 in
theorem hX8_lookRound_2 {X : sp_X} (hX : sp_OK shX X cX8_lookRound RX8 3 rmX8_lookRound) {τ : sp_St} (hR : sp_Rv shX X τ 0 0) {n : Nat}  {t : Nat} (ht : sp_at shX t 8 6)  : ∀ (f : Nat) (σ : sp_St) (z1 : Int32), X8_lookRound_2 n t f σ z1 = some τ → sp_GG shX X σ 3 [some (.ref (sx_ad X t)), some (.int z1), none] [] 2 0 0 := by
  intro f
  induction f with
  | zero =>
    intro σ z1 hf
    rw [X8_lookRound_2] at hf
    cases hf
  | succ f ih =>
    intro σ z1 hf
    rw [X8_lookRound_2] at hf
    refine sp_iload_n (i := 1) (q := 3) hX dX8_lookRound_2 rfl rfl rfl ?_
    refine sp_bipush (v := 6) (q := 5) hX dX8_lookRound_3 lb_6 rfl ?_
    refine sp_icmp_gt (tgt := 21) (q := 8) hX dX8_lookRound_5 (by decide) rfl (fun hc => ?_) (fun hc => ?_)
    · rw [if_pos hc] at hf
      refine sp_drop (lv' := [some (.ref (sx_ad X t)), none, none]) (And.intro rfl trivial) ?_
      exact hX8_lookRound_21 hX hR ht hf
    · rw [if_neg hc] at hf
      refine sp_aload_n (i := 0) (q := 9) hX dX8_lookRound_8 rfl rfl rfl ?_
      refine sp_gets (t := t + 3) (q := 12) hX flX8_18 fkX8_3 ht (msX8_3 ht) dX8_lookRound_9 rfl ?_
      refine sp_iload_n (i := 1) (q := 13) hX dX8_lookRound_12 rfl rfl rfl ?_
      refine sp_iconst (v := 0) (q := 14) hX dX8_lookRound_13 li_0 rfl ?_
      obtain ⟨h1, hf⟩ := sp_ck_some hf
      obtain ⟨σ2, e3, hf⟩ := sp_pl_some hf
      refine sp_iast (q := 15) hX (mfX8_3 ht) h1 dX8_lookRound_14 rfl ?_
      refine sp_nms e3 ?_
      obtain ⟨x4, e5, hf⟩ := sp_pl_some hf
      refine sp_iinc (i := 1) (v := x4) (lv' := [some (.ref (sx_ad X t)), some (.int x4), none]) (q := 18) hX dX8_lookRound_15 rfl (by rw [e5, li_1]) (Nat.le_of_ble_eq_true rfl) rfl rfl rfl ?_
      refine sp_goto (tgt := 2) hX dX8_lookRound_18 (by decide) ?_
      exact ih σ2 x4 hf
set_option maxRecDepth 100000 in
set_option maxHeartbeats 4000000 in
theorem hX8_lookRound {X : sp_X} (hX : sp_OK shX X cX8_lookRound RX8 3 rmX8_lookRound) {τ : sp_St} (hR : sp_Rv shX X τ 0 0) {n : Nat}  {σ : sp_St} {t : Nat} (ht : sp_at shX t 8 6) (hf : X8_lookRound n σ t = some τ) : sp_GG shX X σ 3 [some (.ref (sx_ad X t)), none, none] [] 0 0 0 := by
  unfold X8_lookRound at hf
  refine sp_iconst (v := 0) (q := 1) hX dX8_lookRound_0 li_0 rfl ?_
  obtain ⟨x1, e2, hf⟩ := sp_pl_some hf
  refine sp_nmi e2 ?_
  refine sp_istore_n (i := 1) (lv' := [some (.ref (sx_ad X t)), some (.int x1), none]) (q := 2) hX dX8_lookRound_1 rfl (Nat.le_of_ble_eq_true rfl) rfl rfl rfl ?_
  exact hX8_lookRound_2 hX hR ht n σ x1 hf
set_option maxRecDepth 100000 in
set_option maxHeartbeats 4000000 in
theorem cnX8_lookRound {l : Launch} (hst : l.stackTraces = false) {w : sp_Wd} {n : Nat}  {σ : sp_St} {t : Nat} {τ : sp_St} (ht : sp_at shX t 8 6) (hf : X8_lookRound n σ t = some τ) : sp_Cv shX l w yX8_lookRound cX8_lookRound 3 rmX8_lookRound 0 0 σ [.ref (w.2.1 t)] τ :=
  sp_cv (own := RX8) (by decide) rfl hst (Nat.le_of_ble_eq_true rfl) rfl (fun X hX hw hl hR => by subst hw; subst hl; exact hX8_lookRound hX hR  ht hf)
def rmX8_foesWith : Room := { frames := 1, cells := 0, slots := 0, locals := 20 }
def X8_foesWith_20 (n : Nat) (t : Nat) (σ : sp_St) : Option (sp_St × Int32) :=
  some (σ, (0 : Int32))
def X8_foesWith (n : Nat)  (σ : sp_St) (t : Nat) (a1 : Int32) : Option (sp_St × Int32) :=
  sp_ck (sp_in (((10 : Int32)) + a1) 50) <|
  sp_pl (sp_g σ (t + 1) (((10 : Int32)) + a1)) fun x2 =>
  if x2 < 0 then
    X8_foesWith_20 n t σ
  else
    if x2 < ((6 : Int32)) then
      sp_ck (sp_in x2 7) <|
      sp_pl (σ.2.1 t 0) fun c5 =>
      sp_ck (sp_isc c5) <|
      sp_ck (sp_in a1 10) <|
      sp_ck (sp_in (((41 : Int32)) + (sp_g σ (c5 + 1) a1)) 50) <|
      sp_bd (J6_bitCount_0f7a4 n σ ((sp_g σ (t + 3) x2) &&& (sp_g σ (t + 1) (((41 : Int32)) + (sp_g σ (c5 + 1) a1))))) fun σ11 v12 =>
      some (σ11, v12)
    else
      X8_foesWith_20 n t σ
set_option maxRecDepth 100000 in
set_option maxHeartbeats 4000000 in
theorem hX8_foesWith_20 {X : sp_X} (hX : sp_OK shX X cX8_foesWith RX8 3 rmX8_foesWith) {τ : sp_St} {r : Int32} (hR : sp_Ri shX X (some .int) τ r 0 0) {n : Nat}  {t : Nat} (ht : sp_at shX t 8 6)  {σ : sp_St} (hf : X8_foesWith_20 n t σ = some (τ, r)) : sp_GG shX X σ 3 [none, none, none] [] 20 0 0 := by
  unfold X8_foesWith_20 at hf
  refine sp_iconst (v := 0) (q := 21) hX dX8_foesWith_20 li_0 rfl ?_
  exact sp_iret hX hR dX8_foesWith_21 hf (Nat.le_of_ble_eq_true rfl) (Nat.le_of_ble_eq_true rfl)
set_option maxRecDepth 100000 in
set_option maxHeartbeats 4000000 in
theorem hX8_foesWith {X : sp_X} (hX : sp_OK shX X cX8_foesWith RX8 3 rmX8_foesWith) {τ : sp_St} {r : Int32} (hR : sp_Ri shX X (some .int) τ r 0 0) {n : Nat}  {σ : sp_St} {t : Nat} {a1 : Int32} (ht : sp_at shX t 8 6) (hf : X8_foesWith n σ t a1 = some (τ, r)) : sp_GG shX X σ 3 [some (.ref (sx_ad X t)), some (.int a1), none] [] 0 0 0 := by
  unfold X8_foesWith at hf
  refine sp_aload_n (i := 0) (q := 1) hX dX8_foesWith_0 rfl rfl rfl ?_
  refine sp_gets (t := t + 1) (q := 4) hX flX8_11 fkX8_1 ht (msX8_1 ht) dX8_foesWith_1 rfl ?_
  refine sp_bipush (v := 10) (q := 6) hX dX8_foesWith_4 lb_10 rfl ?_
  refine sp_iload_n (i := 1) (q := 7) hX dX8_foesWith_6 rfl rfl rfl ?_
  refine sp_iadd (q := 8) hX dX8_foesWith_7 rfl ?_
  obtain ⟨h1, hf⟩ := sp_ck_some hf
  refine sp_iald (q := 9) hX (mfX8_1 ht) h1 dX8_foesWith_8 rfl ?_
  obtain ⟨x2, e3, hf⟩ := sp_pl_some hf
  refine sp_nmi e3 ?_
  refine sp_istore_n (i := 2) (lv' := [some (.ref (sx_ad X t)), some (.int a1), some (.int x2)]) (q := 10) hX dX8_foesWith_9 rfl (Nat.le_of_ble_eq_true rfl) rfl rfl rfl ?_
  refine sp_iload_n (i := 2) (q := 11) hX dX8_foesWith_10 rfl rfl rfl ?_
  refine sp_if_lt (tgt := 20) (q := 14) hX dX8_foesWith_11 (by decide) rfl (fun hc => ?_) (fun hc => ?_)
  · rw [if_pos hc] at hf
    refine sp_drop (lv' := [none, none, none]) trivial ?_
    exact hX8_foesWith_20 hX hR ht hf
  · rw [if_neg hc] at hf
    refine sp_iload_n (i := 2) (q := 15) hX dX8_foesWith_14 rfl rfl rfl ?_
    refine sp_bipush (v := 6) (q := 17) hX dX8_foesWith_15 lb_6 rfl ?_
    refine sp_icmp_lt (tgt := 22) (q := 20) hX dX8_foesWith_17 (by decide) rfl (fun hc => ?_) (fun hc => ?_)
    · rw [if_pos hc] at hf
      refine sp_aload_n (i := 0) (q := 23) hX dX8_foesWith_22 rfl rfl rfl ?_
      refine sp_gets (t := t + 3) (q := 26) hX flX8_18 fkX8_3 ht (msX8_3 ht) dX8_foesWith_23 rfl ?_
      refine sp_iload_n (i := 2) (q := 27) hX dX8_foesWith_26 rfl rfl rfl ?_
      obtain ⟨h4, hf⟩ := sp_ck_some hf
      refine sp_iald (q := 28) hX (mfX8_3 ht) h4 dX8_foesWith_27 rfl ?_
      refine sp_aload_n (i := 0) (q := 29) hX dX8_foesWith_28 rfl rfl rfl ?_
      refine sp_gets (t := t + 1) (q := 32) hX flX8_11 fkX8_1 ht (msX8_1 ht) dX8_foesWith_29 rfl ?_
      refine sp_bipush (v := 41) (q := 34) hX dX8_foesWith_32 lb_41 rfl ?_
      refine sp_aload_n (i := 0) (q := 35) hX dX8_foesWith_34 rfl rfl rfl ?_
      obtain ⟨c5, e7, hf⟩ := sp_pl_some hf
      obtain ⟨h6, hf⟩ := sp_ck_some hf
      refine sp_getr (q := 38) hX flX8_31 fkX8_0 ht dX8_foesWith_35 rfl ?_
      refine sp_nmr e7 ?_
      refine sp_gets (t := c5 + 1) (q := 41) hX flX8_124 fkX2_0 (sp_isc_at h6) (msX2_0 (sp_isc_at h6)) dX8_foesWith_38 rfl ?_
      refine sp_iload_n (i := 1) (q := 42) hX dX8_foesWith_41 rfl rfl rfl ?_
      obtain ⟨h8, hf⟩ := sp_ck_some hf
      refine sp_iald (q := 43) hX (mfX2_0 (sp_isc_at h6)) h8 dX8_foesWith_42 rfl ?_
      refine sp_iadd (q := 44) hX dX8_foesWith_43 rfl ?_
      obtain ⟨h9, hf⟩ := sp_ck_some hf
      refine sp_iald (q := 45) hX (mfX8_1 ht) h9 dX8_foesWith_44 rfl ?_
      refine sp_iand (q := 46) hX dX8_foesWith_45 rfl ?_
      obtain ⟨σ11, v12, h10, hf⟩ := sp_bd_so hf
      refine sp_callSi (As := [.int ((sp_g σ (t + 3) x2) &&& (sp_g σ (t + 1) (((41 : Int32)) + (sp_g σ (c5 + 1) a1))))]) (rest := []) (q := 49) hX (cnJ6_bitCount_0f7a4 (sp_st hX)  h10) cwX8_127 rfl rfl rfl rfl (Nat.le_of_ble_eq_true rfl) (Nat.le_of_ble_eq_true rfl) (Nat.le_of_ble_eq_true rfl) (Nat.le_of_ble_eq_true rfl) (Nat.le_of_ble_eq_true rfl) dX8_foesWith_46 rfl ?_
      exact sp_iret hX hR dX8_foesWith_49 hf (Nat.le_of_ble_eq_true rfl) (Nat.le_of_ble_eq_true rfl)
    · rw [if_neg hc] at hf
      refine sp_drop (lv' := [none, none, none]) trivial ?_
      exact hX8_foesWith_20 hX hR ht hf
set_option maxRecDepth 100000 in
set_option maxHeartbeats 4000000 in
theorem cnX8_foesWith {l : Launch} (hst : l.stackTraces = false) {w : sp_Wd} {n : Nat}  {σ : sp_St} {t : Nat} {a1 : Int32} {τ : sp_St} {r : Int32} (ht : sp_at shX t 8 6) (hf : X8_foesWith n σ t a1 = some (τ, r)) : sp_Ci shX l w yX8_foesWith cX8_foesWith 3 (some .int) rmX8_foesWith 0 0 σ [.ref (w.2.1 t), .int a1] τ r :=
  sp_ci (own := RX8) (by decide) rfl hst (Nat.le_of_ble_eq_true rfl) rfl (fun X hX hw hl hR => by subst hw; subst hl; exact hX8_foesWith hX hR  ht hf)
