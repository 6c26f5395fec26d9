def rmX1_begin : Room := { frames := 2, cells := 0, slots := 0, locals := 123 }
def X1_begin (n : Nat)  (σ : sp_St) (t : Nat) (p1 : Nat) : Option (sp_St) :=
  sp_bv (X8_begin n σ (t + 1) p1) fun σ2 =>
  sp_pl (sp_si σ2 (t + 8) 3 ((0 : Int32))) fun σ3 =>
  sp_pl (sp_si σ3 t 4 ((0 : Int32))) fun σ5 =>
  sp_pl (sp_si σ5 t 5 ((0 : Int32))) fun σ7 =>
  some σ7
set_option maxRecDepth 100000 in
set_option maxHeartbeats 4000000 in
theorem hX1_begin {X : sp_X} (hX : sp_OK shX X cX1_begin RX1 2 rmX1_begin) {τ : sp_St} (hR : sp_Rv shX X τ 0 0) {n : Nat}  {σ : sp_St} {t : Nat} {p1 : Nat} (ht : sp_at shX t 1 6) (hp1 : sp_at shX p1 2 18) (hf : X1_begin n σ t p1 = some τ) : sp_GG shX X σ 2 [some (.ref (sx_ad X t)), some (.ref (sx_ad X p1))] [] 0 0 0 := by
  unfold X1_begin at hf
  refine sp_aload_n (i := 0) (q := 1) hX dX1_begin_0 rfl rfl rfl ?_
  refine sp_gets (t := t + 1) (q := 4) hX flX1_30 fkX1_0 ht (msX1_0 ht) dX1_begin_1 rfl ?_
  refine sp_aload_n (i := 1) (q := 5) hX dX1_begin_4 rfl rfl rfl ?_
  obtain ⟨σ2, h1, hf⟩ := sp_bv_so hf
  refine sp_callVv (As := [.ref (sx_ad X p1)]) (rest := []) (q := 8) hX (cnX8_begin (sp_st hX) (mfX1_0 ht) hp1 h1) cwX1_34 (mfX1_0 ht) rfl rfl rfl rfl rfl (Nat.le_of_ble_eq_true rfl) (Nat.le_of_ble_eq_true rfl) (Nat.le_of_ble_eq_true rfl) (Nat.le_of_ble_eq_true rfl) (Nat.le_of_ble_eq_true rfl) dX1_begin_5 rfl ?_
  refine sp_aload_n (i := 0) (q := 9) hX dX1_begin_8 rfl rfl rfl ?_
  refine sp_gets (t := t + 8) (q := 12) hX flX1_12 fkX1_1 ht (msX1_1 ht) dX1_begin_9 rfl ?_
  refine sp_iconst (v := 0) (q := 13) hX dX1_begin_12 li_0 rfl ?_
  obtain ⟨σ3, e4, hf⟩ := sp_pl_some hf
  refine sp_puti (q := 16) hX fpX1_37 fkX9_3 (mfX1_1 ht) dX1_begin_13 rfl ?_
  refine sp_nms e4 ?_
  refine sp_aload_n (i := 0) (q := 17) hX dX1_begin_16 rfl rfl rfl ?_
  refine sp_iconst (v := 0) (q := 18) hX dX1_begin_17 li_0 rfl ?_
  obtain ⟨σ5, e6, hf⟩ := sp_pl_some hf
  refine sp_puti (q := 21) hX fpX1_41 fkX1_4 ht dX1_begin_18 rfl ?_
  refine sp_nms e6 ?_
  refine sp_aload_n (i := 0) (q := 22) hX dX1_begin_21 rfl rfl rfl ?_
  refine sp_iconst (v := 0) (q := 23) hX dX1_begin_22 li_0 rfl ?_
  obtain ⟨σ7, e8, hf⟩ := sp_pl_some hf
  refine sp_puti (q := 26) hX fpX1_44 fkX1_5 ht dX1_begin_23 rfl ?_
  refine sp_nms e8 ?_
  exact sp_vret hX hR dX1_begin_26 hf (Nat.le_of_ble_eq_true rfl) (Nat.le_of_ble_eq_true rfl)
set_option maxRecDepth 100000 in
set_option maxHeartbeats 4000000 in
theorem cnX1_begin {l : Launch} (hst : l.stackTraces = false) {w : sp_Wd} {n : Nat}  {σ : sp_St} {t : Nat} {p1 : Nat} {τ : sp_St} (ht : sp_at shX t 1 6) (hp1 : sp_at shX p1 2 18) (hf : X1_begin n σ t p1 = some τ) : sp_Cv shX l w yX1_begin cX1_begin 2 rmX1_begin 0 0 σ [.ref (w.2.1 t), .ref (w.2.1 p1)] τ :=
  sp_cv (own := RX1) (by decide) rfl hst (Nat.le_of_ble_eq_true rfl) rfl (fun X hX hw hl hR => by subst hw; subst hl; exact hX1_begin hX hR  ht hp1 hf)
def rmX1_keepAct : Room := { frames := 1, cells := 0, slots := 0, locals := 100 }
def X1_keepAct (n : Nat)  (σ : sp_St) (t : Nat) : Option (sp_St) :=
  sp_ck (sp_cpok ((0 : Int32)) ((σ.1 t 4) * ((50 : Int32))) ((50 : Int32)) 50 2000) <|
  sp_pl (sp_cp σ (t + 1 + 1) ((0 : Int32)) (t + 13) ((σ.1 t 4) * ((50 : Int32))) ((50 : Int32))) fun σ2 =>
  sp_ck (!decide (((40 : Int32)) = 0)) <|
  sp_pl (sp_si σ2 t 4 (((σ2.1 t 4) + ((1 : Int32))) - ((σ2.1 t 4) + ((1 : Int32))) / ((40 : Int32)) * ((40 : Int32)))) fun σ5 =>
  sp_pl (sp_min ((40 : Int32)) ((σ5.1 t 5) + ((1 : Int32)))) fun v7 =>
  sp_pl (sp_si σ5 t 5 v7) fun σ9 =>
  some σ9
set_option maxRecDepth 100000 in
set_option maxHeartbeats 4000000 in
theorem hX1_keepAct {X : sp_X} (hX : sp_OK shX X cX1_keepAct RX1 1 rmX1_keepAct) {τ : sp_St} (hR : sp_Rv shX X τ 0 0) {n : Nat}  {σ : sp_St} {t : Nat} (ht : sp_at shX t 1 6) (hf : X1_keepAct n σ t = some τ) : sp_GG shX X σ 1 [some (.ref (sx_ad X t))] [] 0 0 0 := by
  unfold X1_keepAct at hf
  refine sp_aload_n (i := 0) (q := 1) hX dX1_keepAct_0 rfl rfl rfl ?_
  refine sp_gets (t := t + 1) (q := 4) hX flX1_30 fkX1_0 ht (msX1_0 ht) dX1_keepAct_1 rfl ?_
  refine sp_gets (t := t + 1 + 1) (q := 7) hX flX1_47 fkX8_1 (mfX1_0 ht) (msX8_1 (mfX1_0 ht)) dX1_keepAct_4 rfl ?_
  refine sp_iconst (v := 0) (q := 8) hX dX1_keepAct_7 li_0 rfl ?_
  refine sp_aload_n (i := 0) (q := 9) hX dX1_keepAct_8 rfl rfl rfl ?_
  refine sp_gets (t := t + 13) (q := 12) hX flX1_24 fkX1_3 ht (msX1_3 ht) dX1_keepAct_9 rfl ?_
  refine sp_aload_n (i := 0) (q := 13) hX dX1_keepAct_12 rfl rfl rfl ?_
  refine sp_geti (q := 16) hX flX1_41 fkX1_4 ht dX1_keepAct_13 rfl ?_
  refine sp_bipush (v := 50) (q := 18) hX dX1_keepAct_16 lb_50 rfl ?_
  refine sp_imul (q := 19) hX dX1_keepAct_18 rfl ?_
  refine sp_bipush (v := 50) (q := 21) hX dX1_keepAct_19 lb_50 rfl ?_
  obtain ⟨h1, hf⟩ := sp_ck_some hf
  obtain ⟨σ2, e3, hf⟩ := sp_pl_some hf
  refine sp_copy (q := 24) hX wd_603 wd_605 wd_604 wd_150 (mfX8_1 (mfX1_0 ht)) (mfX1_3 ht) h1 (Nat.le_of_ble_eq_true rfl) (Nat.le_of_ble_eq_true rfl) dX1_keepAct_21 rfl ?_
  refine sp_nms e3 ?_
  refine sp_aload_n (i := 0) (q := 25) hX dX1_keepAct_24 rfl rfl rfl ?_
  refine sp_aload_n (i := 0) (q := 26) hX dX1_keepAct_25 rfl rfl rfl ?_
  refine sp_geti (q := 29) hX flX1_41 fkX1_4 ht dX1_keepAct_26 rfl ?_
  refine sp_iconst (v := 1) (q := 30) hX dX1_keepAct_29 li_1 rfl ?_
  refine sp_iadd (q := 31) hX dX1_keepAct_30 rfl ?_
  refine sp_bipush (v := 40) (q := 33) hX dX1_keepAct_31 lb_40 rfl ?_
  obtain ⟨h4, hf⟩ := sp_ck_some hf
  refine sp_irem (q := 34) hX dX1_keepAct_33 (sp_nz h4) rfl ?_
  obtain ⟨σ5, e6, hf⟩ := sp_pl_some hf
  refine sp_puti (q := 37) hX fpX1_41 fkX1_4 ht dX1_keepAct_34 rfl ?_
  refine sp_nms e6 ?_
  refine sp_aload_n (i := 0) (q := 38) hX dX1_keepAct_37 rfl rfl rfl ?_
  refine sp_bipush (v := 40) (q := 40) hX dX1_keepAct_38 lb_40 rfl ?_
  refine sp_aload_n (i := 0) (q := 41) hX dX1_keepAct_40 rfl rfl rfl ?_
  refine sp_geti (q := 44) hX flX1_44 fkX1_5 ht dX1_keepAct_41 rfl ?_
  refine sp_iconst (v := 1) (q := 45) hX dX1_keepAct_44 li_1 rfl ?_
  refine sp_iadd (q := 46) hX dX1_keepAct_45 rfl ?_
  obtain ⟨v7, e8, hf⟩ := sp_pl_some hf
  refine sp_mmin (q := 49) hX wd_606 wd_607 wd_144 wd_608 (Nat.le_of_ble_eq_true rfl) (Nat.le_of_ble_eq_true rfl) (Nat.le_of_ble_eq_true rfl) (Nat.le_of_ble_eq_true rfl) dX1_keepAct_46 rfl ?_
  refine sp_nmi e8 ?_
  obtain ⟨σ9, e10, hf⟩ := sp_pl_some hf
  refine sp_puti (q := 52) hX fpX1_44 fkX1_5 ht dX1_keepAct_49 rfl ?_
  refine sp_nms e10 ?_
  exact sp_vret hX hR dX1_keepAct_52 hf (Nat.le_of_ble_eq_true rfl) (Nat.le_of_ble_eq_true rfl)
set_option maxRecDepth 100000 in
set_option maxHeartbeats 4000000 in
theorem cnX1_keepAct {l : Launch} (hst : l.stackTraces = false) {w : sp_Wd} {n : Nat}  {σ : sp_St} {t : Nat} {τ : sp_St} (ht : sp_at shX t 1 6) (hf : X1_keepAct n σ t = some τ) : sp_Cv shX l w yX1_keepAct cX1_keepAct 1 rmX1_keepAct 0 0 σ [.ref (w.2.1 t)] τ :=
  sp_cv (own := RX1) (by decide) rfl hst (Nat.le_of_ble_eq_true rfl) rfl (fun X hX hw hl hR => by subst hw; subst hl; exact hX1_keepAct hX hR  ht hf)
def rmX1_takeActBack : Room := { frames := 1, cells := 0, slots := 0, locals := 100 }
def X1_takeActBack_57 (n : Nat) (t : Nat) (σ : sp_St) : Option (sp_St) :=
  some σ
def X1_takeActBack (n : Nat)  (σ : sp_St) (t : Nat) : Option (sp_St) :=
  if (σ.1 t 5) ≤ 0 then
    X1_takeActBack_57 n t σ
  else
    sp_ck (!decide (((40 : Int32)) = 0)) <|
    sp_pl (sp_si σ t 4 ((((σ.1 t 4) + ((40 : Int32))) - ((1 : Int32))) - (((σ.1 t 4) + ((40 : Int32))) - ((1 : Int32))) / ((40 : Int32)) * ((40 : Int32)))) fun σ2 =>
    sp_pl (sp_si σ2 t 5 ((σ2.1 t 5) - ((1 : Int32)))) fun σ4 =>
    sp_ck (sp_cpok ((σ4.1 t 4) * ((50 : Int32))) ((0 : Int32)) ((50 : Int32)) 2000 50) <|
    sp_pl (sp_cp σ4 (t + 13) ((σ4.1 t 4) * ((50 : Int32))) (t + 1 + 1) ((0 : Int32)) ((50 : Int32))) fun σ7 =>
    X1_takeActBack_57 n t σ7
set_option maxRecDepth 100000 in
set_option maxHeartbeats 4000000 in
theorem hX1_takeActBack_57 {X : sp_X} (hX : sp_OK shX X cX1_takeActBack RX1 1 rmX1_takeActBack) {τ : sp_St} (hR : sp_Rv shX X τ 0 0) {n : Nat}  {t : Nat} (ht : sp_at shX t 1 6)  {σ : sp_St} (hf : X1_takeActBack_57 n t σ = some τ) : sp_GG shX X σ 1 [none] [] 57 0 0 := by
  unfold X1_takeActBack_57 at hf
  exact sp_vret hX hR dX1_takeActBack_57 hf (Nat.le_of_ble_eq_true rfl) (Nat.le_of_ble_eq_true rfl)
set_option maxRecDepth 100000 in
set_option maxHeartbeats 4000000 in
theorem hX1_takeActBack {X : sp_X} (hX : sp_OK shX X cX1_takeActBack RX1 1 rmX1_takeActBack) {τ : sp_St} (hR : sp_Rv shX X τ 0 0) {n : Nat}  {σ : sp_St} {t : Nat} (ht : sp_at shX t 1 6) (hf : X1_takeActBack n σ t = some τ) : sp_GG shX X σ 1 [some (.ref (sx_ad X t))] [] 0 0 0 := by
  unfold X1_takeActBack at hf
  refine sp_aload_n (i := 0) (q := 1) hX dX1_takeActBack_0 rfl rfl rfl ?_
  refine sp_geti (q := 4) hX flX1_44 fkX1_5 ht dX1_takeActBack_1 rfl ?_
  refine sp_if_le (tgt := 57) (q := 7) hX dX1_takeActBack_4 (by decide) rfl (fun hc => ?_) (fun hc => ?_)
  · rw [if_pos hc] at hf
    refine sp_drop (lv' := [none]) trivial ?_
    exact hX1_takeActBack_57 hX hR ht hf
  · rw [if_neg hc] at hf
    refine sp_aload_n (i := 0) (q := 8) hX dX1_takeActBack_7 rfl rfl rfl ?_
    refine sp_aload_n (i := 0) (q := 9) hX dX1_takeActBack_8 rfl rfl rfl ?_
    refine sp_geti (q := 12) hX flX1_41 fkX1_4 ht dX1_takeActBack_9 rfl ?_
    refine sp_bipush (v := 40) (q := 14) hX dX1_takeActBack_12 lb_40 rfl ?_
    refine sp_iadd (q := 15) hX dX1_takeActBack_14 rfl ?_
    refine sp_iconst (v := 1) (q := 16) hX dX1_takeActBack_15 li_1 rfl ?_
    refine sp_isub (q := 17) hX dX1_takeActBack_16 rfl ?_
    refine sp_bipush (v := 40) (q := 19) hX dX1_takeActBack_17 lb_40 rfl ?_
    obtain ⟨h1, hf⟩ := sp_ck_some hf
    refine sp_irem (q := 20) hX dX1_takeActBack_19 (sp_nz h1) rfl ?_
    obtain ⟨σ2, e3, hf⟩ := sp_pl_some hf
    refine sp_puti (q := 23) hX fpX1_41 fkX1_4 ht dX1_takeActBack_20 rfl ?_
    refine sp_nms e3 ?_
    refine sp_aload_n (i := 0) (q := 24) hX dX1_takeActBack_23 rfl rfl rfl ?_
    refine sp_dup (q := 25) hX dX1_takeActBack_24 rfl rfl ?_
    refine sp_geti (q := 28) hX flX1_44 fkX1_5 ht dX1_takeActBack_25 rfl ?_
    refine sp_iconst (v := 1) (q := 29) hX dX1_takeActBack_28 li_1 rfl ?_
    refine sp_isub (q := 30) hX dX1_takeActBack_29 rfl ?_
    obtain ⟨σ4, e5, hf⟩ := sp_pl_some hf
    refine sp_puti (q := 33) hX fpX1_44 fkX1_5 ht dX1_takeActBack_30 rfl ?_
    refine sp_nms e5 ?_
    refine sp_aload_n (i := 0) (q := 34) hX dX1_takeActBack_33 rfl rfl rfl ?_
    refine sp_gets (t := t + 13) (q := 37) hX flX1_24 fkX1_3 ht (msX1_3 ht) dX1_takeActBack_34 rfl ?_
    refine sp_aload_n (i := 0) (q := 38) hX dX1_takeActBack_37 rfl rfl rfl ?_
    refine sp_geti (q := 41) hX flX1_41 fkX1_4 ht dX1_takeActBack_38 rfl ?_
    refine sp_bipush (v := 50) (q := 43) hX dX1_takeActBack_41 lb_50 rfl ?_
    refine sp_imul (q := 44) hX dX1_takeActBack_43 rfl ?_
    refine sp_aload_n (i := 0) (q := 45) hX dX1_takeActBack_44 rfl rfl rfl ?_
    refine sp_gets (t := t + 1) (q := 48) hX flX1_30 fkX1_0 ht (msX1_0 ht) dX1_takeActBack_45 rfl ?_
    refine sp_gets (t := t + 1 + 1) (q := 51) hX flX1_47 fkX8_1 (mfX1_0 ht) (msX8_1 (mfX1_0 ht)) dX1_takeActBack_48 rfl ?_
    refine sp_iconst (v := 0) (q := 52) hX dX1_takeActBack_51 li_0 rfl ?_
    refine sp_bipush (v := 50) (q := 54) hX dX1_takeActBack_52 lb_50 rfl ?_
    obtain ⟨h6, hf⟩ := sp_ck_some hf
    obtain ⟨σ7, e8, hf⟩ := sp_pl_some hf
    refine sp_copy (q := 57) hX wd_603 wd_605 wd_604 wd_150 (mfX1_3 ht) (mfX8_1 (mfX1_0 ht)) h6 (Nat.le_of_ble_eq_true rfl) (Nat.le_of_ble_eq_true rfl) dX1_takeActBack_54 rfl ?_
    refine sp_nms e8 ?_
    refine sp_drop (lv' := [none]) trivial ?_
    exact hX1_takeActBack_57 hX hR ht hf
set_option maxRecDepth 100000 in
set_option maxHeartbeats 4000000 in
theorem cnX1_takeActBack {l : Launch} (hst : l.stackTraces = false) {w : sp_Wd} {n : Nat}  {σ : sp_St} {t : Nat} {τ : sp_St} (ht : sp_at shX t 1 6) (hf : X1_takeActBack n σ t = some τ) : sp_Cv shX l w yX1_takeActBack cX1_takeActBack 1 rmX1_takeActBack 0 0 σ [.ref (w.2.1 t)] τ :=
  sp_cv (own := RX1) (by decide) rfl hst (Nat.le_of_ble_eq_true rfl) rfl (fun X hX hw hl hR => by subst hw; subst hl; exact hX1_takeActBack hX hR  ht hf)
def rmX1_copy : Room := { frames := 2, cells := 0, slots := 0, locals := 122 }
def X1_copy (n : Nat)  (σ : sp_St) (t : Nat) (p1 : Nat) : Option (sp_St) :=
  sp_bv (X8_copy n σ (t + 1) (p1 + 1)) fun σ2 =>
  sp_bv (X9_copy n σ2 (t + 8) (p1 + 8)) fun σ4 =>
  sp_pl (sp_cp σ4 (p1 + 12) ((0 : Int32)) (t + 12) ((0 : Int32)) ((3 : Int32))) fun σ6 =>
  sp_pl (sp_cp σ6 (p1 + 13) ((0 : Int32)) (t + 13) ((0 : Int32)) ((2000 : Int32))) fun σ9 =>
  sp_pl (sp_si σ9 t 4 (σ9.1 p1 4)) fun σ11 =>
  sp_pl (sp_si σ11 t 5 (σ11.1 p1 5)) fun σ13 =>
  some σ13
set_option maxRecDepth 100000 in
set_option maxHeartbeats 4000000 in
theorem hX1_copy {X : sp_X} (hX : sp_OK shX X cX1_copy RX1 2 rmX1_copy) {τ : sp_St} (hR : sp_Rv shX X τ 0 0) {n : Nat}  {σ : sp_St} {t : Nat} {p1 : Nat} (ht : sp_at shX t 1 6) (hp1 : sp_at shX p1 1 6) (hf : X1_copy n σ t p1 = some τ) : sp_GG shX X σ 2 [some (.ref (sx_ad X t)), some (.ref (sx_ad X p1))] [] 0 0 0 := by
  unfold X1_copy at hf
  refine sp_aload_n (i := 0) (q := 1) hX dX1_copy_0 rfl rfl rfl ?_
  refine sp_gets (t := t + 1) (q := 4) hX flX1_30 fkX1_0 ht (msX1_0 ht) dX1_copy_1 rfl ?_
  refine sp_aload_n (i := 1) (q := 5) hX dX1_copy_4 rfl rfl rfl ?_
  refine sp_gets (t := p1 + 1) (q := 8) hX flX1_30 fkX1_0 hp1 (msX1_0 hp1) dX1_copy_5 rfl ?_
  obtain ⟨σ2, h1, hf⟩ := sp_bv_so hf
  refine sp_callVv (As := [.ref (sx_ad X (p1 + 1))]) (rest := []) (q := 11) hX (cnX8_copy (sp_st hX) (mfX1_0 ht) (mfX1_0 hp1) h1) cwX1_62 (mfX1_0 ht) rfl rfl rfl rfl rfl (Nat.le_of_ble_eq_true rfl) (Nat.le_of_ble_eq_true rfl) (Nat.le_of_ble_eq_true rfl) (Nat.le_of_ble_eq_true rfl) (Nat.le_of_ble_eq_true rfl) dX1_copy_8 rfl ?_
  refine sp_aload_n (i := 0) (q := 12) hX dX1_copy_11 rfl rfl rfl ?_
  refine sp_gets (t := t + 8) (q := 15) hX flX1_12 fkX1_1 ht (msX1_1 ht) dX1_copy_12 rfl ?_
  refine sp_aload_n (i := 1) (q := 16) hX dX1_copy_15 rfl rfl rfl ?_
  refine sp_gets (t := p1 + 8) (q := 19) hX flX1_12 fkX1_1 hp1 (msX1_1 hp1) dX1_copy_16 rfl ?_
  obtain ⟨σ4, h3, hf⟩ := sp_bv_so hf
  refine sp_callVv (As := [.ref (sx_ad X (p1 + 8))]) (rest := []) (q := 22) hX (cnX9_copy (sp_st hX) (mfX1_1 ht) (mfX1_1 hp1) h3) cwX1_66 (mfX1_1 ht) rfl rfl rfl rfl rfl (Nat.le_of_ble_eq_true rfl) (Nat.le_of_ble_eq_true rfl) (Nat.le_of_ble_eq_true rfl) (Nat.le_of_ble_eq_true rfl) (Nat.le_of_ble_eq_true rfl) dX1_copy_19 rfl ?_
  refine sp_aload_n (i := 1) (q := 23) hX dX1_copy_22 rfl rfl rfl ?_
  refine sp_gets (t := p1 + 12) (q := 26) hX flX1_18 fkX1_2 hp1 (msX1_2 hp1) dX1_copy_23 rfl ?_
  refine sp_iconst (v := 0) (q := 27) hX dX1_copy_26 li_0 rfl ?_
  refine sp_aload_n (i := 0) (q := 28) hX dX1_copy_27 rfl rfl rfl ?_
  refine sp_gets (t := t + 12) (q := 31) hX flX1_18 fkX1_2 ht (msX1_2 ht) dX1_copy_28 rfl ?_
  refine sp_iconst (v := 0) (q := 32) hX dX1_copy_31 li_0 rfl ?_
  refine sp_aload_n (i := 0) (q := 33) hX dX1_copy_32 rfl rfl rfl ?_
  refine sp_gets (t := t + 12) (q := 36) hX flX1_18 fkX1_2 ht (msX1_2 ht) dX1_copy_33 rfl ?_
  refine sp_aleni (v := (3 : Int32)) (q := 37) hX (mfX1_2 ht) (by decide) dX1_copy_36 rfl ?_
  obtain ⟨σ6, e7, hf⟩ := sp_pl_some hf
  refine sp_copy (q := 40) hX wd_603 wd_605 wd_604 wd_150 (mfX1_2 hp1) (mfX1_2 ht) (by decide) (Nat.le_of_ble_eq_true rfl) (Nat.le_of_ble_eq_true rfl) dX1_copy_37 rfl ?_
  refine sp_nms e7 ?_
  refine sp_aload_n (i := 1) (q := 41) hX dX1_copy_40 rfl rfl rfl ?_
  refine sp_gets (t := p1 + 13) (q := 44) hX flX1_24 fkX1_3 hp1 (msX1_3 hp1) dX1_copy_41 rfl ?_
  refine sp_iconst (v := 0) (q := 45) hX dX1_copy_44 li_0 rfl ?_
  refine sp_aload_n (i := 0) (q := 46) hX dX1_copy_45 rfl rfl rfl ?_
  refine sp_gets (t := t + 13) (q := 49) hX flX1_24 fkX1_3 ht (msX1_3 ht) dX1_copy_46 rfl ?_
  refine sp_iconst (v := 0) (q := 50) hX dX1_copy_49 li_0 rfl ?_
  refine sp_aload_n (i := 0) (q := 51) hX dX1_copy_50 rfl rfl rfl ?_
  refine sp_gets (t := t + 13) (q := 54) hX flX1_24 fkX1_3 ht (msX1_3 ht) dX1_copy_51 rfl ?_
  refine sp_aleni (v := (2000 : Int32)) (q := 55) hX (mfX1_3 ht) (by decide) dX1_copy_54 rfl ?_
  obtain ⟨σ9, e10, hf⟩ := sp_pl_some hf
  refine sp_copy (q := 58) hX wd_603 wd_605 wd_604 wd_150 (mfX1_3 hp1) (mfX1_3 ht) (by decide) (Nat.le_of_ble_eq_true rfl) (Nat.le_of_ble_eq_true rfl) dX1_copy_55 rfl ?_
  refine sp_nms e10 ?_
  refine sp_aload_n (i := 0) (q := 59) hX dX1_copy_58 rfl rfl rfl ?_
  refine sp_aload_n (i := 1) (q := 60) hX dX1_copy_59 rfl rfl rfl ?_
  refine sp_geti (q := 63) hX flX1_41 fkX1_4 hp1 dX1_copy_60 rfl ?_
  obtain ⟨σ11, e12, hf⟩ := sp_pl_some hf
  refine sp_puti (q := 66) hX fpX1_41 fkX1_4 ht dX1_copy_63 rfl ?_
  refine sp_nms e12 ?_
  refine sp_aload_n (i := 0) (q := 67) hX dX1_copy_66 rfl rfl rfl ?_
  refine sp_aload_n (i := 1) (q := 68) hX dX1_copy_67 rfl rfl rfl ?_
  refine sp_geti (q := 71) hX flX1_44 fkX1_5 hp1 dX1_copy_68 rfl ?_
  obtain ⟨σ13, e14, hf⟩ := sp_pl_some hf
  refine sp_puti (q := 74) hX fpX1_44 fkX1_5 ht dX1_copy_71 rfl ?_
  refine sp_nms e14 ?_
  exact sp_vret hX hR dX1_copy_74 hf (Nat.le_of_ble_eq_true rfl) (Nat.le_of_ble_eq_true rfl)
set_option maxRecDepth 100000 in
set_option maxHeartbeats 4000000 in
theorem cnX1_copy {l : Launch} (hst : l.stackTraces = false) {w : sp_Wd} {n : Nat}  {σ : sp_St} {t : Nat} {p1 : Nat} {τ : sp_St} (ht : sp_at shX t 1 6) (hp1 : sp_at shX p1 1 6) (hf : X1_copy n σ t p1 = some τ) : sp_Cv shX l w yX1_copy cX1_copy 2 rmX1_copy 0 0 σ [.ref (w.2.1 t), .ref (w.2.1 p1)] τ :=
  sp_cv (own := RX1) (by decide) rfl hst (Nat.le_of_ble_eq_true rfl) rfl (fun X hX hw hl hR => by subst hw; subst hl; exact hX1_copy hX hR  ht hp1 hf)
