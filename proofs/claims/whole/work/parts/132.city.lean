def rmX2_clear : Room := { frames := 0, cells := 0, slots := 0, locals := 0 }
def X2_clear_28 (n : Nat) (t : Nat) (σ : sp_St) : Option (sp_St) :=
  sp_pl (sp_si σ t 8 ((0 : Int32))) fun σ1 =>
  sp_pl (sp_si σ1 t 9 ((0 : Int32))) fun σ3 =>
  sp_pl (sp_si σ3 t 10 ((0 : Int32))) fun σ5 =>
  sp_pl (sp_si σ5 t 11 ((0 : Int32))) fun σ7 =>
  sp_pl (sp_si σ7 t 12 ((0 : Int32))) fun σ9 =>
  sp_pl (sp_si σ9 t 13 ((0 : Int32))) fun σ11 =>
  sp_pl (sp_si σ11 t 14 ((0 : Int32))) fun σ13 =>
  sp_pl (sp_si σ13 t 15 ((0 : Int32))) fun σ15 =>
  sp_pl (sp_si σ15 t 16 ((50 : Int32))) fun σ17 =>
  sp_pl (sp_si σ17 t 17 ((0 : Int32))) fun σ19 =>
  some σ19
def X2_clear_2 (n : Nat) (t : Nat) : Nat → sp_St → Int32 → Option (sp_St)
  | 0, _, _ => none
  | f + 1, σ, z1 =>
    if ((6 : Int32)) ≤ z1 then
      X2_clear_28 n t σ
    else
      sp_ck (sp_in z1 6) <|
      sp_pl (sp_sa σ (t + 4) z1.toNatClampNeg ((0 : Int32))) fun σ2 =>
      sp_ck (sp_in z1 6) <|
      sp_pl (sp_sa σ2 (t + 7) z1.toNatClampNeg ((0 : Int32))) fun σ5 =>
      sp_pl (z1 + 1) fun x7 =>
      X2_clear_2 n t f σ5 x7
def X2_clear (n : Nat)  (σ : sp_St) (t : Nat) : Option (sp_St) :=
  sp_pl ((0 : Int32)) fun x1 =>
  X2_clear_2 n t n σ x1
set_option maxRecDepth 100000 in
set_option maxHeartbeats 4000000 in
theorem hX2_clear_28 {X : sp_X} (hX : sp_OK shX X cX2_clear RX2 2 rmX2_clear) {τ : sp_St} (hR : sp_Rv shX X τ 0 0) {n : Nat}  {t : Nat} (ht : sp_at shX t 2 18)  {σ : sp_St} (hf : X2_clear_28 n t σ = some τ) : sp_GG shX X σ 2 [some (.ref (sx_ad X t)), none] [] 28 0 0 := by
  unfold X2_clear_28 at hf
  refine sp_aload_n (i := 0) (q := 29) hX dX2_clear_28 rfl rfl rfl ?_
  refine sp_iconst (v := 0) (q := 30) hX dX2_clear_29 li_0 rfl ?_
  obtain ⟨σ1, e2, hf⟩ := sp_pl_some hf
  refine sp_puti (q := 33) hX fpX2_40 fkX2_8 ht dX2_clear_30 rfl ?_
  refine sp_nms e2 ?_
  refine sp_aload_n (i := 0) (q := 34) hX dX2_clear_33 rfl rfl rfl ?_
  refine sp_iconst (v := 0) (q := 35) hX dX2_clear_34 li_0 rfl ?_
  obtain ⟨σ3, e4, hf⟩ := sp_pl_some hf
  refine sp_puti (q := 38) hX fpX2_43 fkX2_9 ht dX2_clear_35 rfl ?_
  refine sp_nms e4 ?_
  refine sp_aload_n (i := 0) (q := 39) hX dX2_clear_38 rfl rfl rfl ?_
  refine sp_iconst (v := 0) (q := 40) hX dX2_clear_39 li_0 rfl ?_
  obtain ⟨σ5, e6, hf⟩ := sp_pl_some hf
  refine sp_puti (q := 43) hX fpX2_46 fkX2_10 ht dX2_clear_40 rfl ?_
  refine sp_nms e6 ?_
  refine sp_aload_n (i := 0) (q := 44) hX dX2_clear_43 rfl rfl rfl ?_
  refine sp_iconst (v := 0) (q := 45) hX dX2_clear_44 li_0 rfl ?_
  obtain ⟨σ7, e8, hf⟩ := sp_pl_some hf
  refine sp_puti (q := 48) hX fpX2_49 fkX2_11 ht dX2_clear_45 rfl ?_
  refine sp_nms e8 ?_
  refine sp_aload_n (i := 0) (q := 49) hX dX2_clear_48 rfl rfl rfl ?_
  refine sp_iconst (v := 0) (q := 50) hX dX2_clear_49 li_0 rfl ?_
  obtain ⟨σ9, e10, hf⟩ := sp_pl_some hf
  refine sp_puti (q := 53) hX fpX2_52 fkX2_12 ht dX2_clear_50 rfl ?_
  refine sp_nms e10 ?_
  refine sp_aload_n (i := 0) (q := 54) hX dX2_clear_53 rfl rfl rfl ?_
  refine sp_iconst (v := 0) (q := 55) hX dX2_clear_54 li_0 rfl ?_
  obtain ⟨σ11, e12, hf⟩ := sp_pl_some hf
  refine sp_puti (q := 58) hX fpX2_55 fkX2_13 ht dX2_clear_55 rfl ?_
  refine sp_nms e12 ?_
  refine sp_aload_n (i := 0) (q := 59) hX dX2_clear_58 rfl rfl rfl ?_
  refine sp_iconst (v := 0) (q := 60) hX dX2_clear_59 li_0 rfl ?_
  obtain ⟨σ13, e14, hf⟩ := sp_pl_some hf
  refine sp_puti (q := 63) hX fpX2_58 fkX2_14 ht dX2_clear_60 rfl ?_
  refine sp_nms e14 ?_
  refine sp_aload_n (i := 0) (q := 64) hX dX2_clear_63 rfl rfl rfl ?_
  refine sp_iconst (v := 0) (q := 65) hX dX2_clear_64 li_0 rfl ?_
  obtain ⟨σ15, e16, hf⟩ := sp_pl_some hf
  refine sp_puti (q := 68) hX fpX2_61 fkX2_15 ht dX2_clear_65 rfl ?_
  refine sp_nms e16 ?_
  refine sp_aload_n (i := 0) (q := 69) hX dX2_clear_68 rfl rfl rfl ?_
  refine sp_bipush (v := 50) (q := 71) hX dX2_clear_69 lb_50 rfl ?_
  obtain ⟨σ17, e18, hf⟩ := sp_pl_some hf
  refine sp_puti (q := 74) hX fpX2_36 fkX2_16 ht dX2_clear_71 rfl ?_
  refine sp_nms e18 ?_
  refine sp_aload_n (i := 0) (q := 75) hX dX2_clear_74 rfl rfl rfl ?_
  refine sp_iconst (v := 0) (q := 76) hX dX2_clear_75 li_0 rfl ?_
  obtain ⟨σ19, e20, hf⟩ := sp_pl_some hf
  refine sp_putz (q := 79) hX fpX2_64 fkX2_17 ht (by decide) dX2_clear_76 rfl ?_
  refine sp_nms e20 ?_
  exact sp_vret hX hR dX2_clear_79 hf (Nat.le_of_ble_eq_true rfl) (Nat.le_of_ble_eq_true rfl)
set_option maxRecDepth 100000 in
set_option maxHeartbeats 4000000 in
theorem hX2_clear_2 {X : sp_X} (hX : sp_OK shX X cX2_clear RX2 2 rmX2_clear) {τ : sp_St} (hR : sp_Rv shX X τ 0 0) {n : Nat}  {t : Nat} (ht : sp_at shX t 2 18)  : ∀ (f : Nat) (σ : sp_St) (z1 : Int32), X2_clear_2 n t f σ z1 = some τ → sp_GG shX X σ 2 [some (.ref (sx_ad X t)), some (.int z1)] [] 2 0 0 := by
  intro f
  induction f with
  | zero =>
    intro σ z1 hf
    rw [X2_clear_2] at hf
    cases hf
  | succ f ih =>
    intro σ z1 hf
    rw [X2_clear_2] at hf
    refine sp_iload_n (i := 1) (q := 3) hX dX2_clear_2 rfl rfl rfl ?_
    refine sp_bipush (v := 6) (q := 5) hX dX2_clear_3 lb_6 rfl ?_
    refine sp_icmp_ge (tgt := 28) (q := 8) hX dX2_clear_5 (by decide) rfl (fun hc => ?_) (fun hc => ?_)
    · rw [if_pos hc] at hf
      refine sp_drop (lv' := [some (.ref (sx_ad X t)), none]) (And.intro rfl trivial) ?_
      exact hX2_clear_28 hX hR ht hf
    · rw [if_neg hc] at hf
      refine sp_aload_n (i := 0) (q := 9) hX dX2_clear_8 rfl rfl rfl ?_
      refine sp_gets (t := t + 4) (q := 12) hX flX2_21 fkX2_3 ht (msX2_3 ht) dX2_clear_9 rfl ?_
      refine sp_iload_n (i := 1) (q := 13) hX dX2_clear_12 rfl rfl rfl ?_
      refine sp_iconst (v := 0) (q := 14) hX dX2_clear_13 li_0 rfl ?_
      obtain ⟨h1, hf⟩ := sp_ck_some hf
      obtain ⟨σ2, e3, hf⟩ := sp_pl_some hf
      refine sp_iast (q := 15) hX (mfX2_3 ht) h1 dX2_clear_14 rfl ?_
      refine sp_nms e3 ?_
      refine sp_aload_n (i := 0) (q := 16) hX dX2_clear_15 rfl rfl rfl ?_
      refine sp_gets (t := t + 7) (q := 19) hX flX2_30 fkX2_6 ht (msX2_6 ht) dX2_clear_16 rfl ?_
      refine sp_iload_n (i := 1) (q := 20) hX dX2_clear_19 rfl rfl rfl ?_
      refine sp_iconst (v := 0) (q := 21) hX dX2_clear_20 li_0 rfl ?_
      obtain ⟨h4, hf⟩ := sp_ck_some hf
      obtain ⟨σ5, e6, hf⟩ := sp_pl_some hf
      refine sp_iast (q := 22) hX (mfX2_6 ht) h4 dX2_clear_21 rfl ?_
      refine sp_nms e6 ?_
      obtain ⟨x7, e8, hf⟩ := sp_pl_some hf
      refine sp_iinc (i := 1) (v := x7) (lv' := [some (.ref (sx_ad X t)), some (.int x7)]) (q := 25) hX dX2_clear_22 rfl (by rw [e8, li_1]) (Nat.le_of_ble_eq_true rfl) rfl rfl rfl ?_
      refine sp_goto (tgt := 2) hX dX2_clear_25 (by decide) ?_
      exact ih σ5 x7 hf
set_option maxRecDepth 100000 in
set_option maxHeartbeats 4000000 in
theorem hX2_clear {X : sp_X} (hX : sp_OK shX X cX2_clear RX2 2 rmX2_clear) {τ : sp_St} (hR : sp_Rv shX X τ 0 0) {n : Nat}  {σ : sp_St} {t : Nat} (ht : sp_at shX t 2 18) (hf : X2_clear n σ t = some τ) : sp_GG shX X σ 2 [some (.ref (sx_ad X t)), none] [] 0 0 0 := by
  unfold X2_clear at hf
  refine sp_iconst (v := 0) (q := 1) hX dX2_clear_0 li_0 rfl ?_
  obtain ⟨x1, e2, hf⟩ := sp_pl_some hf
  refine sp_nmi e2 ?_
  refine sp_istore_n (i := 1) (lv' := [some (.ref (sx_ad X t)), some (.int x1)]) (q := 2) hX dX2_clear_1 rfl (Nat.le_of_ble_eq_true rfl) rfl rfl rfl ?_
  exact hX2_clear_2 hX hR ht n σ x1 hf
set_option maxRecDepth 100000 in
set_option maxHeartbeats 4000000 in
theorem cnX2_clear {l : Launch} (hst : l.stackTraces = false) {w : sp_Wd} {n : Nat}  {σ : sp_St} {t : Nat} {τ : sp_St} (ht : sp_at shX t 2 18) (hf : X2_clear n σ t = some τ) : sp_Cv shX l w yX2_clear cX2_clear 2 rmX2_clear 0 0 σ [.ref (w.2.1 t)] τ :=
  sp_cv (own := RX2) (by decide) rfl hst (Nat.le_of_ble_eq_true rfl) rfl (fun X hX hw hl hR => by subst hw; subst hl; exact hX2_clear hX hR  ht hf)
def rmX2_coolsTold : Room := { frames := 0, cells := 0, slots := 0, locals := 0 }
def X2_coolsTold (n : Nat)  (σ : sp_St) (t : Nat) : Option (sp_St × Int32) :=
  sp_pl (if (σ.1 t 10) ≤ (σ.1 t 9) then ((0 : Int32)) else ((1 : Int32))) fun v1 =>
  sp_ck (sp_zb v1) <|
  some (σ, v1)
set_option maxRecDepth 100000 in
set_option maxHeartbeats 4000000 in
theorem hX2_coolsTold {X : sp_X} (hX : sp_OK shX X cX2_coolsTold RX2 1 rmX2_coolsTold) {τ : sp_St} {r : Int32} (hR : sp_Ri shX X (some .boolean) τ r 0 0) {n : Nat}  {σ : sp_St} {t : Nat} (ht : sp_at shX t 2 18) (hf : X2_coolsTold n σ t = some (τ, r)) : sp_GG shX X σ 1 [some (.ref (sx_ad X t))] [] 0 0 0 := by
  unfold X2_coolsTold at hf
  refine sp_aload_n (i := 0) (q := 1) hX dX2_coolsTold_0 rfl rfl rfl ?_
  refine sp_geti (q := 4) hX flX2_46 fkX2_10 ht dX2_coolsTold_1 rfl ?_
  refine sp_aload_n (i := 0) (q := 5) hX dX2_coolsTold_4 rfl rfl rfl ?_
  refine sp_geti (q := 8) hX flX2_43 fkX2_9 ht dX2_coolsTold_5 rfl ?_
  obtain ⟨v1, e2, hf⟩ := sp_pl_some hf
  have hj4 : sp_GG shX X σ 1 [some (.ref (sx_ad X t))] [.int v1] 16 0 0 := by
    obtain ⟨h3, hf⟩ := sp_ck_some hf
    exact sp_zret hX hR h3 dX2_coolsTold_16 hf (Nat.le_of_ble_eq_true rfl) (Nat.le_of_ble_eq_true rfl)
  refine sp_icmp_le (tgt := 15) (q := 11) hX dX2_coolsTold_8 (by decide) rfl (fun hc => ?_) (fun hc => ?_)
  · refine sp_iconst (v := 0) (q := 16) hX dX2_coolsTold_15 li_0 rfl ?_
    exact sp_nmi (by rw [e2, if_pos hc]) hj4
  · refine sp_iconst (v := 1) (q := 12) hX dX2_coolsTold_11 li_1 rfl ?_
    refine sp_goto (tgt := 16) hX dX2_coolsTold_12 (by decide) ?_
    exact sp_nmi (by rw [e2, if_neg hc]) hj4
set_option maxRecDepth 100000 in
set_option maxHeartbeats 4000000 in
theorem cnX2_coolsTold {l : Launch} (hst : l.stackTraces = false) {w : sp_Wd} {n : Nat}  {σ : sp_St} {t : Nat} {τ : sp_St} {r : Int32} (ht : sp_at shX t 2 18) (hf : X2_coolsTold n σ t = some (τ, r)) : sp_Ci shX l w yX2_coolsTold cX2_coolsTold 1 (some .boolean) rmX2_coolsTold 0 0 σ [.ref (w.2.1 t)] τ r :=
  sp_ci (own := RX2) (by decide) rfl hst (Nat.le_of_ble_eq_true rfl) rfl (fun X hX hw hl hR => by subst hw; subst hl; exact hX2_coolsTold hX hR  ht hf)
def rmX2_risesTold : Room := { frames := 0, cells := 0, slots := 0, locals := 0 }
def X2_risesTold (n : Nat)  (σ : sp_St) (t : Nat) : Option (sp_St × Int32) :=
  sp_pl (if (σ.1 t 12) ≤ (σ.1 t 11) then ((0 : Int32)) else ((1 : Int32))) fun v1 =>
  sp_ck (sp_zb v1) <|
  some (σ, v1)
set_option maxRecDepth 100000 in
set_option maxHeartbeats 4000000 in
theorem hX2_risesTold {X : sp_X} (hX : sp_OK shX X cX2_risesTold RX2 1 rmX2_risesTold) {τ : sp_St} {r : Int32} (hR : sp_Ri shX X (some .boolean) τ r 0 0) {n : Nat}  {σ : sp_St} {t : Nat} (ht : sp_at shX t 2 18) (hf : X2_risesTold n σ t = some (τ, r)) : sp_GG shX X σ 1 [some (.ref (sx_ad X t))] [] 0 0 0 := by
  unfold X2_risesTold at hf
  refine sp_aload_n (i := 0) (q := 1) hX dX2_risesTold_0 rfl rfl rfl ?_
  refine sp_geti (q := 4) hX flX2_52 fkX2_12 ht dX2_risesTold_1 rfl ?_
  refine sp_aload_n (i := 0) (q := 5) hX dX2_risesTold_4 rfl rfl rfl ?_
  refine sp_geti (q := 8) hX flX2_49 fkX2_11 ht dX2_risesTold_5 rfl ?_
  obtain ⟨v1, e2, hf⟩ := sp_pl_some hf
  have hj4 : sp_GG shX X σ 1 [some (.ref (sx_ad X t))] [.int v1] 16 0 0 := by
    obtain ⟨h3, hf⟩ := sp_ck_some hf
    exact sp_zret hX hR h3 dX2_risesTold_16 hf (Nat.le_of_ble_eq_true rfl) (Nat.le_of_ble_eq_true rfl)
  refine sp_icmp_le (tgt := 15) (q := 11) hX dX2_risesTold_8 (by decide) rfl (fun hc => ?_) (fun hc => ?_)
  · refine sp_iconst (v := 0) (q := 16) hX dX2_risesTold_15 li_0 rfl ?_
    exact sp_nmi (by rw [e2, if_pos hc]) hj4
  · refine sp_iconst (v := 1) (q := 12) hX dX2_risesTold_11 li_1 rfl ?_
    refine sp_goto (tgt := 16) hX dX2_risesTold_12 (by decide) ?_
    exact sp_nmi (by rw [e2, if_neg hc]) hj4
set_option maxRecDepth 100000 in
set_option maxHeartbeats 4000000 in
theorem cnX2_risesTold {l : Launch} (hst : l.stackTraces = false) {w : sp_Wd} {n : Nat}  {σ : sp_St} {t : Nat} {τ : sp_St} {r : Int32} (ht : sp_at shX t 2 18) (hf : X2_risesTold n σ t = some (τ, r)) : sp_Ci shX l w yX2_risesTold cX2_risesTold 1 (some .boolean) rmX2_risesTold 0 0 σ [.ref (w.2.1 t)] τ r :=
  sp_ci (own := RX2) (by decide) rfl hst (Nat.le_of_ble_eq_true rfl) rfl (fun X hX hw hl hR => by subst hw; subst hl; exact hX2_risesTold hX hR  ht hf)
def rmX2_addCode : Room := { frames := 0, cells := 0, slots := 0, locals := 0 }
def X2_addCode_32 (n : Nat) (t : Nat) (σ : sp_St) : Option (sp_St) :=
  some σ
def X2_addCode (n : Nat)  (σ : sp_St) (t : Nat) (a1 : Int32) : Option (sp_St) :=
  if ((700 : Int32)) ≤ (σ.1 t 8) then
    X2_addCode_32 n t σ
  else
    sp_ck (sp_in (σ.1 t 8) 700) <|
    sp_pl (sp_sa σ (t + 8) (σ.1 t 8).toNatClampNeg a1) fun σ2 =>
    sp_pl (sp_si σ2 t 8 ((σ2.1 t 8) + ((1 : Int32)))) fun σ4 =>
    X2_addCode_32 n t σ4
set_option maxRecDepth 100000 in
set_option maxHeartbeats 4000000 in
theorem hX2_addCode_32 {X : sp_X} (hX : sp_OK shX X cX2_addCode RX2 2 rmX2_addCode) {τ : sp_St} (hR : sp_Rv shX X τ 0 0) {n : Nat}  {t : Nat} (ht : sp_at shX t 2 18)  {σ : sp_St} (hf : X2_addCode_32 n t σ = some τ) : sp_GG shX X σ 2 [none, none] [] 32 0 0 := by
  unfold X2_addCode_32 at hf
  exact sp_vret hX hR dX2_addCode_32 hf (Nat.le_of_ble_eq_true rfl) (Nat.le_of_ble_eq_true rfl)
set_option maxRecDepth 100000 in
set_option maxHeartbeats 4000000 in
theorem hX2_addCode {X : sp_X} (hX : sp_OK shX X cX2_addCode RX2 2 rmX2_addCode) {τ : sp_St} (hR : sp_Rv shX X τ 0 0) {n : Nat}  {σ : sp_St} {t : Nat} {a1 : Int32} (ht : sp_at shX t 2 18) (hf : X2_addCode n σ t a1 = some τ) : sp_GG shX X σ 2 [some (.ref (sx_ad X t)), some (.int a1)] [] 0 0 0 := by
  unfold X2_addCode at hf
  refine sp_aload_n (i := 0) (q := 1) hX dX2_addCode_0 rfl rfl rfl ?_
  refine sp_geti (q := 4) hX flX2_40 fkX2_8 ht dX2_addCode_1 rfl ?_
  refine sp_aload_n (i := 0) (q := 5) hX dX2_addCode_4 rfl rfl rfl ?_
  refine sp_gets (t := t + 8) (q := 8) hX flX2_33 fkX2_7 ht (msX2_7 ht) dX2_addCode_5 rfl ?_
  refine sp_aleni (v := (700 : Int32)) (q := 9) hX (mfX2_7 ht) (by decide) dX2_addCode_8 rfl ?_
  refine sp_icmp_ge (tgt := 32) (q := 12) hX dX2_addCode_9 (by decide) rfl (fun hc => ?_) (fun hc => ?_)
  · rw [if_pos hc] at hf
    refine sp_drop (lv' := [none, none]) trivial ?_
    exact hX2_addCode_32 hX hR ht hf
  · rw [if_neg hc] at hf
    refine sp_aload_n (i := 0) (q := 13) hX dX2_addCode_12 rfl rfl rfl ?_
    refine sp_gets (t := t + 8) (q := 16) hX flX2_33 fkX2_7 ht (msX2_7 ht) dX2_addCode_13 rfl ?_
    refine sp_aload_n (i := 0) (q := 17) hX dX2_addCode_16 rfl rfl rfl ?_
    refine sp_geti (q := 20) hX flX2_40 fkX2_8 ht dX2_addCode_17 rfl ?_
    refine sp_iload_n (i := 1) (q := 21) hX dX2_addCode_20 rfl rfl rfl ?_
    obtain ⟨h1, hf⟩ := sp_ck_some hf
    obtain ⟨σ2, e3, hf⟩ := sp_pl_some hf
    refine sp_iast (q := 22) hX (mfX2_7 ht) h1 dX2_addCode_21 rfl ?_
    refine sp_nms e3 ?_
    refine sp_aload_n (i := 0) (q := 23) hX dX2_addCode_22 rfl rfl rfl ?_
    refine sp_dup (q := 24) hX dX2_addCode_23 rfl rfl ?_
    refine sp_geti (q := 27) hX flX2_40 fkX2_8 ht dX2_addCode_24 rfl ?_
    refine sp_iconst (v := 1) (q := 28) hX dX2_addCode_27 li_1 rfl ?_
    refine sp_iadd (q := 29) hX dX2_addCode_28 rfl ?_
    obtain ⟨σ4, e5, hf⟩ := sp_pl_some hf
    refine sp_puti (q := 32) hX fpX2_40 fkX2_8 ht dX2_addCode_29 rfl ?_
    refine sp_nms e5 ?_
    refine sp_drop (lv' := [none, none]) trivial ?_
    exact hX2_addCode_32 hX hR ht hf
set_option maxRecDepth 100000 in
set_option maxHeartbeats 4000000 in
theorem cnX2_addCode {l : Launch} (hst : l.stackTraces = false) {w : sp_Wd} {n : Nat}  {σ : sp_St} {t : Nat} {a1 : Int32} {τ : sp_St} (ht : sp_at shX t 2 18) (hf : X2_addCode n σ t a1 = some τ) : sp_Cv shX l w yX2_addCode cX2_addCode 2 rmX2_addCode 0 0 σ [.ref (w.2.1 t), .int a1] τ :=
  sp_cv (own := RX2) (by decide) rfl hst (Nat.le_of_ble_eq_true rfl) rfl (fun X hX hw hl hR => by subst hw; subst hl; exact hX2_addCode hX hR  ht hf)
def rmX0_setForAll : Room := { frames := 0, cells := 0, slots := 0, locals := 0 }
def X0_setForAll (n : Nat)  (σ : sp_St) (t : Nat) (a1 : Int32) (a2 : Int32) (a3 : Int32) (a4 : Int32) : Option (sp_St) :=
  sp_pl (sp_si σ t 1 a1) fun σ1 =>
  sp_pl (sp_si σ1 t 2 a2) fun σ3 =>
  sp_pl (sp_si σ3 t 3 a3) fun σ5 =>
  sp_pl (sp_si σ5 t 4 a4) fun σ7 =>
  some σ7
set_option maxRecDepth 100000 in
set_option maxHeartbeats 4000000 in
theorem hX0_setForAll {X : sp_X} (hX : sp_OK shX X cX0_setForAll RX0 5 rmX0_setForAll) {τ : sp_St} (hR : sp_Rv shX X τ 0 0) {n : Nat}  {σ : sp_St} {t : Nat} {a1 : Int32} {a2 : Int32} {a3 : Int32} {a4 : Int32} (ht : sp_at shX t 0 7) (hf : X0_setForAll n σ t a1 a2 a3 a4 = some τ) : sp_GG shX X σ 5 [some (.ref (sx_ad X t)), some (.int a1), some (.int a2), some (.int a3), some (.int a4)] [] 0 0 0 := by
  unfold X0_setForAll at hf
  refine sp_aload_n (i := 0) (q := 1) hX dX0_setForAll_0 rfl rfl rfl ?_
  refine sp_iload_n (i := 1) (q := 2) hX dX0_setForAll_1 rfl rfl rfl ?_
  obtain ⟨σ1, e2, hf⟩ := sp_pl_some hf
  refine sp_puti (q := 5) hX fpX0_13 fkX0_1 ht dX0_setForAll_2 rfl ?_
  refine sp_nms e2 ?_
  refine sp_aload_n (i := 0) (q := 6) hX dX0_setForAll_5 rfl rfl rfl ?_
  refine sp_iload_n (i := 2) (q := 7) hX dX0_setForAll_6 rfl rfl rfl ?_
  obtain ⟨σ3, e4, hf⟩ := sp_pl_some hf
  refine sp_puti (q := 10) hX fpX0_17 fkX0_2 ht dX0_setForAll_7 rfl ?_
  refine sp_nms e4 ?_
  refine sp_aload_n (i := 0) (q := 11) hX dX0_setForAll_10 rfl rfl rfl ?_
  refine sp_iload_n (i := 3) (q := 12) hX dX0_setForAll_11 rfl rfl rfl ?_
  obtain ⟨σ5, e6, hf⟩ := sp_pl_some hf
  refine sp_puti (q := 15) hX fpX0_20 fkX0_3 ht dX0_setForAll_12 rfl ?_
  refine sp_nms e6 ?_
  refine sp_aload_n (i := 0) (q := 16) hX dX0_setForAll_15 rfl rfl rfl ?_
  refine sp_iload (i := 4) (q := 18) hX dX0_setForAll_16 rfl rfl ?_
  obtain ⟨σ7, e8, hf⟩ := sp_pl_some hf
  refine sp_puti (q := 21) hX fpX0_23 fkX0_4 ht dX0_setForAll_18 rfl ?_
  refine sp_nms e8 ?_
  exact sp_vret hX hR dX0_setForAll_21 hf (Nat.le_of_ble_eq_true rfl) (Nat.le_of_ble_eq_true rfl)
set_option maxRecDepth 100000 in
set_option maxHeartbeats 4000000 in
theorem cnX0_setForAll {l : Launch} (hst : l.stackTraces = false) {w : sp_Wd} {n : Nat}  {σ : sp_St} {t : Nat} {a1 : Int32} {a2 : Int32} {a3 : Int32} {a4 : Int32} {τ : sp_St} (ht : sp_at shX t 0 7) (hf : X0_setForAll n σ t a1 a2 a3 a4 = some τ) : sp_Cv shX l w yX0_setForAll cX0_setForAll 5 rmX0_setForAll 0 0 σ [.ref (w.2.1 t), .int a1, .int a2, .int a3, .int a4] τ :=
  sp_cv (own := RX0) (by decide) rfl hst (Nat.le_of_ble_eq_true rfl) rfl (fun X hX hw hl hR => by subst hw; subst hl; exact hX0_setForAll hX hR  ht hf)
def rmX0_setForCools : Room := { frames := 0, cells := 0, slots := 0, locals := 0 }
def X0_setForCools (n : Nat)  (σ : sp_St) (t : Nat) (a1 : Int32) (a2 : Int32) : Option (sp_St) :=
  sp_pl (sp_si σ t 5 a1) fun σ1 =>
  sp_pl (sp_si σ1 t 6 a2) fun σ3 =>
  some σ3
set_option maxRecDepth 100000 in
set_option maxHeartbeats 4000000 in
theorem hX0_setForCools {X : sp_X} (hX : sp_OK shX X cX0_setForCools RX0 3 rmX0_setForCools) {τ : sp_St} (hR : sp_Rv shX X τ 0 0) {n : Nat}  {σ : sp_St} {t : Nat} {a1 : Int32} {a2 : Int32} (ht : sp_at shX t 0 7) (hf : X0_setForCools n σ t a1 a2 = some τ) : sp_GG shX X σ 3 [some (.ref (sx_ad X t)), some (.int a1), some (.int a2)] [] 0 0 0 := by
  unfold X0_setForCools at hf
  refine sp_aload_n (i := 0) (q := 1) hX dX0_setForCools_0 rfl rfl rfl ?_
  refine sp_iload_n (i := 1) (q := 2) hX dX0_setForCools_1 rfl rfl rfl ?_
  obtain ⟨σ1, e2, hf⟩ := sp_pl_some hf
  refine sp_puti (q := 5) hX fpX0_26 fkX0_5 ht dX0_setForCools_2 rfl ?_
  refine sp_nms e2 ?_
  refine sp_aload_n (i := 0) (q := 6) hX dX0_setForCools_5 rfl rfl rfl ?_
  refine sp_iload_n (i := 2) (q := 7) hX dX0_setForCools_6 rfl rfl rfl ?_
  obtain ⟨σ3, e4, hf⟩ := sp_pl_some hf
  refine sp_puti (q := 10) hX fpX0_29 fkX0_6 ht dX0_setForCools_7 rfl ?_
  refine sp_nms e4 ?_
  exact sp_vret hX hR dX0_setForCools_10 hf (Nat.le_of_ble_eq_true rfl) (Nat.le_of_ble_eq_true rfl)
set_option maxRecDepth 100000 in
set_option maxHeartbeats 4000000 in
theorem cnX0_setForCools {l : Launch} (hst : l.stackTraces = false) {w : sp_Wd} {n : Nat}  {σ : sp_St} {t : Nat} {a1 : Int32} {a2 : Int32} {τ : sp_St} (ht : sp_at shX t 0 7) (hf : X0_setForCools n σ t a1 a2 = some τ) : sp_Cv shX l w yX0_setForCools cX0_setForCools 3 rmX0_setForCools 0 0 σ [.ref (w.2.1 t), .int a1, .int a2] τ :=
  sp_cv (own := RX0) (by decide) rfl hst (Nat.le_of_ble_eq_true rfl) rfl (fun X hX hw hl hR => by subst hw; subst hl; exact hX0_setForCools hX hR  ht hf)
def rmX0_valueOf : Room := { frames := 0, cells := 0, slots := 0, locals := 0 }
def X0_valueOf (n : Nat)  (σ : sp_St) (t : Nat) (a1 : Int32) : Option (sp_St × Int32) :=
  if a1 = -5 then
    some (σ, σ.1 t 5)
  else
    if a1 = -4 then
      some (σ, σ.1 t 4)
    else
      if a1 = -3 then
        some (σ, σ.1 t 3)
      else
        if a1 = -2 then
          some (σ, σ.1 t 2)
        else
          if a1 = -1 then
            some (σ, σ.1 t 1)
          else
            some (σ, σ.1 t 6)
set_option maxRecDepth 100000 in
set_option maxHeartbeats 4000000 in
theorem hX0_valueOf {X : sp_X} (hX : sp_OK shX X cX0_valueOf RX0 2 rmX0_valueOf) {τ : sp_St} {r : Int32} (hR : sp_Ri shX X (some .int) τ r 0 0) {n : Nat}  {σ : sp_St} {t : Nat} {a1 : Int32} (ht : sp_at shX t 0 7) (hf : X0_valueOf n σ t a1 = some (τ, r)) : sp_GG shX X σ 2 [some (.ref (sx_ad X t)), some (.int a1)] [] 0 0 0 := by
  unfold X0_valueOf at hf
  refine sp_iload_n (i := 1) (q := 1) hX dX0_valueOf_0 rfl rfl rfl ?_
  by_cases h1 : a1 = -5
  · rw [if_pos h1] at hf
    refine sp_tblIn (off := 55) (tgt := 56) hX dX0_valueOf_1 (by rw [h1]; decide) (by rw [h1]; decide) (by rw [h1]; decide +kernel) (by decide) ?_
    refine sp_aload_n (i := 0) (q := 57) hX dX0_valueOf_56 rfl rfl rfl ?_
    refine sp_geti (q := 60) hX flX0_26 fkX0_5 ht dX0_valueOf_57 rfl ?_
    exact sp_iret hX hR dX0_valueOf_60 hf (Nat.le_of_ble_eq_true rfl) (Nat.le_of_ble_eq_true rfl)
  · rw [if_neg h1] at hf
    by_cases h2 : a1 = -4
    · rw [if_pos h2] at hf
      refine sp_tblIn (off := 50) (tgt := 51) hX dX0_valueOf_1 (by rw [h2]; decide) (by rw [h2]; decide) (by rw [h2]; decide +kernel) (by decide) ?_
      refine sp_aload_n (i := 0) (q := 52) hX dX0_valueOf_51 rfl rfl rfl ?_
      refine sp_geti (q := 55) hX flX0_23 fkX0_4 ht dX0_valueOf_52 rfl ?_
      exact sp_iret hX hR dX0_valueOf_55 hf (Nat.le_of_ble_eq_true rfl) (Nat.le_of_ble_eq_true rfl)
    · rw [if_neg h2] at hf
      by_cases h3 : a1 = -3
      · rw [if_pos h3] at hf
        refine sp_tblIn (off := 45) (tgt := 46) hX dX0_valueOf_1 (by rw [h3]; decide) (by rw [h3]; decide) (by rw [h3]; decide +kernel) (by decide) ?_
        refine sp_aload_n (i := 0) (q := 47) hX dX0_valueOf_46 rfl rfl rfl ?_
        refine sp_geti (q := 50) hX flX0_20 fkX0_3 ht dX0_valueOf_47 rfl ?_
        exact sp_iret hX hR dX0_valueOf_50 hf (Nat.le_of_ble_eq_true rfl) (Nat.le_of_ble_eq_true rfl)
      · rw [if_neg h3] at hf
        by_cases h4 : a1 = -2
        · rw [if_pos h4] at hf
          refine sp_tblIn (off := 40) (tgt := 41) hX dX0_valueOf_1 (by rw [h4]; decide) (by rw [h4]; decide) (by rw [h4]; decide +kernel) (by decide) ?_
          refine sp_aload_n (i := 0) (q := 42) hX dX0_valueOf_41 rfl rfl rfl ?_
          refine sp_geti (q := 45) hX flX0_17 fkX0_2 ht dX0_valueOf_42 rfl ?_
          exact sp_iret hX hR dX0_valueOf_45 hf (Nat.le_of_ble_eq_true rfl) (Nat.le_of_ble_eq_true rfl)
        · rw [if_neg h4] at hf
          by_cases h5 : a1 = -1
          · rw [if_pos h5] at hf
            refine sp_tblIn (off := 35) (tgt := 36) hX dX0_valueOf_1 (by rw [h5]; decide) (by rw [h5]; decide) (by rw [h5]; decide +kernel) (by decide) ?_
            refine sp_aload_n (i := 0) (q := 37) hX dX0_valueOf_36 rfl rfl rfl ?_
            refine sp_geti (q := 40) hX flX0_13 fkX0_1 ht dX0_valueOf_37 rfl ?_
            exact sp_iret hX hR dX0_valueOf_40 hf (Nat.le_of_ble_eq_true rfl) (Nat.le_of_ble_eq_true rfl)
          · rw [if_neg h5] at hf
            refine sp_tblOut (tgt := 61) hX dX0_valueOf_1 (sp_swo (-5) (-1) (by decide) (fun kk hka hkb hke => by
              rcases (show kk = -5 ∨ kk = -4 ∨ kk = -3 ∨ kk = -2 ∨ kk = -1 by omega) with rfl | rfl | rfl | rfl | rfl
              · exact h1 (sp_i32 hke (by decide))
              · exact h2 (sp_i32 hke (by decide))
              · exact h3 (sp_i32 hke (by decide))
              · exact h4 (sp_i32 hke (by decide))
              · exact h5 (sp_i32 hke (by decide)))) (by decide) ?_
            refine sp_aload_n (i := 0) (q := 62) hX dX0_valueOf_61 rfl rfl rfl ?_
            refine sp_geti (q := 65) hX flX0_29 fkX0_6 ht dX0_valueOf_62 rfl ?_
            exact sp_iret hX hR dX0_valueOf_65 hf (Nat.le_of_ble_eq_true rfl) (Nat.le_of_ble_eq_true rfl)
set_option maxRecDepth 100000 in
set_option maxHeartbeats 4000000 in
theorem cnX0_valueOf {l : Launch} (hst : l.stackTraces = false) {w : sp_Wd} {n : Nat}  {σ : sp_St} {t : Nat} {a1 : Int32} {τ : sp_St} {r : Int32} (ht : sp_at shX t 0 7) (hf : X0_valueOf n σ t a1 = some (τ, r)) : sp_Ci shX l w yX0_valueOf cX0_valueOf 2 (some .int) rmX0_valueOf 0 0 σ [.ref (w.2.1 t), .int a1] τ r :=
  sp_ci (own := RX0) (by decide) rfl hst (Nat.le_of_ble_eq_true rfl) rfl (fun X hX hw hl hR => by subst hw; subst hl; exact hX0_valueOf hX hR  ht hf)
def rmX0_join : Room := { frames := 0, cells := 0, slots := 0, locals := 0 }
def X0_join_121 (n : Nat) (σ : sp_St) (zs0 : Int32) : Option (sp_St × Int32) :=
  some (σ, zs0)
def X0_join_116 (n : Nat) (σ : sp_St) : Option (sp_St × Int32) :=
  X0_join_121 n σ ((1 : Int32))
def X0_join_107 (n : Nat) (σ : sp_St) (zs0 : Int32) : Option (sp_St × Int32) :=
  some (σ, zs0)
def X0_join_106 (n : Nat) (σ : sp_St) : Option (sp_St × Int32) :=
  X0_join_107 n σ ((0 : Int32))
def X0_join_71 (n : Nat) (σ : sp_St) (zs0 : Int32) : Option (sp_St × Int32) :=
  some (σ, zs0)
def X0_join (n : Nat)  (σ : sp_St) (a0 : Int32) (a1 : Int32) (a2 : Int32) : Option (sp_St × Int32) :=
  if a0 = -14 then
    if a1 = 0 then
      X0_join_106 n σ
    else
      if a2 = 0 then
        X0_join_106 n σ
      else
        X0_join_107 n σ ((1 : Int32))
  else
    if a0 = -13 then
      if a1 = 0 then
        if a2 = 0 then
          X0_join_121 n σ ((0 : Int32))
        else
          X0_join_116 n σ
      else
        X0_join_116 n σ
    else
      if a0 = -12 then
        sp_pl (if a1 = a2 then ((1 : Int32)) else ((0 : Int32))) fun v3 =>
        some (σ, v3)
      else
        if a0 = -11 then
          sp_pl (if a2 ≤ a1 then ((0 : Int32)) else ((1 : Int32))) fun v7 =>
          some (σ, v7)
        else
          if a0 = -10 then
            if a2 = 0 then
              X0_join_71 n σ ((0 : Int32))
            else
              sp_ck (!decide (a2 = 0)) <|
              X0_join_71 n σ (a1 / a2)
          else
            if a0 = -9 then
              some (σ, a1 * a2)
            else
              if a0 = -8 then
                some (σ, a1 - a2)
              else
                if a0 = -7 then
                  some (σ, a1 + a2)
                else
                  if a1 = 0 then
                    if a2 = 0 then
                      X0_join_121 n σ ((0 : Int32))
                    else
                      X0_join_116 n σ
                  else
                    X0_join_116 n σ
set_option maxRecDepth 100000 in
set_option maxHeartbeats 4000000 in
theorem hX0_join_121 {X : sp_X} (hX : sp_OK shX X cX0_join RX0 3 rmX0_join) {τ : sp_St} {r : Int32} (hR : sp_Ri shX X (some .int) τ r 0 0) {n : Nat}    {σ : sp_St} {zs0 : Int32} (hf : X0_join_121 n σ zs0 = some (τ, r)) : sp_GG shX X σ 3 [none, none, none] [.int zs0] 121 0 0 := by
  unfold X0_join_121 at hf
  exact sp_iret hX hR dX0_join_121 hf (Nat.le_of_ble_eq_true rfl) (Nat.le_of_ble_eq_true rfl)
set_option maxRecDepth 100000 in
set_option maxHeartbeats 4000000 in
theorem hX0_join_116 {X : sp_X} (hX : sp_OK shX X cX0_join RX0 3 rmX0_join) {τ : sp_St} {r : Int32} (hR : sp_Ri shX X (some .int) τ r 0 0) {n : Nat}    {σ : sp_St} (hf : X0_join_116 n σ = some (τ, r)) : sp_GG shX X σ 3 [none, none, none] [] 116 0 0 := by
  unfold X0_join_116 at hf
  refine sp_iconst (v := 1) (q := 117) hX dX0_join_116 li_1 rfl ?_
  refine sp_goto (tgt := 121) hX dX0_join_117 (by decide) ?_
  exact hX0_join_121 hX hR hf
set_option maxRecDepth 100000 in
set_option maxHeartbeats 4000000 in
theorem hX0_join_107 {X : sp_X} (hX : sp_OK shX X cX0_join RX0 3 rmX0_join) {τ : sp_St} {r : Int32} (hR : sp_Ri shX X (some .int) τ r 0 0) {n : Nat}    {σ : sp_St} {zs0 : Int32} (hf : X0_join_107 n σ zs0 = some (τ, r)) : sp_GG shX X σ 3 [none, none, none] [.int zs0] 107 0 0 := by
  unfold X0_join_107 at hf
  exact sp_iret hX hR dX0_join_107 hf (Nat.le_of_ble_eq_true rfl) (Nat.le_of_ble_eq_true rfl)
set_option maxRecDepth 100000 in
set_option maxHeartbeats 4000000 in
theorem hX0_join_106 {X : sp_X} (hX : sp_OK shX X cX0_join RX0 3 rmX0_join) {τ : sp_St} {r : Int32} (hR : sp_Ri shX X (some .int) τ r 0 0) {n : Nat}    {σ : sp_St} (hf : X0_join_106 n σ = some (τ, r)) : sp_GG shX X σ 3 [none, none, none] [] 106 0 0 := by
  unfold X0_join_106 at hf
  refine sp_iconst (v := 0) (q := 107) hX dX0_join_106 li_0 rfl ?_
  exact hX0_join_107 hX hR hf
set_option maxRecDepth 100000 in
set_option maxHeartbeats 4000000 in
theorem hX0_join_71 {X : sp_X} (hX : sp_OK shX X cX0_join RX0 3 rmX0_join) {τ : sp_St} {r : Int32} (hR : sp_Ri shX X (some .int) τ r 0 0) {n : Nat}    {σ : sp_St} {zs0 : Int32} (hf : X0_join_71 n σ zs0 = some (τ, r)) : sp_GG shX X σ 3 [none, none, none] [.int zs0] 71 0 0 := by
  unfold X0_join_71 at hf
  exact sp_iret hX hR dX0_join_71 hf (Nat.le_of_ble_eq_true rfl) (Nat.le_of_ble_eq_true rfl)
set_option maxRecDepth 100000 in
set_option maxHeartbeats 4000000 in
theorem hX0_join {X : sp_X} (hX : sp_OK shX X cX0_join RX0 3 rmX0_join) {τ : sp_St} {r : Int32} (hR : sp_Ri shX X (some .int) τ r 0 0) {n : Nat}  {σ : sp_St} {a0 : Int32} {a1 : Int32} {a2 : Int32}  (hf : X0_join n σ a0 a1 a2 = some (τ, r)) : sp_GG shX X σ 3 [some (.int a0), some (.int a1), some (.int a2)] [] 0 0 0 := by
  unfold X0_join at hf
  refine sp_iload_n (i := 0) (q := 1) hX dX0_join_0 rfl rfl rfl ?_
  by_cases h1 : a0 = -14
  · rw [if_pos h1] at hf
    refine sp_tblIn (off := 93) (tgt := 94) hX dX0_join_1 (by rw [h1]; decide) (by rw [h1]; decide) (by rw [h1]; decide +kernel) (by decide) ?_
    refine sp_iload_n (i := 1) (q := 95) hX dX0_join_94 rfl rfl rfl ?_
    refine sp_if_eq (tgt := 106) (q := 98) hX dX0_join_95 (by decide) rfl (fun hc => ?_) (fun hc => ?_)
    · rw [if_pos hc] at hf
      refine sp_drop (lv' := [none, none, none]) trivial ?_
      exact hX0_join_106 hX hR hf
    · rw [if_neg hc] at hf
      refine sp_iload_n (i := 2) (q := 99) hX dX0_join_98 rfl rfl rfl ?_
      refine sp_if_eq (tgt := 106) (q := 102) hX dX0_join_99 (by decide) rfl (fun hc => ?_) (fun hc => ?_)
      · rw [if_pos hc] at hf
        refine sp_drop (lv' := [none, none, none]) trivial ?_
        exact hX0_join_106 hX hR hf
      · rw [if_neg hc] at hf
        refine sp_iconst (v := 1) (q := 103) hX dX0_join_102 li_1 rfl ?_
        refine sp_goto (tgt := 107) hX dX0_join_103 (by decide) ?_
        refine sp_drop (lv' := [none, none, none]) trivial ?_
        exact hX0_join_107 hX hR hf
  · rw [if_neg h1] at hf
    by_cases h2 : a0 = -13
    · rw [if_pos h2] at hf
      refine sp_tblIn (off := 107) (tgt := 108) hX dX0_join_1 (by rw [h2]; decide) (by rw [h2]; decide) (by rw [h2]; decide +kernel) (by decide) ?_
      refine sp_iload_n (i := 1) (q := 109) hX dX0_join_108 rfl rfl rfl ?_
      refine sp_if_ne (tgt := 116) (q := 112) hX dX0_join_109 (by decide) rfl (fun hc => ?_) (fun hc => ?_)
      · rw [if_neg hc] at hf
        refine sp_drop (lv' := [none, none, none]) trivial ?_
        exact hX0_join_116 hX hR hf
      · rw [if_pos hc] at hf
        refine sp_iload_n (i := 2) (q := 113) hX dX0_join_112 rfl rfl rfl ?_
        refine sp_if_eq (tgt := 120) (q := 116) hX dX0_join_113 (by decide) rfl (fun hc => ?_) (fun hc => ?_)
        · rw [if_pos hc] at hf
          refine sp_iconst (v := 0) (q := 121) hX dX0_join_120 li_0 rfl ?_
          refine sp_drop (lv' := [none, none, none]) trivial ?_
          exact hX0_join_121 hX hR hf
        · rw [if_neg hc] at hf
          refine sp_drop (lv' := [none, none, none]) trivial ?_
          exact hX0_join_116 hX hR hf
    · rw [if_neg h2] at hf
      by_cases h6 : a0 = -12
      · rw [if_pos h6] at hf
        refine sp_tblIn (off := 82) (tgt := 83) hX dX0_join_1 (by rw [h6]; decide) (by rw [h6]; decide) (by rw [h6]; decide +kernel) (by decide) ?_
        refine sp_iload_n (i := 1) (q := 84) hX dX0_join_83 rfl rfl rfl ?_
        refine sp_iload_n (i := 2) (q := 85) hX dX0_join_84 rfl rfl rfl ?_
        obtain ⟨v3, e4, hf⟩ := sp_pl_some hf
        have hj5 : sp_GG shX X σ 3 [some (.int a0), some (.int a1), some (.int a2)] [.int v3] 93 0 0 := by
          exact sp_iret hX hR dX0_join_93 hf (Nat.le_of_ble_eq_true rfl) (Nat.le_of_ble_eq_true rfl)
        refine sp_icmp_ne (tgt := 92) (q := 88) hX dX0_join_85 (by decide) rfl (fun hc => ?_) (fun hc => ?_)
        · refine sp_iconst (v := 0) (q := 93) hX dX0_join_92 li_0 rfl ?_
          exact sp_nmi (by rw [e4, if_neg hc]) hj5
        · refine sp_iconst (v := 1) (q := 89) hX dX0_join_88 li_1 rfl ?_
          refine sp_goto (tgt := 93) hX dX0_join_89 (by decide) ?_
          exact sp_nmi (by rw [e4, if_pos hc]) hj5
      · rw [if_neg h6] at hf
        by_cases h10 : a0 = -11
        · rw [if_pos h10] at hf
          refine sp_tblIn (off := 71) (tgt := 72) hX dX0_join_1 (by rw [h10]; decide) (by rw [h10]; decide) (by rw [h10]; decide +kernel) (by decide) ?_
          refine sp_iload_n (i := 1) (q := 73) hX dX0_join_72 rfl rfl rfl ?_
          refine sp_iload_n (i := 2) (q := 74) hX dX0_join_73 rfl rfl rfl ?_
          obtain ⟨v7, e8, hf⟩ := sp_pl_some hf
          have hj9 : sp_GG shX X σ 3 [some (.int a0), some (.int a1), some (.int a2)] [.int v7] 82 0 0 := by
            exact sp_iret hX hR dX0_join_82 hf (Nat.le_of_ble_eq_true rfl) (Nat.le_of_ble_eq_true rfl)
          refine sp_icmp_ge (tgt := 81) (q := 77) hX dX0_join_74 (by decide) rfl (fun hc => ?_) (fun hc => ?_)
          · refine sp_iconst (v := 0) (q := 82) hX dX0_join_81 li_0 rfl ?_
            exact sp_nmi (by rw [e8, if_pos hc]) hj9
          · refine sp_iconst (v := 1) (q := 78) hX dX0_join_77 li_1 rfl ?_
            refine sp_goto (tgt := 82) hX dX0_join_78 (by decide) ?_
            exact sp_nmi (by rw [e8, if_neg hc]) hj9
        · rw [if_neg h10] at hf
          by_cases h12 : a0 = -10
          · rw [if_pos h12] at hf
            refine sp_tblIn (off := 59) (tgt := 60) hX dX0_join_1 (by rw [h12]; decide) (by rw [h12]; decide) (by rw [h12]; decide +kernel) (by decide) ?_
            refine sp_iload_n (i := 2) (q := 61) hX dX0_join_60 rfl rfl rfl ?_
            refine sp_if_ne (tgt := 68) (q := 64) hX dX0_join_61 (by decide) rfl (fun hc => ?_) (fun hc => ?_)
            · rw [if_neg hc] at hf
              refine sp_iload_n (i := 1) (q := 69) hX dX0_join_68 rfl rfl rfl ?_
              refine sp_iload_n (i := 2) (q := 70) hX dX0_join_69 rfl rfl rfl ?_
              obtain ⟨h11, hf⟩ := sp_ck_some hf
              refine sp_idiv (q := 71) hX dX0_join_70 (sp_nz h11) rfl ?_
              refine sp_drop (lv' := [none, none, none]) trivial ?_
              exact hX0_join_71 hX hR hf
            · rw [if_pos hc] at hf
              refine sp_iconst (v := 0) (q := 65) hX dX0_join_64 li_0 rfl ?_
              refine sp_goto (tgt := 71) hX dX0_join_65 (by decide) ?_
              refine sp_drop (lv' := [none, none, none]) trivial ?_
              exact hX0_join_71 hX hR hf
          · rw [if_neg h12] at hf
            by_cases h13 : a0 = -9
            · rw [if_pos h13] at hf
              refine sp_tblIn (off := 55) (tgt := 56) hX dX0_join_1 (by rw [h13]; decide) (by rw [h13]; decide) (by rw [h13]; decide +kernel) (by decide) ?_
              refine sp_iload_n (i := 1) (q := 57) hX dX0_join_56 rfl rfl rfl ?_
              refine sp_iload_n (i := 2) (q := 58) hX dX0_join_57 rfl rfl rfl ?_
              refine sp_imul (q := 59) hX dX0_join_58 rfl ?_
              exact sp_iret hX hR dX0_join_59 hf (Nat.le_of_ble_eq_true rfl) (Nat.le_of_ble_eq_true rfl)
            · rw [if_neg h13] at hf
              by_cases h14 : a0 = -8
              · rw [if_pos h14] at hf
                refine sp_tblIn (off := 51) (tgt := 52) hX dX0_join_1 (by rw [h14]; decide) (by rw [h14]; decide) (by rw [h14]; decide +kernel) (by decide) ?_
                refine sp_iload_n (i := 1) (q := 53) hX dX0_join_52 rfl rfl rfl ?_
                refine sp_iload_n (i := 2) (q := 54) hX dX0_join_53 rfl rfl rfl ?_
                refine sp_isub (q := 55) hX dX0_join_54 rfl ?_
                exact sp_iret hX hR dX0_join_55 hf (Nat.le_of_ble_eq_true rfl) (Nat.le_of_ble_eq_true rfl)
              · rw [if_neg h14] at hf
                by_cases h15 : a0 = -7
                · rw [if_pos h15] at hf
                  refine sp_tblIn (off := 47) (tgt := 48) hX dX0_join_1 (by rw [h15]; decide) (by rw [h15]; decide) (by rw [h15]; decide +kernel) (by decide) ?_
                  refine sp_iload_n (i := 1) (q := 49) hX dX0_join_48 rfl rfl rfl ?_
                  refine sp_iload_n (i := 2) (q := 50) hX dX0_join_49 rfl rfl rfl ?_
                  refine sp_iadd (q := 51) hX dX0_join_50 rfl ?_
                  exact sp_iret hX hR dX0_join_51 hf (Nat.le_of_ble_eq_true rfl) (Nat.le_of_ble_eq_true rfl)
                · rw [if_neg h15] at hf
                  refine sp_tblOut (tgt := 108) hX dX0_join_1 (sp_swo (-14) (-7) (by decide) (fun kk hka hkb hke => by
                    rcases (show kk = -14 ∨ kk = -13 ∨ kk = -12 ∨ kk = -11 ∨ kk = -10 ∨ kk = -9 ∨ kk = -8 ∨ kk = -7 by omega) with rfl | rfl | rfl | rfl | rfl | rfl | rfl | rfl
                    · exact h1 (sp_i32 hke (by decide))
                    · exact h2 (sp_i32 hke (by decide))
                    · exact h6 (sp_i32 hke (by decide))
                    · exact h10 (sp_i32 hke (by decide))
                    · exact h12 (sp_i32 hke (by decide))
                    · exact h13 (sp_i32 hke (by decide))
                    · exact h14 (sp_i32 hke (by decide))
                    · exact h15 (sp_i32 hke (by decide)))) (by decide) ?_
                  refine sp_iload_n (i := 1) (q := 109) hX dX0_join_108 rfl rfl rfl ?_
                  refine sp_if_ne (tgt := 116) (q := 112) hX dX0_join_109 (by decide) rfl (fun hc => ?_) (fun hc => ?_)
                  · rw [if_neg hc] at hf
                    refine sp_drop (lv' := [none, none, none]) trivial ?_
                    exact hX0_join_116 hX hR hf
                  · rw [if_pos hc] at hf
                    refine sp_iload_n (i := 2) (q := 113) hX dX0_join_112 rfl rfl rfl ?_
                    refine sp_if_eq (tgt := 120) (q := 116) hX dX0_join_113 (by decide) rfl (fun hc => ?_) (fun hc => ?_)
                    · rw [if_pos hc] at hf
                      refine sp_iconst (v := 0) (q := 121) hX dX0_join_120 li_0 rfl ?_
                      refine sp_drop (lv' := [none, none, none]) trivial ?_
                      exact hX0_join_121 hX hR hf
                    · rw [if_neg hc] at hf
                      refine sp_drop (lv' := [none, none, none]) trivial ?_
                      exact hX0_join_116 hX hR hf
set_option maxRecDepth 100000 in
set_option maxHeartbeats 4000000 in
theorem cnX0_join {l : Launch} (hst : l.stackTraces = false) {w : sp_Wd} {n : Nat}  {σ : sp_St} {a0 : Int32} {a1 : Int32} {a2 : Int32} {τ : sp_St} {r : Int32}  (hf : X0_join n σ a0 a1 a2 = some (τ, r)) : sp_Ci shX l w yX0_join cX0_join 3 (some .int) rmX0_join 0 0 σ [.int a0, .int a1, .int a2] τ r :=
  sp_ci (own := RX0) (by decide) rfl hst (Nat.le_of_ble_eq_true rfl) rfl (fun X hX hw hl hR => by subst hw; subst hl; exact hX0_join hX hR   hf)
def rmX9_note : Room := { frames := 0, cells := 0, slots := 0, locals := 0 }
def X9_note_49 (n : Nat) (t : Nat) (σ : sp_St) : Option (sp_St) :=
  some σ
def X9_note (n : Nat)  (σ : sp_St) (t : Nat) (a1 : Int32) (a2 : Int32) (a3 : Int32) : Option (sp_St) :=
  if ((8 : Int32)) ≤ (σ.1 t 3) then
    X9_note_49 n t σ
  else
    sp_ck (sp_in (σ.1 t 3) 8) <|
    sp_pl (sp_sa σ (t + 1) (σ.1 t 3).toNatClampNeg a1) fun σ2 =>
    sp_ck (sp_in (σ2.1 t 3) 8) <|
    sp_pl (sp_sa σ2 (t + 2) (σ2.1 t 3).toNatClampNeg a2) fun σ5 =>
    sp_ck (sp_in (σ5.1 t 3) 8) <|
    sp_pl (sp_sa σ5 (t + 3) (σ5.1 t 3).toNatClampNeg a3) fun σ8 =>
    sp_pl (sp_si σ8 t 3 ((σ8.1 t 3) + ((1 : Int32)))) fun σ10 =>
    X9_note_49 n t σ10
set_option maxRecDepth 100000 in
set_option maxHeartbeats 4000000 in
theorem hX9_note_49 {X : sp_X} (hX : sp_OK shX X cX9_note RX9 4 rmX9_note) {τ : sp_St} (hR : sp_Rv shX X τ 0 0) {n : Nat}  {t : Nat} (ht : sp_at shX t 9 4)  {σ : sp_St} (hf : X9_note_49 n t σ = some τ) : sp_GG shX X σ 4 [none, none, none, none] [] 49 0 0 := by
  unfold X9_note_49 at hf
  exact sp_vret hX hR dX9_note_49 hf (Nat.le_of_ble_eq_true rfl) (Nat.le_of_ble_eq_true rfl)
set_option maxRecDepth 100000 in
set_option maxHeartbeats 4000000 in
theorem hX9_note {X : sp_X} (hX : sp_OK shX X cX9_note RX9 4 rmX9_note) {τ : sp_St} (hR : sp_Rv shX X τ 0 0) {n : Nat}  {σ : sp_St} {t : Nat} {a1 : Int32} {a2 : Int32} {a3 : Int32} (ht : sp_at shX t 9 4) (hf : X9_note n σ t a1 a2 a3 = some τ) : sp_GG shX X σ 4 [some (.ref (sx_ad X t)), some (.int a1), some (.int a2), some (.int a3)] [] 0 0 0 := by
  unfold X9_note at hf
  refine sp_aload_n (i := 0) (q := 1) hX dX9_note_0 rfl rfl rfl ?_
  refine sp_geti (q := 4) hX flX9_21 fkX9_3 ht dX9_note_1 rfl ?_
  refine sp_bipush (v := 8) (q := 6) hX dX9_note_4 lb_8 rfl ?_
  refine sp_icmp_ge (tgt := 49) (q := 9) hX dX9_note_6 (by decide) rfl (fun hc => ?_) (fun hc => ?_)
  · rw [if_pos hc] at hf
    refine sp_drop (lv' := [none, none, none, none]) trivial ?_
    exact hX9_note_49 hX hR ht hf
  · rw [if_neg hc] at hf
    refine sp_aload_n (i := 0) (q := 10) hX dX9_note_9 rfl rfl rfl ?_
    refine sp_gets (t := t + 1) (q := 13) hX flX9_9 fkX9_0 ht (msX9_0 ht) dX9_note_10 rfl ?_
    refine sp_aload_n (i := 0) (q := 14) hX dX9_note_13 rfl rfl rfl ?_
    refine sp_geti (q := 17) hX flX9_21 fkX9_3 ht dX9_note_14 rfl ?_
    refine sp_iload_n (i := 1) (q := 18) hX dX9_note_17 rfl rfl rfl ?_
    obtain ⟨h1, hf⟩ := sp_ck_some hf
    obtain ⟨σ2, e3, hf⟩ := sp_pl_some hf
    refine sp_iast (q := 19) hX (mfX9_0 ht) h1 dX9_note_18 rfl ?_
    refine sp_nms e3 ?_
    refine sp_aload_n (i := 0) (q := 20) hX dX9_note_19 rfl rfl rfl ?_
    refine sp_gets (t := t + 2) (q := 23) hX flX9_15 fkX9_1 ht (msX9_1 ht) dX9_note_20 rfl ?_
    refine sp_aload_n (i := 0) (q := 24) hX dX9_note_23 rfl rfl rfl ?_
    refine sp_geti (q := 27) hX flX9_21 fkX9_3 ht dX9_note_24 rfl ?_
    refine sp_iload_n (i := 2) (q := 28) hX dX9_note_27 rfl rfl rfl ?_
    obtain ⟨h4, hf⟩ := sp_ck_some hf
    obtain ⟨σ5, e6, hf⟩ := sp_pl_some hf
    refine sp_iast (q := 29) hX (mfX9_1 ht) h4 dX9_note_28 rfl ?_
    refine sp_nms e6 ?_
    refine sp_aload_n (i := 0) (q := 30) hX dX9_note_29 rfl rfl rfl ?_
    refine sp_gets (t := t + 3) (q := 33) hX flX9_18 fkX9_2 ht (msX9_2 ht) dX9_note_30 rfl ?_
    refine sp_aload_n (i := 0) (q := 34) hX dX9_note_33 rfl rfl rfl ?_
    refine sp_geti (q := 37) hX flX9_21 fkX9_3 ht dX9_note_34 rfl ?_
    refine sp_iload_n (i := 3) (q := 38) hX dX9_note_37 rfl rfl rfl ?_
    obtain ⟨h7, hf⟩ := sp_ck_some hf
    obtain ⟨σ8, e9, hf⟩ := sp_pl_some hf
    refine sp_iast (q := 39) hX (mfX9_2 ht) h7 dX9_note_38 rfl ?_
    refine sp_nms e9 ?_
    refine sp_aload_n (i := 0) (q := 40) hX dX9_note_39 rfl rfl rfl ?_
    refine sp_dup (q := 41) hX dX9_note_40 rfl rfl ?_
    refine sp_geti (q := 44) hX flX9_21 fkX9_3 ht dX9_note_41 rfl ?_
    refine sp_iconst (v := 1) (q := 45) hX dX9_note_44 li_1 rfl ?_
    refine sp_iadd (q := 46) hX dX9_note_45 rfl ?_
    obtain ⟨σ10, e11, hf⟩ := sp_pl_some hf
    refine sp_puti (q := 49) hX fpX9_21 fkX9_3 ht dX9_note_46 rfl ?_
    refine sp_nms e11 ?_
    refine sp_drop (lv' := [none, none, none, none]) trivial ?_
    exact hX9_note_49 hX hR ht hf
set_option maxRecDepth 100000 in
set_option maxHeartbeats 4000000 in
theorem cnX9_note {l : Launch} (hst : l.stackTraces = false) {w : sp_Wd} {n : Nat}  {σ : sp_St} {t : Nat} {a1 : Int32} {a2 : Int32} {a3 : Int32} {τ : sp_St} (ht : sp_at shX t 9 4) (hf : X9_note n σ t a1 a2 a3 = some τ) : sp_Cv shX l w yX9_note cX9_note 4 rmX9_note 0 0 σ [.ref (w.2.1 t), .int a1, .int a2, .int a3] τ :=
  sp_cv (own := RX9) (by decide) rfl hst (Nat.le_of_ble_eq_true rfl) rfl (fun X hX hw hl hR => by subst hw; subst hl; exact hX9_note hX hR  ht hf)
def rmX9_lastDay : Room := { frames := 1, cells := 0, slots := 0, locals := 24 }
def X9_lastDay_29 (n : Nat) (t : Nat) (σ : sp_St) (z1 : Int32) : Option (sp_St × Int32) :=
  some (σ, z1)
def X9_lastDay_4 (n : Nat) (t : Nat) : Nat → sp_St → Int32 → Int32 → Option (sp_St × Int32)
  | 0, _, _, _ => none
  | f + 1, σ, z1, z2 =>
    if (σ.1 t 3) ≤ z2 then
      X9_lastDay_29 n t σ z1
    else
      sp_ck (sp_in z2 8) <|
      sp_pl (sp_max z1 (sp_g σ (t + 2) z2)) fun v2 =>
      sp_pl (z2 + 1) fun x4 =>
      X9_lastDay_4 n t f σ v2 x4
def X9_lastDay (n : Nat)  (σ : sp_St) (t : Nat) : Option (sp_St × Int32) :=
  sp_pl ((-1 : Int32)) fun x1 =>
  sp_pl ((0 : Int32)) fun x3 =>
  X9_lastDay_4 n t n σ x1 x3
set_option maxRecDepth 100000 in
set_option maxHeartbeats 4000000 in
theorem hX9_lastDay_29 {X : sp_X} (hX : sp_OK shX X cX9_lastDay RX9 3 rmX9_lastDay) {τ : sp_St} {r : Int32} (hR : sp_Ri shX X (some .int) τ r 0 0) {n : Nat}  {t : Nat} (ht : sp_at shX t 9 4)  {σ : sp_St} {z1 : Int32} (hf : X9_lastDay_29 n t σ z1 = some (τ, r)) : sp_GG shX X σ 3 [none, some (.int z1), none] [] 29 0 0 := by
  unfold X9_lastDay_29 at hf
  refine sp_iload_n (i := 1) (q := 30) hX dX9_lastDay_29 rfl rfl rfl ?_
  exact sp_iret hX hR dX9_lastDay_30 hf (Nat.le_of_ble_eq_true rfl) (Nat.le_of_ble_eq_true rfl)
set_option maxRecDepth 100000 in
set_option maxHeartbeats 4000000 in
theorem hX9_lastDay_4 {X : sp_X} (hX : sp_OK shX X cX9_lastDay RX9 3 rmX9_lastDay) {τ : sp_St} {r : Int32} (hR : sp_Ri shX X (some .int) τ r 0 0) {n : Nat}  {t : Nat} (ht : sp_at shX t 9 4)  : ∀ (f : Nat) (σ : sp_St) (z1 : Int32) (z2 : Int32), X9_lastDay_4 n t f σ z1 z2 = some (τ, r) → sp_GG shX X σ 3 [some (.ref (sx_ad X t)), some (.int z1), some (.int z2)] [] 4 0 0 := by
  intro f
  induction f with
  | zero =>
    intro σ z1 z2 hf
    rw [X9_lastDay_4] at hf
    cases hf
  | succ f ih =>
    intro σ z1 z2 hf
    rw [X9_lastDay_4] at hf
    refine sp_iload_n (i := 2) (q := 5) hX dX9_lastDay_4 rfl rfl rfl ?_
    refine sp_aload_n (i := 0) (q := 6) hX dX9_lastDay_5 rfl rfl rfl ?_
    refine sp_geti (q := 9) hX flX9_21 fkX9_3 ht dX9_lastDay_6 rfl ?_
    refine sp_icmp_ge (tgt := 29) (q := 12) hX dX9_lastDay_9 (by decide) rfl (fun hc => ?_) (fun hc => ?_)
    · rw [if_pos hc] at hf
      refine sp_drop (lv' := [none, some (.int z1), none]) (And.intro rfl trivial) ?_
      exact hX9_lastDay_29 hX hR ht hf
    · rw [if_neg hc] at hf
      refine sp_iload_n (i := 1) (q := 13) hX dX9_lastDay_12 rfl rfl rfl ?_
      refine sp_aload_n (i := 0) (q := 14) hX dX9_lastDay_13 rfl rfl rfl ?_
      refine sp_gets (t := t + 2) (q := 17) hX flX9_15 fkX9_1 ht (msX9_1 ht) dX9_lastDay_14 rfl ?_
      refine sp_iload_n (i := 2) (q := 18) hX dX9_lastDay_17 rfl rfl rfl ?_
      obtain ⟨h1, hf⟩ := sp_ck_some hf
      refine sp_iald (q := 19) hX (mfX9_1 ht) h1 dX9_lastDay_18 rfl ?_
      obtain ⟨v2, e3, hf⟩ := sp_pl_some hf
      refine sp_mmax (q := 22) hX wd_1498 wd_656 wd_144 wd_657 (Nat.le_of_ble_eq_true rfl) (Nat.le_of_ble_eq_true rfl) (Nat.le_of_ble_eq_true rfl) (Nat.le_of_ble_eq_true rfl) dX9_lastDay_19 rfl ?_
      refine sp_nmi e3 ?_
      refine sp_istore_n (i := 1) (lv' := [some (.ref (sx_ad X t)), some (.int v2), some (.int z2)]) (q := 23) hX dX9_lastDay_22 rfl (Nat.le_of_ble_eq_true rfl) rfl rfl rfl ?_
      obtain ⟨x4, e5, hf⟩ := sp_pl_some hf
      refine sp_iinc (i := 2) (v := x4) (lv' := [some (.ref (sx_ad X t)), some (.int v2), some (.int x4)]) (q := 26) hX dX9_lastDay_23 rfl (by rw [e5, li_1]) (Nat.le_of_ble_eq_true rfl) rfl rfl rfl ?_
      refine sp_goto (tgt := 4) hX dX9_lastDay_26 (by decide) ?_
      exact ih σ v2 x4 hf
set_option maxRecDepth 100000 in
set_option maxHeartbeats 4000000 in
theorem hX9_lastDay {X : sp_X} (hX : sp_OK shX X cX9_lastDay RX9 3 rmX9_lastDay) {τ : sp_St} {r : Int32} (hR : sp_Ri shX X (some .int) τ r 0 0) {n : Nat}  {σ : sp_St} {t : Nat} (ht : sp_at shX t 9 4) (hf : X9_lastDay n σ t = some (τ, r)) : sp_GG shX X σ 3 [some (.ref (sx_ad X t)), none, none] [] 0 0 0 := by
  unfold X9_lastDay at hf
  refine sp_iconst (v := -1) (q := 1) hX dX9_lastDay_0 li_m1 rfl ?_
  obtain ⟨x1, e2, hf⟩ := sp_pl_some hf
  refine sp_nmi e2 ?_
  refine sp_istore_n (i := 1) (lv' := [some (.ref (sx_ad X t)), some (.int x1), none]) (q := 2) hX dX9_lastDay_1 rfl (Nat.le_of_ble_eq_true rfl) rfl rfl rfl ?_
  refine sp_iconst (v := 0) (q := 3) hX dX9_lastDay_2 li_0 rfl ?_
  obtain ⟨x3, e4, hf⟩ := sp_pl_some hf
  refine sp_nmi e4 ?_
  refine sp_istore_n (i := 2) (lv' := [some (.ref (sx_ad X t)), some (.int x1), some (.int x3)]) (q := 4) hX dX9_lastDay_3 rfl (Nat.le_of_ble_eq_true rfl) rfl rfl rfl ?_
  exact hX9_lastDay_4 hX hR ht n σ x1 x3 hf
set_option maxRecDepth 100000 in
set_option maxHeartbeats 4000000 in
theorem cnX9_lastDay {l : Launch} (hst : l.stackTraces = false) {w : sp_Wd} {n : Nat}  {σ : sp_St} {t : Nat} {τ : sp_St} {r : Int32} (ht : sp_at shX t 9 4) (hf : X9_lastDay n σ t = some (τ, r)) : sp_Ci shX l w yX9_lastDay cX9_lastDay 3 (some .int) rmX9_lastDay 0 0 σ [.ref (w.2.1 t)] τ r :=
  sp_ci (own := RX9) (by decide) rfl hst (Nat.le_of_ble_eq_true rfl) rfl (fun X hX hw hl hR => by subst hw; subst hl; exact hX9_lastDay hX hR  ht hf)
def rmX9_copy : Room := { frames := 1, cells := 0, slots := 0, locals := 100 }
def X9_copy (n : Nat)  (σ : sp_St) (t : Nat) (p1 : Nat) : Option (sp_St) :=
  sp_pl (sp_cp σ (p1 + 1) ((0 : Int32)) (t + 1) ((0 : Int32)) ((8 : Int32))) fun σ2 =>
  sp_pl (sp_cp σ2 (p1 + 2) ((0 : Int32)) (t + 2) ((0 : Int32)) ((8 : Int32))) fun σ5 =>
  sp_pl (sp_cp σ5 (p1 + 3) ((0 : Int32)) (t + 3) ((0 : Int32)) ((8 : Int32))) fun σ8 =>
  sp_pl (sp_si σ8 t 3 (σ8.1 p1 3)) fun σ10 =>
  some σ10
set_option maxRecDepth 100000 in
set_option maxHeartbeats 4000000 in
theorem hX9_copy {X : sp_X} (hX : sp_OK shX X cX9_copy RX9 2 rmX9_copy) {τ : sp_St} (hR : sp_Rv shX X τ 0 0) {n : Nat}  {σ : sp_St} {t : Nat} {p1 : Nat} (ht : sp_at shX t 9 4) (hp1 : sp_at shX p1 9 4) (hf : X9_copy n σ t p1 = some τ) : sp_GG shX X σ 2 [some (.ref (sx_ad X t)), some (.ref (sx_ad X p1))] [] 0 0 0 := by
  unfold X9_copy at hf
  refine sp_aload_n (i := 1) (q := 1) hX dX9_copy_0 rfl rfl rfl ?_
  refine sp_gets (t := p1 + 1) (q := 4) hX flX9_9 fkX9_0 hp1 (msX9_0 hp1) dX9_copy_1 rfl ?_
  refine sp_iconst (v := 0) (q := 5) hX dX9_copy_4 li_0 rfl ?_
  refine sp_aload_n (i := 0) (q := 6) hX dX9_copy_5 rfl rfl rfl ?_
  refine sp_gets (t := t + 1) (q := 9) hX flX9_9 fkX9_0 ht (msX9_0 ht) dX9_copy_6 rfl ?_
  refine sp_iconst (v := 0) (q := 10) hX dX9_copy_9 li_0 rfl ?_
  refine sp_bipush (v := 8) (q := 12) hX dX9_copy_10 lb_8 rfl ?_
  obtain ⟨σ2, e3, hf⟩ := sp_pl_some hf
  refine sp_copy (q := 15) hX wd_845 wd_605 wd_604 wd_150 (mfX9_0 hp1) (mfX9_0 ht) (by decide) (Nat.le_of_ble_eq_true rfl) (Nat.le_of_ble_eq_true rfl) dX9_copy_12 rfl ?_
  refine sp_nms e3 ?_
  refine sp_aload_n (i := 1) (q := 16) hX dX9_copy_15 rfl rfl rfl ?_
  refine sp_gets (t := p1 + 2) (q := 19) hX flX9_15 fkX9_1 hp1 (msX9_1 hp1) dX9_copy_16 rfl ?_
  refine sp_iconst (v := 0) (q := 20) hX dX9_copy_19 li_0 rfl ?_
  refine sp_aload_n (i := 0) (q := 21) hX dX9_copy_20 rfl rfl rfl ?_
  refine sp_gets (t := t + 2) (q := 24) hX flX9_15 fkX9_1 ht (msX9_1 ht) dX9_copy_21 rfl ?_
  refine sp_iconst (v := 0) (q := 25) hX dX9_copy_24 li_0 rfl ?_
  refine sp_bipush (v := 8) (q := 27) hX dX9_copy_25 lb_8 rfl ?_
  obtain ⟨σ5, e6, hf⟩ := sp_pl_some hf
  refine sp_copy (q := 30) hX wd_845 wd_605 wd_604 wd_150 (mfX9_1 hp1) (mfX9_1 ht) (by decide) (Nat.le_of_ble_eq_true rfl) (Nat.le_of_ble_eq_true rfl) dX9_copy_27 rfl ?_
  refine sp_nms e6 ?_
  refine sp_aload_n (i := 1) (q := 31) hX dX9_copy_30 rfl rfl rfl ?_
  refine sp_gets (t := p1 + 3) (q := 34) hX flX9_18 fkX9_2 hp1 (msX9_2 hp1) dX9_copy_31 rfl ?_
  refine sp_iconst (v := 0) (q := 35) hX dX9_copy_34 li_0 rfl ?_
  refine sp_aload_n (i := 0) (q := 36) hX dX9_copy_35 rfl rfl rfl ?_
  refine sp_gets (t := t + 3) (q := 39) hX flX9_18 fkX9_2 ht (msX9_2 ht) dX9_copy_36 rfl ?_
  refine sp_iconst (v := 0) (q := 40) hX dX9_copy_39 li_0 rfl ?_
  refine sp_bipush (v := 8) (q := 42) hX dX9_copy_40 lb_8 rfl ?_
  obtain ⟨σ8, e9, hf⟩ := sp_pl_some hf
  refine sp_copy (q := 45) hX wd_845 wd_605 wd_604 wd_150 (mfX9_2 hp1) (mfX9_2 ht) (by decide) (Nat.le_of_ble_eq_true rfl) (Nat.le_of_ble_eq_true rfl) dX9_copy_42 rfl ?_
  refine sp_nms e9 ?_
  refine sp_aload_n (i := 0) (q := 46) hX dX9_copy_45 rfl rfl rfl ?_
  refine sp_aload_n (i := 1) (q := 47) hX dX9_copy_46 rfl rfl rfl ?_
  refine sp_geti (q := 50) hX flX9_21 fkX9_3 hp1 dX9_copy_47 rfl ?_
  obtain ⟨σ10, e11, hf⟩ := sp_pl_some hf
  refine sp_puti (q := 53) hX fpX9_21 fkX9_3 ht dX9_copy_50 rfl ?_
  refine sp_nms e11 ?_
  exact sp_vret hX hR dX9_copy_53 hf (Nat.le_of_ble_eq_true rfl) (Nat.le_of_ble_eq_true rfl)
set_option maxRecDepth 100000 in
set_option maxHeartbeats 4000000 in
theorem cnX9_copy {l : Launch} (hst : l.stackTraces = false) {w : sp_Wd} {n : Nat}  {σ : sp_St} {t : Nat} {p1 : Nat} {τ : sp_St} (ht : sp_at shX t 9 4) (hp1 : sp_at shX p1 9 4) (hf : X9_copy n σ t p1 = some τ) : sp_Cv shX l w yX9_copy cX9_copy 2 rmX9_copy 0 0 σ [.ref (w.2.1 t), .ref (w.2.1 p1)] τ :=
  sp_cv (own := RX9) (by decide) rfl hst (Nat.le_of_ble_eq_true rfl) rfl (fun X hX hw hl hR => by subst hw; subst hl; exact hX9_copy hX hR  ht hp1 hf)
def rmX0_work : Room := { frames := 1, cells := 0, slots := 0, locals := 24 }
def X0_work_175 (n : Nat) (t : Nat) (p1 m1 : Nat) (σ : sp_St) (zs0 : Int32) : Option (sp_St × Int32) :=
  some (σ, zs0)
def X0_work_159 (n : Nat) (t : Nat) (p1 m1 : Nat) (σ : sp_St) (z4 : Int32) : Option (sp_St × Int32) :=
  if z4 = ((1 : Int32)) then
    X0_work_175 n t p1 m1 σ (sp_g σ (t + 1) ((0 : Int32)))
  else
    X0_work_175 n t p1 m1 σ ((0 : Int32))
def X0_work_153 (n : Nat) (t : Nat) (p1 m1 : Nat) (k10 : sp_St → Int32 → Int32 → Int32 → Option (sp_St × Int32)) (σ : sp_St) (z3 : Int32) (z4 : Int32) (z5 : Int32) : Option (sp_St × Int32) :=
  sp_pl (z5 + 1) fun x1 =>
  k10 σ z3 z4 x1
def X0_work_65 (n : Nat) (t : Nat) (p1 m1 : Nat) (k10 : sp_St → Int32 → Int32 → Int32 → Option (sp_St × Int32)) (σ : sp_St) (z3 : Int32) (z4 : Int32) (z5 : Int32) (zs0 : Int32) (zs1 : Int32) : Option (sp_St × Int32) :=
  sp_ck (sp_in zs1 40) <|
  sp_pl (sp_sa σ (t + 1) zs1.toNatClampNeg zs0) fun σ2 =>
  sp_pl (z4 + 1) fun x4 =>
  X0_work_153 n t p1 m1 k10 σ2 z3 x4 z5
def X0_work_10 (n : Nat) (t : Nat) (p1 m1 : Nat) : Nat → sp_St → Int32 → Int32 → Int32 → Option (sp_St × Int32)
  | 0, _, _, _, _ => none
  | f + 1, σ, z3, z4, z5 =>
    if z3 ≤ z5 then
      X0_work_159 n t p1 m1 σ z4
    else
      if (Int32.ofNat m1) ≤ z5 then
        X0_work_159 n t p1 m1 σ z4
      else
        sp_ck (sp_in z5 m1) <|
        sp_pl (sp_g σ p1 z5) fun x2 =>
        if x2 < ((-6 : Int32)) then
          if x2 = ((-13 : Int32)) then
            if z4 < ((1 : Int32)) then
              X0_work_153 n t p1 m1 (X0_work_10 n t p1 m1 f) σ z3 z4 z5
            else
              sp_ck (sp_in (z4 - ((1 : Int32))) 40) <|
              sp_pl (if (sp_g σ (t + 1) (z4 - ((1 : Int32)))) = 0 then ((1 : Int32)) else ((0 : Int32))) fun v15 =>
              sp_ck (sp_in (z4 - ((1 : Int32))) 40) <|
              sp_pl (sp_sa σ (t + 1) (z4 - ((1 : Int32))).toNatClampNeg v15) fun σ18 =>
              X0_work_153 n t p1 m1 (X0_work_10 n t p1 m1 f) σ18 z3 z4 z5
          else
            if z4 < ((2 : Int32)) then
              X0_work_153 n t p1 m1 (X0_work_10 n t p1 m1 f) σ z3 z4 z5
            else
              sp_pl (z4 + (-1)) fun x4 =>
              sp_ck (sp_in (x4 - ((1 : Int32))) 40) <|
              sp_ck (sp_in x4 40) <|
              sp_bd (X0_join n σ x2 (sp_g σ (t + 1) (x4 - ((1 : Int32)))) (sp_g σ (t + 1) x4)) fun σ9 v10 =>
              sp_ck (sp_in (x4 - ((1 : Int32))) 40) <|
              sp_pl (sp_sa σ9 (t + 1) (x4 - ((1 : Int32))).toNatClampNeg v10) fun σ12 =>
              X0_work_153 n t p1 m1 (X0_work_10 n t p1 m1 f) σ12 z3 x4 z5
        else
          if ((40 : Int32)) ≤ z4 then
            X0_work_153 n t p1 m1 (X0_work_10 n t p1 m1 f) σ z3 z4 z5
          else
            if x2 < 0 then
              sp_bd (X0_valueOf n σ t x2) fun σ22 v23 =>
              X0_work_65 n t p1 m1 (X0_work_10 n t p1 m1 f) σ22 z3 z4 z5 v23 z4
            else
              X0_work_65 n t p1 m1 (X0_work_10 n t p1 m1 f) σ z3 z4 z5 x2 z4
def X0_work (n : Nat)  (σ : sp_St) (t : Nat) (p1 m1 : Nat) (a2 : Int32) (a3 : Int32) : Option (sp_St × Int32) :=
  sp_pl ((0 : Int32)) fun x1 =>
  sp_pl (sp_max ((0 : Int32)) a2) fun v3 =>
  X0_work_10 n t p1 m1 n σ a3 x1 v3
set_option maxRecDepth 100000 in
set_option maxHeartbeats 4000000 in
theorem hX0_work_175 {X : sp_X} (hX : sp_OK shX X cX0_work RX0 7 rmX0_work) {τ : sp_St} {r : Int32} (hR : sp_Ri shX X (some .int) τ r 0 0) {n : Nat}  {t : Nat} (ht : sp_at shX t 0 7) {p1 m1 : Nat} (hp1 : sp_ar shX p1 1 m1)  {σ : sp_St} {zs0 : Int32} (hf : X0_work_175 n t p1 m1 σ zs0 = some (τ, r)) : sp_GG shX X σ 7 [none, none, none, none, none, none, none] [.int zs0] 175 0 0 := by
  unfold X0_work_175 at hf
  exact sp_iret hX hR dX0_work_175 hf (Nat.le_of_ble_eq_true rfl) (Nat.le_of_ble_eq_true rfl)
set_option maxRecDepth 100000 in
set_option maxHeartbeats 4000000 in
theorem hX0_work_159 {X : sp_X} (hX : sp_OK shX X cX0_work RX0 7 rmX0_work) {τ : sp_St} {r : Int32} (hR : sp_Ri shX X (some .int) τ r 0 0) {n : Nat}  {t : Nat} (ht : sp_at shX t 0 7) {p1 m1 : Nat} (hp1 : sp_ar shX p1 1 m1)  {σ : sp_St} {z4 : Int32} (hf : X0_work_159 n t p1 m1 σ z4 = some (τ, r)) : sp_GG shX X σ 7 [some (.ref (sx_ad X t)), none, none, none, some (.int z4), none, none] [] 159 0 0 := by
  unfold X0_work_159 at hf
  refine sp_iload (i := 4) (q := 161) hX dX0_work_159 rfl rfl ?_
  refine sp_iconst (v := 1) (q := 162) hX dX0_work_161 li_1 rfl ?_
  refine sp_icmp_ne (tgt := 174) (q := 165) hX dX0_work_162 (by decide) rfl (fun hc => ?_) (fun hc => ?_)
  · rw [if_neg hc] at hf
    refine sp_iconst (v := 0) (q := 175) hX dX0_work_174 li_0 rfl ?_
    refine sp_drop (lv' := [none, none, none, none, none, none, none]) trivial ?_
    exact hX0_work_175 hX hR ht hp1 hf
  · rw [if_pos hc] at hf
    refine sp_aload_n (i := 0) (q := 166) hX dX0_work_165 rfl rfl rfl ?_
    refine sp_gets (t := t + 1) (q := 169) hX flX0_9 fkX0_0 ht (msX0_0 ht) dX0_work_166 rfl ?_
    refine sp_iconst (v := 0) (q := 170) hX dX0_work_169 li_0 rfl ?_
    refine sp_iald (q := 171) hX (mfX0_0 ht) (by decide) dX0_work_170 rfl ?_
    refine sp_goto (tgt := 175) hX dX0_work_171 (by decide) ?_
    refine sp_drop (lv' := [none, none, none, none, none, none, none]) trivial ?_
    exact hX0_work_175 hX hR ht hp1 hf
set_option maxRecDepth 100000 in
set_option maxHeartbeats 4000000 in
theorem hX0_work_153 {X : sp_X} (hX : sp_OK shX X cX0_work RX0 7 rmX0_work) {τ : sp_St} {r : Int32} (hR : sp_Ri shX X (some .int) τ r 0 0) {n : Nat}  {t : Nat} (ht : sp_at shX t 0 7) {p1 m1 : Nat} (hp1 : sp_ar shX p1 1 m1) {k10 : sp_St → Int32 → Int32 → Int32 → Option (sp_St × Int32)} (hk10 : ∀ (σ : sp_St) (z3 : Int32) (z4 : Int32) (z5 : Int32), k10 σ z3 z4 z5 = some (τ, r) → sp_GG shX X σ 7 [some (.ref (sx_ad X t)), some (.ref (sx_ad X p1)), none, some (.int z3), some (.int z4), some (.int z5), none] [] 10 0 0) {σ : sp_St} {z3 : Int32} {z4 : Int32} {z5 : Int32} (hf : X0_work_153 n t p1 m1 k10 σ z3 z4 z5 = some (τ, r)) : sp_GG shX X σ 7 [some (.ref (sx_ad X t)), some (.ref (sx_ad X p1)), none, some (.int z3), some (.int z4), some (.int z5), none] [] 153 0 0 := by
  unfold X0_work_153 at hf
  obtain ⟨x1, e2, hf⟩ := sp_pl_some hf
  refine sp_iinc (i := 5) (v := x1) (lv' := [some (.ref (sx_ad X t)), some (.ref (sx_ad X p1)), none, some (.int z3), some (.int z4), some (.int x1), none]) (q := 156) hX dX0_work_153 rfl (by rw [e2, li_1]) (Nat.le_of_ble_eq_true rfl) rfl rfl rfl ?_
  refine sp_goto (tgt := 10) hX dX0_work_156 (by decide) ?_
  exact hk10 σ z3 z4 x1 hf
set_option maxRecDepth 100000 in
set_option maxHeartbeats 4000000 in
theorem hX0_work_65 {X : sp_X} (hX : sp_OK shX X cX0_work RX0 7 rmX0_work) {τ : sp_St} {r : Int32} (hR : sp_Ri shX X (some .int) τ r 0 0) {n : Nat}  {t : Nat} (ht : sp_at shX t 0 7) {p1 m1 : Nat} (hp1 : sp_ar shX p1 1 m1) {k10 : sp_St → Int32 → Int32 → Int32 → Option (sp_St × Int32)} (hk10 : ∀ (σ : sp_St) (z3 : Int32) (z4 : Int32) (z5 : Int32), k10 σ z3 z4 z5 = some (τ, r) → sp_GG shX X σ 7 [some (.ref (sx_ad X t)), some (.ref (sx_ad X p1)), none, some (.int z3), some (.int z4), some (.int z5), none] [] 10 0 0) {σ : sp_St} {z3 : Int32} {z4 : Int32} {z5 : Int32} {zs0 : Int32} {zs1 : Int32} (hf : X0_work_65 n t p1 m1 k10 σ z3 z4 z5 zs0 zs1 = some (τ, r)) : sp_GG shX X σ 7 [some (.ref (sx_ad X t)), some (.ref (sx_ad X p1)), none, some (.int z3), some (.int z4), some (.int z5), none] [.int zs0, .int zs1, .ref (sx_ad X (t + 1))] 65 0 0 := by
  unfold X0_work_65 at hf
  obtain ⟨h1, hf⟩ := sp_ck_some hf
  obtain ⟨σ2, e3, hf⟩ := sp_pl_some hf
  refine sp_iast (q := 66) hX (mfX0_0 ht) h1 dX0_work_65 rfl ?_
  refine sp_nms e3 ?_
  obtain ⟨x4, e5, hf⟩ := sp_pl_some hf
  refine sp_iinc (i := 4) (v := x4) (lv' := [some (.ref (sx_ad X t)), some (.ref (sx_ad X p1)), none, some (.int z3), some (.int x4), some (.int z5), none]) (q := 69) hX dX0_work_66 rfl (by rw [e5, li_1]) (Nat.le_of_ble_eq_true rfl) rfl rfl rfl ?_
  refine sp_goto (tgt := 153) hX dX0_work_69 (by decide) ?_
  exact hX0_work_153 hX hR ht hp1 hk10 hf
set_option maxRecDepth 100000 in
set_option maxHeartbeats 4000000 in
theorem hX0_work_10 {X : sp_X} (hX : sp_OK shX X cX0_work RX0 7 rmX0_work) {τ : sp_St} {r : Int32} (hR : sp_Ri shX X (some .int) τ r 0 0) {n : Nat}  {t : Nat} (ht : sp_at shX t 0 7) {p1 m1 : Nat} (hp1 : sp_ar shX p1 1 m1)  : ∀ (f : Nat) (σ : sp_St) (z3 : Int32) (z4 : Int32) (z5 : Int32), X0_work_10 n t p1 m1 f σ z3 z4 z5 = some (τ, r) → sp_GG shX X σ 7 [some (.ref (sx_ad X t)), some (.ref (sx_ad X p1)), none, some (.int z3), some (.int z4), some (.int z5), none] [] 10 0 0 := by
  intro f
  induction f with
  | zero =>
    intro σ z3 z4 z5 hf
    rw [X0_work_10] at hf
    cases hf
  | succ f ih =>
    intro σ z3 z4 z5 hf
    rw [X0_work_10] at hf
    refine sp_iload (i := 5) (q := 12) hX dX0_work_10 rfl rfl ?_
    refine sp_iload_n (i := 3) (q := 13) hX dX0_work_12 rfl rfl rfl ?_
    refine sp_icmp_ge (tgt := 159) (q := 16) hX dX0_work_13 (by decide) rfl (fun hc => ?_) (fun hc => ?_)
    · rw [if_pos hc] at hf
      refine sp_drop (lv' := [some (.ref (sx_ad X t)), none, none, none, some (.int z4), none, none]) (And.intro rfl (And.intro rfl trivial)) ?_
      exact hX0_work_159 hX hR ht hp1 hf
    · rw [if_neg hc] at hf
      refine sp_iload (i := 5) (q := 18) hX dX0_work_16 rfl rfl ?_
      refine sp_aload_n (i := 1) (q := 19) hX dX0_work_18 rfl rfl rfl ?_
      refine sp_aleni (v := Int32.ofNat m1) (q := 20) hX hp1 rfl dX0_work_19 rfl ?_
      refine sp_icmp_ge (tgt := 159) (q := 23) hX dX0_work_20 (by decide) rfl (fun hc => ?_) (fun hc => ?_)
      · rw [if_pos hc] at hf
        refine sp_drop (lv' := [some (.ref (sx_ad X t)), none, none, none, some (.int z4), none, none]) (And.intro rfl (And.intro rfl trivial)) ?_
        exact hX0_work_159 hX hR ht hp1 hf
      · rw [if_neg hc] at hf
        refine sp_aload_n (i := 1) (q := 24) hX dX0_work_23 rfl rfl rfl ?_
        refine sp_iload (i := 5) (q := 26) hX dX0_work_24 rfl rfl ?_
        obtain ⟨h1, hf⟩ := sp_ck_some hf
        refine sp_iald (q := 27) hX hp1 h1 dX0_work_26 rfl ?_
        obtain ⟨x2, e3, hf⟩ := sp_pl_some hf
        refine sp_nmi e3 ?_
        refine sp_istore (i := 6) (lv' := [some (.ref (sx_ad X t)), some (.ref (sx_ad X p1)), none, some (.int z3), some (.int z4), some (.int z5), some (.int x2)]) (q := 29) hX dX0_work_27 (Nat.le_of_ble_eq_true rfl) rfl rfl rfl ?_
        refine sp_iload (i := 6) (q := 31) hX dX0_work_29 rfl rfl ?_
        refine sp_bipush (v := -6) (q := 33) hX dX0_work_31 lb_m6 rfl ?_
        refine sp_icmp_lt (tgt := 72) (q := 36) hX dX0_work_33 (by decide) rfl (fun hc => ?_) (fun hc => ?_)
        · rw [if_pos hc] at hf
          refine sp_iload (i := 6) (q := 74) hX dX0_work_72 rfl rfl ?_
          refine sp_bipush (v := -13) (q := 76) hX dX0_work_74 lb_m13 rfl ?_
          refine sp_icmp_ne (tgt := 114) (q := 79) hX dX0_work_76 (by decide) rfl (fun hc => ?_) (fun hc => ?_)
          · rw [if_neg hc] at hf
            refine sp_iload (i := 4) (q := 116) hX dX0_work_114 rfl rfl ?_
            refine sp_iconst (v := 2) (q := 117) hX dX0_work_116 li_2 rfl ?_
            refine sp_icmp_lt (tgt := 153) (q := 120) hX dX0_work_117 (by decide) rfl (fun hc => ?_) (fun hc => ?_)
            · rw [if_pos hc] at hf
              refine sp_drop (lv' := [some (.ref (sx_ad X t)), some (.ref (sx_ad X p1)), none, some (.int z3), some (.int z4), some (.int z5), none]) (And.intro rfl (And.intro rfl (And.intro rfl (And.intro rfl (And.intro rfl trivial))))) ?_
              exact hX0_work_153 hX hR ht hp1 ih hf
            · rw [if_neg hc] at hf
              obtain ⟨x4, e5, hf⟩ := sp_pl_some hf
              refine sp_iinc (i := 4) (v := x4) (lv' := [some (.ref (sx_ad X t)), some (.ref (sx_ad X p1)), none, some (.int z3), some (.int x4), some (.int z5), some (.int x2)]) (q := 123) hX dX0_work_120 rfl (by rw [e5, li_m1]) (Nat.le_of_ble_eq_true rfl) rfl rfl rfl ?_
              refine sp_aload_n (i := 0) (q := 124) hX dX0_work_123 rfl rfl rfl ?_
              refine sp_gets (t := t + 1) (q := 127) hX flX0_9 fkX0_0 ht (msX0_0 ht) dX0_work_124 rfl ?_
              refine sp_iload (i := 4) (q := 129) hX dX0_work_127 rfl rfl ?_
              refine sp_iconst (v := 1) (q := 130) hX dX0_work_129 li_1 rfl ?_
              refine sp_isub (q := 131) hX dX0_work_130 rfl ?_
              refine sp_iload (i := 6) (q := 133) hX dX0_work_131 rfl rfl ?_
              refine sp_aload_n (i := 0) (q := 134) hX dX0_work_133 rfl rfl rfl ?_
              refine sp_gets (t := t + 1) (q := 137) hX flX0_9 fkX0_0 ht (msX0_0 ht) dX0_work_134 rfl ?_
              refine sp_iload (i := 4) (q := 139) hX dX0_work_137 rfl rfl ?_
              refine sp_iconst (v := 1) (q := 140) hX dX0_work_139 li_1 rfl ?_
              refine sp_isub (q := 141) hX dX0_work_140 rfl ?_
              obtain ⟨h6, hf⟩ := sp_ck_some hf
              refine sp_iald (q := 142) hX (mfX0_0 ht) h6 dX0_work_141 rfl ?_
              refine sp_aload_n (i := 0) (q := 143) hX dX0_work_142 rfl rfl rfl ?_
              refine sp_gets (t := t + 1) (q := 146) hX flX0_9 fkX0_0 ht (msX0_0 ht) dX0_work_143 rfl ?_
              refine sp_iload (i := 4) (q := 148) hX dX0_work_146 rfl rfl ?_
              obtain ⟨h7, hf⟩ := sp_ck_some hf
              refine sp_iald (q := 149) hX (mfX0_0 ht) h7 dX0_work_148 rfl ?_
              obtain ⟨σ9, v10, h8, hf⟩ := sp_bd_so hf
              refine sp_callSi (As := [.int x2, .int (sp_g σ (t + 1) (x4 - ((1 : Int32)))), .int (sp_g σ (t + 1) x4)]) (rest := [.int (x4 - ((1 : Int32))), .ref (sx_ad X (t + 1))]) (q := 152) hX (cnX0_join (sp_st hX)  h8) cwX0_42 rfl rfl rfl rfl (Nat.le_of_ble_eq_true rfl) (Nat.le_of_ble_eq_true rfl) (Nat.le_of_ble_eq_true rfl) (Nat.le_of_ble_eq_true rfl) (Nat.le_of_ble_eq_true rfl) dX0_work_149 rfl ?_
              obtain ⟨h11, hf⟩ := sp_ck_some hf
              obtain ⟨σ12, e13, hf⟩ := sp_pl_some hf
              refine sp_iast (q := 153) hX (mfX0_0 ht) h11 dX0_work_152 rfl ?_
              refine sp_nms e13 ?_
              refine sp_drop (lv' := [some (.ref (sx_ad X t)), some (.ref (sx_ad X p1)), none, some (.int z3), some (.int x4), some (.int z5), none]) (And.intro rfl (And.intro rfl (And.intro rfl (And.intro rfl (And.intro rfl trivial))))) ?_
              exact hX0_work_153 hX hR ht hp1 ih hf
          · rw [if_pos hc] at hf
            refine sp_iload (i := 4) (q := 81) hX dX0_work_79 rfl rfl ?_
            refine sp_iconst (v := 1) (q := 82) hX dX0_work_81 li_1 rfl ?_
            refine sp_icmp_lt (tgt := 153) (q := 85) hX dX0_work_82 (by decide) rfl (fun hc => ?_) (fun hc => ?_)
            · rw [if_pos hc] at hf
              refine sp_drop (lv' := [some (.ref (sx_ad X t)), some (.ref (sx_ad X p1)), none, some (.int z3), some (.int z4), some (.int z5), none]) (And.intro rfl (And.intro rfl (And.intro rfl (And.intro rfl (And.intro rfl trivial))))) ?_
              exact hX0_work_153 hX hR ht hp1 ih hf
            · rw [if_neg hc] at hf
              refine sp_aload_n (i := 0) (q := 86) hX dX0_work_85 rfl rfl rfl ?_
              refine sp_gets (t := t + 1) (q := 89) hX flX0_9 fkX0_0 ht (msX0_0 ht) dX0_work_86 rfl ?_
              refine sp_iload (i := 4) (q := 91) hX dX0_work_89 rfl rfl ?_
              refine sp_iconst (v := 1) (q := 92) hX dX0_work_91 li_1 rfl ?_
              refine sp_isub (q := 93) hX dX0_work_92 rfl ?_
              refine sp_aload_n (i := 0) (q := 94) hX dX0_work_93 rfl rfl rfl ?_
              refine sp_gets (t := t + 1) (q := 97) hX flX0_9 fkX0_0 ht (msX0_0 ht) dX0_work_94 rfl ?_
              refine sp_iload (i := 4) (q := 99) hX dX0_work_97 rfl rfl ?_
              refine sp_iconst (v := 1) (q := 100) hX dX0_work_99 li_1 rfl ?_
              refine sp_isub (q := 101) hX dX0_work_100 rfl ?_
              obtain ⟨h14, hf⟩ := sp_ck_some hf
              refine sp_iald (q := 102) hX (mfX0_0 ht) h14 dX0_work_101 rfl ?_
              obtain ⟨v15, e16, hf⟩ := sp_pl_some hf
              have hj20 : sp_GG shX X σ 7 [some (.ref (sx_ad X t)), some (.ref (sx_ad X p1)), none, some (.int z3), some (.int z4), some (.int z5), some (.int x2)] [.int v15, .int (z4 - ((1 : Int32))), .ref (sx_ad X (t + 1))] 110 0 0 := by
                obtain ⟨h17, hf⟩ := sp_ck_some hf
                obtain ⟨σ18, e19, hf⟩ := sp_pl_some hf
                refine sp_iast (q := 111) hX (mfX0_0 ht) h17 dX0_work_110 rfl ?_
                refine sp_nms e19 ?_
                refine sp_goto (tgt := 153) hX dX0_work_111 (by decide) ?_
                refine sp_drop (lv' := [some (.ref (sx_ad X t)), some (.ref (sx_ad X p1)), none, some (.int z3), some (.int z4), some (.int z5), none]) (And.intro rfl (And.intro rfl (And.intro rfl (And.intro rfl (And.intro rfl trivial))))) ?_
                exact hX0_work_153 hX hR ht hp1 ih hf
              refine sp_if_ne (tgt := 109) (q := 105) hX dX0_work_102 (by decide) rfl (fun hc => ?_) (fun hc => ?_)
              · refine sp_iconst (v := 0) (q := 110) hX dX0_work_109 li_0 rfl ?_
                exact sp_nmi (by rw [e16, if_neg hc]) hj20
              · refine sp_iconst (v := 1) (q := 106) hX dX0_work_105 li_1 rfl ?_
                refine sp_goto (tgt := 110) hX dX0_work_106 (by decide) ?_
                exact sp_nmi (by rw [e16, if_pos hc]) hj20
        · rw [if_neg hc] at hf
          refine sp_iload (i := 4) (q := 38) hX dX0_work_36 rfl rfl ?_
          refine sp_bipush (v := 40) (q := 40) hX dX0_work_38 lb_40 rfl ?_
          refine sp_icmp_ge (tgt := 153) (q := 43) hX dX0_work_40 (by decide) rfl (fun hc => ?_) (fun hc => ?_)
          · rw [if_pos hc] at hf
            refine sp_drop (lv' := [some (.ref (sx_ad X t)), some (.ref (sx_ad X p1)), none, some (.int z3), some (.int z4), some (.int z5), none]) (And.intro rfl (And.intro rfl (And.intro rfl (And.intro rfl (And.intro rfl trivial))))) ?_
            exact hX0_work_153 hX hR ht hp1 ih hf
          · rw [if_neg hc] at hf
            refine sp_aload_n (i := 0) (q := 44) hX dX0_work_43 rfl rfl rfl ?_
            refine sp_gets (t := t + 1) (q := 47) hX flX0_9 fkX0_0 ht (msX0_0 ht) dX0_work_44 rfl ?_
            refine sp_iload (i := 4) (q := 49) hX dX0_work_47 rfl rfl ?_
            refine sp_iload (i := 6) (q := 51) hX dX0_work_49 rfl rfl ?_
            refine sp_if_lt (tgt := 59) (q := 54) hX dX0_work_51 (by decide) rfl (fun hc => ?_) (fun hc => ?_)
            · rw [if_pos hc] at hf
              refine sp_aload_n (i := 0) (q := 60) hX dX0_work_59 rfl rfl rfl ?_
              refine sp_iload (i := 6) (q := 62) hX dX0_work_60 rfl rfl ?_
              obtain ⟨σ22, v23, h21, hf⟩ := sp_bd_so hf
              refine sp_callVi (As := [.int x2]) (rest := [.int z4, .ref (sx_ad X (t + 1))]) (q := 65) hX (cnX0_valueOf (sp_st hX) ht h21) cwX0_38 ht rfl rfl rfl rfl rfl (Nat.le_of_ble_eq_true rfl) (Nat.le_of_ble_eq_true rfl) (Nat.le_of_ble_eq_true rfl) (Nat.le_of_ble_eq_true rfl) (Nat.le_of_ble_eq_true rfl) dX0_work_62 rfl ?_
              refine sp_drop (lv' := [some (.ref (sx_ad X t)), some (.ref (sx_ad X p1)), none, some (.int z3), some (.int z4), some (.int z5), none]) (And.intro rfl (And.intro rfl (And.intro rfl (And.intro rfl (And.intro rfl trivial))))) ?_
              exact hX0_work_65 hX hR ht hp1 ih hf
            · rw [if_neg hc] at hf
              refine sp_iload (i := 6) (q := 56) hX dX0_work_54 rfl rfl ?_
              refine sp_goto (tgt := 65) hX dX0_work_56 (by decide) ?_
              refine sp_drop (lv' := [some (.ref (sx_ad X t)), some (.ref (sx_ad X p1)), none, some (.int z3), some (.int z4), some (.int z5), none]) (And.intro rfl (And.intro rfl (And.intro rfl (And.intro rfl (And.intro rfl trivial))))) ?_
              exact hX0_work_65 hX hR ht hp1 ih hf
set_option maxRecDepth 100000 in
set_option maxHeartbeats 4000000 in
theorem hX0_work {X : sp_X} (hX : sp_OK shX X cX0_work RX0 7 rmX0_work) {τ : sp_St} {r : Int32} (hR : sp_Ri shX X (some .int) τ r 0 0) {n : Nat}  {σ : sp_St} {t : Nat} {p1 m1 : Nat} {a2 : Int32} {a3 : Int32} (ht : sp_at shX t 0 7) (hp1 : sp_ar shX p1 1 m1) (hf : X0_work n σ t p1 m1 a2 a3 = some (τ, r)) : sp_GG shX X σ 7 [some (.ref (sx_ad X t)), some (.ref (sx_ad X p1)), some (.int a2), some (.int a3), none, none, none] [] 0 0 0 := by
  unfold X0_work at hf
  refine sp_iconst (v := 0) (q := 1) hX dX0_work_0 li_0 rfl ?_
  obtain ⟨x1, e2, hf⟩ := sp_pl_some hf
  refine sp_nmi e2 ?_
  refine sp_istore (i := 4) (lv' := [some (.ref (sx_ad X t)), some (.ref (sx_ad X p1)), some (.int a2), some (.int a3), some (.int x1), none, none]) (q := 3) hX dX0_work_1 (Nat.le_of_ble_eq_true rfl) rfl rfl rfl ?_
  refine sp_iconst (v := 0) (q := 4) hX dX0_work_3 li_0 rfl ?_
  refine sp_iload_n (i := 2) (q := 5) hX dX0_work_4 rfl rfl rfl ?_
  obtain ⟨v3, e4, hf⟩ := sp_pl_some hf
  refine sp_mmax (q := 8) hX wd_655 wd_656 wd_144 wd_657 (Nat.le_of_ble_eq_true rfl) (Nat.le_of_ble_eq_true rfl) (Nat.le_of_ble_eq_true rfl) (Nat.le_of_ble_eq_true rfl) dX0_work_5 rfl ?_
  refine sp_nmi e4 ?_
  refine sp_istore (i := 5) (lv' := [some (.ref (sx_ad X t)), some (.ref (sx_ad X p1)), some (.int a2), some (.int a3), some (.int x1), some (.int v3), none]) (q := 10) hX dX0_work_8 (Nat.le_of_ble_eq_true rfl) rfl rfl rfl ?_
  refine sp_drop (lv' := [some (.ref (sx_ad X t)), some (.ref (sx_ad X p1)), none, some (.int a3), some (.int x1), some (.int v3), none]) (And.intro rfl (And.intro rfl (And.intro rfl (And.intro rfl (And.intro rfl trivial))))) ?_
  exact hX0_work_10 hX hR ht hp1 n σ a3 x1 v3 hf
set_option maxRecDepth 100000 in
set_option maxHeartbeats 4000000 in
theorem cnX0_work {l : Launch} (hst : l.stackTraces = false) {w : sp_Wd} {n : Nat}  {σ : sp_St} {t : Nat} {p1 m1 : Nat} {a2 : Int32} {a3 : Int32} {τ : sp_St} {r : Int32} (ht : sp_at shX t 0 7) (hp1 : sp_ar shX p1 1 m1) (hf : X0_work n σ t p1 m1 a2 a3 = some (τ, r)) : sp_Ci shX l w yX0_work cX0_work 7 (some .int) rmX0_work 0 0 σ [.ref (w.2.1 t), .ref (w.2.1 p1), .int a2, .int a3] τ r :=
  sp_ci (own := RX0) (by decide) rfl hst (Nat.le_of_ble_eq_true rfl) rfl (fun X hX hw hl hR => by subst hw; subst hl; exact hX0_work hX hR  ht hp1 hf)
