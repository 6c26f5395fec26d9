def rmX4_after : Room := { frames := 5, cells := 0, slots := 0, locals := 122 }
def X4_after_31 (n : Nat) (σ : sp_St) : Option (sp_St × Nat) :=
  some (σ, 50)
def X4_after_13 (n : Nat) : Nat → sp_St → Int32 → Int32 → Option (sp_St × Nat)
  | 0, _, _, _ => none
  | f + 1, σ, z1, z2 =>
    if z1 ≤ z2 then
      X4_after_31 n σ
    else
      sp_bv (X8_passDay n σ 50) fun σ2 =>
      sp_pl (z2 + 1) fun x3 =>
      X4_after_13 n f σ2 z1 x3
def X4_after (n : Nat)  (σ : sp_St) (a1 : Int32) : Option (sp_St × Nat) :=
  sp_bv (X8_copy n σ 50 23) fun σ2 =>
  sp_pl ((0 : Int32)) fun x3 =>
  X4_after_13 n n σ2 a1 x3
set_option maxRecDepth 100000 in
set_option maxHeartbeats 4000000 in
theorem hX4_after_31 {X : sp_X} (hX : sp_OK shX X cX4_after RX4 3 rmX4_after) {τ : sp_St} {r : Nat} (hR : sp_Rr shX X (some (.object "SwordPeace$Scene")) τ r 0 0) {n : Nat}    {σ : sp_St} (hf : X4_after_31 n σ = some (τ, r)) : sp_GG shX X σ 3 [some (.ref (sx_ad X 57)), none, none] [] 31 0 0 := by
  unfold X4_after_31 at hf
  refine sp_aload_n (i := 0) (q := 32) hX dX4_after_31 rfl rfl rfl ?_
  refine sp_gets (t := 50) (q := 35) hX flX4_22 fkX4_1 atX_57 srX_57_1 dX4_after_32 rfl ?_
  exact sp_aret hX hR dX4_after_35 hf (Nat.le_of_ble_eq_true rfl) (Nat.le_of_ble_eq_true rfl)
set_option maxRecDepth 100000 in
set_option maxHeartbeats 4000000 in
theorem hX4_after_13 {X : sp_X} (hX : sp_OK shX X cX4_after RX4 3 rmX4_after) {τ : sp_St} {r : Nat} (hR : sp_Rr shX X (some (.object "SwordPeace$Scene")) τ r 0 0) {n : Nat}    : ∀ (f : Nat) (σ : sp_St) (z1 : Int32) (z2 : Int32), X4_after_13 n f σ z1 z2 = some (τ, r) → sp_GG shX X σ 3 [some (.ref (sx_ad X 57)), some (.int z1), some (.int z2)] [] 13 0 0 := by
  intro f
  induction f with
  | zero =>
    intro σ z1 z2 hf
    rw [X4_after_13] at hf
    cases hf
  | succ f ih =>
    intro σ z1 z2 hf
    rw [X4_after_13] at hf
    refine sp_iload_n (i := 2) (q := 14) hX dX4_after_13 rfl rfl rfl ?_
    refine sp_iload_n (i := 1) (q := 15) hX dX4_after_14 rfl rfl rfl ?_
    refine sp_icmp_ge (tgt := 31) (q := 18) hX dX4_after_15 (by decide) rfl (fun hc => ?_) (fun hc => ?_)
    · rw [if_pos hc] at hf
      refine sp_drop (lv' := [some (.ref (sx_ad X 57)), none, none]) (And.intro rfl trivial) ?_
      exact hX4_after_31 hX hR hf
    · rw [if_neg hc] at hf
      refine sp_aload_n (i := 0) (q := 19) hX dX4_after_18 rfl rfl rfl ?_
      refine sp_gets (t := 50) (q := 22) hX flX4_22 fkX4_1 atX_57 srX_57_1 dX4_after_19 rfl ?_
      obtain ⟨σ2, h1, hf⟩ := sp_bv_so hf
      refine sp_callVv (As := []) (rest := []) (q := 25) hX (cnX8_passDay (sp_st hX) atX_50 h1) cwX4_31 atX_50 rfl rfl rfl rfl rfl (Nat.le_of_ble_eq_true rfl) (Nat.le_of_ble_eq_true rfl) (Nat.le_of_ble_eq_true rfl) (Nat.le_of_ble_eq_true rfl) (Nat.le_of_ble_eq_true rfl) dX4_after_22 rfl ?_
      obtain ⟨x3, e4, hf⟩ := sp_pl_some hf
      refine sp_iinc (i := 2) (v := x3) (lv' := [some (.ref (sx_ad X 57)), some (.int z1), some (.int x3)]) (q := 28) hX dX4_after_25 rfl (by rw [e4, li_1]) (Nat.le_of_ble_eq_true rfl) rfl rfl rfl ?_
      refine sp_goto (tgt := 13) hX dX4_after_28 (by decide) ?_
      exact ih σ2 z1 x3 hf
set_option maxRecDepth 100000 in
set_option maxHeartbeats 4000000 in
theorem hX4_after {X : sp_X} (hX : sp_OK shX X cX4_after RX4 3 rmX4_after) {τ : sp_St} {r : Nat} (hR : sp_Rr shX X (some (.object "SwordPeace$Scene")) τ r 0 0) {n : Nat}  {σ : sp_St} {a1 : Int32}  (hf : X4_after n σ a1 = some (τ, r)) : sp_GG shX X σ 3 [some (.ref (sx_ad X 57)), some (.int a1), none] [] 0 0 0 := by
  unfold X4_after at hf
  refine sp_aload_n (i := 0) (q := 1) hX dX4_after_0 rfl rfl rfl ?_
  refine sp_gets (t := 50) (q := 4) hX flX4_22 fkX4_1 atX_57 srX_57_1 dX4_after_1 rfl ?_
  refine sp_aload_n (i := 0) (q := 5) hX dX4_after_4 rfl rfl rfl ?_
  refine sp_gets (t := 23) (q := 8) hX flX4_18 fkX4_0 atX_57 srX_57_0 dX4_after_5 rfl ?_
  obtain ⟨σ2, h1, hf⟩ := sp_bv_so hf
  refine sp_callVv (As := [.ref (sx_ad X 23)]) (rest := []) (q := 11) hX (cnX8_copy (sp_st hX) atX_50 atX_23 h1) cwX4_25 atX_50 rfl rfl rfl rfl rfl (Nat.le_of_ble_eq_true rfl) (Nat.le_of_ble_eq_true rfl) (Nat.le_of_ble_eq_true rfl) (Nat.le_of_ble_eq_true rfl) (Nat.le_of_ble_eq_true rfl) dX4_after_8 rfl ?_
  refine sp_iconst (v := 0) (q := 12) hX dX4_after_11 li_0 rfl ?_
  obtain ⟨x3, e4, hf⟩ := sp_pl_some hf
  refine sp_nmi e4 ?_
  refine sp_istore_n (i := 2) (lv' := [some (.ref (sx_ad X 57)), some (.int a1), some (.int x3)]) (q := 13) hX dX4_after_12 rfl (Nat.le_of_ble_eq_true rfl) rfl rfl rfl ?_
  exact hX4_after_13 hX hR n σ2 a1 x3 hf
set_option maxRecDepth 100000 in
set_option maxHeartbeats 4000000 in
theorem cnX4_after {l : Launch} (hst : l.stackTraces = false) {w : sp_Wd} {n : Nat}  {σ : sp_St} {a1 : Int32} {τ : sp_St} {r : Nat}  (hf : X4_after n σ a1 = some (τ, r)) : sp_Cr shX l w yX4_after cX4_after 3 (some (.object "SwordPeace$Scene")) rmX4_after 0 0 σ [.ref (w.2.1 57), .int a1] τ r :=
  sp_cr (own := RX4) (by decide) rfl hst (Nat.le_of_ble_eq_true rfl) rfl (fun X hX hw hl hR => by subst hw; subst hl; exact hX4_after hX hR   hf)
def rmX4_fightsDreamt : Room := { frames := 0, cells := 0, slots := 0, locals := 0 }
def X4_fightsDreamt (n : Nat)  (σ : sp_St)  : Option (sp_St × Int32) :=
  some (σ, (sp_g σ 51 ((48 : Int32))) - (sp_g σ 24 ((48 : Int32))))
set_option maxRecDepth 100000 in
set_option maxHeartbeats 4000000 in
theorem hX4_fightsDreamt {X : sp_X} (hX : sp_OK shX X cX4_fightsDreamt RX4 1 rmX4_fightsDreamt) {τ : sp_St} {r : Int32} (hR : sp_Ri shX X (some .int) τ r 0 0) {n : Nat}  {σ : sp_St}   (hf : X4_fightsDreamt n σ = some (τ, r)) : sp_GG shX X σ 1 [some (.ref (sx_ad X 57))] [] 0 0 0 := by
  unfold X4_fightsDreamt at hf
  refine sp_aload_n (i := 0) (q := 1) hX dX4_fightsDreamt_0 rfl rfl rfl ?_
  refine sp_gets (t := 50) (q := 4) hX flX4_22 fkX4_1 atX_57 srX_57_1 dX4_fightsDreamt_1 rfl ?_
  refine sp_gets (t := 51) (q := 7) hX flX4_34 fkX8_1 atX_50 srX_50_1 dX4_fightsDreamt_4 rfl ?_
  refine sp_bipush (v := 48) (q := 9) hX dX4_fightsDreamt_7 lb_48 rfl ?_
  refine sp_iald (q := 10) hX arX_51 (by decide) dX4_fightsDreamt_9 rfl ?_
  refine sp_aload_n (i := 0) (q := 11) hX dX4_fightsDreamt_10 rfl rfl rfl ?_
  refine sp_gets (t := 23) (q := 14) hX flX4_18 fkX4_0 atX_57 srX_57_0 dX4_fightsDreamt_11 rfl ?_
  refine sp_gets (t := 24) (q := 17) hX flX4_34 fkX8_1 atX_23 srX_23_1 dX4_fightsDreamt_14 rfl ?_
  refine sp_bipush (v := 48) (q := 19) hX dX4_fightsDreamt_17 lb_48 rfl ?_
  refine sp_iald (q := 20) hX arX_24 (by decide) dX4_fightsDreamt_19 rfl ?_
  refine sp_isub (q := 21) hX dX4_fightsDreamt_20 rfl ?_
  exact sp_iret hX hR dX4_fightsDreamt_21 hf (Nat.le_of_ble_eq_true rfl) (Nat.le_of_ble_eq_true rfl)
set_option maxRecDepth 100000 in
set_option maxHeartbeats 4000000 in
theorem cnX4_fightsDreamt {l : Launch} (hst : l.stackTraces = false) {w : sp_Wd} {n : Nat}  {σ : sp_St}  {τ : sp_St} {r : Int32}  (hf : X4_fightsDreamt n σ = some (τ, r)) : sp_Ci shX l w yX4_fightsDreamt cX4_fightsDreamt 1 (some .int) rmX4_fightsDreamt 0 0 σ [.ref (w.2.1 57)] τ r :=
  sp_ci (own := RX4) (by decide) rfl hst (Nat.le_of_ble_eq_true rfl) rfl (fun X hX hw hl hR => by subst hw; subst hl; exact hX4_fightsDreamt hX hR   hf)
def rmX4_dreamFirstFight : Room := { frames := 5, cells := 0, slots := 0, locals := 116 }
def X4_dreamFirstFight_30 (n : Nat) (σ : sp_St) : Option (sp_St × Int32) :=
  some (σ, (61 : Int32))
def X4_dreamFirstFight_22 (n : Nat) (σ : sp_St) (z1 : Int32) : Option (sp_St × Int32) :=
  some (σ, z1)
def X4_dreamFirstFight_2 (n : Nat) : Nat → sp_St → Int32 → Option (sp_St × Int32)
  | 0, _, _ => none
  | f + 1, σ, z1 =>
    if ((60 : Int32)) < z1 then
      X4_dreamFirstFight_30 n σ
    else
      sp_bv (X8_passDay n σ 50) fun σ2 =>
      sp_bd (X4_fightsDreamt n σ2) fun σ4 v5 =>
      if v5 ≤ 0 then
        sp_pl (z1 + 1) fun x6 =>
        X4_dreamFirstFight_2 n f σ4 x6
      else
        X4_dreamFirstFight_22 n σ4 z1
def X4_dreamFirstFight (n : Nat)  (σ : sp_St)  : Option (sp_St × Int32) :=
  sp_pl ((1 : Int32)) fun x1 =>
  X4_dreamFirstFight_2 n n σ x1
set_option maxRecDepth 100000 in
set_option maxHeartbeats 4000000 in
theorem hX4_dreamFirstFight_30 {X : sp_X} (hX : sp_OK shX X cX4_dreamFirstFight RX4 2 rmX4_dreamFirstFight) {τ : sp_St} {r : Int32} (hR : sp_Ri shX X (some .int) τ r 0 0) {n : Nat}    {σ : sp_St} (hf : X4_dreamFirstFight_30 n σ = some (τ, r)) : sp_GG shX X σ 2 [none, none] [] 30 0 0 := by
  unfold X4_dreamFirstFight_30 at hf
  refine sp_bipush (v := 61) (q := 32) hX dX4_dreamFirstFight_30 lb_61 rfl ?_
  exact sp_iret hX hR dX4_dreamFirstFight_32 hf (Nat.le_of_ble_eq_true rfl) (Nat.le_of_ble_eq_true rfl)
set_option maxRecDepth 100000 in
set_option maxHeartbeats 4000000 in
theorem hX4_dreamFirstFight_22 {X : sp_X} (hX : sp_OK shX X cX4_dreamFirstFight RX4 2 rmX4_dreamFirstFight) {τ : sp_St} {r : Int32} (hR : sp_Ri shX X (some .int) τ r 0 0) {n : Nat}    {σ : sp_St} {z1 : Int32} (hf : X4_dreamFirstFight_22 n σ z1 = some (τ, r)) : sp_GG shX X σ 2 [none, some (.int z1)] [] 22 0 0 := by
  unfold X4_dreamFirstFight_22 at hf
  refine sp_iload_n (i := 1) (q := 23) hX dX4_dreamFirstFight_22 rfl rfl rfl ?_
  exact sp_iret hX hR dX4_dreamFirstFight_23 hf (Nat.le_of_ble_eq_true rfl) (Nat.le_of_ble_eq_true rfl)
set_option maxRecDepth 100000 in
set_option maxHeartbeats 4000000 in
theorem hX4_dreamFirstFight_2 {X : sp_X} (hX : sp_OK shX X cX4_dreamFirstFight RX4 2 rmX4_dreamFirstFight) {τ : sp_St} {r : Int32} (hR : sp_Ri shX X (some .int) τ r 0 0) {n : Nat}    : ∀ (f : Nat) (σ : sp_St) (z1 : Int32), X4_dreamFirstFight_2 n f σ z1 = some (τ, r) → sp_GG shX X σ 2 [some (.ref (sx_ad X 57)), some (.int z1)] [] 2 0 0 := by
  intro f
  induction f with
  | zero =>
    intro σ z1 hf
    rw [X4_dreamFirstFight_2] at hf
    cases hf
  | succ f ih =>
    intro σ z1 hf
    rw [X4_dreamFirstFight_2] at hf
    refine sp_iload_n (i := 1) (q := 3) hX dX4_dreamFirstFight_2 rfl rfl rfl ?_
    refine sp_bipush (v := 60) (q := 5) hX dX4_dreamFirstFight_3 lb_60 rfl ?_
    refine sp_icmp_gt (tgt := 30) (q := 8) hX dX4_dreamFirstFight_5 (by decide) rfl (fun hc => ?_) (fun hc => ?_)
    · rw [if_pos hc] at hf
      refine sp_drop (lv' := [none, none]) trivial ?_
      exact hX4_dreamFirstFight_30 hX hR hf
    · rw [if_neg hc] at hf
      refine sp_aload_n (i := 0) (q := 9) hX dX4_dreamFirstFight_8 rfl rfl rfl ?_
      refine sp_gets (t := 50) (q := 12) hX flX4_22 fkX4_1 atX_57 srX_57_1 dX4_dreamFirstFight_9 rfl ?_
      obtain ⟨σ2, h1, hf⟩ := sp_bv_so hf
      refine sp_callVv (As := []) (rest := []) (q := 15) hX (cnX8_passDay (sp_st hX) atX_50 h1) cwX4_31 atX_50 rfl rfl rfl rfl rfl (Nat.le_of_ble_eq_true rfl) (Nat.le_of_ble_eq_true rfl) (Nat.le_of_ble_eq_true rfl) (Nat.le_of_ble_eq_true rfl) (Nat.le_of_ble_eq_true rfl) dX4_dreamFirstFight_12 rfl ?_
      refine sp_aload_n (i := 0) (q := 16) hX dX4_dreamFirstFight_15 rfl rfl rfl ?_
      obtain ⟨σ4, v5, h3, hf⟩ := sp_bd_so hf
      refine sp_callVi (As := []) (rest := []) (q := 19) hX (cnX4_fightsDreamt (sp_st hX)  h3) cwX4_41 atX_57 rfl rfl rfl rfl rfl (Nat.le_of_ble_eq_true rfl) (Nat.le_of_ble_eq_true rfl) (Nat.le_of_ble_eq_true rfl) (Nat.le_of_ble_eq_true rfl) (Nat.le_of_ble_eq_true rfl) dX4_dreamFirstFight_16 rfl ?_
      refine sp_if_le (tgt := 24) (q := 22) hX dX4_dreamFirstFight_19 (by decide) rfl (fun hc => ?_) (fun hc => ?_)
      · rw [if_pos hc] at hf
        obtain ⟨x6, e7, hf⟩ := sp_pl_some hf
        refine sp_iinc (i := 1) (v := x6) (lv' := [some (.ref (sx_ad X 57)), some (.int x6)]) (q := 27) hX dX4_dreamFirstFight_24 rfl (by rw [e7, li_1]) (Nat.le_of_ble_eq_true rfl) rfl rfl rfl ?_
        refine sp_goto (tgt := 2) hX dX4_dreamFirstFight_27 (by decide) ?_
        exact ih σ4 x6 hf
      · rw [if_neg hc] at hf
        refine sp_drop (lv' := [none, some (.int z1)]) (And.intro rfl trivial) ?_
        exact hX4_dreamFirstFight_22 hX hR hf
set_option maxRecDepth 100000 in
set_option maxHeartbeats 4000000 in
theorem hX4_dreamFirstFight {X : sp_X} (hX : sp_OK shX X cX4_dreamFirstFight RX4 2 rmX4_dreamFirstFight) {τ : sp_St} {r : Int32} (hR : sp_Ri shX X (some .int) τ r 0 0) {n : Nat}  {σ : sp_St}   (hf : X4_dreamFirstFight n σ = some (τ, r)) : sp_GG shX X σ 2 [some (.ref (sx_ad X 57)), none] [] 0 0 0 := by
  unfold X4_dreamFirstFight at hf
  refine sp_iconst (v := 1) (q := 1) hX dX4_dreamFirstFight_0 li_1 rfl ?_
  obtain ⟨x1, e2, hf⟩ := sp_pl_some hf
  refine sp_nmi e2 ?_
  refine sp_istore_n (i := 1) (lv' := [some (.ref (sx_ad X 57)), some (.int x1)]) (q := 2) hX dX4_dreamFirstFight_1 rfl (Nat.le_of_ble_eq_true rfl) rfl rfl rfl ?_
  exact hX4_dreamFirstFight_2 hX hR n σ x1 hf
set_option maxRecDepth 100000 in
set_option maxHeartbeats 4000000 in
theorem cnX4_dreamFirstFight {l : Launch} (hst : l.stackTraces = false) {w : sp_Wd} {n : Nat}  {σ : sp_St}  {τ : sp_St} {r : Int32}  (hf : X4_dreamFirstFight n σ = some (τ, r)) : sp_Ci shX l w yX4_dreamFirstFight cX4_dreamFirstFight 2 (some .int) rmX4_dreamFirstFight 0 0 σ [.ref (w.2.1 57)] τ r :=
  sp_ci (own := RX4) (by decide) rfl hst (Nat.le_of_ble_eq_true rfl) rfl (fun X hX hw hl hR => by subst hw; subst hl; exact hX4_dreamFirstFight hX hR   hf)
def rmX4_daysToRest : Room := { frames := 5, cells := 0, slots := 0, locals := 122 }
def X4_daysToRest_51 (n : Nat) (σ : sp_St) : Option (sp_St × Int32) :=
  some (σ, (-1 : Int32))
def X4_daysToRest_36 (n : Nat) (σ : sp_St) (z2 : Int32) : Option (sp_St × Int32) :=
  some (σ, z2)
def X4_daysToRest_13 (n : Nat) : Nat → sp_St → Int32 → Int32 → Option (sp_St × Int32)
  | 0, _, _, _ => none
  | f + 1, σ, z1, z2 =>
    if ((60 : Int32)) < z2 then
      X4_daysToRest_51 n σ
    else
      sp_ck (sp_in (((10 : Int32)) + z1) 50) <|
      if (sp_g σ 51 (((10 : Int32)) + z1)) = ((6 : Int32)) then
        X4_daysToRest_36 n σ z2
      else
        sp_bv (X8_passDay n σ 50) fun σ3 =>
        sp_pl (z2 + 1) fun x4 =>
        X4_daysToRest_13 n f σ3 z1 x4
def X4_daysToRest (n : Nat)  (σ : sp_St) (a1 : Int32) : Option (sp_St × Int32) :=
  sp_bv (X8_copy n σ 50 23) fun σ2 =>
  sp_pl ((0 : Int32)) fun x3 =>
  X4_daysToRest_13 n n σ2 a1 x3
set_option maxRecDepth 100000 in
set_option maxHeartbeats 4000000 in
theorem hX4_daysToRest_51 {X : sp_X} (hX : sp_OK shX X cX4_daysToRest RX4 3 rmX4_daysToRest) {τ : sp_St} {r : Int32} (hR : sp_Ri shX X (some .int) τ r 0 0) {n : Nat}    {σ : sp_St} (hf : X4_daysToRest_51 n σ = some (τ, r)) : sp_GG shX X σ 3 [none, none, none] [] 51 0 0 := by
  unfold X4_daysToRest_51 at hf
  refine sp_iconst (v := -1) (q := 52) hX dX4_daysToRest_51 li_m1 rfl ?_
  exact sp_iret hX hR dX4_daysToRest_52 hf (Nat.le_of_ble_eq_true rfl) (Nat.le_of_ble_eq_true rfl)
set_option maxRecDepth 100000 in
set_option maxHeartbeats 4000000 in
theorem hX4_daysToRest_36 {X : sp_X} (hX : sp_OK shX X cX4_daysToRest RX4 3 rmX4_daysToRest) {τ : sp_St} {r : Int32} (hR : sp_Ri shX X (some .int) τ r 0 0) {n : Nat}    {σ : sp_St} {z2 : Int32} (hf : X4_daysToRest_36 n σ z2 = some (τ, r)) : sp_GG shX X σ 3 [none, none, some (.int z2)] [] 36 0 0 := by
  unfold X4_daysToRest_36 at hf
  refine sp_iload_n (i := 2) (q := 37) hX dX4_daysToRest_36 rfl rfl rfl ?_
  exact sp_iret hX hR dX4_daysToRest_37 hf (Nat.le_of_ble_eq_true rfl) (Nat.le_of_ble_eq_true rfl)
set_option maxRecDepth 100000 in
set_option maxHeartbeats 4000000 in
theorem hX4_daysToRest_13 {X : sp_X} (hX : sp_OK shX X cX4_daysToRest RX4 3 rmX4_daysToRest) {τ : sp_St} {r : Int32} (hR : sp_Ri shX X (some .int) τ r 0 0) {n : Nat}    : ∀ (f : Nat) (σ : sp_St) (z1 : Int32) (z2 : Int32), X4_daysToRest_13 n f σ z1 z2 = some (τ, r) → sp_GG shX X σ 3 [some (.ref (sx_ad X 57)), some (.int z1), some (.int z2)] [] 13 0 0 := by
  intro f
  induction f with
  | zero =>
    intro σ z1 z2 hf
    rw [X4_daysToRest_13] at hf
    cases hf
  | succ f ih =>
    intro σ z1 z2 hf
    rw [X4_daysToRest_13] at hf
    refine sp_iload_n (i := 2) (q := 14) hX dX4_daysToRest_13 rfl rfl rfl ?_
    refine sp_bipush (v := 60) (q := 16) hX dX4_daysToRest_14 lb_60 rfl ?_
    refine sp_icmp_gt (tgt := 51) (q := 19) hX dX4_daysToRest_16 (by decide) rfl (fun hc => ?_) (fun hc => ?_)
    · rw [if_pos hc] at hf
      refine sp_drop (lv' := [none, none, none]) trivial ?_
      exact hX4_daysToRest_51 hX hR hf
    · rw [if_neg hc] at hf
      refine sp_aload_n (i := 0) (q := 20) hX dX4_daysToRest_19 rfl rfl rfl ?_
      refine sp_gets (t := 50) (q := 23) hX flX4_22 fkX4_1 atX_57 srX_57_1 dX4_daysToRest_20 rfl ?_
      refine sp_gets (t := 51) (q := 26) hX flX4_34 fkX8_1 atX_50 srX_50_1 dX4_daysToRest_23 rfl ?_
      refine sp_bipush (v := 10) (q := 28) hX dX4_daysToRest_26 lb_10 rfl ?_
      refine sp_iload_n (i := 1) (q := 29) hX dX4_daysToRest_28 rfl rfl rfl ?_
      refine sp_iadd (q := 30) hX dX4_daysToRest_29 rfl ?_
      obtain ⟨h1, hf⟩ := sp_ck_some hf
      refine sp_iald (q := 31) hX arX_51 h1 dX4_daysToRest_30 rfl ?_
      refine sp_bipush (v := 6) (q := 33) hX dX4_daysToRest_31 lb_6 rfl ?_
      refine sp_icmp_ne (tgt := 38) (q := 36) hX dX4_daysToRest_33 (by decide) rfl (fun hc => ?_) (fun hc => ?_)
      · rw [if_neg hc] at hf
        refine sp_aload_n (i := 0) (q := 39) hX dX4_daysToRest_38 rfl rfl rfl ?_
        refine sp_gets (t := 50) (q := 42) hX flX4_22 fkX4_1 atX_57 srX_57_1 dX4_daysToRest_39 rfl ?_
        obtain ⟨σ3, h2, hf⟩ := sp_bv_so hf
        refine sp_callVv (As := []) (rest := []) (q := 45) hX (cnX8_passDay (sp_st hX) atX_50 h2) cwX4_31 atX_50 rfl rfl rfl rfl rfl (Nat.le_of_ble_eq_true rfl) (Nat.le_of_ble_eq_true rfl) (Nat.le_of_ble_eq_true rfl) (Nat.le_of_ble_eq_true rfl) (Nat.le_of_ble_eq_true rfl) dX4_daysToRest_42 rfl ?_
        obtain ⟨x4, e5, hf⟩ := sp_pl_some hf
        refine sp_iinc (i := 2) (v := x4) (lv' := [some (.ref (sx_ad X 57)), some (.int z1), some (.int x4)]) (q := 48) hX dX4_daysToRest_45 rfl (by rw [e5, li_1]) (Nat.le_of_ble_eq_true rfl) rfl rfl rfl ?_
        refine sp_goto (tgt := 13) hX dX4_daysToRest_48 (by decide) ?_
        exact ih σ3 z1 x4 hf
      · rw [if_pos hc] at hf
        refine sp_drop (lv' := [none, none, some (.int z2)]) (And.intro rfl trivial) ?_
        exact hX4_daysToRest_36 hX hR hf
set_option maxRecDepth 100000 in
set_option maxHeartbeats 4000000 in
theorem hX4_daysToRest {X : sp_X} (hX : sp_OK shX X cX4_daysToRest RX4 3 rmX4_daysToRest) {τ : sp_St} {r : Int32} (hR : sp_Ri shX X (some .int) τ r 0 0) {n : Nat}  {σ : sp_St} {a1 : Int32}  (hf : X4_daysToRest n σ a1 = some (τ, r)) : sp_GG shX X σ 3 [some (.ref (sx_ad X 57)), some (.int a1), none] [] 0 0 0 := by
  unfold X4_daysToRest at hf
  refine sp_aload_n (i := 0) (q := 1) hX dX4_daysToRest_0 rfl rfl rfl ?_
  refine sp_gets (t := 50) (q := 4) hX flX4_22 fkX4_1 atX_57 srX_57_1 dX4_daysToRest_1 rfl ?_
  refine sp_aload_n (i := 0) (q := 5) hX dX4_daysToRest_4 rfl rfl rfl ?_
  refine sp_gets (t := 23) (q := 8) hX flX4_18 fkX4_0 atX_57 srX_57_0 dX4_daysToRest_5 rfl ?_
  obtain ⟨σ2, h1, hf⟩ := sp_bv_so hf
  refine sp_callVv (As := [.ref (sx_ad X 23)]) (rest := []) (q := 11) hX (cnX8_copy (sp_st hX) atX_50 atX_23 h1) cwX4_25 atX_50 rfl rfl rfl rfl rfl (Nat.le_of_ble_eq_true rfl) (Nat.le_of_ble_eq_true rfl) (Nat.le_of_ble_eq_true rfl) (Nat.le_of_ble_eq_true rfl) (Nat.le_of_ble_eq_true rfl) dX4_daysToRest_8 rfl ?_
  refine sp_iconst (v := 0) (q := 12) hX dX4_daysToRest_11 li_0 rfl ?_
  obtain ⟨x3, e4, hf⟩ := sp_pl_some hf
  refine sp_nmi e4 ?_
  refine sp_istore_n (i := 2) (lv' := [some (.ref (sx_ad X 57)), some (.int a1), some (.int x3)]) (q := 13) hX dX4_daysToRest_12 rfl (Nat.le_of_ble_eq_true rfl) rfl rfl rfl ?_
  exact hX4_daysToRest_13 hX hR n σ2 a1 x3 hf
set_option maxRecDepth 100000 in
set_option maxHeartbeats 4000000 in
theorem cnX4_daysToRest {l : Launch} (hst : l.stackTraces = false) {w : sp_Wd} {n : Nat}  {σ : sp_St} {a1 : Int32} {τ : sp_St} {r : Int32}  (hf : X4_daysToRest n σ a1 = some (τ, r)) : sp_Ci shX l w yX4_daysToRest cX4_daysToRest 3 (some .int) rmX4_daysToRest 0 0 σ [.ref (w.2.1 57), .int a1] τ r :=
  sp_ci (own := RX4) (by decide) rfl hst (Nat.le_of_ble_eq_true rfl) rfl (fun X hX hw hl hR => by subst hw; subst hl; exact hX4_daysToRest hX hR   hf)
def rmX4_worstHouse : Room := { frames := 6, cells := 0, slots := 0, locals := 144 }
def X4_worstHouse_54 (n : Nat) (σ : sp_St) (z2 : Int32) : Option (sp_St × Int32) :=
  some (σ, z2)
def X4_worstHouse_48 (n : Nat) (k13 : sp_St → Int32 → Int32 → Int32 → Option (sp_St × Int32)) (σ : sp_St) (z2 : Int32) (z3 : Int32) (z4 : Int32) : Option (sp_St × Int32) :=
  sp_pl (z4 + 1) fun x1 =>
  k13 σ z2 z3 x1
def X4_worstHouse_13 (n : Nat) : Nat → sp_St → Int32 → Int32 → Int32 → Option (sp_St × Int32)
  | 0, _, _, _, _ => none
  | f + 1, σ, z2, z3, z4 =>
    if ((6 : Int32)) ≤ z4 then
      X4_worstHouse_54 n σ z2
    else
      sp_ck (sp_in z4 6) <|
      if (sp_g σ 52 z4) ≤ z3 then
        X4_worstHouse_48 n (X4_worstHouse_13 n f) σ z2 z3 z4
      else
        sp_ck (sp_in z4 6) <|
        sp_pl (sp_g σ 52 z4) fun x3 =>
        X4_worstHouse_48 n (X4_worstHouse_13 n f) σ z4 x3 z4
def X4_worstHouse (n : Nat)  (σ : sp_St) (a1 : Int32) : Option (sp_St × Int32) :=
  sp_bd (X4_after n σ a1) fun σ2 r3 =>
  sp_ck (decide (r3 = 50)) <|
  sp_pl ((-1 : Int32)) fun x6 =>
  sp_pl ((0 : Int32)) fun x8 =>
  sp_pl ((0 : Int32)) fun x10 =>
  X4_worstHouse_13 n n σ2 x6 x8 x10
set_option maxRecDepth 100000 in
set_option maxHeartbeats 4000000 in
theorem hX4_worstHouse_54 {X : sp_X} (hX : sp_OK shX X cX4_worstHouse RX4 5 rmX4_worstHouse) {τ : sp_St} {r : Int32} (hR : sp_Ri shX X (some .int) τ r 0 0) {n : Nat}    {σ : sp_St} {z2 : Int32} (hf : X4_worstHouse_54 n σ z2 = some (τ, r)) : sp_GG shX X σ 5 [none, none, some (.int z2), none, none] [] 54 0 0 := by
  unfold X4_worstHouse_54 at hf
  refine sp_iload_n (i := 2) (q := 55) hX dX4_worstHouse_54 rfl rfl rfl ?_
  exact sp_iret hX hR dX4_worstHouse_55 hf (Nat.le_of_ble_eq_true rfl) (Nat.le_of_ble_eq_true rfl)
set_option maxRecDepth 100000 in
set_option maxHeartbeats 4000000 in
theorem hX4_worstHouse_48 {X : sp_X} (hX : sp_OK shX X cX4_worstHouse RX4 5 rmX4_worstHouse) {τ : sp_St} {r : Int32} (hR : sp_Ri shX X (some .int) τ r 0 0) {n : Nat}   {k13 : sp_St → Int32 → Int32 → Int32 → Option (sp_St × Int32)} (hk13 : ∀ (σ : sp_St) (z2 : Int32) (z3 : Int32) (z4 : Int32), k13 σ z2 z3 z4 = some (τ, r) → sp_GG shX X σ 5 [some (.ref (sx_ad X 57)), none, some (.int z2), some (.int z3), some (.int z4)] [] 13 0 0) {σ : sp_St} {z2 : Int32} {z3 : Int32} {z4 : Int32} (hf : X4_worstHouse_48 n k13 σ z2 z3 z4 = some (τ, r)) : sp_GG shX X σ 5 [some (.ref (sx_ad X 57)), none, some (.int z2), some (.int z3), some (.int z4)] [] 48 0 0 := by
  unfold X4_worstHouse_48 at hf
  obtain ⟨x1, e2, hf⟩ := sp_pl_some hf
  refine sp_iinc (i := 4) (v := x1) (lv' := [some (.ref (sx_ad X 57)), none, some (.int z2), some (.int z3), some (.int x1)]) (q := 51) hX dX4_worstHouse_48 rfl (by rw [e2, li_1]) (Nat.le_of_ble_eq_true rfl) rfl rfl rfl ?_
  refine sp_goto (tgt := 13) hX dX4_worstHouse_51 (by decide) ?_
  exact hk13 σ z2 z3 x1 hf
set_option maxRecDepth 100000 in
set_option maxHeartbeats 4000000 in
theorem hX4_worstHouse_13 {X : sp_X} (hX : sp_OK shX X cX4_worstHouse RX4 5 rmX4_worstHouse) {τ : sp_St} {r : Int32} (hR : sp_Ri shX X (some .int) τ r 0 0) {n : Nat}    : ∀ (f : Nat) (σ : sp_St) (z2 : Int32) (z3 : Int32) (z4 : Int32), X4_worstHouse_13 n f σ z2 z3 z4 = some (τ, r) → sp_GG shX X σ 5 [some (.ref (sx_ad X 57)), none, some (.int z2), some (.int z3), some (.int z4)] [] 13 0 0 := by
  intro f
  induction f with
  | zero =>
    intro σ z2 z3 z4 hf
    rw [X4_worstHouse_13] at hf
    cases hf
  | succ f ih =>
    intro σ z2 z3 z4 hf
    rw [X4_worstHouse_13] at hf
    refine sp_iload (i := 4) (q := 15) hX dX4_worstHouse_13 rfl rfl ?_
    refine sp_bipush (v := 6) (q := 17) hX dX4_worstHouse_15 lb_6 rfl ?_
    refine sp_icmp_ge (tgt := 54) (q := 20) hX dX4_worstHouse_17 (by decide) rfl (fun hc => ?_) (fun hc => ?_)
    · rw [if_pos hc] at hf
      refine sp_drop (lv' := [none, none, some (.int z2), none, none]) (And.intro rfl trivial) ?_
      exact hX4_worstHouse_54 hX hR hf
    · rw [if_neg hc] at hf
      refine sp_aload_n (i := 0) (q := 21) hX dX4_worstHouse_20 rfl rfl rfl ?_
      refine sp_gets (t := 50) (q := 24) hX flX4_22 fkX4_1 atX_57 srX_57_1 dX4_worstHouse_21 rfl ?_
      refine sp_gets (t := 52) (q := 27) hX flX4_48 fkX8_2 atX_50 srX_50_2 dX4_worstHouse_24 rfl ?_
      refine sp_iload (i := 4) (q := 29) hX dX4_worstHouse_27 rfl rfl ?_
      obtain ⟨h1, hf⟩ := sp_ck_some hf
      refine sp_iald (q := 30) hX arX_52 h1 dX4_worstHouse_29 rfl ?_
      refine sp_iload_n (i := 3) (q := 31) hX dX4_worstHouse_30 rfl rfl rfl ?_
      refine sp_icmp_le (tgt := 48) (q := 34) hX dX4_worstHouse_31 (by decide) rfl (fun hc => ?_) (fun hc => ?_)
      · rw [if_pos hc] at hf
        exact hX4_worstHouse_48 hX hR ih hf
      · rw [if_neg hc] at hf
        refine sp_aload_n (i := 0) (q := 35) hX dX4_worstHouse_34 rfl rfl rfl ?_
        refine sp_gets (t := 50) (q := 38) hX flX4_22 fkX4_1 atX_57 srX_57_1 dX4_worstHouse_35 rfl ?_
        refine sp_gets (t := 52) (q := 41) hX flX4_48 fkX8_2 atX_50 srX_50_2 dX4_worstHouse_38 rfl ?_
        refine sp_iload (i := 4) (q := 43) hX dX4_worstHouse_41 rfl rfl ?_
        obtain ⟨h2, hf⟩ := sp_ck_some hf
        refine sp_iald (q := 44) hX arX_52 h2 dX4_worstHouse_43 rfl ?_
        obtain ⟨x3, e4, hf⟩ := sp_pl_some hf
        refine sp_nmi e4 ?_
        refine sp_istore_n (i := 3) (lv' := [some (.ref (sx_ad X 57)), none, some (.int z2), some (.int x3), some (.int z4)]) (q := 45) hX dX4_worstHouse_44 rfl (Nat.le_of_ble_eq_true rfl) rfl rfl rfl ?_
        refine sp_iload (i := 4) (q := 47) hX dX4_worstHouse_45 rfl rfl ?_
        refine sp_istore_n (i := 2) (lv' := [some (.ref (sx_ad X 57)), none, some (.int z4), some (.int x3), some (.int z4)]) (q := 48) hX dX4_worstHouse_47 rfl (Nat.le_of_ble_eq_true rfl) rfl rfl rfl ?_
        exact hX4_worstHouse_48 hX hR ih hf
set_option maxRecDepth 100000 in
set_option maxHeartbeats 4000000 in
theorem hX4_worstHouse {X : sp_X} (hX : sp_OK shX X cX4_worstHouse RX4 5 rmX4_worstHouse) {τ : sp_St} {r : Int32} (hR : sp_Ri shX X (some .int) τ r 0 0) {n : Nat}  {σ : sp_St} {a1 : Int32}  (hf : X4_worstHouse n σ a1 = some (τ, r)) : sp_GG shX X σ 5 [some (.ref (sx_ad X 57)), some (.int a1), none, none, none] [] 0 0 0 := by
  unfold X4_worstHouse at hf
  refine sp_aload_n (i := 0) (q := 1) hX dX4_worstHouse_0 rfl rfl rfl ?_
  refine sp_iload_n (i := 1) (q := 2) hX dX4_worstHouse_1 rfl rfl rfl ?_
  obtain ⟨σ2, r3, h1, hf⟩ := sp_bd_so hf
  refine sp_callVr (As := [.int a1]) (rest := []) (q := 5) hX (cnX4_after (sp_st hX)  h1) cwX4_44 atX_57 rfl rfl rfl rfl rfl (Nat.le_of_ble_eq_true rfl) (Nat.le_of_ble_eq_true rfl) (Nat.le_of_ble_eq_true rfl) (Nat.le_of_ble_eq_true rfl) (Nat.le_of_ble_eq_true rfl) dX4_worstHouse_2 rfl ?_
  obtain ⟨h4, hf⟩ := sp_ck_some hf
  refine sp_nmr (of_decide_eq_true h4).symm ?_
  refine sp_pop (q := 6) hX dX4_worstHouse_5 rfl rfl ?_
  refine sp_iconst (v := -1) (q := 7) hX dX4_worstHouse_6 li_m1 rfl ?_
  obtain ⟨x6, e7, hf⟩ := sp_pl_some hf
  refine sp_nmi e7 ?_
  refine sp_istore_n (i := 2) (lv' := [some (.ref (sx_ad X 57)), some (.int a1), some (.int x6), none, none]) (q := 8) hX dX4_worstHouse_7 rfl (Nat.le_of_ble_eq_true rfl) rfl rfl rfl ?_
  refine sp_iconst (v := 0) (q := 9) hX dX4_worstHouse_8 li_0 rfl ?_
  obtain ⟨x8, e9, hf⟩ := sp_pl_some hf
  refine sp_nmi e9 ?_
  refine sp_istore_n (i := 3) (lv' := [some (.ref (sx_ad X 57)), some (.int a1), some (.int x6), some (.int x8), none]) (q := 10) hX dX4_worstHouse_9 rfl (Nat.le_of_ble_eq_true rfl) rfl rfl rfl ?_
  refine sp_iconst (v := 0) (q := 11) hX dX4_worstHouse_10 li_0 rfl ?_
  obtain ⟨x10, e11, hf⟩ := sp_pl_some hf
  refine sp_nmi e11 ?_
  refine sp_istore (i := 4) (lv' := [some (.ref (sx_ad X 57)), some (.int a1), some (.int x6), some (.int x8), some (.int x10)]) (q := 13) hX dX4_worstHouse_11 (Nat.le_of_ble_eq_true rfl) rfl rfl rfl ?_
  refine sp_drop (lv' := [some (.ref (sx_ad X 57)), none, some (.int x6), some (.int x8), some (.int x10)]) (And.intro rfl (And.intro rfl (And.intro rfl (And.intro rfl trivial)))) ?_
  exact hX4_worstHouse_13 hX hR n σ2 x6 x8 x10 hf
set_option maxRecDepth 100000 in
set_option maxHeartbeats 4000000 in
theorem cnX4_worstHouse {l : Launch} (hst : l.stackTraces = false) {w : sp_Wd} {n : Nat}  {σ : sp_St} {a1 : Int32} {τ : sp_St} {r : Int32}  (hf : X4_worstHouse n σ a1 = some (τ, r)) : sp_Ci shX l w yX4_worstHouse cX4_worstHouse 5 (some .int) rmX4_worstHouse 0 0 σ [.ref (w.2.1 57), .int a1] τ r :=
  sp_ci (own := RX4) (by decide) rfl hst (Nat.le_of_ble_eq_true rfl) rfl (fun X hX hw hl hR => by subst hw; subst hl; exact hX4_worstHouse hX hR   hf)
def rmX4_seekCalmingBlade : Room := { frames := 6, cells := 0, slots := 0, locals := 137 }
def X4_seekCalmingBlade_104 (n : Nat) (k28 : sp_St → Int32 → Int32 → Option (sp_St)) (σ : sp_St) (z1 : Int32) (z2 : Int32) : Option (sp_St) :=
  sp_pl (z2 + 1) fun x1 =>
  k28 σ z1 x1
def X4_seekCalmingBlade_28 (n : Nat) : Nat → sp_St → Int32 → Int32 → Option (sp_St)
  | 0, _, _, _ => none
  | f + 1, σ, z1, z2 =>
    sp_pl (σ.2.1 23 0) fun c1 =>
    sp_ck (sp_isc c1) <|
    if (σ.1 c1 13) ≤ z2 then
      some σ
    else
      sp_bd (X8_isOut n σ 23 z2) fun σ5 v6 =>
      if v6 = 0 then
        X4_seekCalmingBlade_104 n (X4_seekCalmingBlade_28 n f) σ5 z1 z2
      else
        sp_bv (X8_copy n σ5 50 23) fun σ8 =>
        sp_bv (X8_putIntoLeast n σ8 50 z2) fun σ10 =>
        sp_bd (X4_dreamFirstFight n σ10) fun σ12 v13 =>
        if v13 ≤ z1 then
          X4_seekCalmingBlade_104 n (X4_seekCalmingBlade_28 n f) σ12 z1 z2
        else
          sp_pl (sp_si σ12 57 5 z2) fun σ14 =>
          sp_pl (if v13 = ((61 : Int32)) then ((-1 : Int32)) else v13) fun v16 =>
          sp_pl (sp_si σ14 57 6 v16) fun σ18 =>
          X4_seekCalmingBlade_104 n (X4_seekCalmingBlade_28 n f) σ18 v13 z2
def X4_seekCalmingBlade (n : Nat)  (σ : sp_St)  : Option (sp_St) :=
  sp_bv (X8_copy n σ 50 23) fun σ2 =>
  sp_bd (X4_dreamFirstFight n σ2) fun σ4 v5 =>
  sp_pl (sp_si σ4 57 5 ((-1 : Int32))) fun σ6 =>
  sp_pl (sp_si σ6 57 6 ((-1 : Int32))) fun σ8 =>
  sp_pl ((0 : Int32)) fun x10 =>
  X4_seekCalmingBlade_28 n n σ8 v5 x10
set_option maxRecDepth 100000 in
set_option maxHeartbeats 4000000 in
theorem hX4_seekCalmingBlade_104 {X : sp_X} (hX : sp_OK shX X cX4_seekCalmingBlade RX4 4 rmX4_seekCalmingBlade) {τ : sp_St} (hR : sp_Rv shX X τ 0 0) {n : Nat}   {k28 : sp_St → Int32 → Int32 → Option (sp_St)} (hk28 : ∀ (σ : sp_St) (z1 : Int32) (z2 : Int32), k28 σ z1 z2 = some τ → sp_GG shX X σ 4 [some (.ref (sx_ad X 57)), some (.int z1), some (.int z2), none] [] 28 0 0) {σ : sp_St} {z1 : Int32} {z2 : Int32} (hf : X4_seekCalmingBlade_104 n k28 σ z1 z2 = some τ) : sp_GG shX X σ 4 [some (.ref (sx_ad X 57)), some (.int z1), some (.int z2), none] [] 104 0 0 := by
  unfold X4_seekCalmingBlade_104 at hf
  obtain ⟨x1, e2, hf⟩ := sp_pl_some hf
  refine sp_iinc (i := 2) (v := x1) (lv' := [some (.ref (sx_ad X 57)), some (.int z1), some (.int x1), none]) (q := 107) hX dX4_seekCalmingBlade_104 rfl (by rw [e2, li_1]) (Nat.le_of_ble_eq_true rfl) rfl rfl rfl ?_
  refine sp_goto (tgt := 28) hX dX4_seekCalmingBlade_107 (by decide) ?_
  exact hk28 σ z1 x1 hf
set_option maxRecDepth 100000 in
set_option maxHeartbeats 4000000 in
theorem hX4_seekCalmingBlade_28 {X : sp_X} (hX : sp_OK shX X cX4_seekCalmingBlade RX4 4 rmX4_seekCalmingBlade) {τ : sp_St} (hR : sp_Rv shX X τ 0 0) {n : Nat}    : ∀ (f : Nat) (σ : sp_St) (z1 : Int32) (z2 : Int32), X4_seekCalmingBlade_28 n f σ z1 z2 = some τ → sp_GG shX X σ 4 [some (.ref (sx_ad X 57)), some (.int z1), some (.int z2), none] [] 28 0 0 := by
  intro f
  induction f with
  | zero =>
    intro σ z1 z2 hf
    rw [X4_seekCalmingBlade_28] at hf
    cases hf
  | succ f ih =>
    intro σ z1 z2 hf
    rw [X4_seekCalmingBlade_28] at hf
    refine sp_iload_n (i := 2) (q := 29) hX dX4_seekCalmingBlade_28 rfl rfl rfl ?_
    refine sp_aload_n (i := 0) (q := 30) hX dX4_seekCalmingBlade_29 rfl rfl rfl ?_
    refine sp_gets (t := 23) (q := 33) hX flX4_18 fkX4_0 atX_57 srX_57_0 dX4_seekCalmingBlade_30 rfl ?_
    obtain ⟨c1, e3, hf⟩ := sp_pl_some hf
    obtain ⟨h2, hf⟩ := sp_ck_some hf
    refine sp_getr (q := 36) hX flX4_58 fkX8_0 atX_23 dX4_seekCalmingBlade_33 rfl ?_
    refine sp_nmr e3 ?_
    refine sp_geti (q := 39) hX flX4_62 fkX2_13 (sp_isc_at h2) dX4_seekCalmingBlade_36 rfl ?_
    refine sp_icmp_ge (tgt := 110) (q := 42) hX dX4_seekCalmingBlade_39 (by decide) rfl (fun hc => ?_) (fun hc => ?_)
    · rw [if_pos hc] at hf
      exact sp_vret hX hR dX4_seekCalmingBlade_110 hf (Nat.le_of_ble_eq_true rfl) (Nat.le_of_ble_eq_true rfl)
    · rw [if_neg hc] at hf
      refine sp_aload_n (i := 0) (q := 43) hX dX4_seekCalmingBlade_42 rfl rfl rfl ?_
      refine sp_gets (t := 23) (q := 46) hX flX4_18 fkX4_0 atX_57 srX_57_0 dX4_seekCalmingBlade_43 rfl ?_
      refine sp_iload_n (i := 2) (q := 47) hX dX4_seekCalmingBlade_46 rfl rfl rfl ?_
      obtain ⟨σ5, v6, h4, hf⟩ := sp_bd_so hf
      refine sp_callVi (As := [.int z2]) (rest := []) (q := 50) hX (cnX8_isOut (sp_st hX) atX_23 h4) cwX4_67 atX_23 rfl rfl rfl rfl rfl (Nat.le_of_ble_eq_true rfl) (Nat.le_of_ble_eq_true rfl) (Nat.le_of_ble_eq_true rfl) (Nat.le_of_ble_eq_true rfl) (Nat.le_of_ble_eq_true rfl) dX4_seekCalmingBlade_47 rfl ?_
      refine sp_if_eq (tgt := 104) (q := 53) hX dX4_seekCalmingBlade_50 (by decide) rfl (fun hc => ?_) (fun hc => ?_)
      · rw [if_pos hc] at hf
        exact hX4_seekCalmingBlade_104 hX hR ih hf
      · rw [if_neg hc] at hf
        refine sp_aload_n (i := 0) (q := 54) hX dX4_seekCalmingBlade_53 rfl rfl rfl ?_
        refine sp_gets (t := 50) (q := 57) hX flX4_22 fkX4_1 atX_57 srX_57_1 dX4_seekCalmingBlade_54 rfl ?_
        refine sp_aload_n (i := 0) (q := 58) hX dX4_seekCalmingBlade_57 rfl rfl rfl ?_
        refine sp_gets (t := 23) (q := 61) hX flX4_18 fkX4_0 atX_57 srX_57_0 dX4_seekCalmingBlade_58 rfl ?_
        obtain ⟨σ8, h7, hf⟩ := sp_bv_so hf
        refine sp_callVv (As := [.ref (sx_ad X 23)]) (rest := []) (q := 64) hX (cnX8_copy (sp_st hX) atX_50 atX_23 h7) cwX4_25 atX_50 rfl rfl rfl rfl rfl (Nat.le_of_ble_eq_true rfl) (Nat.le_of_ble_eq_true rfl) (Nat.le_of_ble_eq_true rfl) (Nat.le_of_ble_eq_true rfl) (Nat.le_of_ble_eq_true rfl) dX4_seekCalmingBlade_61 rfl ?_
        refine sp_aload_n (i := 0) (q := 65) hX dX4_seekCalmingBlade_64 rfl rfl rfl ?_
        refine sp_gets (t := 50) (q := 68) hX flX4_22 fkX4_1 atX_57 srX_57_1 dX4_seekCalmingBlade_65 rfl ?_
        refine sp_iload_n (i := 2) (q := 69) hX dX4_seekCalmingBlade_68 rfl rfl rfl ?_
        obtain ⟨σ10, h9, hf⟩ := sp_bv_so hf
        refine sp_callVv (As := [.int z2]) (rest := []) (q := 72) hX (cnX8_putIntoLeast (sp_st hX) atX_50 h9) cwX4_71 atX_50 rfl rfl rfl rfl rfl (Nat.le_of_ble_eq_true rfl) (Nat.le_of_ble_eq_true rfl) (Nat.le_of_ble_eq_true rfl) (Nat.le_of_ble_eq_true rfl) (Nat.le_of_ble_eq_true rfl) dX4_seekCalmingBlade_69 rfl ?_
        refine sp_aload_n (i := 0) (q := 73) hX dX4_seekCalmingBlade_72 rfl rfl rfl ?_
        obtain ⟨σ12, v13, h11, hf⟩ := sp_bd_so hf
        refine sp_callVi (As := []) (rest := []) (q := 76) hX (cnX4_dreamFirstFight (sp_st hX)  h11) cwX4_37 atX_57 rfl rfl rfl rfl rfl (Nat.le_of_ble_eq_true rfl) (Nat.le_of_ble_eq_true rfl) (Nat.le_of_ble_eq_true rfl) (Nat.le_of_ble_eq_true rfl) (Nat.le_of_ble_eq_true rfl) dX4_seekCalmingBlade_73 rfl ?_
        refine sp_istore_n (i := 3) (lv' := [some (.ref (sx_ad X 57)), some (.int z1), some (.int z2), some (.int v13)]) (q := 77) hX dX4_seekCalmingBlade_76 rfl (Nat.le_of_ble_eq_true rfl) rfl rfl rfl ?_
        refine sp_iload_n (i := 3) (q := 78) hX dX4_seekCalmingBlade_77 rfl rfl rfl ?_
        refine sp_iload_n (i := 1) (q := 79) hX dX4_seekCalmingBlade_78 rfl rfl rfl ?_
        refine sp_icmp_le (tgt := 104) (q := 82) hX dX4_seekCalmingBlade_79 (by decide) rfl (fun hc => ?_) (fun hc => ?_)
        · rw [if_pos hc] at hf
          refine sp_drop (lv' := [some (.ref (sx_ad X 57)), some (.int z1), some (.int z2), none]) (And.intro rfl (And.intro rfl (And.intro rfl trivial))) ?_
          exact hX4_seekCalmingBlade_104 hX hR ih hf
        · rw [if_neg hc] at hf
          refine sp_iload_n (i := 3) (q := 83) hX dX4_seekCalmingBlade_82 rfl rfl rfl ?_
          refine sp_istore_n (i := 1) (lv' := [some (.ref (sx_ad X 57)), some (.int v13), some (.int z2), some (.int v13)]) (q := 84) hX dX4_seekCalmingBlade_83 rfl (Nat.le_of_ble_eq_true rfl) rfl rfl rfl ?_
          refine sp_aload_n (i := 0) (q := 85) hX dX4_seekCalmingBlade_84 rfl rfl rfl ?_
          refine sp_iload_n (i := 2) (q := 86) hX dX4_seekCalmingBlade_85 rfl rfl rfl ?_
          obtain ⟨σ14, e15, hf⟩ := sp_pl_some hf
          refine sp_puti (q := 89) hX fpX4_51 fkX4_5 atX_57 dX4_seekCalmingBlade_86 rfl ?_
          refine sp_nms e15 ?_
          refine sp_aload_n (i := 0) (q := 90) hX dX4_seekCalmingBlade_89 rfl rfl rfl ?_
          refine sp_iload_n (i := 3) (q := 91) hX dX4_seekCalmingBlade_90 rfl rfl rfl ?_
          refine sp_bipush (v := 61) (q := 93) hX dX4_seekCalmingBlade_91 lb_61 rfl ?_
          obtain ⟨v16, e17, hf⟩ := sp_pl_some hf
          have hj20 : sp_GG shX X σ14 4 [some (.ref (sx_ad X 57)), some (.int v13), some (.int z2), some (.int v13)] [.int v16, .ref (sx_ad X 57)] 101 0 0 := by
            obtain ⟨σ18, e19, hf⟩ := sp_pl_some hf
            refine sp_puti (q := 104) hX fpX4_55 fkX4_6 atX_57 dX4_seekCalmingBlade_101 rfl ?_
            refine sp_nms e19 ?_
            refine sp_drop (lv' := [some (.ref (sx_ad X 57)), some (.int v13), some (.int z2), none]) (And.intro rfl (And.intro rfl (And.intro rfl trivial))) ?_
            exact hX4_seekCalmingBlade_104 hX hR ih hf
          refine sp_icmp_ne (tgt := 100) (q := 96) hX dX4_seekCalmingBlade_93 (by decide) rfl (fun hc => ?_) (fun hc => ?_)
          · refine sp_iload_n (i := 3) (q := 101) hX dX4_seekCalmingBlade_100 rfl rfl rfl ?_
            exact sp_nmi (by rw [e17, if_neg hc]) hj20
          · refine sp_iconst (v := -1) (q := 97) hX dX4_seekCalmingBlade_96 li_m1 rfl ?_
            refine sp_goto (tgt := 101) hX dX4_seekCalmingBlade_97 (by decide) ?_
            exact sp_nmi (by rw [e17, if_pos hc]) hj20
set_option maxRecDepth 100000 in
set_option maxHeartbeats 4000000 in
theorem hX4_seekCalmingBlade {X : sp_X} (hX : sp_OK shX X cX4_seekCalmingBlade RX4 4 rmX4_seekCalmingBlade) {τ : sp_St} (hR : sp_Rv shX X τ 0 0) {n : Nat}  {σ : sp_St}   (hf : X4_seekCalmingBlade n σ = some τ) : sp_GG shX X σ 4 [some (.ref (sx_ad X 57)), none, none, none] [] 0 0 0 := by
  unfold X4_seekCalmingBlade at hf
  refine sp_aload_n (i := 0) (q := 1) hX dX4_seekCalmingBlade_0 rfl rfl rfl ?_
  refine sp_gets (t := 50) (q := 4) hX flX4_22 fkX4_1 atX_57 srX_57_1 dX4_seekCalmingBlade_1 rfl ?_
  refine sp_aload_n (i := 0) (q := 5) hX dX4_seekCalmingBlade_4 rfl rfl rfl ?_
  refine sp_gets (t := 23) (q := 8) hX flX4_18 fkX4_0 atX_57 srX_57_0 dX4_seekCalmingBlade_5 rfl ?_
  obtain ⟨σ2, h1, hf⟩ := sp_bv_so hf
  refine sp_callVv (As := [.ref (sx_ad X 23)]) (rest := []) (q := 11) hX (cnX8_copy (sp_st hX) atX_50 atX_23 h1) cwX4_25 atX_50 rfl rfl rfl rfl rfl (Nat.le_of_ble_eq_true rfl) (Nat.le_of_ble_eq_true rfl) (Nat.le_of_ble_eq_true rfl) (Nat.le_of_ble_eq_true rfl) (Nat.le_of_ble_eq_true rfl) dX4_seekCalmingBlade_8 rfl ?_
  refine sp_aload_n (i := 0) (q := 12) hX dX4_seekCalmingBlade_11 rfl rfl rfl ?_
  obtain ⟨σ4, v5, h3, hf⟩ := sp_bd_so hf
  refine sp_callVi (As := []) (rest := []) (q := 15) hX (cnX4_dreamFirstFight (sp_st hX)  h3) cwX4_37 atX_57 rfl rfl rfl rfl rfl (Nat.le_of_ble_eq_true rfl) (Nat.le_of_ble_eq_true rfl) (Nat.le_of_ble_eq_true rfl) (Nat.le_of_ble_eq_true rfl) (Nat.le_of_ble_eq_true rfl) dX4_seekCalmingBlade_12 rfl ?_
  refine sp_istore_n (i := 1) (lv' := [some (.ref (sx_ad X 57)), some (.int v5), none, none]) (q := 16) hX dX4_seekCalmingBlade_15 rfl (Nat.le_of_ble_eq_true rfl) rfl rfl rfl ?_
  refine sp_aload_n (i := 0) (q := 17) hX dX4_seekCalmingBlade_16 rfl rfl rfl ?_
  refine sp_iconst (v := -1) (q := 18) hX dX4_seekCalmingBlade_17 li_m1 rfl ?_
  obtain ⟨σ6, e7, hf⟩ := sp_pl_some hf
  refine sp_puti (q := 21) hX fpX4_51 fkX4_5 atX_57 dX4_seekCalmingBlade_18 rfl ?_
  refine sp_nms e7 ?_
  refine sp_aload_n (i := 0) (q := 22) hX dX4_seekCalmingBlade_21 rfl rfl rfl ?_
  refine sp_iconst (v := -1) (q := 23) hX dX4_seekCalmingBlade_22 li_m1 rfl ?_
  obtain ⟨σ8, e9, hf⟩ := sp_pl_some hf
  refine sp_puti (q := 26) hX fpX4_55 fkX4_6 atX_57 dX4_seekCalmingBlade_23 rfl ?_
  refine sp_nms e9 ?_
  refine sp_iconst (v := 0) (q := 27) hX dX4_seekCalmingBlade_26 li_0 rfl ?_
  obtain ⟨x10, e11, hf⟩ := sp_pl_some hf
  refine sp_nmi e11 ?_
  refine sp_istore_n (i := 2) (lv' := [some (.ref (sx_ad X 57)), some (.int v5), some (.int x10), none]) (q := 28) hX dX4_seekCalmingBlade_27 rfl (Nat.le_of_ble_eq_true rfl) rfl rfl rfl ?_
  exact hX4_seekCalmingBlade_28 hX hR n σ8 v5 x10 hf
set_option maxRecDepth 100000 in
set_option maxHeartbeats 4000000 in
theorem cnX4_seekCalmingBlade {l : Launch} (hst : l.stackTraces = false) {w : sp_Wd} {n : Nat}  {σ : sp_St}  {τ : sp_St}  (hf : X4_seekCalmingBlade n σ = some τ) : sp_Cv shX l w yX4_seekCalmingBlade cX4_seekCalmingBlade 4 rmX4_seekCalmingBlade 0 0 σ [.ref (w.2.1 57)] τ :=
  sp_cv (own := RX4) (by decide) rfl hst (Nat.le_of_ble_eq_true rfl) rfl (fun X hX hw hl hR => by subst hw; subst hl; exact hX4_seekCalmingBlade hX hR   hf)
def rmX4_dreamSwallowing : Room := { frames := 3, cells := 0, slots := 0, locals := 67 }
def X4_dreamSwallowing_43 (n : Nat) (k2 : sp_St → Int32 → Int32 → Option (sp_St)) (σ : sp_St) (z1 : Int32) (z2 : Int32) : Option (sp_St) :=
  sp_pl (z2 + 1) fun x1 =>
  k2 σ z1 x1
def X4_dreamSwallowing_2 (n : Nat) : Nat → sp_St → Int32 → Int32 → Option (sp_St)
  | 0, _, _, _ => none
  | f + 1, σ, z1, z2 =>
    sp_pl (σ.2.1 50 0) fun c1 =>
    sp_ck (sp_isc c1) <|
    if (σ.1 c1 13) ≤ z2 then
      some σ
    else
      if ((z1 >>> (z2 &&& 31)) &&& ((1 : Int32))) = 0 then
        X4_dreamSwallowing_43 n (X4_dreamSwallowing_2 n f) σ z1 z2
      else
        sp_bd (X8_isOut n σ 50 z2) fun σ5 v6 =>
        if v6 = 0 then
          X4_dreamSwallowing_43 n (X4_dreamSwallowing_2 n f) σ5 z1 z2
        else
          sp_bv (X8_putIntoLeast n σ5 50 z2) fun σ8 =>
          X4_dreamSwallowing_43 n (X4_dreamSwallowing_2 n f) σ8 z1 z2
def X4_dreamSwallowing (n : Nat)  (σ : sp_St) (a1 : Int32) : Option (sp_St) :=
  sp_pl ((0 : Int32)) fun x1 =>
  X4_dreamSwallowing_2 n n σ a1 x1
set_option maxRecDepth 100000 in
set_option maxHeartbeats 4000000 in
theorem hX4_dreamSwallowing_43 {X : sp_X} (hX : sp_OK shX X cX4_dreamSwallowing RX4 3 rmX4_dreamSwallowing) {τ : sp_St} (hR : sp_Rv shX X τ 0 0) {n : Nat}   {k2 : sp_St → Int32 → Int32 → Option (sp_St)} (hk2 : ∀ (σ : sp_St) (z1 : Int32) (z2 : Int32), k2 σ z1 z2 = some τ → sp_GG shX X σ 3 [some (.ref (sx_ad X 57)), some (.int z1), some (.int z2)] [] 2 0 0) {σ : sp_St} {z1 : Int32} {z2 : Int32} (hf : X4_dreamSwallowing_43 n k2 σ z1 z2 = some τ) : sp_GG shX X σ 3 [some (.ref (sx_ad X 57)), some (.int z1), some (.int z2)] [] 43 0 0 := by
  unfold X4_dreamSwallowing_43 at hf
  obtain ⟨x1, e2, hf⟩ := sp_pl_some hf
  refine sp_iinc (i := 2) (v := x1) (lv' := [some (.ref (sx_ad X 57)), some (.int z1), some (.int x1)]) (q := 46) hX dX4_dreamSwallowing_43 rfl (by rw [e2, li_1]) (Nat.le_of_ble_eq_true rfl) rfl rfl rfl ?_
  refine sp_goto (tgt := 2) hX dX4_dreamSwallowing_46 (by decide) ?_
  exact hk2 σ z1 x1 hf
set_option maxRecDepth 100000 in
set_option maxHeartbeats 4000000 in
theorem hX4_dreamSwallowing_2 {X : sp_X} (hX : sp_OK shX X cX4_dreamSwallowing RX4 3 rmX4_dreamSwallowing) {τ : sp_St} (hR : sp_Rv shX X τ 0 0) {n : Nat}    : ∀ (f : Nat) (σ : sp_St) (z1 : Int32) (z2 : Int32), X4_dreamSwallowing_2 n f σ z1 z2 = some τ → sp_GG shX X σ 3 [some (.ref (sx_ad X 57)), some (.int z1), some (.int z2)] [] 2 0 0 := by
  intro f
  induction f with
  | zero =>
    intro σ z1 z2 hf
    rw [X4_dreamSwallowing_2] at hf
    cases hf
  | succ f ih =>
    intro σ z1 z2 hf
    rw [X4_dreamSwallowing_2] at hf
    refine sp_iload_n (i := 2) (q := 3) hX dX4_dreamSwallowing_2 rfl rfl rfl ?_
    refine sp_aload_n (i := 0) (q := 4) hX dX4_dreamSwallowing_3 rfl rfl rfl ?_
    refine sp_gets (t := 50) (q := 7) hX flX4_22 fkX4_1 atX_57 srX_57_1 dX4_dreamSwallowing_4 rfl ?_
    obtain ⟨c1, e3, hf⟩ := sp_pl_some hf
    obtain ⟨h2, hf⟩ := sp_ck_some hf
    refine sp_getr (q := 10) hX flX4_58 fkX8_0 atX_50 dX4_dreamSwallowing_7 rfl ?_
    refine sp_nmr e3 ?_
    refine sp_geti (q := 13) hX flX4_62 fkX2_13 (sp_isc_at h2) dX4_dreamSwallowing_10 rfl ?_
    refine sp_icmp_ge (tgt := 49) (q := 16) hX dX4_dreamSwallowing_13 (by decide) rfl (fun hc => ?_) (fun hc => ?_)
    · rw [if_pos hc] at hf
      exact sp_vret hX hR dX4_dreamSwallowing_49 hf (Nat.le_of_ble_eq_true rfl) (Nat.le_of_ble_eq_true rfl)
    · rw [if_neg hc] at hf
      refine sp_iload_n (i := 1) (q := 17) hX dX4_dreamSwallowing_16 rfl rfl rfl ?_
      refine sp_iload_n (i := 2) (q := 18) hX dX4_dreamSwallowing_17 rfl rfl rfl ?_
      refine sp_ishr (q := 19) hX dX4_dreamSwallowing_18 rfl ?_
      refine sp_iconst (v := 1) (q := 20) hX dX4_dreamSwallowing_19 li_1 rfl ?_
      refine sp_iand (q := 21) hX dX4_dreamSwallowing_20 rfl ?_
      refine sp_if_eq (tgt := 43) (q := 24) hX dX4_dreamSwallowing_21 (by decide) rfl (fun hc => ?_) (fun hc => ?_)
      · rw [if_pos hc] at hf
        exact hX4_dreamSwallowing_43 hX hR ih hf
      · rw [if_neg hc] at hf
        refine sp_aload_n (i := 0) (q := 25) hX dX4_dreamSwallowing_24 rfl rfl rfl ?_
        refine sp_gets (t := 50) (q := 28) hX flX4_22 fkX4_1 atX_57 srX_57_1 dX4_dreamSwallowing_25 rfl ?_
        refine sp_iload_n (i := 2) (q := 29) hX dX4_dreamSwallowing_28 rfl rfl rfl ?_
        obtain ⟨σ5, v6, h4, hf⟩ := sp_bd_so hf
        refine sp_callVi (As := [.int z2]) (rest := []) (q := 32) hX (cnX8_isOut (sp_st hX) atX_50 h4) cwX4_67 atX_50 rfl rfl rfl rfl rfl (Nat.le_of_ble_eq_true rfl) (Nat.le_of_ble_eq_true rfl) (Nat.le_of_ble_eq_true rfl) (Nat.le_of_ble_eq_true rfl) (Nat.le_of_ble_eq_true rfl) dX4_dreamSwallowing_29 rfl ?_
        refine sp_if_eq (tgt := 43) (q := 35) hX dX4_dreamSwallowing_32 (by decide) rfl (fun hc => ?_) (fun hc => ?_)
        · rw [if_pos hc] at hf
          exact hX4_dreamSwallowing_43 hX hR ih hf
        · rw [if_neg hc] at hf
          refine sp_aload_n (i := 0) (q := 36) hX dX4_dreamSwallowing_35 rfl rfl rfl ?_
          refine sp_gets (t := 50) (q := 39) hX flX4_22 fkX4_1 atX_57 srX_57_1 dX4_dreamSwallowing_36 rfl ?_
          refine sp_iload_n (i := 2) (q := 40) hX dX4_dreamSwallowing_39 rfl rfl rfl ?_
          obtain ⟨σ8, h7, hf⟩ := sp_bv_so hf
          refine sp_callVv (As := [.int z2]) (rest := []) (q := 43) hX (cnX8_putIntoLeast (sp_st hX) atX_50 h7) cwX4_71 atX_50 rfl rfl rfl rfl rfl (Nat.le_of_ble_eq_true rfl) (Nat.le_of_ble_eq_true rfl) (Nat.le_of_ble_eq_true rfl) (Nat.le_of_ble_eq_true rfl) (Nat.le_of_ble_eq_true rfl) dX4_dreamSwallowing_40 rfl ?_
          exact hX4_dreamSwallowing_43 hX hR ih hf
set_option maxRecDepth 100000 in
set_option maxHeartbeats 4000000 in
theorem hX4_dreamSwallowing {X : sp_X} (hX : sp_OK shX X cX4_dreamSwallowing RX4 3 rmX4_dreamSwallowing) {τ : sp_St} (hR : sp_Rv shX X τ 0 0) {n : Nat}  {σ : sp_St} {a1 : Int32}  (hf : X4_dreamSwallowing n σ a1 = some τ) : sp_GG shX X σ 3 [some (.ref (sx_ad X 57)), some (.int a1), none] [] 0 0 0 := by
  unfold X4_dreamSwallowing at hf
  refine sp_iconst (v := 0) (q := 1) hX dX4_dreamSwallowing_0 li_0 rfl ?_
  obtain ⟨x1, e2, hf⟩ := sp_pl_some hf
  refine sp_nmi e2 ?_
  refine sp_istore_n (i := 2) (lv' := [some (.ref (sx_ad X 57)), some (.int a1), some (.int x1)]) (q := 2) hX dX4_dreamSwallowing_1 rfl (Nat.le_of_ble_eq_true rfl) rfl rfl rfl ?_
  exact hX4_dreamSwallowing_2 hX hR n σ a1 x1 hf
set_option maxRecDepth 100000 in
set_option maxHeartbeats 4000000 in
theorem cnX4_dreamSwallowing {l : Launch} (hst : l.stackTraces = false) {w : sp_Wd} {n : Nat}  {σ : sp_St} {a1 : Int32} {τ : sp_St}  (hf : X4_dreamSwallowing n σ a1 = some τ) : sp_Cv shX l w yX4_dreamSwallowing cX4_dreamSwallowing 3 rmX4_dreamSwallowing 0 0 σ [.ref (w.2.1 57), .int a1] τ :=
  sp_cv (own := RX4) (by decide) rfl hst (Nat.le_of_ble_eq_true rfl) rfl (fun X hX hw hl hR => by subst hw; subst hl; exact hX4_dreamSwallowing hX hR   hf)
def rmX4_lossOf : Room := { frames := 3, cells := 0, slots := 0, locals := 63 }
def X4_lossOf (n : Nat)  (σ : sp_St) (a1 : Int32) : Option (sp_St × Int32) :=
  sp_ck (sp_in a1 6) <|
  sp_bd (X8_bladesIn n σ 50) fun σ3 v4 =>
  sp_pl (σ3.2.1 50 0) fun c5 =>
  sp_ck (sp_isc c5) <|
  sp_ck (sp_in a1 6) <|
  sp_bd (J6_bitCount_0f7a4 n σ3 (v4 &&& (sp_g σ3 (c5 + 4) a1))) fun σ10 v11 =>
  some (σ10, (((5 : Int32)) * (sp_g σ 52 a1)) + v11)
set_option maxRecDepth 100000 in
set_option maxHeartbeats 4000000 in
theorem hX4_lossOf {X : sp_X} (hX : sp_OK shX X cX4_lossOf RX4 2 rmX4_lossOf) {τ : sp_St} {r : Int32} (hR : sp_Ri shX X (some .int) τ r 0 0) {n : Nat}  {σ : sp_St} {a1 : Int32}  (hf : X4_lossOf n σ a1 = some (τ, r)) : sp_GG shX X σ 2 [some (.ref (sx_ad X 57)), some (.int a1)] [] 0 0 0 := by
  unfold X4_lossOf at hf
  refine sp_iconst (v := 5) (q := 1) hX dX4_lossOf_0 li_5 rfl ?_
  refine sp_aload_n (i := 0) (q := 2) hX dX4_lossOf_1 rfl rfl rfl ?_
  refine sp_gets (t := 50) (q := 5) hX flX4_22 fkX4_1 atX_57 srX_57_1 dX4_lossOf_2 rfl ?_
  refine sp_gets (t := 52) (q := 8) hX flX4_48 fkX8_2 atX_50 srX_50_2 dX4_lossOf_5 rfl ?_
  refine sp_iload_n (i := 1) (q := 9) hX dX4_lossOf_8 rfl rfl rfl ?_
  obtain ⟨h1, hf⟩ := sp_ck_some hf
  refine sp_iald (q := 10) hX arX_52 h1 dX4_lossOf_9 rfl ?_
  refine sp_imul (q := 11) hX dX4_lossOf_10 rfl ?_
  refine sp_aload_n (i := 0) (q := 12) hX dX4_lossOf_11 rfl rfl rfl ?_
  refine sp_gets (t := 50) (q := 15) hX flX4_22 fkX4_1 atX_57 srX_57_1 dX4_lossOf_12 rfl ?_
  obtain ⟨σ3, v4, h2, hf⟩ := sp_bd_so hf
  refine sp_callVi (As := []) (rest := [.int (((5 : Int32)) * (sp_g σ 52 a1))]) (q := 18) hX (cnX8_bladesIn (sp_st hX) atX_50 h2) cwX4_94 atX_50 rfl rfl rfl rfl rfl (Nat.le_of_ble_eq_true rfl) (Nat.le_of_ble_eq_true rfl) (Nat.le_of_ble_eq_true rfl) (Nat.le_of_ble_eq_true rfl) (Nat.le_of_ble_eq_true rfl) dX4_lossOf_15 rfl ?_
  refine sp_aload_n (i := 0) (q := 19) hX dX4_lossOf_18 rfl rfl rfl ?_
  refine sp_gets (t := 50) (q := 22) hX flX4_22 fkX4_1 atX_57 srX_57_1 dX4_lossOf_19 rfl ?_
  obtain ⟨c5, e7, hf⟩ := sp_pl_some hf
  obtain ⟨h6, hf⟩ := sp_ck_some hf
  refine sp_getr (q := 25) hX flX4_58 fkX8_0 atX_50 dX4_lossOf_22 rfl ?_
  refine sp_nmr e7 ?_
  refine sp_gets (t := c5 + 4) (q := 28) hX flX4_75 fkX2_3 (sp_isc_at h6) (msX2_3 (sp_isc_at h6)) dX4_lossOf_25 rfl ?_
  refine sp_iload_n (i := 1) (q := 29) hX dX4_lossOf_28 rfl rfl rfl ?_
  obtain ⟨h8, hf⟩ := sp_ck_some hf
  refine sp_iald (q := 30) hX (mfX2_3 (sp_isc_at h6)) h8 dX4_lossOf_29 rfl ?_
  refine sp_iand (q := 31) hX dX4_lossOf_30 rfl ?_
  obtain ⟨σ10, v11, h9, hf⟩ := sp_bd_so hf
  refine sp_callSi (As := [.int (v4 &&& (sp_g σ3 (c5 + 4) a1))]) (rest := [.int (((5 : Int32)) * (sp_g σ 52 a1))]) (q := 34) hX (cnJ6_bitCount_0f7a4 (sp_st hX)  h9) cwX4_97 rfl rfl rfl rfl (Nat.le_of_ble_eq_true rfl) (Nat.le_of_ble_eq_true rfl) (Nat.le_of_ble_eq_true rfl) (Nat.le_of_ble_eq_true rfl) (Nat.le_of_ble_eq_true rfl) dX4_lossOf_31 rfl ?_
  refine sp_iadd (q := 35) hX dX4_lossOf_34 rfl ?_
  exact sp_iret hX hR dX4_lossOf_35 hf (Nat.le_of_ble_eq_true rfl) (Nat.le_of_ble_eq_true rfl)
set_option maxRecDepth 100000 in
set_option maxHeartbeats 4000000 in
theorem cnX4_lossOf {l : Launch} (hst : l.stackTraces = false) {w : sp_Wd} {n : Nat}  {σ : sp_St} {a1 : Int32} {τ : sp_St} {r : Int32}  (hf : X4_lossOf n σ a1 = some (τ, r)) : sp_Ci shX l w yX4_lossOf cX4_lossOf 2 (some .int) rmX4_lossOf 0 0 σ [.ref (w.2.1 57), .int a1] τ r :=
  sp_ci (own := RX4) (by decide) rfl hst (Nat.le_of_ble_eq_true rfl) rfl (fun X hX hw hl hR => by subst hw; subst hl; exact hX4_lossOf hX hR   hf)
def rmX4_drawOf : Room := { frames := 0, cells := 0, slots := 0, locals := 0 }
def X4_drawOf (n : Nat)  (σ : sp_St) (a1 : Int32) : Option (sp_St × Int32) :=
  if 0 < a1 then
    sp_pl (sp_si σ 57 4 (((σ.1 57 4) * ((1103515245 : Int32))) + ((12345 : Int32)))) fun σ1 =>
    sp_ck (!decide (a1 = 0)) <|
    some (σ1, ((((σ1.1 57 4).toUInt32 >>> (((16 : Int32)).toUInt32 &&& Int32.toUInt32 31)).toInt32) &&& ((32767 : Int32))) - ((((σ1.1 57 4).toUInt32 >>> (((16 : Int32)).toUInt32 &&& Int32.toUInt32 31)).toInt32) &&& ((32767 : Int32))) / a1 * a1)
  else
    some (σ, (-1 : Int32))
set_option maxRecDepth 100000 in
set_option maxHeartbeats 4000000 in
theorem hX4_drawOf {X : sp_X} (hX : sp_OK shX X cX4_drawOf RX4 2 rmX4_drawOf) {τ : sp_St} {r : Int32} (hR : sp_Ri shX X (some .int) τ r 0 0) {n : Nat}  {σ : sp_St} {a1 : Int32}  (hf : X4_drawOf n σ a1 = some (τ, r)) : sp_GG shX X σ 2 [some (.ref (sx_ad X 57)), some (.int a1)] [] 0 0 0 := by
  unfold X4_drawOf at hf
  refine sp_iload_n (i := 1) (q := 1) hX dX4_drawOf_0 rfl rfl rfl ?_
  refine sp_if_gt (tgt := 6) (q := 4) hX dX4_drawOf_1 (by decide) rfl (fun hc => ?_) (fun hc => ?_)
  · rw [if_pos hc] at hf
    refine sp_aload_n (i := 0) (q := 7) hX dX4_drawOf_6 rfl rfl rfl ?_
    refine sp_aload_n (i := 0) (q := 8) hX dX4_drawOf_7 rfl rfl rfl ?_
    refine sp_geti (q := 11) hX flX4_102 fkX4_4 atX_57 dX4_drawOf_8 rfl ?_
    refine sp_ldc (v := 1103515245) (q := 13) hX wd_1570 dX4_drawOf_11 rfl ?_
    refine sp_imul (q := 14) hX dX4_drawOf_13 rfl ?_
    refine sp_sipush (v := 12345) (q := 17) hX dX4_drawOf_14 ls_12345 rfl ?_
    refine sp_iadd (q := 18) hX dX4_drawOf_17 rfl ?_
    obtain ⟨σ1, e2, hf⟩ := sp_pl_some hf
    refine sp_puti (q := 21) hX fpX4_102 fkX4_4 atX_57 dX4_drawOf_18 rfl ?_
    refine sp_nms e2 ?_
    refine sp_aload_n (i := 0) (q := 22) hX dX4_drawOf_21 rfl rfl rfl ?_
    refine sp_geti (q := 25) hX flX4_102 fkX4_4 atX_57 dX4_drawOf_22 rfl ?_
    refine sp_bipush (v := 16) (q := 27) hX dX4_drawOf_25 lb_16 rfl ?_
    refine sp_iushr (q := 28) hX dX4_drawOf_27 rfl ?_
    refine sp_sipush (v := 32767) (q := 31) hX dX4_drawOf_28 ls_32767 rfl ?_
    refine sp_iand (q := 32) hX dX4_drawOf_31 rfl ?_
    refine sp_iload_n (i := 1) (q := 33) hX dX4_drawOf_32 rfl rfl rfl ?_
    obtain ⟨h3, hf⟩ := sp_ck_some hf
    refine sp_irem (q := 34) hX dX4_drawOf_33 (sp_nz h3) rfl ?_
    exact sp_iret hX hR dX4_drawOf_34 hf (Nat.le_of_ble_eq_true rfl) (Nat.le_of_ble_eq_true rfl)
  · rw [if_neg hc] at hf
    refine sp_iconst (v := -1) (q := 5) hX dX4_drawOf_4 li_m1 rfl ?_
    exact sp_iret hX hR dX4_drawOf_5 hf (Nat.le_of_ble_eq_true rfl) (Nat.le_of_ble_eq_true rfl)
set_option maxRecDepth 100000 in
set_option maxHeartbeats 4000000 in
theorem cnX4_drawOf {l : Launch} (hst : l.stackTraces = false) {w : sp_Wd} {n : Nat}  {σ : sp_St} {a1 : Int32} {τ : sp_St} {r : Int32}  (hf : X4_drawOf n σ a1 = some (τ, r)) : sp_Ci shX l w yX4_drawOf cX4_drawOf 2 (some .int) rmX4_drawOf 0 0 σ [.ref (w.2.1 57), .int a1] τ r :=
  sp_ci (own := RX4) (by decide) rfl hst (Nat.le_of_ble_eq_true rfl) rfl (fun X hX hw hl hR => by subst hw; subst hl; exact hX4_drawOf hX hR   hf)
def rmX4_angerOne : Room := { frames := 1, cells := 0, slots := 0, locals := 24 }
def X4_angerOne_57 (n : Nat) (σ : sp_St) : Option (sp_St) :=
  some σ
def X4_angerOne (n : Nat)  (σ : sp_St)  : Option (sp_St) :=
  sp_pl (σ.2.1 50 0) fun c1 =>
  sp_ck (sp_isc c1) <|
  sp_bd (X4_drawOf n σ (σ.1 c1 13)) fun σ5 v6 =>
  if v6 = ((-1 : Int32)) then
    X4_angerOne_57 n σ5
  else
    sp_bd (X8_isOut n σ5 50 v6) fun σ8 v9 =>
    if v9 = 0 then
      X4_angerOne_57 n σ8
    else
      sp_ck (sp_in v6 50) <|
      sp_pl (sp_min ((99 : Int32)) ((sp_g σ8 51 v6) + ((20 : Int32)))) fun v11 =>
      sp_ck (sp_in v6 50) <|
      sp_pl (sp_sa σ8 51 v6.toNatClampNeg v11) fun σ14 =>
      X4_angerOne_57 n σ14
set_option maxRecDepth 100000 in
set_option maxHeartbeats 4000000 in
theorem hX4_angerOne_57 {X : sp_X} (hX : sp_OK shX X cX4_angerOne RX4 2 rmX4_angerOne) {τ : sp_St} (hR : sp_Rv shX X τ 0 0) {n : Nat}    {σ : sp_St} (hf : X4_angerOne_57 n σ = some τ) : sp_GG shX X σ 2 [none, none] [] 57 0 0 := by
  unfold X4_angerOne_57 at hf
  exact sp_vret hX hR dX4_angerOne_57 hf (Nat.le_of_ble_eq_true rfl) (Nat.le_of_ble_eq_true rfl)
set_option maxRecDepth 100000 in
set_option maxHeartbeats 4000000 in
theorem hX4_angerOne {X : sp_X} (hX : sp_OK shX X cX4_angerOne RX4 2 rmX4_angerOne) {τ : sp_St} (hR : sp_Rv shX X τ 0 0) {n : Nat}  {σ : sp_St}   (hf : X4_angerOne n σ = some τ) : sp_GG shX X σ 2 [some (.ref (sx_ad X 57)), none] [] 0 0 0 := by
  unfold X4_angerOne at hf
  refine sp_aload_n (i := 0) (q := 1) hX dX4_angerOne_0 rfl rfl rfl ?_
  refine sp_aload_n (i := 0) (q := 2) hX dX4_angerOne_1 rfl rfl rfl ?_
  refine sp_gets (t := 50) (q := 5) hX flX4_22 fkX4_1 atX_57 srX_57_1 dX4_angerOne_2 rfl ?_
  obtain ⟨c1, e3, hf⟩ := sp_pl_some hf
  obtain ⟨h2, hf⟩ := sp_ck_some hf
  refine sp_getr (q := 8) hX flX4_58 fkX8_0 atX_50 dX4_angerOne_5 rfl ?_
  refine sp_nmr e3 ?_
  refine sp_geti (q := 11) hX flX4_62 fkX2_13 (sp_isc_at h2) dX4_angerOne_8 rfl ?_
  obtain ⟨σ5, v6, h4, hf⟩ := sp_bd_so hf
  refine sp_callVi (As := [.int (σ.1 c1 13)]) (rest := []) (q := 14) hX (cnX4_drawOf (sp_st hX)  h4) cwX4_105 atX_57 rfl rfl rfl rfl rfl (Nat.le_of_ble_eq_true rfl) (Nat.le_of_ble_eq_true rfl) (Nat.le_of_ble_eq_true rfl) (Nat.le_of_ble_eq_true rfl) (Nat.le_of_ble_eq_true rfl) dX4_angerOne_11 rfl ?_
  refine sp_istore_n (i := 1) (lv' := [some (.ref (sx_ad X 57)), some (.int v6)]) (q := 15) hX dX4_angerOne_14 rfl (Nat.le_of_ble_eq_true rfl) rfl rfl rfl ?_
  refine sp_iload_n (i := 1) (q := 16) hX dX4_angerOne_15 rfl rfl rfl ?_
  refine sp_iconst (v := -1) (q := 17) hX dX4_angerOne_16 li_m1 rfl ?_
  refine sp_icmp_eq (tgt := 57) (q := 20) hX dX4_angerOne_17 (by decide) rfl (fun hc => ?_) (fun hc => ?_)
  · rw [if_pos hc] at hf
    refine sp_drop (lv' := [none, none]) trivial ?_
    exact hX4_angerOne_57 hX hR hf
  · rw [if_neg hc] at hf
    refine sp_aload_n (i := 0) (q := 21) hX dX4_angerOne_20 rfl rfl rfl ?_
    refine sp_gets (t := 50) (q := 24) hX flX4_22 fkX4_1 atX_57 srX_57_1 dX4_angerOne_21 rfl ?_
    refine sp_iload_n (i := 1) (q := 25) hX dX4_angerOne_24 rfl rfl rfl ?_
    obtain ⟨σ8, v9, h7, hf⟩ := sp_bd_so hf
    refine sp_callVi (As := [.int v6]) (rest := []) (q := 28) hX (cnX8_isOut (sp_st hX) atX_50 h7) cwX4_67 atX_50 rfl rfl rfl rfl rfl (Nat.le_of_ble_eq_true rfl) (Nat.le_of_ble_eq_true rfl) (Nat.le_of_ble_eq_true rfl) (Nat.le_of_ble_eq_true rfl) (Nat.le_of_ble_eq_true rfl) dX4_angerOne_25 rfl ?_
    refine sp_if_eq (tgt := 57) (q := 31) hX dX4_angerOne_28 (by decide) rfl (fun hc => ?_) (fun hc => ?_)
    · rw [if_pos hc] at hf
      refine sp_drop (lv' := [none, none]) trivial ?_
      exact hX4_angerOne_57 hX hR hf
    · rw [if_neg hc] at hf
      refine sp_aload_n (i := 0) (q := 32) hX dX4_angerOne_31 rfl rfl rfl ?_
      refine sp_gets (t := 50) (q := 35) hX flX4_22 fkX4_1 atX_57 srX_57_1 dX4_angerOne_32 rfl ?_
      refine sp_gets (t := 51) (q := 38) hX flX4_34 fkX8_1 atX_50 srX_50_1 dX4_angerOne_35 rfl ?_
      refine sp_iload_n (i := 1) (q := 39) hX dX4_angerOne_38 rfl rfl rfl ?_
      refine sp_bipush (v := 99) (q := 41) hX dX4_angerOne_39 lb_99 rfl ?_
      refine sp_aload_n (i := 0) (q := 42) hX dX4_angerOne_41 rfl rfl rfl ?_
      refine sp_gets (t := 50) (q := 45) hX flX4_22 fkX4_1 atX_57 srX_57_1 dX4_angerOne_42 rfl ?_
      refine sp_gets (t := 51) (q := 48) hX flX4_34 fkX8_1 atX_50 srX_50_1 dX4_angerOne_45 rfl ?_
      refine sp_iload_n (i := 1) (q := 49) hX dX4_angerOne_48 rfl rfl rfl ?_
      obtain ⟨h10, hf⟩ := sp_ck_some hf
      refine sp_iald (q := 50) hX arX_51 h10 dX4_angerOne_49 rfl ?_
      refine sp_bipush (v := 20) (q := 52) hX dX4_angerOne_50 lb_20 rfl ?_
      refine sp_iadd (q := 53) hX dX4_angerOne_52 rfl ?_
      obtain ⟨v11, e12, hf⟩ := sp_pl_some hf
      refine sp_mmin (q := 56) hX wd_1575 wd_607 wd_144 wd_608 (Nat.le_of_ble_eq_true rfl) (Nat.le_of_ble_eq_true rfl) (Nat.le_of_ble_eq_true rfl) (Nat.le_of_ble_eq_true rfl) dX4_angerOne_53 rfl ?_
      refine sp_nmi e12 ?_
      obtain ⟨h13, hf⟩ := sp_ck_some hf
      obtain ⟨σ14, e15, hf⟩ := sp_pl_some hf
      refine sp_iast (q := 57) hX arX_51 h13 dX4_angerOne_56 rfl ?_
      refine sp_nms e15 ?_
      refine sp_drop (lv' := [none, none]) trivial ?_
      exact hX4_angerOne_57 hX hR hf
set_option maxRecDepth 100000 in
set_option maxHeartbeats 4000000 in
theorem cnX4_angerOne {l : Launch} (hst : l.stackTraces = false) {w : sp_Wd} {n : Nat}  {σ : sp_St}  {τ : sp_St}  (hf : X4_angerOne n σ = some τ) : sp_Cv shX l w yX4_angerOne cX4_angerOne 2 rmX4_angerOne 0 0 σ [.ref (w.2.1 57)] τ :=
  sp_cv (own := RX4) (by decide) rfl hst (Nat.le_of_ble_eq_true rfl) rfl (fun X hX hw hl hR => by subst hw; subst hl; exact hX4_angerOne hX hR   hf)
def rmX4_laugh : Room := { frames := 2, cells := 0, slots := 0, locals := 45 }
def X4_laugh_28 (n : Nat) (σ : sp_St) : Option (sp_St) :=
  some σ
def X4_laugh (n : Nat)  (σ : sp_St)  : Option (sp_St) :=
  sp_pl (σ.2.1 50 0) fun c1 =>
  sp_ck (sp_isc c1) <|
  sp_bd (X4_drawOf n σ (σ.1 c1 14)) fun σ5 v6 =>
  if v6 = ((-1 : Int32)) then
    X4_laugh_28 n σ5
  else
    sp_bv (X8_letTopOut n σ5 50 v6) fun σ8 =>
    X4_laugh_28 n σ8
set_option maxRecDepth 100000 in
set_option maxHeartbeats 4000000 in
theorem hX4_laugh_28 {X : sp_X} (hX : sp_OK shX X cX4_laugh RX4 2 rmX4_laugh) {τ : sp_St} (hR : sp_Rv shX X τ 0 0) {n : Nat}    {σ : sp_St} (hf : X4_laugh_28 n σ = some τ) : sp_GG shX X σ 2 [none, none] [] 28 0 0 := by
  unfold X4_laugh_28 at hf
  exact sp_vret hX hR dX4_laugh_28 hf (Nat.le_of_ble_eq_true rfl) (Nat.le_of_ble_eq_true rfl)
set_option maxRecDepth 100000 in
set_option maxHeartbeats 4000000 in
theorem hX4_laugh {X : sp_X} (hX : sp_OK shX X cX4_laugh RX4 2 rmX4_laugh) {τ : sp_St} (hR : sp_Rv shX X τ 0 0) {n : Nat}  {σ : sp_St}   (hf : X4_laugh n σ = some τ) : sp_GG shX X σ 2 [some (.ref (sx_ad X 57)), none] [] 0 0 0 := by
  unfold X4_laugh at hf
  refine sp_aload_n (i := 0) (q := 1) hX dX4_laugh_0 rfl rfl rfl ?_
  refine sp_aload_n (i := 0) (q := 2) hX dX4_laugh_1 rfl rfl rfl ?_
  refine sp_gets (t := 50) (q := 5) hX flX4_22 fkX4_1 atX_57 srX_57_1 dX4_laugh_2 rfl ?_
  obtain ⟨c1, e3, hf⟩ := sp_pl_some hf
  obtain ⟨h2, hf⟩ := sp_ck_some hf
  refine sp_getr (q := 8) hX flX4_58 fkX8_0 atX_50 dX4_laugh_5 rfl ?_
  refine sp_nmr e3 ?_
  refine sp_geti (q := 11) hX flX4_121 fkX2_14 (sp_isc_at h2) dX4_laugh_8 rfl ?_
  obtain ⟨σ5, v6, h4, hf⟩ := sp_bd_so hf
  refine sp_callVi (As := [.int (σ.1 c1 14)]) (rest := []) (q := 14) hX (cnX4_drawOf (sp_st hX)  h4) cwX4_105 atX_57 rfl rfl rfl rfl rfl (Nat.le_of_ble_eq_true rfl) (Nat.le_of_ble_eq_true rfl) (Nat.le_of_ble_eq_true rfl) (Nat.le_of_ble_eq_true rfl) (Nat.le_of_ble_eq_true rfl) dX4_laugh_11 rfl ?_
  refine sp_istore_n (i := 1) (lv' := [some (.ref (sx_ad X 57)), some (.int v6)]) (q := 15) hX dX4_laugh_14 rfl (Nat.le_of_ble_eq_true rfl) rfl rfl rfl ?_
  refine sp_iload_n (i := 1) (q := 16) hX dX4_laugh_15 rfl rfl rfl ?_
  refine sp_iconst (v := -1) (q := 17) hX dX4_laugh_16 li_m1 rfl ?_
  refine sp_icmp_eq (tgt := 28) (q := 20) hX dX4_laugh_17 (by decide) rfl (fun hc => ?_) (fun hc => ?_)
  · rw [if_pos hc] at hf
    refine sp_drop (lv' := [none, none]) trivial ?_
    exact hX4_laugh_28 hX hR hf
  · rw [if_neg hc] at hf
    refine sp_aload_n (i := 0) (q := 21) hX dX4_laugh_20 rfl rfl rfl ?_
    refine sp_gets (t := 50) (q := 24) hX flX4_22 fkX4_1 atX_57 srX_57_1 dX4_laugh_21 rfl ?_
    refine sp_iload_n (i := 1) (q := 25) hX dX4_laugh_24 rfl rfl rfl ?_
    obtain ⟨σ8, h7, hf⟩ := sp_bv_so hf
    refine sp_callVv (As := [.int v6]) (rest := []) (q := 28) hX (cnX8_letTopOut (sp_st hX) atX_50 h7) cwX4_124 atX_50 rfl rfl rfl rfl rfl (Nat.le_of_ble_eq_true rfl) (Nat.le_of_ble_eq_true rfl) (Nat.le_of_ble_eq_true rfl) (Nat.le_of_ble_eq_true rfl) (Nat.le_of_ble_eq_true rfl) dX4_laugh_25 rfl ?_
    refine sp_drop (lv' := [none, none]) trivial ?_
    exact hX4_laugh_28 hX hR hf
set_option maxRecDepth 100000 in
set_option maxHeartbeats 4000000 in
theorem cnX4_laugh {l : Launch} (hst : l.stackTraces = false) {w : sp_Wd} {n : Nat}  {σ : sp_St}  {τ : sp_St}  (hf : X4_laugh n σ = some τ) : sp_Cv shX l w yX4_laugh cX4_laugh 2 rmX4_laugh 0 0 σ [.ref (w.2.1 57)] τ :=
  sp_cv (own := RX4) (by decide) rfl hst (Nat.le_of_ble_eq_true rfl) rfl (fun X hX hw hl hR => by subst hw; subst hl; exact hX4_laugh hX hR   hf)
def rmX4_firstFight : Room := { frames := 6, cells := 0, slots := 0, locals := 137 }
def X4_firstFight (n : Nat)  (σ : sp_St)  : Option (sp_St × Int32) :=
  sp_bv (X8_copy n σ 50 23) fun σ2 =>
  sp_bd (X4_dreamFirstFight n σ2) fun σ4 v5 =>
  sp_pl (if v5 = ((61 : Int32)) then ((-1 : Int32)) else v5) fun v6 =>
  some (σ4, v6)
set_option maxRecDepth 100000 in
set_option maxHeartbeats 4000000 in
theorem hX4_firstFight {X : sp_X} (hX : sp_OK shX X cX4_firstFight RX4 2 rmX4_firstFight) {τ : sp_St} {r : Int32} (hR : sp_Ri shX X (some .int) τ r 0 0) {n : Nat}  {σ : sp_St}   (hf : X4_firstFight n σ = some (τ, r)) : sp_GG shX X σ 2 [some (.ref (sx_ad X 57)), none] [] 0 0 0 := by
  unfold X4_firstFight at hf
  refine sp_aload_n (i := 0) (q := 1) hX dX4_firstFight_0 rfl rfl rfl ?_
  refine sp_gets (t := 50) (q := 4) hX flX4_22 fkX4_1 atX_57 srX_57_1 dX4_firstFight_1 rfl ?_
  refine sp_aload_n (i := 0) (q := 5) hX dX4_firstFight_4 rfl rfl rfl ?_
  refine sp_gets (t := 23) (q := 8) hX flX4_18 fkX4_0 atX_57 srX_57_0 dX4_firstFight_5 rfl ?_
  obtain ⟨σ2, h1, hf⟩ := sp_bv_so hf
  refine sp_callVv (As := [.ref (sx_ad X 23)]) (rest := []) (q := 11) hX (cnX8_copy (sp_st hX) atX_50 atX_23 h1) cwX4_25 atX_50 rfl rfl rfl rfl rfl (Nat.le_of_ble_eq_true rfl) (Nat.le_of_ble_eq_true rfl) (Nat.le_of_ble_eq_true rfl) (Nat.le_of_ble_eq_true rfl) (Nat.le_of_ble_eq_true rfl) dX4_firstFight_8 rfl ?_
  refine sp_aload_n (i := 0) (q := 12) hX dX4_firstFight_11 rfl rfl rfl ?_
  obtain ⟨σ4, v5, h3, hf⟩ := sp_bd_so hf
  refine sp_callVi (As := []) (rest := []) (q := 15) hX (cnX4_dreamFirstFight (sp_st hX)  h3) cwX4_37 atX_57 rfl rfl rfl rfl rfl (Nat.le_of_ble_eq_true rfl) (Nat.le_of_ble_eq_true rfl) (Nat.le_of_ble_eq_true rfl) (Nat.le_of_ble_eq_true rfl) (Nat.le_of_ble_eq_true rfl) dX4_firstFight_12 rfl ?_
  refine sp_istore_n (i := 1) (lv' := [some (.ref (sx_ad X 57)), some (.int v5)]) (q := 16) hX dX4_firstFight_15 rfl (Nat.le_of_ble_eq_true rfl) rfl rfl rfl ?_
  refine sp_iload_n (i := 1) (q := 17) hX dX4_firstFight_16 rfl rfl rfl ?_
  refine sp_bipush (v := 61) (q := 19) hX dX4_firstFight_17 lb_61 rfl ?_
  obtain ⟨v6, e7, hf⟩ := sp_pl_some hf
  have hj8 : sp_GG shX X σ4 2 [some (.ref (sx_ad X 57)), some (.int v5)] [.int v6] 27 0 0 := by
    exact sp_iret hX hR dX4_firstFight_27 hf (Nat.le_of_ble_eq_true rfl) (Nat.le_of_ble_eq_true rfl)
  refine sp_icmp_ne (tgt := 26) (q := 22) hX dX4_firstFight_19 (by decide) rfl (fun hc => ?_) (fun hc => ?_)
  · refine sp_iload_n (i := 1) (q := 27) hX dX4_firstFight_26 rfl rfl rfl ?_
    exact sp_nmi (by rw [e7, if_neg hc]) hj8
  · refine sp_iconst (v := -1) (q := 23) hX dX4_firstFight_22 li_m1 rfl ?_
    refine sp_goto (tgt := 27) hX dX4_firstFight_23 (by decide) ?_
    exact sp_nmi (by rw [e7, if_pos hc]) hj8
set_option maxRecDepth 100000 in
set_option maxHeartbeats 4000000 in
theorem cnX4_firstFight {l : Launch} (hst : l.stackTraces = false) {w : sp_Wd} {n : Nat}  {σ : sp_St}  {τ : sp_St} {r : Int32}  (hf : X4_firstFight n σ = some (τ, r)) : sp_Ci shX l w yX4_firstFight cX4_firstFight 2 (some .int) rmX4_firstFight 0 0 σ [.ref (w.2.1 57)] τ r :=
  sp_ci (own := RX4) (by decide) rfl hst (Nat.le_of_ble_eq_true rfl) rfl (fun X hX hw hl hR => by subst hw; subst hl; exact hX4_firstFight hX hR   hf)
def rmX4_play : Room := { frames := 6, cells := 0, slots := 0, locals := 138 }
def X4_play_197 (n : Nat) (k126 : sp_St → Int32 → Option (sp_St)) (σ : sp_St) (z3 : Int32) : Option (sp_St) :=
  sp_pl (z3 + 1) fun x1 =>
  k126 σ x1
def X4_play_126 (n : Nat) : Nat → sp_St → Int32 → Option (sp_St)
  | 0, _, _ => none
  | f + 1, σ, z3 =>
    if ((4 : Int32)) ≤ z3 then
      some σ
    else
      sp_ck (sp_in z3 4) <|
      sp_ck (sp_in (z3 ^^^ ((2 : Int32))) 4) <|
      if (sp_g σ 58 (z3 ^^^ ((2 : Int32)))) < (sp_g σ 58 z3) then
        X4_play_197 n (X4_play_126 n f) σ z3
      else
        sp_ck (sp_in z3 4) <|
        sp_ck (sp_in (z3 ^^^ ((1 : Int32))) 4) <|
        if (sp_g σ 59 (z3 ^^^ ((1 : Int32)))) < (sp_g σ 59 z3) then
          X4_play_197 n (X4_play_126 n f) σ z3
        else
          sp_pl (sp_si σ 57 7 ((σ.1 57 7) + ((1 : Int32)))) fun σ5 =>
          if (σ5.1 57 8) = ((-1 : Int32)) then
            sp_pl (sp_si σ5 57 8 (((z3 >>> (((1 : Int32)) &&& 31)) * ((10 : Int32))) + (z3 &&& ((1 : Int32))))) fun σ7 =>
            X4_play_197 n (X4_play_126 n f) σ7 z3
          else
            X4_play_197 n (X4_play_126 n f) σ5 z3
def X4_play_114 (n : Nat) (σ : sp_St) : Option (sp_St) :=
  sp_pl (sp_si σ 57 7 ((0 : Int32))) fun σ1 =>
  sp_pl (sp_si σ1 57 8 ((-1 : Int32))) fun σ3 =>
  sp_pl ((0 : Int32)) fun x5 =>
  X4_play_126 n n σ3 x5
def X4_play_68 (n : Nat) (k2 : sp_St → Int32 → Int32 → Int32 → Option (sp_St)) (σ : sp_St) (z1 : Int32) (z2 : Int32) (z3 : Int32) (zs0 : Int32) (zs1 : Int32) : Option (sp_St) :=
  sp_pl (zs1 ||| zs0) fun x1 =>
  sp_bv (X4_dreamSwallowing n σ x1) fun σ4 =>
  sp_bv (X8_passDays n σ4 50 ((10 : Int32))) fun σ6 =>
  sp_bd (X4_lossOf n σ6 z1) fun σ8 v9 =>
  sp_ck (sp_in z3 4) <|
  sp_pl (sp_sa σ8 58 z3.toNatClampNeg v9) fun σ11 =>
  sp_bd (X4_lossOf n σ11 z2) fun σ14 v15 =>
  sp_ck (sp_in z3 4) <|
  sp_pl (sp_sa σ14 59 z3.toNatClampNeg v15) fun σ17 =>
  sp_pl (z3 + 1) fun x19 =>
  k2 σ17 z1 z2 x19
def X4_play_42 (n : Nat) (k2 : sp_St → Int32 → Int32 → Int32 → Option (sp_St)) (σ : sp_St) (z1 : Int32) (z2 : Int32) (z3 : Int32) (zs0 : Int32) : Option (sp_St) :=
  if (z3 &&& ((1 : Int32))) = 0 then
    X4_play_68 n k2 σ z1 z2 z3 ((0 : Int32)) zs0
  else
    sp_pl (σ.2.1 23 0) fun c1 =>
    sp_ck (sp_isc c1) <|
    sp_ck (sp_in z2 6) <|
    X4_play_68 n k2 σ z1 z2 z3 (sp_g σ (c1 + 4) z2) zs0
def X4_play_2 (n : Nat) : Nat → sp_St → Int32 → Int32 → Int32 → Option (sp_St)
  | 0, _, _, _, _ => none
  | f + 1, σ, z1, z2, z3 =>
    if ((4 : Int32)) ≤ z3 then
      X4_play_114 n σ
    else
      sp_bv (X8_copy n σ 50 23) fun σ2 =>
      if ((z3 >>> (((1 : Int32)) &&& 31)) &&& ((1 : Int32))) = 0 then
        X4_play_42 n (X4_play_2 n f) σ2 z1 z2 z3 ((0 : Int32))
      else
        sp_pl (σ2.2.1 23 0) fun c3 =>
        sp_ck (sp_isc c3) <|
        sp_ck (sp_in z1 6) <|
        X4_play_42 n (X4_play_2 n f) σ2 z1 z2 z3 (sp_g σ2 (c3 + 4) z1)
def X4_play (n : Nat)  (σ : sp_St) (a1 : Int32) (a2 : Int32) : Option (sp_St) :=
  sp_pl ((0 : Int32)) fun x1 =>
  X4_play_2 n n σ a1 a2 x1
set_option maxRecDepth 100000 in
set_option maxHeartbeats 4000000 in
theorem hX4_play_197 {X : sp_X} (hX : sp_OK shX X cX4_play RX4 5 rmX4_play) {τ : sp_St} (hR : sp_Rv shX X τ 0 0) {n : Nat}   {k126 : sp_St → Int32 → Option (sp_St)} (hk126 : ∀ (σ : sp_St) (z3 : Int32), k126 σ z3 = some τ → sp_GG shX X σ 5 [some (.ref (sx_ad X 57)), none, none, some (.int z3), none] [] 126 0 0) {σ : sp_St} {z3 : Int32} (hf : X4_play_197 n k126 σ z3 = some τ) : sp_GG shX X σ 5 [some (.ref (sx_ad X 57)), none, none, some (.int z3), none] [] 197 0 0 := by
  unfold X4_play_197 at hf
  obtain ⟨x1, e2, hf⟩ := sp_pl_some hf
  refine sp_iinc (i := 3) (v := x1) (lv' := [some (.ref (sx_ad X 57)), none, none, some (.int x1), none]) (q := 200) hX dX4_play_197 rfl (by rw [e2, li_1]) (Nat.le_of_ble_eq_true rfl) rfl rfl rfl ?_
  refine sp_goto (tgt := 126) hX dX4_play_200 (by decide) ?_
  exact hk126 σ x1 hf
set_option maxRecDepth 100000 in
set_option maxHeartbeats 4000000 in
theorem hX4_play_126 {X : sp_X} (hX : sp_OK shX X cX4_play RX4 5 rmX4_play) {τ : sp_St} (hR : sp_Rv shX X τ 0 0) {n : Nat}    : ∀ (f : Nat) (σ : sp_St) (z3 : Int32), X4_play_126 n f σ z3 = some τ → sp_GG shX X σ 5 [some (.ref (sx_ad X 57)), none, none, some (.int z3), none] [] 126 0 0 := by
  intro f
  induction f with
  | zero =>
    intro σ z3 hf
    rw [X4_play_126] at hf
    cases hf
  | succ f ih =>
    intro σ z3 hf
    rw [X4_play_126] at hf
    refine sp_iload_n (i := 3) (q := 127) hX dX4_play_126 rfl rfl rfl ?_
    refine sp_iconst (v := 4) (q := 128) hX dX4_play_127 li_4 rfl ?_
    refine sp_icmp_ge (tgt := 203) (q := 131) hX dX4_play_128 (by decide) rfl (fun hc => ?_) (fun hc => ?_)
    · rw [if_pos hc] at hf
      exact sp_vret hX hR dX4_play_203 hf (Nat.le_of_ble_eq_true rfl) (Nat.le_of_ble_eq_true rfl)
    · rw [if_neg hc] at hf
      refine sp_aload_n (i := 0) (q := 132) hX dX4_play_131 rfl rfl rfl ?_
      refine sp_gets (t := 58) (q := 135) hX flX4_9 fkX4_2 atX_57 srX_57_2 dX4_play_132 rfl ?_
      refine sp_iload_n (i := 3) (q := 136) hX dX4_play_135 rfl rfl rfl ?_
      obtain ⟨h1, hf⟩ := sp_ck_some hf
      refine sp_iald (q := 137) hX arX_58 h1 dX4_play_136 rfl ?_
      refine sp_aload_n (i := 0) (q := 138) hX dX4_play_137 rfl rfl rfl ?_
      refine sp_gets (t := 58) (q := 141) hX flX4_9 fkX4_2 atX_57 srX_57_2 dX4_play_138 rfl ?_
      refine sp_iload_n (i := 3) (q := 142) hX dX4_play_141 rfl rfl rfl ?_
      refine sp_iconst (v := 2) (q := 143) hX dX4_play_142 li_2 rfl ?_
      refine sp_ixor (q := 144) hX dX4_play_143 rfl ?_
      obtain ⟨h2, hf⟩ := sp_ck_some hf
      refine sp_iald (q := 145) hX arX_58 h2 dX4_play_144 rfl ?_
      refine sp_icmp_gt (tgt := 197) (q := 148) hX dX4_play_145 (by decide) rfl (fun hc => ?_) (fun hc => ?_)
      · rw [if_pos hc] at hf
        exact hX4_play_197 hX hR ih hf
      · rw [if_neg hc] at hf
        refine sp_aload_n (i := 0) (q := 149) hX dX4_play_148 rfl rfl rfl ?_
        refine sp_gets (t := 59) (q := 152) hX flX4_15 fkX4_3 atX_57 srX_57_3 dX4_play_149 rfl ?_
        refine sp_iload_n (i := 3) (q := 153) hX dX4_play_152 rfl rfl rfl ?_
        obtain ⟨h3, hf⟩ := sp_ck_some hf
        refine sp_iald (q := 154) hX arX_59 h3 dX4_play_153 rfl ?_
        refine sp_aload_n (i := 0) (q := 155) hX dX4_play_154 rfl rfl rfl ?_
        refine sp_gets (t := 59) (q := 158) hX flX4_15 fkX4_3 atX_57 srX_57_3 dX4_play_155 rfl ?_
        refine sp_iload_n (i := 3) (q := 159) hX dX4_play_158 rfl rfl rfl ?_
        refine sp_iconst (v := 1) (q := 160) hX dX4_play_159 li_1 rfl ?_
        refine sp_ixor (q := 161) hX dX4_play_160 rfl ?_
        obtain ⟨h4, hf⟩ := sp_ck_some hf
        refine sp_iald (q := 162) hX arX_59 h4 dX4_play_161 rfl ?_
        refine sp_icmp_gt (tgt := 197) (q := 165) hX dX4_play_162 (by decide) rfl (fun hc => ?_) (fun hc => ?_)
        · rw [if_pos hc] at hf
          exact hX4_play_197 hX hR ih hf
        · rw [if_neg hc] at hf
          refine sp_aload_n (i := 0) (q := 166) hX dX4_play_165 rfl rfl rfl ?_
          refine sp_dup (q := 167) hX dX4_play_166 rfl rfl ?_
          refine sp_geti (q := 170) hX flX4_88 fkX4_7 atX_57 dX4_play_167 rfl ?_
          refine sp_iconst (v := 1) (q := 171) hX dX4_play_170 li_1 rfl ?_
          refine sp_iadd (q := 172) hX dX4_play_171 rfl ?_
          obtain ⟨σ5, e6, hf⟩ := sp_pl_some hf
          refine sp_puti (q := 175) hX fpX4_88 fkX4_7 atX_57 dX4_play_172 rfl ?_
          refine sp_nms e6 ?_
          refine sp_aload_n (i := 0) (q := 176) hX dX4_play_175 rfl rfl rfl ?_
          refine sp_geti (q := 179) hX flX4_91 fkX4_8 atX_57 dX4_play_176 rfl ?_
          refine sp_iconst (v := -1) (q := 180) hX dX4_play_179 li_m1 rfl ?_
          refine sp_icmp_ne (tgt := 197) (q := 183) hX dX4_play_180 (by decide) rfl (fun hc => ?_) (fun hc => ?_)
          · rw [if_neg hc] at hf
            exact hX4_play_197 hX hR ih hf
          · rw [if_pos hc] at hf
            refine sp_aload_n (i := 0) (q := 184) hX dX4_play_183 rfl rfl rfl ?_
            refine sp_iload_n (i := 3) (q := 185) hX dX4_play_184 rfl rfl rfl ?_
            refine sp_iconst (v := 1) (q := 186) hX dX4_play_185 li_1 rfl ?_
            refine sp_ishr (q := 187) hX dX4_play_186 rfl ?_
            refine sp_bipush (v := 10) (q := 189) hX dX4_play_187 lb_10 rfl ?_
            refine sp_imul (q := 190) hX dX4_play_189 rfl ?_
            refine sp_iload_n (i := 3) (q := 191) hX dX4_play_190 rfl rfl rfl ?_
            refine sp_iconst (v := 1) (q := 192) hX dX4_play_191 li_1 rfl ?_
            refine sp_iand (q := 193) hX dX4_play_192 rfl ?_
            refine sp_iadd (q := 194) hX dX4_play_193 rfl ?_
            obtain ⟨σ7, e8, hf⟩ := sp_pl_some hf
            refine sp_puti (q := 197) hX fpX4_91 fkX4_8 atX_57 dX4_play_194 rfl ?_
            refine sp_nms e8 ?_
            exact hX4_play_197 hX hR ih hf
set_option maxRecDepth 100000 in
set_option maxHeartbeats 4000000 in
theorem hX4_play_114 {X : sp_X} (hX : sp_OK shX X cX4_play RX4 5 rmX4_play) {τ : sp_St} (hR : sp_Rv shX X τ 0 0) {n : Nat}    {σ : sp_St} (hf : X4_play_114 n σ = some τ) : sp_GG shX X σ 5 [some (.ref (sx_ad X 57)), none, none, none, none] [] 114 0 0 := by
  unfold X4_play_114 at hf
  refine sp_aload_n (i := 0) (q := 115) hX dX4_play_114 rfl rfl rfl ?_
  refine sp_iconst (v := 0) (q := 116) hX dX4_play_115 li_0 rfl ?_
  obtain ⟨σ1, e2, hf⟩ := sp_pl_some hf
  refine sp_puti (q := 119) hX fpX4_88 fkX4_7 atX_57 dX4_play_116 rfl ?_
  refine sp_nms e2 ?_
  refine sp_aload_n (i := 0) (q := 120) hX dX4_play_119 rfl rfl rfl ?_
  refine sp_iconst (v := -1) (q := 121) hX dX4_play_120 li_m1 rfl ?_
  obtain ⟨σ3, e4, hf⟩ := sp_pl_some hf
  refine sp_puti (q := 124) hX fpX4_91 fkX4_8 atX_57 dX4_play_121 rfl ?_
  refine sp_nms e4 ?_
  refine sp_iconst (v := 0) (q := 125) hX dX4_play_124 li_0 rfl ?_
  obtain ⟨x5, e6, hf⟩ := sp_pl_some hf
  refine sp_nmi e6 ?_
  refine sp_istore_n (i := 3) (lv' := [some (.ref (sx_ad X 57)), none, none, some (.int x5), none]) (q := 126) hX dX4_play_125 rfl (Nat.le_of_ble_eq_true rfl) rfl rfl rfl ?_
  exact hX4_play_126 hX hR n σ3 x5 hf
set_option maxRecDepth 100000 in
set_option maxHeartbeats 4000000 in
theorem hX4_play_68 {X : sp_X} (hX : sp_OK shX X cX4_play RX4 5 rmX4_play) {τ : sp_St} (hR : sp_Rv shX X τ 0 0) {n : Nat}   {k2 : sp_St → Int32 → Int32 → Int32 → Option (sp_St)} (hk2 : ∀ (σ : sp_St) (z1 : Int32) (z2 : Int32) (z3 : Int32), k2 σ z1 z2 z3 = some τ → sp_GG shX X σ 5 [some (.ref (sx_ad X 57)), some (.int z1), some (.int z2), some (.int z3), none] [] 2 0 0) {σ : sp_St} {z1 : Int32} {z2 : Int32} {z3 : Int32} {zs0 : Int32} {zs1 : Int32} (hf : X4_play_68 n k2 σ z1 z2 z3 zs0 zs1 = some τ) : sp_GG shX X σ 5 [some (.ref (sx_ad X 57)), some (.int z1), some (.int z2), some (.int z3), none] [.int zs0, .int zs1] 68 0 0 := by
  unfold X4_play_68 at hf
  refine sp_ior (q := 69) hX dX4_play_68 rfl ?_
  obtain ⟨x1, e2, hf⟩ := sp_pl_some hf
  refine sp_nmi e2 ?_
  refine sp_istore (i := 4) (lv' := [some (.ref (sx_ad X 57)), some (.int z1), some (.int z2), some (.int z3), some (.int x1)]) (q := 71) hX dX4_play_69 (Nat.le_of_ble_eq_true rfl) rfl rfl rfl ?_
  refine sp_aload_n (i := 0) (q := 72) hX dX4_play_71 rfl rfl rfl ?_
  refine sp_iload (i := 4) (q := 74) hX dX4_play_72 rfl rfl ?_
  obtain ⟨σ4, h3, hf⟩ := sp_bv_so hf
  refine sp_callVv (As := [.int x1]) (rest := []) (q := 77) hX (cnX4_dreamSwallowing (sp_st hX)  h3) cwX4_78 atX_57 rfl rfl rfl rfl rfl (Nat.le_of_ble_eq_true rfl) (Nat.le_of_ble_eq_true rfl) (Nat.le_of_ble_eq_true rfl) (Nat.le_of_ble_eq_true rfl) (Nat.le_of_ble_eq_true rfl) dX4_play_74 rfl ?_
  refine sp_aload_n (i := 0) (q := 78) hX dX4_play_77 rfl rfl rfl ?_
  refine sp_gets (t := 50) (q := 81) hX flX4_22 fkX4_1 atX_57 srX_57_1 dX4_play_78 rfl ?_
  refine sp_bipush (v := 10) (q := 83) hX dX4_play_81 lb_10 rfl ?_
  obtain ⟨σ6, h5, hf⟩ := sp_bv_so hf
  refine sp_callVv (As := [.int ((10 : Int32))]) (rest := []) (q := 86) hX (cnX8_passDays (sp_st hX) atX_50 h5) cwX4_81 atX_50 rfl rfl rfl rfl rfl (Nat.le_of_ble_eq_true rfl) (Nat.le_of_ble_eq_true rfl) (Nat.le_of_ble_eq_true rfl) (Nat.le_of_ble_eq_true rfl) (Nat.le_of_ble_eq_true rfl) dX4_play_83 rfl ?_
  refine sp_aload_n (i := 0) (q := 87) hX dX4_play_86 rfl rfl rfl ?_
  refine sp_gets (t := 58) (q := 90) hX flX4_9 fkX4_2 atX_57 srX_57_2 dX4_play_87 rfl ?_
  refine sp_iload_n (i := 3) (q := 91) hX dX4_play_90 rfl rfl rfl ?_
  refine sp_aload_n (i := 0) (q := 92) hX dX4_play_91 rfl rfl rfl ?_
  refine sp_iload_n (i := 1) (q := 93) hX dX4_play_92 rfl rfl rfl ?_
  obtain ⟨σ8, v9, h7, hf⟩ := sp_bd_so hf
  refine sp_callVi (As := [.int z1]) (rest := [.int z3, .ref (sx_ad X 58)]) (q := 96) hX (cnX4_lossOf (sp_st hX)  h7) cwX4_84 atX_57 rfl rfl rfl rfl rfl (Nat.le_of_ble_eq_true rfl) (Nat.le_of_ble_eq_true rfl) (Nat.le_of_ble_eq_true rfl) (Nat.le_of_ble_eq_true rfl) (Nat.le_of_ble_eq_true rfl) dX4_play_93 rfl ?_
  obtain ⟨h10, hf⟩ := sp_ck_some hf
  obtain ⟨σ11, e12, hf⟩ := sp_pl_some hf
  refine sp_iast (q := 97) hX arX_58 h10 dX4_play_96 rfl ?_
  refine sp_nms e12 ?_
  refine sp_aload_n (i := 0) (q := 98) hX dX4_play_97 rfl rfl rfl ?_
  refine sp_gets (t := 59) (q := 101) hX flX4_15 fkX4_3 atX_57 srX_57_3 dX4_play_98 rfl ?_
  refine sp_iload_n (i := 3) (q := 102) hX dX4_play_101 rfl rfl rfl ?_
  refine sp_aload_n (i := 0) (q := 103) hX dX4_play_102 rfl rfl rfl ?_
  refine sp_iload_n (i := 2) (q := 104) hX dX4_play_103 rfl rfl rfl ?_
  obtain ⟨σ14, v15, h13, hf⟩ := sp_bd_so hf
  refine sp_callVi (As := [.int z2]) (rest := [.int z3, .ref (sx_ad X 59)]) (q := 107) hX (cnX4_lossOf (sp_st hX)  h13) cwX4_84 atX_57 rfl rfl rfl rfl rfl (Nat.le_of_ble_eq_true rfl) (Nat.le_of_ble_eq_true rfl) (Nat.le_of_ble_eq_true rfl) (Nat.le_of_ble_eq_true rfl) (Nat.le_of_ble_eq_true rfl) dX4_play_104 rfl ?_
  obtain ⟨h16, hf⟩ := sp_ck_some hf
  obtain ⟨σ17, e18, hf⟩ := sp_pl_some hf
  refine sp_iast (q := 108) hX arX_59 h16 dX4_play_107 rfl ?_
  refine sp_nms e18 ?_
  obtain ⟨x19, e20, hf⟩ := sp_pl_some hf
  refine sp_iinc (i := 3) (v := x19) (lv' := [some (.ref (sx_ad X 57)), some (.int z1), some (.int z2), some (.int x19), some (.int x1)]) (q := 111) hX dX4_play_108 rfl (by rw [e20, li_1]) (Nat.le_of_ble_eq_true rfl) rfl rfl rfl ?_
  refine sp_goto (tgt := 2) hX dX4_play_111 (by decide) ?_
  refine sp_drop (lv' := [some (.ref (sx_ad X 57)), some (.int z1), some (.int z2), some (.int x19), none]) (And.intro rfl (And.intro rfl (And.intro rfl (And.intro rfl trivial)))) ?_
  exact hk2 σ17 z1 z2 x19 hf
set_option maxRecDepth 100000 in
set_option maxHeartbeats 4000000 in
theorem hX4_play_42 {X : sp_X} (hX : sp_OK shX X cX4_play RX4 5 rmX4_play) {τ : sp_St} (hR : sp_Rv shX X τ 0 0) {n : Nat}   {k2 : sp_St → Int32 → Int32 → Int32 → Option (sp_St)} (hk2 : ∀ (σ : sp_St) (z1 : Int32) (z2 : Int32) (z3 : Int32), k2 σ z1 z2 z3 = some τ → sp_GG shX X σ 5 [some (.ref (sx_ad X 57)), some (.int z1), some (.int z2), some (.int z3), none] [] 2 0 0) {σ : sp_St} {z1 : Int32} {z2 : Int32} {z3 : Int32} {zs0 : Int32} (hf : X4_play_42 n k2 σ z1 z2 z3 zs0 = some τ) : sp_GG shX X σ 5 [some (.ref (sx_ad X 57)), some (.int z1), some (.int z2), some (.int z3), none] [.int zs0] 42 0 0 := by
  unfold X4_play_42 at hf
  refine sp_istore (i := 4) (lv' := [some (.ref (sx_ad X 57)), some (.int z1), some (.int z2), some (.int z3), some (.int zs0)]) (q := 44) hX dX4_play_42 (Nat.le_of_ble_eq_true rfl) rfl rfl rfl ?_
  refine sp_iload (i := 4) (q := 46) hX dX4_play_44 rfl rfl ?_
  refine sp_iload_n (i := 3) (q := 47) hX dX4_play_46 rfl rfl rfl ?_
  refine sp_iconst (v := 1) (q := 48) hX dX4_play_47 li_1 rfl ?_
  refine sp_iand (q := 49) hX dX4_play_48 rfl ?_
  refine sp_if_eq (tgt := 67) (q := 52) hX dX4_play_49 (by decide) rfl (fun hc => ?_) (fun hc => ?_)
  · rw [if_pos hc] at hf
    refine sp_iconst (v := 0) (q := 68) hX dX4_play_67 li_0 rfl ?_
    refine sp_drop (lv' := [some (.ref (sx_ad X 57)), some (.int z1), some (.int z2), some (.int z3), none]) (And.intro rfl (And.intro rfl (And.intro rfl (And.intro rfl trivial)))) ?_
    exact hX4_play_68 hX hR hk2 hf
  · rw [if_neg hc] at hf
    refine sp_aload_n (i := 0) (q := 53) hX dX4_play_52 rfl rfl rfl ?_
    refine sp_gets (t := 23) (q := 56) hX flX4_18 fkX4_0 atX_57 srX_57_0 dX4_play_53 rfl ?_
    obtain ⟨c1, e3, hf⟩ := sp_pl_some hf
    obtain ⟨h2, hf⟩ := sp_ck_some hf
    refine sp_getr (q := 59) hX flX4_58 fkX8_0 atX_23 dX4_play_56 rfl ?_
    refine sp_nmr e3 ?_
    refine sp_gets (t := c1 + 4) (q := 62) hX flX4_75 fkX2_3 (sp_isc_at h2) (msX2_3 (sp_isc_at h2)) dX4_play_59 rfl ?_
    refine sp_iload_n (i := 2) (q := 63) hX dX4_play_62 rfl rfl rfl ?_
    obtain ⟨h4, hf⟩ := sp_ck_some hf
    refine sp_iald (q := 64) hX (mfX2_3 (sp_isc_at h2)) h4 dX4_play_63 rfl ?_
    refine sp_goto (tgt := 68) hX dX4_play_64 (by decide) ?_
    refine sp_drop (lv' := [some (.ref (sx_ad X 57)), some (.int z1), some (.int z2), some (.int z3), none]) (And.intro rfl (And.intro rfl (And.intro rfl (And.intro rfl trivial)))) ?_
    exact hX4_play_68 hX hR hk2 hf
set_option maxRecDepth 100000 in
set_option maxHeartbeats 4000000 in
theorem hX4_play_2 {X : sp_X} (hX : sp_OK shX X cX4_play RX4 5 rmX4_play) {τ : sp_St} (hR : sp_Rv shX X τ 0 0) {n : Nat}    : ∀ (f : Nat) (σ : sp_St) (z1 : Int32) (z2 : Int32) (z3 : Int32), X4_play_2 n f σ z1 z2 z3 = some τ → sp_GG shX X σ 5 [some (.ref (sx_ad X 57)), some (.int z1), some (.int z2), some (.int z3), none] [] 2 0 0 := by
  intro f
  induction f with
  | zero =>
    intro σ z1 z2 z3 hf
    rw [X4_play_2] at hf
    cases hf
  | succ f ih =>
    intro σ z1 z2 z3 hf
    rw [X4_play_2] at hf
    refine sp_iload_n (i := 3) (q := 3) hX dX4_play_2 rfl rfl rfl ?_
    refine sp_iconst (v := 4) (q := 4) hX dX4_play_3 li_4 rfl ?_
    refine sp_icmp_ge (tgt := 114) (q := 7) hX dX4_play_4 (by decide) rfl (fun hc => ?_) (fun hc => ?_)
    · rw [if_pos hc] at hf
      refine sp_drop (lv' := [some (.ref (sx_ad X 57)), none, none, none, none]) (And.intro rfl trivial) ?_
      exact hX4_play_114 hX hR hf
    · rw [if_neg hc] at hf
      refine sp_aload_n (i := 0) (q := 8) hX dX4_play_7 rfl rfl rfl ?_
      refine sp_gets (t := 50) (q := 11) hX flX4_22 fkX4_1 atX_57 srX_57_1 dX4_play_8 rfl ?_
      refine sp_aload_n (i := 0) (q := 12) hX dX4_play_11 rfl rfl rfl ?_
      refine sp_gets (t := 23) (q := 15) hX flX4_18 fkX4_0 atX_57 srX_57_0 dX4_play_12 rfl ?_
      obtain ⟨σ2, h1, hf⟩ := sp_bv_so hf
      refine sp_callVv (As := [.ref (sx_ad X 23)]) (rest := []) (q := 18) hX (cnX8_copy (sp_st hX) atX_50 atX_23 h1) cwX4_25 atX_50 rfl rfl rfl rfl rfl (Nat.le_of_ble_eq_true rfl) (Nat.le_of_ble_eq_true rfl) (Nat.le_of_ble_eq_true rfl) (Nat.le_of_ble_eq_true rfl) (Nat.le_of_ble_eq_true rfl) dX4_play_15 rfl ?_
      refine sp_iload_n (i := 3) (q := 19) hX dX4_play_18 rfl rfl rfl ?_
      refine sp_iconst (v := 1) (q := 20) hX dX4_play_19 li_1 rfl ?_
      refine sp_ishr (q := 21) hX dX4_play_20 rfl ?_
      refine sp_iconst (v := 1) (q := 22) hX dX4_play_21 li_1 rfl ?_
      refine sp_iand (q := 23) hX dX4_play_22 rfl ?_
      refine sp_if_eq (tgt := 41) (q := 26) hX dX4_play_23 (by decide) rfl (fun hc => ?_) (fun hc => ?_)
      · rw [if_pos hc] at hf
        refine sp_iconst (v := 0) (q := 42) hX dX4_play_41 li_0 rfl ?_
        exact hX4_play_42 hX hR ih hf
      · rw [if_neg hc] at hf
        refine sp_aload_n (i := 0) (q := 27) hX dX4_play_26 rfl rfl rfl ?_
        refine sp_gets (t := 23) (q := 30) hX flX4_18 fkX4_0 atX_57 srX_57_0 dX4_play_27 rfl ?_
        obtain ⟨c3, e5, hf⟩ := sp_pl_some hf
        obtain ⟨h4, hf⟩ := sp_ck_some hf
        refine sp_getr (q := 33) hX flX4_58 fkX8_0 atX_23 dX4_play_30 rfl ?_
        refine sp_nmr e5 ?_
        refine sp_gets (t := c3 + 4) (q := 36) hX flX4_75 fkX2_3 (sp_isc_at h4) (msX2_3 (sp_isc_at h4)) dX4_play_33 rfl ?_
        refine sp_iload_n (i := 1) (q := 37) hX dX4_play_36 rfl rfl rfl ?_
        obtain ⟨h6, hf⟩ := sp_ck_some hf
        refine sp_iald (q := 38) hX (mfX2_3 (sp_isc_at h4)) h6 dX4_play_37 rfl ?_
        refine sp_goto (tgt := 42) hX dX4_play_38 (by decide) ?_
        exact hX4_play_42 hX hR ih hf
set_option maxRecDepth 100000 in
set_option maxHeartbeats 4000000 in
theorem hX4_play {X : sp_X} (hX : sp_OK shX X cX4_play RX4 5 rmX4_play) {τ : sp_St} (hR : sp_Rv shX X τ 0 0) {n : Nat}  {σ : sp_St} {a1 : Int32} {a2 : Int32}  (hf : X4_play n σ a1 a2 = some τ) : sp_GG shX X σ 5 [some (.ref (sx_ad X 57)), some (.int a1), some (.int a2), none, none] [] 0 0 0 := by
  unfold X4_play at hf
  refine sp_iconst (v := 0) (q := 1) hX dX4_play_0 li_0 rfl ?_
  obtain ⟨x1, e2, hf⟩ := sp_pl_some hf
  refine sp_nmi e2 ?_
  refine sp_istore_n (i := 3) (lv' := [some (.ref (sx_ad X 57)), some (.int a1), some (.int a2), some (.int x1), none]) (q := 2) hX dX4_play_1 rfl (Nat.le_of_ble_eq_true rfl) rfl rfl rfl ?_
  exact hX4_play_2 hX hR n σ a1 a2 x1 hf
set_option maxRecDepth 100000 in
set_option maxHeartbeats 4000000 in
theorem cnX4_play {l : Launch} (hst : l.stackTraces = false) {w : sp_Wd} {n : Nat}  {σ : sp_St} {a1 : Int32} {a2 : Int32} {τ : sp_St}  (hf : X4_play n σ a1 a2 = some τ) : sp_Cv shX l w yX4_play cX4_play 5 rmX4_play 0 0 σ [.ref (w.2.1 57), .int a1, .int a2] τ :=
  sp_cv (own := RX4) (by decide) rfl hst (Nat.le_of_ble_eq_true rfl) rfl (fun X hX hw hl hR => by subst hw; subst hl; exact hX4_play hX hR   hf)
def rmX4_summerEnd : Room := { frames := 5, cells := 0, slots := 0, locals := 122 }
def X4_summerEnd_66 (n : Nat) (σ : sp_St) : Option (sp_St × Nat) :=
  some (σ, 50)
def X4_summerEnd_53 (n : Nat) (k18 : sp_St → Int32 → Int32 → Option (sp_St × Nat)) (σ : sp_St) (z2 : Int32) (z3 : Int32) : Option (sp_St × Nat) :=
  sp_bv (X8_passDay n σ 50) fun σ2 =>
  sp_pl (z3 + 1) fun x3 =>
  k18 σ2 z2 x3
def X4_summerEnd_18 (n : Nat) : Nat → sp_St → Int32 → Int32 → Option (sp_St × Nat)
  | 0, _, _, _ => none
  | f + 1, σ, z2, z3 =>
    if z2 ≤ z3 then
      X4_summerEnd_66 n σ
    else
      sp_bd (X4_drawOf n σ ((7 : Int32))) fun σ2 v3 =>
      if v3 = 0 then
        sp_bv (X4_angerOne n σ2) fun σ7 =>
        X4_summerEnd_53 n (X4_summerEnd_18 n f) σ7 z2 z3
      else
        if v3 = ((1 : Int32)) then
          sp_bv (X4_laugh n σ2) fun σ5 =>
          X4_summerEnd_53 n (X4_summerEnd_18 n f) σ5 z2 z3
        else
          X4_summerEnd_53 n (X4_summerEnd_18 n f) σ2 z2 z3
def X4_summerEnd (n : Nat)  (σ : sp_St) (a1 : Int32) (a2 : Int32) : Option (sp_St × Nat) :=
  sp_pl (sp_si σ 57 4 a1) fun σ1 =>
  sp_bv (X8_copy n σ1 50 23) fun σ4 =>
  sp_pl ((0 : Int32)) fun x5 =>
  X4_summerEnd_18 n n σ4 a2 x5
set_option maxRecDepth 100000 in
set_option maxHeartbeats 4000000 in
theorem hX4_summerEnd_66 {X : sp_X} (hX : sp_OK shX X cX4_summerEnd RX4 5 rmX4_summerEnd) {τ : sp_St} {r : Nat} (hR : sp_Rr shX X (some (.object "SwordPeace$Scene")) τ r 0 0) {n : Nat}    {σ : sp_St} (hf : X4_summerEnd_66 n σ = some (τ, r)) : sp_GG shX X σ 5 [some (.ref (sx_ad X 57)), none, none, none, none] [] 66 0 0 := by
  unfold X4_summerEnd_66 at hf
  refine sp_aload_n (i := 0) (q := 67) hX dX4_summerEnd_66 rfl rfl rfl ?_
  refine sp_gets (t := 50) (q := 70) hX flX4_22 fkX4_1 atX_57 srX_57_1 dX4_summerEnd_67 rfl ?_
  exact sp_aret hX hR dX4_summerEnd_70 hf (Nat.le_of_ble_eq_true rfl) (Nat.le_of_ble_eq_true rfl)
set_option maxRecDepth 100000 in
set_option maxHeartbeats 4000000 in
theorem hX4_summerEnd_53 {X : sp_X} (hX : sp_OK shX X cX4_summerEnd RX4 5 rmX4_summerEnd) {τ : sp_St} {r : Nat} (hR : sp_Rr shX X (some (.object "SwordPeace$Scene")) τ r 0 0) {n : Nat}   {k18 : sp_St → Int32 → Int32 → Option (sp_St × Nat)} (hk18 : ∀ (σ : sp_St) (z2 : Int32) (z3 : Int32), k18 σ z2 z3 = some (τ, r) → sp_GG shX X σ 5 [some (.ref (sx_ad X 57)), none, some (.int z2), some (.int z3), none] [] 18 0 0) {σ : sp_St} {z2 : Int32} {z3 : Int32} (hf : X4_summerEnd_53 n k18 σ z2 z3 = some (τ, r)) : sp_GG shX X σ 5 [some (.ref (sx_ad X 57)), none, some (.int z2), some (.int z3), none] [] 53 0 0 := by
  unfold X4_summerEnd_53 at hf
  refine sp_aload_n (i := 0) (q := 54) hX dX4_summerEnd_53 rfl rfl rfl ?_
  refine sp_gets (t := 50) (q := 57) hX flX4_22 fkX4_1 atX_57 srX_57_1 dX4_summerEnd_54 rfl ?_
  obtain ⟨σ2, h1, hf⟩ := sp_bv_so hf
  refine sp_callVv (As := []) (rest := []) (q := 60) hX (cnX8_passDay (sp_st hX) atX_50 h1) cwX4_31 atX_50 rfl rfl rfl rfl rfl (Nat.le_of_ble_eq_true rfl) (Nat.le_of_ble_eq_true rfl) (Nat.le_of_ble_eq_true rfl) (Nat.le_of_ble_eq_true rfl) (Nat.le_of_ble_eq_true rfl) dX4_summerEnd_57 rfl ?_
  obtain ⟨x3, e4, hf⟩ := sp_pl_some hf
  refine sp_iinc (i := 3) (v := x3) (lv' := [some (.ref (sx_ad X 57)), none, some (.int z2), some (.int x3), none]) (q := 63) hX dX4_summerEnd_60 rfl (by rw [e4, li_1]) (Nat.le_of_ble_eq_true rfl) rfl rfl rfl ?_
  refine sp_goto (tgt := 18) hX dX4_summerEnd_63 (by decide) ?_
  exact hk18 σ2 z2 x3 hf
set_option maxRecDepth 100000 in
set_option maxHeartbeats 4000000 in
theorem hX4_summerEnd_18 {X : sp_X} (hX : sp_OK shX X cX4_summerEnd RX4 5 rmX4_summerEnd) {τ : sp_St} {r : Nat} (hR : sp_Rr shX X (some (.object "SwordPeace$Scene")) τ r 0 0) {n : Nat}    : ∀ (f : Nat) (σ : sp_St) (z2 : Int32) (z3 : Int32), X4_summerEnd_18 n f σ z2 z3 = some (τ, r) → sp_GG shX X σ 5 [some (.ref (sx_ad X 57)), none, some (.int z2), some (.int z3), none] [] 18 0 0 := by
  intro f
  induction f with
  | zero =>
    intro σ z2 z3 hf
    rw [X4_summerEnd_18] at hf
    cases hf
  | succ f ih =>
    intro σ z2 z3 hf
    rw [X4_summerEnd_18] at hf
    refine sp_iload_n (i := 3) (q := 19) hX dX4_summerEnd_18 rfl rfl rfl ?_
    refine sp_iload_n (i := 2) (q := 20) hX dX4_summerEnd_19 rfl rfl rfl ?_
    refine sp_icmp_ge (tgt := 66) (q := 23) hX dX4_summerEnd_20 (by decide) rfl (fun hc => ?_) (fun hc => ?_)
    · rw [if_pos hc] at hf
      refine sp_drop (lv' := [some (.ref (sx_ad X 57)), none, none, none, none]) (And.intro rfl trivial) ?_
      exact hX4_summerEnd_66 hX hR hf
    · rw [if_neg hc] at hf
      refine sp_aload_n (i := 0) (q := 24) hX dX4_summerEnd_23 rfl rfl rfl ?_
      refine sp_bipush (v := 7) (q := 26) hX dX4_summerEnd_24 lb_7 rfl ?_
      obtain ⟨σ2, v3, h1, hf⟩ := sp_bd_so hf
      refine sp_callVi (As := [.int ((7 : Int32))]) (rest := []) (q := 29) hX (cnX4_drawOf (sp_st hX)  h1) cwX4_105 atX_57 rfl rfl rfl rfl rfl (Nat.le_of_ble_eq_true rfl) (Nat.le_of_ble_eq_true rfl) (Nat.le_of_ble_eq_true rfl) (Nat.le_of_ble_eq_true rfl) (Nat.le_of_ble_eq_true rfl) dX4_summerEnd_26 rfl ?_
      refine sp_istore (i := 4) (lv' := [some (.ref (sx_ad X 57)), none, some (.int z2), some (.int z3), some (.int v3)]) (q := 31) hX dX4_summerEnd_29 (Nat.le_of_ble_eq_true rfl) rfl rfl rfl ?_
      refine sp_iload (i := 4) (q := 33) hX dX4_summerEnd_31 rfl rfl ?_
      refine sp_if_ne (tgt := 43) (q := 36) hX dX4_summerEnd_33 (by decide) rfl (fun hc => ?_) (fun hc => ?_)
      · rw [if_neg hc] at hf
        refine sp_iload (i := 4) (q := 45) hX dX4_summerEnd_43 rfl rfl ?_
        refine sp_iconst (v := 1) (q := 46) hX dX4_summerEnd_45 li_1 rfl ?_
        refine sp_icmp_ne (tgt := 53) (q := 49) hX dX4_summerEnd_46 (by decide) rfl (fun hc => ?_) (fun hc => ?_)
        · rw [if_neg hc] at hf
          refine sp_drop (lv' := [some (.ref (sx_ad X 57)), none, some (.int z2), some (.int z3), none]) (And.intro rfl (And.intro rfl (And.intro rfl trivial))) ?_
          exact hX4_summerEnd_53 hX hR ih hf
        · rw [if_pos hc] at hf
          refine sp_aload_n (i := 0) (q := 50) hX dX4_summerEnd_49 rfl rfl rfl ?_
          obtain ⟨σ5, h4, hf⟩ := sp_bv_so hf
          refine sp_callVv (As := []) (rest := []) (q := 53) hX (cnX4_laugh (sp_st hX)  h4) cwX4_111 atX_57 rfl rfl rfl rfl rfl (Nat.le_of_ble_eq_true rfl) (Nat.le_of_ble_eq_true rfl) (Nat.le_of_ble_eq_true rfl) (Nat.le_of_ble_eq_true rfl) (Nat.le_of_ble_eq_true rfl) dX4_summerEnd_50 rfl ?_
          refine sp_drop (lv' := [some (.ref (sx_ad X 57)), none, some (.int z2), some (.int z3), none]) (And.intro rfl (And.intro rfl (And.intro rfl trivial))) ?_
          exact hX4_summerEnd_53 hX hR ih hf
      · rw [if_pos hc] at hf
        refine sp_aload_n (i := 0) (q := 37) hX dX4_summerEnd_36 rfl rfl rfl ?_
        obtain ⟨σ7, h6, hf⟩ := sp_bv_so hf
        refine sp_callVv (As := []) (rest := []) (q := 40) hX (cnX4_angerOne (sp_st hX)  h6) cwX4_108 atX_57 rfl rfl rfl rfl rfl (Nat.le_of_ble_eq_true rfl) (Nat.le_of_ble_eq_true rfl) (Nat.le_of_ble_eq_true rfl) (Nat.le_of_ble_eq_true rfl) (Nat.le_of_ble_eq_true rfl) dX4_summerEnd_37 rfl ?_
        refine sp_goto (tgt := 53) hX dX4_summerEnd_40 (by decide) ?_
        refine sp_drop (lv' := [some (.ref (sx_ad X 57)), none, some (.int z2), some (.int z3), none]) (And.intro rfl (And.intro rfl (And.intro rfl trivial))) ?_
        exact hX4_summerEnd_53 hX hR ih hf
set_option maxRecDepth 100000 in
set_option maxHeartbeats 4000000 in
theorem hX4_summerEnd {X : sp_X} (hX : sp_OK shX X cX4_summerEnd RX4 5 rmX4_summerEnd) {τ : sp_St} {r : Nat} (hR : sp_Rr shX X (some (.object "SwordPeace$Scene")) τ r 0 0) {n : Nat}  {σ : sp_St} {a1 : Int32} {a2 : Int32}  (hf : X4_summerEnd n σ a1 a2 = some (τ, r)) : sp_GG shX X σ 5 [some (.ref (sx_ad X 57)), some (.int a1), some (.int a2), none, none] [] 0 0 0 := by
  unfold X4_summerEnd at hf
  refine sp_aload_n (i := 0) (q := 1) hX dX4_summerEnd_0 rfl rfl rfl ?_
  refine sp_iload_n (i := 1) (q := 2) hX dX4_summerEnd_1 rfl rfl rfl ?_
  obtain ⟨σ1, e2, hf⟩ := sp_pl_some hf
  refine sp_puti (q := 5) hX fpX4_102 fkX4_4 atX_57 dX4_summerEnd_2 rfl ?_
  refine sp_nms e2 ?_
  refine sp_aload_n (i := 0) (q := 6) hX dX4_summerEnd_5 rfl rfl rfl ?_
  refine sp_gets (t := 50) (q := 9) hX flX4_22 fkX4_1 atX_57 srX_57_1 dX4_summerEnd_6 rfl ?_
  refine sp_aload_n (i := 0) (q := 10) hX dX4_summerEnd_9 rfl rfl rfl ?_
  refine sp_gets (t := 23) (q := 13) hX flX4_18 fkX4_0 atX_57 srX_57_0 dX4_summerEnd_10 rfl ?_
  obtain ⟨σ4, h3, hf⟩ := sp_bv_so hf
  refine sp_callVv (As := [.ref (sx_ad X 23)]) (rest := []) (q := 16) hX (cnX8_copy (sp_st hX) atX_50 atX_23 h3) cwX4_25 atX_50 rfl rfl rfl rfl rfl (Nat.le_of_ble_eq_true rfl) (Nat.le_of_ble_eq_true rfl) (Nat.le_of_ble_eq_true rfl) (Nat.le_of_ble_eq_true rfl) (Nat.le_of_ble_eq_true rfl) dX4_summerEnd_13 rfl ?_
  refine sp_iconst (v := 0) (q := 17) hX dX4_summerEnd_16 li_0 rfl ?_
  obtain ⟨x5, e6, hf⟩ := sp_pl_some hf
  refine sp_nmi e6 ?_
  refine sp_istore_n (i := 3) (lv' := [some (.ref (sx_ad X 57)), some (.int a1), some (.int a2), some (.int x5), none]) (q := 18) hX dX4_summerEnd_17 rfl (Nat.le_of_ble_eq_true rfl) rfl rfl rfl ?_
  refine sp_drop (lv' := [some (.ref (sx_ad X 57)), none, some (.int a2), some (.int x5), none]) (And.intro rfl (And.intro rfl (And.intro rfl trivial))) ?_
  exact hX4_summerEnd_18 hX hR n σ4 a2 x5 hf
set_option maxRecDepth 100000 in
set_option maxHeartbeats 4000000 in
theorem cnX4_summerEnd {l : Launch} (hst : l.stackTraces = false) {w : sp_Wd} {n : Nat}  {σ : sp_St} {a1 : Int32} {a2 : Int32} {τ : sp_St} {r : Nat}  (hf : X4_summerEnd n σ a1 a2 = some (τ, r)) : sp_Cr shX l w yX4_summerEnd cX4_summerEnd 5 (some (.object "SwordPeace$Scene")) rmX4_summerEnd 0 0 σ [.ref (w.2.1 57), .int a1, .int a2] τ r :=
  sp_cr (own := RX4) (by decide) rfl hst (Nat.le_of_ble_eq_true rfl) rfl (fun X hX hw hl hR => by subst hw; subst hl; exact hX4_summerEnd hX hR   hf)
