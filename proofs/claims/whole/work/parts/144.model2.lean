def rmX12_inside : Room := { frames := 0, cells := 0, slots := 0, locals := 0 }
def X12_inside_36 (n : Nat) (σ : sp_St) (z2 : Int32) : Option (sp_St × Int32) :=
  some (σ, z2)
def X12_inside_4 (n : Nat) : Nat → sp_St → Int32 → Int32 → Int32 → Option (sp_St × Int32)
  | 0, _, _, _, _ => none
  | f + 1, σ, z1, z2, z3 =>
    sp_ck (sp_in z1 5) <|
    if (sp_g σ 17 z1) ≤ z3 then
      X12_inside_36 n σ z2
    else
      sp_ck (sp_in ((((10 : Int32)) * z1) + z3) 50) <|
      sp_pl (z2 ||| (((1 : Int32)) <<< ((sp_g σ 18 ((((10 : Int32)) * z1) + z3)) &&& 31))) fun x3 =>
      sp_pl (z3 + 1) fun x5 =>
      X12_inside_4 n f σ z1 x3 x5
def X12_inside (n : Nat)  (σ : sp_St) (a1 : Int32) : Option (sp_St × Int32) :=
  sp_pl ((0 : Int32)) fun x1 =>
  sp_pl ((0 : Int32)) fun x3 =>
  X12_inside_4 n n σ a1 x1 x3
set_option maxRecDepth 100000 in
set_option maxHeartbeats 4000000 in
theorem hX12_inside_36 {X : sp_X} (hX : sp_OK shM X cX12_inside RX12 4 rmX12_inside) {τ : sp_St} {r : Int32} (hR : sp_Ri shM X (some .int) τ r 0 0) {n : Nat}    {σ : sp_St} {z2 : Int32} (hf : X12_inside_36 n σ z2 = some (τ, r)) : sp_GG shM X σ 4 [none, none, some (.int z2), none] [] 36 0 0 := by
  unfold X12_inside_36 at hf
  refine sp_iload_n (i := 2) (q := 37) hX dX12_inside_36 rfl rfl rfl ?_
  exact sp_iret hX hR dX12_inside_37 hf (Nat.le_of_ble_eq_true rfl) (Nat.le_of_ble_eq_true rfl)
set_option maxRecDepth 100000 in
set_option maxHeartbeats 4000000 in
theorem hX12_inside_4 {X : sp_X} (hX : sp_OK shM X cX12_inside RX12 4 rmX12_inside) {τ : sp_St} {r : Int32} (hR : sp_Ri shM X (some .int) τ r 0 0) {n : Nat}    : ∀ (f : Nat) (σ : sp_St) (z1 : Int32) (z2 : Int32) (z3 : Int32), X12_inside_4 n f σ z1 z2 z3 = some (τ, r) → sp_GG shM X σ 4 [some (.ref (sx_ad X 0)), some (.int z1), some (.int z2), some (.int z3)] [] 4 0 0 := by
  intro f
  induction f with
  | zero =>
    intro σ z1 z2 z3 hf
    rw [X12_inside_4] at hf
    cases hf
  | succ f ih =>
    intro σ z1 z2 z3 hf
    rw [X12_inside_4] at hf
    refine sp_iload_n (i := 3) (q := 5) hX dX12_inside_4 rfl rfl rfl ?_
    refine sp_aload_n (i := 0) (q := 6) hX dX12_inside_5 rfl rfl rfl ?_
    refine sp_gets (t := 17) (q := 9) hX flX12_78 fkX12_29 atM_0 srM_0_29 dX12_inside_6 rfl ?_
    refine sp_iload_n (i := 1) (q := 10) hX dX12_inside_9 rfl rfl rfl ?_
    obtain ⟨h1, hf⟩ := sp_ck_some hf
    refine sp_iald (q := 11) hX arM_17 h1 dX12_inside_10 rfl ?_
    refine sp_icmp_ge (tgt := 36) (q := 14) hX dX12_inside_11 (by decide) rfl (fun hc => ?_) (fun hc => ?_)
    · rw [if_pos hc] at hf
      refine sp_drop (lv' := [none, none, some (.int z2), none]) (And.intro rfl trivial) ?_
      exact hX12_inside_36 hX hR hf
    · rw [if_neg hc] at hf
      refine sp_iload_n (i := 2) (q := 15) hX dX12_inside_14 rfl rfl rfl ?_
      refine sp_iconst (v := 1) (q := 16) hX dX12_inside_15 li_1 rfl ?_
      refine sp_aload_n (i := 0) (q := 17) hX dX12_inside_16 rfl rfl rfl ?_
      refine sp_gets (t := 18) (q := 20) hX flX12_81 fkX12_30 atM_0 srM_0_30 dX12_inside_17 rfl ?_
      refine sp_bipush (v := 10) (q := 22) hX dX12_inside_20 lb_10 rfl ?_
      refine sp_iload_n (i := 1) (q := 23) hX dX12_inside_22 rfl rfl rfl ?_
      refine sp_imul (q := 24) hX dX12_inside_23 rfl ?_
      refine sp_iload_n (i := 3) (q := 25) hX dX12_inside_24 rfl rfl rfl ?_
      refine sp_iadd (q := 26) hX dX12_inside_25 rfl ?_
      obtain ⟨h2, hf⟩ := sp_ck_some hf
      refine sp_iald (q := 27) hX arM_18 h2 dX12_inside_26 rfl ?_
      refine sp_ishl (q := 28) hX dX12_inside_27 rfl ?_
      refine sp_ior (q := 29) hX dX12_inside_28 rfl ?_
      obtain ⟨x3, e4, hf⟩ := sp_pl_some hf
      refine sp_nmi e4 ?_
      refine sp_istore_n (i := 2) (lv' := [some (.ref (sx_ad X 0)), some (.int z1), some (.int x3), some (.int z3)]) (q := 30) hX dX12_inside_29 rfl (Nat.le_of_ble_eq_true rfl) rfl rfl rfl ?_
      obtain ⟨x5, e6, hf⟩ := sp_pl_some hf
      refine sp_iinc (i := 3) (v := x5) (lv' := [some (.ref (sx_ad X 0)), some (.int z1), some (.int x3), some (.int x5)]) (q := 33) hX dX12_inside_30 rfl (by rw [e6, li_1]) (Nat.le_of_ble_eq_true rfl) rfl rfl rfl ?_
      refine sp_goto (tgt := 4) hX dX12_inside_33 (by decide) ?_
      exact ih σ z1 x3 x5 hf
set_option maxRecDepth 100000 in
set_option maxHeartbeats 4000000 in
theorem hX12_inside {X : sp_X} (hX : sp_OK shM X cX12_inside RX12 4 rmX12_inside) {τ : sp_St} {r : Int32} (hR : sp_Ri shM X (some .int) τ r 0 0) {n : Nat}  {σ : sp_St} {a1 : Int32}  (hf : X12_inside n σ a1 = some (τ, r)) : sp_GG shM X σ 4 [some (.ref (sx_ad X 0)), some (.int a1), none, none] [] 0 0 0 := by
  unfold X12_inside at hf
  refine sp_iconst (v := 0) (q := 1) hX dX12_inside_0 li_0 rfl ?_
  obtain ⟨x1, e2, hf⟩ := sp_pl_some hf
  refine sp_nmi e2 ?_
  refine sp_istore_n (i := 2) (lv' := [some (.ref (sx_ad X 0)), some (.int a1), some (.int x1), none]) (q := 2) hX dX12_inside_1 rfl (Nat.le_of_ble_eq_true rfl) rfl rfl rfl ?_
  refine sp_iconst (v := 0) (q := 3) hX dX12_inside_2 li_0 rfl ?_
  obtain ⟨x3, e4, hf⟩ := sp_pl_some hf
  refine sp_nmi e4 ?_
  refine sp_istore_n (i := 3) (lv' := [some (.ref (sx_ad X 0)), some (.int a1), some (.int x1), some (.int x3)]) (q := 4) hX dX12_inside_3 rfl (Nat.le_of_ble_eq_true rfl) rfl rfl rfl ?_
  exact hX12_inside_4 hX hR n σ a1 x1 x3 hf
set_option maxRecDepth 100000 in
set_option maxHeartbeats 4000000 in
theorem cnX12_inside {l : Launch} (hst : l.stackTraces = false) {w : sp_Wd} {n : Nat}  {σ : sp_St} {a1 : Int32} {τ : sp_St} {r : Int32}  (hf : X12_inside n σ a1 = some (τ, r)) : sp_Ci shM l w yX12_inside cX12_inside 4 (some .int) rmX12_inside 0 0 σ [.ref (w.2.1 0), .int a1] τ r :=
  sp_ci (own := RX12) (by decide) rfl hst (Nat.le_of_ble_eq_true rfl) rfl (fun X hX hw hl hR => by subst hw; subst hl; exact hX12_inside hX hR   hf)
def rmX12_aboveSet : Room := { frames := 1, cells := 0, slots := 0, locals := 23 }
def X12_aboveSet_71 (n : Nat) (σ : sp_St) (z3 : Int32) : Option (sp_St × Int32) :=
  some (σ, z3)
def X12_aboveSet_27 (n : Nat) : Nat → sp_St → Int32 → Int32 → Int32 → Int32 → Option (sp_St × Int32)
  | 0, _, _, _, _, _ => none
  | f + 1, σ, z1, z2, z3, z4 =>
    if z4 < 0 then
      X12_aboveSet_71 n σ z3
    else
      sp_ck (sp_in ((((10 : Int32)) * z2) + z4) 50) <|
      if (sp_g σ 18 ((((10 : Int32)) * z2) + z4)) = z1 then
        X12_aboveSet_71 n σ z3
      else
        sp_ck (sp_in ((((10 : Int32)) * z2) + z4) 50) <|
        sp_pl (z3 ||| (((1 : Int32)) <<< ((sp_g σ 18 ((((10 : Int32)) * z2) + z4)) &&& 31))) fun x3 =>
        sp_pl (z4 + (-1)) fun x5 =>
        X12_aboveSet_27 n f σ z1 z2 x3 x5
def X12_aboveSet_25 (n : Nat) (σ : sp_St) (z1 : Int32) (z2 : Int32) (z3 : Int32) (zs0 : Int32) : Option (sp_St × Int32) :=
  X12_aboveSet_27 n n σ z1 z2 z3 zs0
def X12_aboveSet (n : Nat)  (σ : sp_St) (a1 : Int32) : Option (sp_St × Int32) :=
  sp_bd (X12_throatOf n σ a1) fun σ2 v3 =>
  sp_pl ((0 : Int32)) fun x4 =>
  if v3 = ((-1 : Int32)) then
    X12_aboveSet_25 n σ2 a1 v3 x4 ((-1 : Int32))
  else
    sp_ck (sp_in v3 5) <|
    X12_aboveSet_25 n σ2 a1 v3 x4 ((sp_g σ2 17 v3) - ((1 : Int32)))
set_option maxRecDepth 100000 in
set_option maxHeartbeats 4000000 in
theorem hX12_aboveSet_71 {X : sp_X} (hX : sp_OK shM X cX12_aboveSet RX12 5 rmX12_aboveSet) {τ : sp_St} {r : Int32} (hR : sp_Ri shM X (some .int) τ r 0 0) {n : Nat}    {σ : sp_St} {z3 : Int32} (hf : X12_aboveSet_71 n σ z3 = some (τ, r)) : sp_GG shM X σ 5 [none, none, none, some (.int z3), none] [] 71 0 0 := by
  unfold X12_aboveSet_71 at hf
  refine sp_iload_n (i := 3) (q := 72) hX dX12_aboveSet_71 rfl rfl rfl ?_
  exact sp_iret hX hR dX12_aboveSet_72 hf (Nat.le_of_ble_eq_true rfl) (Nat.le_of_ble_eq_true rfl)
set_option maxRecDepth 100000 in
set_option maxHeartbeats 4000000 in
theorem hX12_aboveSet_27 {X : sp_X} (hX : sp_OK shM X cX12_aboveSet RX12 5 rmX12_aboveSet) {τ : sp_St} {r : Int32} (hR : sp_Ri shM X (some .int) τ r 0 0) {n : Nat}    : ∀ (f : Nat) (σ : sp_St) (z1 : Int32) (z2 : Int32) (z3 : Int32) (z4 : Int32), X12_aboveSet_27 n f σ z1 z2 z3 z4 = some (τ, r) → sp_GG shM X σ 5 [some (.ref (sx_ad X 0)), some (.int z1), some (.int z2), some (.int z3), some (.int z4)] [] 27 0 0 := by
  intro f
  induction f with
  | zero =>
    intro σ z1 z2 z3 z4 hf
    rw [X12_aboveSet_27] at hf
    cases hf
  | succ f ih =>
    intro σ z1 z2 z3 z4 hf
    rw [X12_aboveSet_27] at hf
    refine sp_iload (i := 4) (q := 29) hX dX12_aboveSet_27 rfl rfl ?_
    refine sp_if_lt (tgt := 71) (q := 32) hX dX12_aboveSet_29 (by decide) rfl (fun hc => ?_) (fun hc => ?_)
    · rw [if_pos hc] at hf
      refine sp_drop (lv' := [none, none, none, some (.int z3), none]) (And.intro rfl trivial) ?_
      exact hX12_aboveSet_71 hX hR hf
    · rw [if_neg hc] at hf
      refine sp_aload_n (i := 0) (q := 33) hX dX12_aboveSet_32 rfl rfl rfl ?_
      refine sp_gets (t := 18) (q := 36) hX flX12_81 fkX12_30 atM_0 srM_0_30 dX12_aboveSet_33 rfl ?_
      refine sp_bipush (v := 10) (q := 38) hX dX12_aboveSet_36 lb_10 rfl ?_
      refine sp_iload_n (i := 2) (q := 39) hX dX12_aboveSet_38 rfl rfl rfl ?_
      refine sp_imul (q := 40) hX dX12_aboveSet_39 rfl ?_
      refine sp_iload (i := 4) (q := 42) hX dX12_aboveSet_40 rfl rfl ?_
      refine sp_iadd (q := 43) hX dX12_aboveSet_42 rfl ?_
      obtain ⟨h1, hf⟩ := sp_ck_some hf
      refine sp_iald (q := 44) hX arM_18 h1 dX12_aboveSet_43 rfl ?_
      refine sp_iload_n (i := 1) (q := 45) hX dX12_aboveSet_44 rfl rfl rfl ?_
      refine sp_icmp_eq (tgt := 71) (q := 48) hX dX12_aboveSet_45 (by decide) rfl (fun hc => ?_) (fun hc => ?_)
      · rw [if_pos hc] at hf
        refine sp_drop (lv' := [none, none, none, some (.int z3), none]) (And.intro rfl trivial) ?_
        exact hX12_aboveSet_71 hX hR hf
      · rw [if_neg hc] at hf
        refine sp_iload_n (i := 3) (q := 49) hX dX12_aboveSet_48 rfl rfl rfl ?_
        refine sp_iconst (v := 1) (q := 50) hX dX12_aboveSet_49 li_1 rfl ?_
        refine sp_aload_n (i := 0) (q := 51) hX dX12_aboveSet_50 rfl rfl rfl ?_
        refine sp_gets (t := 18) (q := 54) hX flX12_81 fkX12_30 atM_0 srM_0_30 dX12_aboveSet_51 rfl ?_
        refine sp_bipush (v := 10) (q := 56) hX dX12_aboveSet_54 lb_10 rfl ?_
        refine sp_iload_n (i := 2) (q := 57) hX dX12_aboveSet_56 rfl rfl rfl ?_
        refine sp_imul (q := 58) hX dX12_aboveSet_57 rfl ?_
        refine sp_iload (i := 4) (q := 60) hX dX12_aboveSet_58 rfl rfl ?_
        refine sp_iadd (q := 61) hX dX12_aboveSet_60 rfl ?_
        obtain ⟨h2, hf⟩ := sp_ck_some hf
        refine sp_iald (q := 62) hX arM_18 h2 dX12_aboveSet_61 rfl ?_
        refine sp_ishl (q := 63) hX dX12_aboveSet_62 rfl ?_
        refine sp_ior (q := 64) hX dX12_aboveSet_63 rfl ?_
        obtain ⟨x3, e4, hf⟩ := sp_pl_some hf
        refine sp_nmi e4 ?_
        refine sp_istore_n (i := 3) (lv' := [some (.ref (sx_ad X 0)), some (.int z1), some (.int z2), some (.int x3), some (.int z4)]) (q := 65) hX dX12_aboveSet_64 rfl (Nat.le_of_ble_eq_true rfl) rfl rfl rfl ?_
        obtain ⟨x5, e6, hf⟩ := sp_pl_some hf
        refine sp_iinc (i := 4) (v := x5) (lv' := [some (.ref (sx_ad X 0)), some (.int z1), some (.int z2), some (.int x3), some (.int x5)]) (q := 68) hX dX12_aboveSet_65 rfl (by rw [e6, li_m1]) (Nat.le_of_ble_eq_true rfl) rfl rfl rfl ?_
        refine sp_goto (tgt := 27) hX dX12_aboveSet_68 (by decide) ?_
        exact ih σ z1 z2 x3 x5 hf
set_option maxRecDepth 100000 in
set_option maxHeartbeats 4000000 in
theorem hX12_aboveSet_25 {X : sp_X} (hX : sp_OK shM X cX12_aboveSet RX12 5 rmX12_aboveSet) {τ : sp_St} {r : Int32} (hR : sp_Ri shM X (some .int) τ r 0 0) {n : Nat}    {σ : sp_St} {z1 : Int32} {z2 : Int32} {z3 : Int32} {zs0 : Int32} (hf : X12_aboveSet_25 n σ z1 z2 z3 zs0 = some (τ, r)) : sp_GG shM X σ 5 [some (.ref (sx_ad X 0)), some (.int z1), some (.int z2), some (.int z3), none] [.int zs0] 25 0 0 := by
  unfold X12_aboveSet_25 at hf
  refine sp_istore (i := 4) (lv' := [some (.ref (sx_ad X 0)), some (.int z1), some (.int z2), some (.int z3), some (.int zs0)]) (q := 27) hX dX12_aboveSet_25 (Nat.le_of_ble_eq_true rfl) rfl rfl rfl ?_
  exact hX12_aboveSet_27 hX hR n σ z1 z2 z3 zs0 hf
set_option maxRecDepth 100000 in
set_option maxHeartbeats 4000000 in
theorem hX12_aboveSet {X : sp_X} (hX : sp_OK shM X cX12_aboveSet RX12 5 rmX12_aboveSet) {τ : sp_St} {r : Int32} (hR : sp_Ri shM X (some .int) τ r 0 0) {n : Nat}  {σ : sp_St} {a1 : Int32}  (hf : X12_aboveSet n σ a1 = some (τ, r)) : sp_GG shM X σ 5 [some (.ref (sx_ad X 0)), some (.int a1), none, none, none] [] 0 0 0 := by
  unfold X12_aboveSet at hf
  refine sp_aload_n (i := 0) (q := 1) hX dX12_aboveSet_0 rfl rfl rfl ?_
  refine sp_iload_n (i := 1) (q := 2) hX dX12_aboveSet_1 rfl rfl rfl ?_
  obtain ⟨σ2, v3, h1, hf⟩ := sp_bd_so hf
  refine sp_callVi (As := [.int a1]) (rest := []) (q := 5) hX (cnX12_throatOf (sp_st hX)  h1) cwX12_339 atM_0 rfl rfl rfl rfl rfl (Nat.le_of_ble_eq_true rfl) (Nat.le_of_ble_eq_true rfl) (Nat.le_of_ble_eq_true rfl) (Nat.le_of_ble_eq_true rfl) (Nat.le_of_ble_eq_true rfl) dX12_aboveSet_2 rfl ?_
  refine sp_istore_n (i := 2) (lv' := [some (.ref (sx_ad X 0)), some (.int a1), some (.int v3), none, none]) (q := 6) hX dX12_aboveSet_5 rfl (Nat.le_of_ble_eq_true rfl) rfl rfl rfl ?_
  refine sp_iconst (v := 0) (q := 7) hX dX12_aboveSet_6 li_0 rfl ?_
  obtain ⟨x4, e5, hf⟩ := sp_pl_some hf
  refine sp_nmi e5 ?_
  refine sp_istore_n (i := 3) (lv' := [some (.ref (sx_ad X 0)), some (.int a1), some (.int v3), some (.int x4), none]) (q := 8) hX dX12_aboveSet_7 rfl (Nat.le_of_ble_eq_true rfl) rfl rfl rfl ?_
  refine sp_iload_n (i := 2) (q := 9) hX dX12_aboveSet_8 rfl rfl rfl ?_
  refine sp_iconst (v := -1) (q := 10) hX dX12_aboveSet_9 li_m1 rfl ?_
  refine sp_icmp_ne (tgt := 17) (q := 13) hX dX12_aboveSet_10 (by decide) rfl (fun hc => ?_) (fun hc => ?_)
  · rw [if_neg hc] at hf
    refine sp_aload_n (i := 0) (q := 18) hX dX12_aboveSet_17 rfl rfl rfl ?_
    refine sp_gets (t := 17) (q := 21) hX flX12_78 fkX12_29 atM_0 srM_0_29 dX12_aboveSet_18 rfl ?_
    refine sp_iload_n (i := 2) (q := 22) hX dX12_aboveSet_21 rfl rfl rfl ?_
    obtain ⟨h6, hf⟩ := sp_ck_some hf
    refine sp_iald (q := 23) hX arM_17 h6 dX12_aboveSet_22 rfl ?_
    refine sp_iconst (v := 1) (q := 24) hX dX12_aboveSet_23 li_1 rfl ?_
    refine sp_isub (q := 25) hX dX12_aboveSet_24 rfl ?_
    exact hX12_aboveSet_25 hX hR hf
  · rw [if_pos hc] at hf
    refine sp_iconst (v := -1) (q := 14) hX dX12_aboveSet_13 li_m1 rfl ?_
    refine sp_goto (tgt := 25) hX dX12_aboveSet_14 (by decide) ?_
    exact hX12_aboveSet_25 hX hR hf
set_option maxRecDepth 100000 in
set_option maxHeartbeats 4000000 in
theorem cnX12_aboveSet {l : Launch} (hst : l.stackTraces = false) {w : sp_Wd} {n : Nat}  {σ : sp_St} {a1 : Int32} {τ : sp_St} {r : Int32}  (hf : X12_aboveSet n σ a1 = some (τ, r)) : sp_Ci shM l w yX12_aboveSet cX12_aboveSet 5 (some .int) rmX12_aboveSet 0 0 σ [.ref (w.2.1 0), .int a1] τ r :=
  sp_ci (own := RX12) (by decide) rfl hst (Nat.le_of_ble_eq_true rfl) rfl (fun X hX hw hl hR => by subst hw; subst hl; exact hX12_aboveSet hX hR   hf)
def rmX12_topOf : Room := { frames := 0, cells := 0, slots := 0, locals := 0 }
def X12_topOf_31 (n : Nat) (σ : sp_St) (zs0 : Int32) : Option (sp_St × Int32) :=
  some (σ, zs0)
def X12_topOf (n : Nat)  (σ : sp_St) (a1 : Int32) : Option (sp_St × Int32) :=
  sp_ck (sp_in a1 5) <|
  if (sp_g σ 17 a1) = 0 then
    X12_topOf_31 n σ ((-1 : Int32))
  else
    sp_ck (sp_in a1 5) <|
    sp_ck (sp_in (((((10 : Int32)) * a1) + (sp_g σ 17 a1)) - ((1 : Int32))) 50) <|
    X12_topOf_31 n σ (sp_g σ 18 (((((10 : Int32)) * a1) + (sp_g σ 17 a1)) - ((1 : Int32))))
set_option maxRecDepth 100000 in
set_option maxHeartbeats 4000000 in
theorem hX12_topOf_31 {X : sp_X} (hX : sp_OK shM X cX12_topOf RX12 2 rmX12_topOf) {τ : sp_St} {r : Int32} (hR : sp_Ri shM X (some .int) τ r 0 0) {n : Nat}    {σ : sp_St} {zs0 : Int32} (hf : X12_topOf_31 n σ zs0 = some (τ, r)) : sp_GG shM X σ 2 [none, none] [.int zs0] 31 0 0 := by
  unfold X12_topOf_31 at hf
  exact sp_iret hX hR dX12_topOf_31 hf (Nat.le_of_ble_eq_true rfl) (Nat.le_of_ble_eq_true rfl)
set_option maxRecDepth 100000 in
set_option maxHeartbeats 4000000 in
theorem hX12_topOf {X : sp_X} (hX : sp_OK shM X cX12_topOf RX12 2 rmX12_topOf) {τ : sp_St} {r : Int32} (hR : sp_Ri shM X (some .int) τ r 0 0) {n : Nat}  {σ : sp_St} {a1 : Int32}  (hf : X12_topOf n σ a1 = some (τ, r)) : sp_GG shM X σ 2 [some (.ref (sx_ad X 0)), some (.int a1)] [] 0 0 0 := by
  unfold X12_topOf at hf
  refine sp_aload_n (i := 0) (q := 1) hX dX12_topOf_0 rfl rfl rfl ?_
  refine sp_gets (t := 17) (q := 4) hX flX12_78 fkX12_29 atM_0 srM_0_29 dX12_topOf_1 rfl ?_
  refine sp_iload_n (i := 1) (q := 5) hX dX12_topOf_4 rfl rfl rfl ?_
  obtain ⟨h1, hf⟩ := sp_ck_some hf
  refine sp_iald (q := 6) hX arM_17 h1 dX12_topOf_5 rfl ?_
  refine sp_if_ne (tgt := 13) (q := 9) hX dX12_topOf_6 (by decide) rfl (fun hc => ?_) (fun hc => ?_)
  · rw [if_neg hc] at hf
    refine sp_aload_n (i := 0) (q := 14) hX dX12_topOf_13 rfl rfl rfl ?_
    refine sp_gets (t := 18) (q := 17) hX flX12_81 fkX12_30 atM_0 srM_0_30 dX12_topOf_14 rfl ?_
    refine sp_bipush (v := 10) (q := 19) hX dX12_topOf_17 lb_10 rfl ?_
    refine sp_iload_n (i := 1) (q := 20) hX dX12_topOf_19 rfl rfl rfl ?_
    refine sp_imul (q := 21) hX dX12_topOf_20 rfl ?_
    refine sp_aload_n (i := 0) (q := 22) hX dX12_topOf_21 rfl rfl rfl ?_
    refine sp_gets (t := 17) (q := 25) hX flX12_78 fkX12_29 atM_0 srM_0_29 dX12_topOf_22 rfl ?_
    refine sp_iload_n (i := 1) (q := 26) hX dX12_topOf_25 rfl rfl rfl ?_
    obtain ⟨h2, hf⟩ := sp_ck_some hf
    refine sp_iald (q := 27) hX arM_17 h2 dX12_topOf_26 rfl ?_
    refine sp_iadd (q := 28) hX dX12_topOf_27 rfl ?_
    refine sp_iconst (v := 1) (q := 29) hX dX12_topOf_28 li_1 rfl ?_
    refine sp_isub (q := 30) hX dX12_topOf_29 rfl ?_
    obtain ⟨h3, hf⟩ := sp_ck_some hf
    refine sp_iald (q := 31) hX arM_18 h3 dX12_topOf_30 rfl ?_
    refine sp_drop (lv' := [none, none]) trivial ?_
    exact hX12_topOf_31 hX hR hf
  · rw [if_pos hc] at hf
    refine sp_iconst (v := -1) (q := 10) hX dX12_topOf_9 li_m1 rfl ?_
    refine sp_goto (tgt := 31) hX dX12_topOf_10 (by decide) ?_
    refine sp_drop (lv' := [none, none]) trivial ?_
    exact hX12_topOf_31 hX hR hf
set_option maxRecDepth 100000 in
set_option maxHeartbeats 4000000 in
theorem cnX12_topOf {l : Launch} (hst : l.stackTraces = false) {w : sp_Wd} {n : Nat}  {σ : sp_St} {a1 : Int32} {τ : sp_St} {r : Int32}  (hf : X12_topOf n σ a1 = some (τ, r)) : sp_Ci shM l w yX12_topOf cX12_topOf 2 (some .int) rmX12_topOf 0 0 σ [.ref (w.2.1 0), .int a1] τ r :=
  sp_ci (own := RX12) (by decide) rfl hst (Nat.le_of_ble_eq_true rfl) rfl (fun X hX hw hl hR => by subst hw; subst hl; exact hX12_topOf hX hR   hf)
def rmX12_lengths : Room := { frames := 1, cells := 0, slots := 0, locals := 21 }
def X12_lengths_41 (n : Nat) (σ : sp_St) (z2 : Int32) : Option (sp_St × Int32) :=
  some (σ, z2)
def X12_lengths_33 (n : Nat) (k4 : sp_St → Int32 → Int32 → Int32 → Option (sp_St × Int32)) (σ : sp_St) (z1 : Int32) (z3 : Int32) (zs0 : Int32) (zs1 : Int32) : Option (sp_St × Int32) :=
  sp_pl (zs1 + zs0) fun x1 =>
  sp_pl (z3 + 1) fun x3 =>
  k4 σ z1 x1 x3
def X12_lengths_4 (n : Nat) : Nat → sp_St → Int32 → Int32 → Int32 → Option (sp_St × Int32)
  | 0, _, _, _, _ => none
  | f + 1, σ, z1, z2, z3 =>
    if (sp_g σ 3 ((2 : Int32))) ≤ z3 then
      X12_lengths_41 n σ z2
    else
      sp_bd (X12_isOf n σ z1 z3) fun σ2 v3 =>
      if v3 = 0 then
        X12_lengths_33 n (X12_lengths_4 n f) σ2 z1 z3 ((0 : Int32)) z2
      else
        sp_ck (sp_in z3 20) <|
        X12_lengths_33 n (X12_lengths_4 n f) σ2 z1 z3 (sp_g σ2 8 z3) z2
def X12_lengths (n : Nat)  (σ : sp_St) (a1 : Int32) : Option (sp_St × Int32) :=
  sp_pl ((0 : Int32)) fun x1 =>
  sp_pl ((0 : Int32)) fun x3 =>
  X12_lengths_4 n n σ a1 x1 x3
set_option maxRecDepth 100000 in
set_option maxHeartbeats 4000000 in
theorem hX12_lengths_41 {X : sp_X} (hX : sp_OK shM X cX12_lengths RX12 4 rmX12_lengths) {τ : sp_St} {r : Int32} (hR : sp_Ri shM X (some .int) τ r 0 0) {n : Nat}    {σ : sp_St} {z2 : Int32} (hf : X12_lengths_41 n σ z2 = some (τ, r)) : sp_GG shM X σ 4 [none, none, some (.int z2), none] [] 41 0 0 := by
  unfold X12_lengths_41 at hf
  refine sp_iload_n (i := 2) (q := 42) hX dX12_lengths_41 rfl rfl rfl ?_
  exact sp_iret hX hR dX12_lengths_42 hf (Nat.le_of_ble_eq_true rfl) (Nat.le_of_ble_eq_true rfl)
set_option maxRecDepth 100000 in
set_option maxHeartbeats 4000000 in
theorem hX12_lengths_33 {X : sp_X} (hX : sp_OK shM X cX12_lengths RX12 4 rmX12_lengths) {τ : sp_St} {r : Int32} (hR : sp_Ri shM X (some .int) τ r 0 0) {n : Nat}   {k4 : sp_St → Int32 → Int32 → Int32 → Option (sp_St × Int32)} (hk4 : ∀ (σ : sp_St) (z1 : Int32) (z2 : Int32) (z3 : Int32), k4 σ z1 z2 z3 = some (τ, r) → sp_GG shM X σ 4 [some (.ref (sx_ad X 0)), some (.int z1), some (.int z2), some (.int z3)] [] 4 0 0) {σ : sp_St} {z1 : Int32} {z3 : Int32} {zs0 : Int32} {zs1 : Int32} (hf : X12_lengths_33 n k4 σ z1 z3 zs0 zs1 = some (τ, r)) : sp_GG shM X σ 4 [some (.ref (sx_ad X 0)), some (.int z1), none, some (.int z3)] [.int zs0, .int zs1] 33 0 0 := by
  unfold X12_lengths_33 at hf
  refine sp_iadd (q := 34) hX dX12_lengths_33 rfl ?_
  obtain ⟨x1, e2, hf⟩ := sp_pl_some hf
  refine sp_nmi e2 ?_
  refine sp_istore_n (i := 2) (lv' := [some (.ref (sx_ad X 0)), some (.int z1), some (.int x1), some (.int z3)]) (q := 35) hX dX12_lengths_34 rfl (Nat.le_of_ble_eq_true rfl) rfl rfl rfl ?_
  obtain ⟨x3, e4, hf⟩ := sp_pl_some hf
  refine sp_iinc (i := 3) (v := x3) (lv' := [some (.ref (sx_ad X 0)), some (.int z1), some (.int x1), some (.int x3)]) (q := 38) hX dX12_lengths_35 rfl (by rw [e4, li_1]) (Nat.le_of_ble_eq_true rfl) rfl rfl rfl ?_
  refine sp_goto (tgt := 4) hX dX12_lengths_38 (by decide) ?_
  exact hk4 σ z1 x1 x3 hf
set_option maxRecDepth 100000 in
set_option maxHeartbeats 4000000 in
theorem hX12_lengths_4 {X : sp_X} (hX : sp_OK shM X cX12_lengths RX12 4 rmX12_lengths) {τ : sp_St} {r : Int32} (hR : sp_Ri shM X (some .int) τ r 0 0) {n : Nat}    : ∀ (f : Nat) (σ : sp_St) (z1 : Int32) (z2 : Int32) (z3 : Int32), X12_lengths_4 n f σ z1 z2 z3 = some (τ, r) → sp_GG shM X σ 4 [some (.ref (sx_ad X 0)), some (.int z1), some (.int z2), some (.int z3)] [] 4 0 0 := by
  intro f
  induction f with
  | zero =>
    intro σ z1 z2 z3 hf
    rw [X12_lengths_4] at hf
    cases hf
  | succ f ih =>
    intro σ z1 z2 z3 hf
    rw [X12_lengths_4] at hf
    refine sp_iload_n (i := 3) (q := 5) hX dX12_lengths_4 rfl rfl rfl ?_
    refine sp_aload_n (i := 0) (q := 6) hX dX12_lengths_5 rfl rfl rfl ?_
    refine sp_gets (t := 3) (q := 9) hX flX12_33 fkX12_4 atM_0 srM_0_4 dX12_lengths_6 rfl ?_
    refine sp_iconst (v := 2) (q := 10) hX dX12_lengths_9 li_2 rfl ?_
    refine sp_iald (q := 11) hX arM_3 (by decide) dX12_lengths_10 rfl ?_
    refine sp_icmp_ge (tgt := 41) (q := 14) hX dX12_lengths_11 (by decide) rfl (fun hc => ?_) (fun hc => ?_)
    · rw [if_pos hc] at hf
      refine sp_drop (lv' := [none, none, some (.int z2), none]) (And.intro rfl trivial) ?_
      exact hX12_lengths_41 hX hR hf
    · rw [if_neg hc] at hf
      refine sp_iload_n (i := 2) (q := 15) hX dX12_lengths_14 rfl rfl rfl ?_
      refine sp_iload_n (i := 1) (q := 16) hX dX12_lengths_15 rfl rfl rfl ?_
      refine sp_iload_n (i := 3) (q := 17) hX dX12_lengths_16 rfl rfl rfl ?_
      obtain ⟨σ2, v3, h1, hf⟩ := sp_bd_so hf
      refine sp_callSi (As := [.int z1, .int z3]) (rest := [.int z2]) (q := 20) hX (cnX12_isOf (sp_st hX)  h1) cwX12_284 rfl rfl rfl rfl (Nat.le_of_ble_eq_true rfl) (Nat.le_of_ble_eq_true rfl) (Nat.le_of_ble_eq_true rfl) (Nat.le_of_ble_eq_true rfl) (Nat.le_of_ble_eq_true rfl) dX12_lengths_17 rfl ?_
      refine sp_if_eq (tgt := 32) (q := 23) hX dX12_lengths_20 (by decide) rfl (fun hc => ?_) (fun hc => ?_)
      · rw [if_pos hc] at hf
        refine sp_iconst (v := 0) (q := 33) hX dX12_lengths_32 li_0 rfl ?_
        refine sp_drop (lv' := [some (.ref (sx_ad X 0)), some (.int z1), none, some (.int z3)]) (And.intro rfl (And.intro rfl (And.intro rfl trivial))) ?_
        exact hX12_lengths_33 hX hR ih hf
      · rw [if_neg hc] at hf
        refine sp_aload_n (i := 0) (q := 24) hX dX12_lengths_23 rfl rfl rfl ?_
        refine sp_gets (t := 8) (q := 27) hX flX12_49 fkX12_9 atM_0 srM_0_9 dX12_lengths_24 rfl ?_
        refine sp_iload_n (i := 3) (q := 28) hX dX12_lengths_27 rfl rfl rfl ?_
        obtain ⟨h4, hf⟩ := sp_ck_some hf
        refine sp_iald (q := 29) hX arM_8 h4 dX12_lengths_28 rfl ?_
        refine sp_goto (tgt := 33) hX dX12_lengths_29 (by decide) ?_
        refine sp_drop (lv' := [some (.ref (sx_ad X 0)), some (.int z1), none, some (.int z3)]) (And.intro rfl (And.intro rfl (And.intro rfl trivial))) ?_
        exact hX12_lengths_33 hX hR ih hf
set_option maxRecDepth 100000 in
set_option maxHeartbeats 4000000 in
theorem hX12_lengths {X : sp_X} (hX : sp_OK shM X cX12_lengths RX12 4 rmX12_lengths) {τ : sp_St} {r : Int32} (hR : sp_Ri shM X (some .int) τ r 0 0) {n : Nat}  {σ : sp_St} {a1 : Int32}  (hf : X12_lengths n σ a1 = some (τ, r)) : sp_GG shM X σ 4 [some (.ref (sx_ad X 0)), some (.int a1), none, none] [] 0 0 0 := by
  unfold X12_lengths at hf
  refine sp_iconst (v := 0) (q := 1) hX dX12_lengths_0 li_0 rfl ?_
  obtain ⟨x1, e2, hf⟩ := sp_pl_some hf
  refine sp_nmi e2 ?_
  refine sp_istore_n (i := 2) (lv' := [some (.ref (sx_ad X 0)), some (.int a1), some (.int x1), none]) (q := 2) hX dX12_lengths_1 rfl (Nat.le_of_ble_eq_true rfl) rfl rfl rfl ?_
  refine sp_iconst (v := 0) (q := 3) hX dX12_lengths_2 li_0 rfl ?_
  obtain ⟨x3, e4, hf⟩ := sp_pl_some hf
  refine sp_nmi e4 ?_
  refine sp_istore_n (i := 3) (lv' := [some (.ref (sx_ad X 0)), some (.int a1), some (.int x1), some (.int x3)]) (q := 4) hX dX12_lengths_3 rfl (Nat.le_of_ble_eq_true rfl) rfl rfl rfl ?_
  exact hX12_lengths_4 hX hR n σ a1 x1 x3 hf
set_option maxRecDepth 100000 in
set_option maxHeartbeats 4000000 in
theorem cnX12_lengths {l : Launch} (hst : l.stackTraces = false) {w : sp_Wd} {n : Nat}  {σ : sp_St} {a1 : Int32} {τ : sp_St} {r : Int32}  (hf : X12_lengths n σ a1 = some (τ, r)) : sp_Ci shM l w yX12_lengths cX12_lengths 4 (some .int) rmX12_lengths 0 0 σ [.ref (w.2.1 0), .int a1] τ r :=
  sp_ci (own := RX12) (by decide) rfl hst (Nat.le_of_ble_eq_true rfl) rfl (fun X hX hw hl hR => by subst hw; subst hl; exact hX12_lengths hX hR   hf)
def rmX12_leftOf : Room := { frames := 2, cells := 0, slots := 0, locals := 44 }
def X12_leftOf (n : Nat)  (σ : sp_St) (a1 : Int32) : Option (sp_St × Int32) :=
  sp_ck (sp_in a1 5) <|
  sp_bd (X12_inside n σ a1) fun σ3 v4 =>
  sp_bd (X12_lengths n σ3 v4) fun σ6 v7 =>
  some (σ6, (sp_g σ 16 a1) - v7)
set_option maxRecDepth 100000 in
set_option maxHeartbeats 4000000 in
theorem hX12_leftOf {X : sp_X} (hX : sp_OK shM X cX12_leftOf RX12 2 rmX12_leftOf) {τ : sp_St} {r : Int32} (hR : sp_Ri shM X (some .int) τ r 0 0) {n : Nat}  {σ : sp_St} {a1 : Int32}  (hf : X12_leftOf n σ a1 = some (τ, r)) : sp_GG shM X σ 2 [some (.ref (sx_ad X 0)), some (.int a1)] [] 0 0 0 := by
  unfold X12_leftOf at hf
  refine sp_aload_n (i := 0) (q := 1) hX dX12_leftOf_0 rfl rfl rfl ?_
  refine sp_gets (t := 16) (q := 4) hX flX12_75 fkX12_28 atM_0 srM_0_28 dX12_leftOf_1 rfl ?_
  refine sp_iload_n (i := 1) (q := 5) hX dX12_leftOf_4 rfl rfl rfl ?_
  obtain ⟨h1, hf⟩ := sp_ck_some hf
  refine sp_iald (q := 6) hX arM_16 h1 dX12_leftOf_5 rfl ?_
  refine sp_aload_n (i := 0) (q := 7) hX dX12_leftOf_6 rfl rfl rfl ?_
  refine sp_aload_n (i := 0) (q := 8) hX dX12_leftOf_7 rfl rfl rfl ?_
  refine sp_iload_n (i := 1) (q := 9) hX dX12_leftOf_8 rfl rfl rfl ?_
  obtain ⟨σ3, v4, h2, hf⟩ := sp_bd_so hf
  refine sp_callVi (As := [.int a1]) (rest := [.ref (sx_ad X 0), .int (sp_g σ 16 a1)]) (q := 12) hX (cnX12_inside (sp_st hX)  h2) cwX12_342 atM_0 rfl rfl rfl rfl rfl (Nat.le_of_ble_eq_true rfl) (Nat.le_of_ble_eq_true rfl) (Nat.le_of_ble_eq_true rfl) (Nat.le_of_ble_eq_true rfl) (Nat.le_of_ble_eq_true rfl) dX12_leftOf_9 rfl ?_
  obtain ⟨σ6, v7, h5, hf⟩ := sp_bd_so hf
  refine sp_callVi (As := [.int v4]) (rest := [.int (sp_g σ 16 a1)]) (q := 15) hX (cnX12_lengths (sp_st hX)  h5) cwX12_345 atM_0 rfl rfl rfl rfl rfl (Nat.le_of_ble_eq_true rfl) (Nat.le_of_ble_eq_true rfl) (Nat.le_of_ble_eq_true rfl) (Nat.le_of_ble_eq_true rfl) (Nat.le_of_ble_eq_true rfl) dX12_leftOf_12 rfl ?_
  refine sp_isub (q := 16) hX dX12_leftOf_15 rfl ?_
  exact sp_iret hX hR dX12_leftOf_16 hf (Nat.le_of_ble_eq_true rfl) (Nat.le_of_ble_eq_true rfl)
set_option maxRecDepth 100000 in
set_option maxHeartbeats 4000000 in
theorem cnX12_leftOf {l : Launch} (hst : l.stackTraces = false) {w : sp_Wd} {n : Nat}  {σ : sp_St} {a1 : Int32} {τ : sp_St} {r : Int32}  (hf : X12_leftOf n σ a1 = some (τ, r)) : sp_Ci shM l w yX12_leftOf cX12_leftOf 2 (some .int) rmX12_leftOf 0 0 σ [.ref (w.2.1 0), .int a1] τ r :=
  sp_ci (own := RX12) (by decide) rfl hst (Nat.le_of_ble_eq_true rfl) rfl (fun X hX hw hl hR => by subst hw; subst hl; exact hX12_leftOf hX hR   hf)
def rmX12_putIn : Room := { frames := 0, cells := 0, slots := 0, locals := 0 }
def X12_putIn (n : Nat)  (σ : sp_St) (a1 : Int32) (a2 : Int32) : Option (sp_St) :=
  sp_ck (sp_in a1 10) <|
  sp_pl (sp_sa σ 15 a1.toNatClampNeg ((1 : Int32))) fun σ2 =>
  sp_ck (sp_in a2 5) <|
  sp_ck (sp_in ((((10 : Int32)) * a2) + (sp_g σ2 17 a2)) 50) <|
  sp_pl (sp_sa σ2 18 ((((10 : Int32)) * a2) + (sp_g σ2 17 a2)).toNatClampNeg a1) fun σ6 =>
  sp_ck (sp_in a2 5) <|
  sp_ck (sp_in a2 5) <|
  sp_pl (sp_sa σ6 17 a2.toNatClampNeg ((sp_g σ6 17 a2) + ((1 : Int32)))) fun σ10 =>
  some σ10
set_option maxRecDepth 100000 in
set_option maxHeartbeats 4000000 in
theorem hX12_putIn {X : sp_X} (hX : sp_OK shM X cX12_putIn RX12 3 rmX12_putIn) {τ : sp_St} (hR : sp_Rv shM X τ 0 0) {n : Nat}  {σ : sp_St} {a1 : Int32} {a2 : Int32}  (hf : X12_putIn n σ a1 a2 = some τ) : sp_GG shM X σ 3 [some (.ref (sx_ad X 0)), some (.int a1), some (.int a2)] [] 0 0 0 := by
  unfold X12_putIn at hf
  refine sp_aload_n (i := 0) (q := 1) hX dX12_putIn_0 rfl rfl rfl ?_
  refine sp_gets (t := 15) (q := 4) hX flX12_72 fkX12_27 atM_0 srM_0_27 dX12_putIn_1 rfl ?_
  refine sp_iload_n (i := 1) (q := 5) hX dX12_putIn_4 rfl rfl rfl ?_
  refine sp_iconst (v := 1) (q := 6) hX dX12_putIn_5 li_1 rfl ?_
  obtain ⟨h1, hf⟩ := sp_ck_some hf
  obtain ⟨σ2, e3, hf⟩ := sp_pl_some hf
  refine sp_iast (q := 7) hX arM_15 h1 dX12_putIn_6 rfl ?_
  refine sp_nms e3 ?_
  refine sp_aload_n (i := 0) (q := 8) hX dX12_putIn_7 rfl rfl rfl ?_
  refine sp_gets (t := 18) (q := 11) hX flX12_81 fkX12_30 atM_0 srM_0_30 dX12_putIn_8 rfl ?_
  refine sp_bipush (v := 10) (q := 13) hX dX12_putIn_11 lb_10 rfl ?_
  refine sp_iload_n (i := 2) (q := 14) hX dX12_putIn_13 rfl rfl rfl ?_
  refine sp_imul (q := 15) hX dX12_putIn_14 rfl ?_
  refine sp_aload_n (i := 0) (q := 16) hX dX12_putIn_15 rfl rfl rfl ?_
  refine sp_gets (t := 17) (q := 19) hX flX12_78 fkX12_29 atM_0 srM_0_29 dX12_putIn_16 rfl ?_
  refine sp_iload_n (i := 2) (q := 20) hX dX12_putIn_19 rfl rfl rfl ?_
  obtain ⟨h4, hf⟩ := sp_ck_some hf
  refine sp_iald (q := 21) hX arM_17 h4 dX12_putIn_20 rfl ?_
  refine sp_iadd (q := 22) hX dX12_putIn_21 rfl ?_
  refine sp_iload_n (i := 1) (q := 23) hX dX12_putIn_22 rfl rfl rfl ?_
  obtain ⟨h5, hf⟩ := sp_ck_some hf
  obtain ⟨σ6, e7, hf⟩ := sp_pl_some hf
  refine sp_iast (q := 24) hX arM_18 h5 dX12_putIn_23 rfl ?_
  refine sp_nms e7 ?_
  refine sp_aload_n (i := 0) (q := 25) hX dX12_putIn_24 rfl rfl rfl ?_
  refine sp_gets (t := 17) (q := 28) hX flX12_78 fkX12_29 atM_0 srM_0_29 dX12_putIn_25 rfl ?_
  refine sp_iload_n (i := 2) (q := 29) hX dX12_putIn_28 rfl rfl rfl ?_
  refine sp_dup2 (q := 30) hX dX12_putIn_29 rfl rfl rfl ?_
  obtain ⟨h8, hf⟩ := sp_ck_some hf
  refine sp_iald (q := 31) hX arM_17 h8 dX12_putIn_30 rfl ?_
  refine sp_iconst (v := 1) (q := 32) hX dX12_putIn_31 li_1 rfl ?_
  refine sp_iadd (q := 33) hX dX12_putIn_32 rfl ?_
  obtain ⟨h9, hf⟩ := sp_ck_some hf
  obtain ⟨σ10, e11, hf⟩ := sp_pl_some hf
  refine sp_iast (q := 34) hX arM_17 h9 dX12_putIn_33 rfl ?_
  refine sp_nms e11 ?_
  exact sp_vret hX hR dX12_putIn_34 hf (Nat.le_of_ble_eq_true rfl) (Nat.le_of_ble_eq_true rfl)
set_option maxRecDepth 100000 in
set_option maxHeartbeats 4000000 in
theorem cnX12_putIn {l : Launch} (hst : l.stackTraces = false) {w : sp_Wd} {n : Nat}  {σ : sp_St} {a1 : Int32} {a2 : Int32} {τ : sp_St}  (hf : X12_putIn n σ a1 a2 = some τ) : sp_Cv shM l w yX12_putIn cX12_putIn 3 rmX12_putIn 0 0 σ [.ref (w.2.1 0), .int a1, .int a2] τ :=
  sp_cv (own := RX12) (by decide) rfl hst (Nat.le_of_ble_eq_true rfl) rfl (fun X hX hw hl hR => by subst hw; subst hl; exact hX12_putIn hX hR   hf)
def rmX12_takeOut : Room := { frames := 1, cells := 0, slots := 0, locals := 23 }
def X12_takeOut_69 (n : Nat) (σ : sp_St) (z1 : Int32) (z2 : Int32) (z3 : Int32) (z4 : Int32) : Option (sp_St) :=
  sp_ck (sp_in ((((10 : Int32)) * z3) + z4) 50) <|
  sp_pl (sp_sa σ 18 ((((10 : Int32)) * z3) + z4).toNatClampNeg ((-1 : Int32))) fun σ2 =>
  sp_ck (sp_in z3 5) <|
  sp_pl (sp_sa σ2 17 z3.toNatClampNeg z4) fun σ5 =>
  sp_ck (sp_in z1 10) <|
  sp_pl (sp_sa σ5 15 z1.toNatClampNeg z2) fun σ8 =>
  some σ8
def X12_takeOut_63 (n : Nat) (k12 : sp_St → Int32 → Int32 → Int32 → Int32 → Int32 → Option (sp_St)) (σ : sp_St) (z1 : Int32) (z2 : Int32) (z3 : Int32) (z4 : Int32) (z5 : Int32) : Option (sp_St) :=
  sp_pl (z5 + 1) fun x1 =>
  k12 σ z1 z2 z3 z4 x1
def X12_takeOut_12 (n : Nat) : Nat → sp_St → Int32 → Int32 → Int32 → Int32 → Int32 → Option (sp_St)
  | 0, _, _, _, _, _, _ => none
  | f + 1, σ, z1, z2, z3, z4, z5 =>
    sp_ck (sp_in z3 5) <|
    if (sp_g σ 17 z3) ≤ z5 then
      X12_takeOut_69 n σ z1 z2 z3 z4
    else
      sp_ck (sp_in ((((10 : Int32)) * z3) + z5) 50) <|
      sp_pl (sp_g σ 18 ((((10 : Int32)) * z3) + z5)) fun x3 =>
      if x3 = z1 then
        X12_takeOut_63 n (X12_takeOut_12 n f) σ z1 z2 z3 z4 z5
      else
        sp_ck (sp_in ((((10 : Int32)) * z3) + z4) 50) <|
        sp_pl (sp_sa σ 18 ((((10 : Int32)) * z3) + z4).toNatClampNeg x3) fun σ6 =>
        sp_pl (z4 + 1) fun x8 =>
        X12_takeOut_63 n (X12_takeOut_12 n f) σ6 z1 z2 z3 x8 z5
def X12_takeOut (n : Nat)  (σ : sp_St) (a1 : Int32) (a2 : Int32) : Option (sp_St) :=
  sp_bd (X12_throatOf n σ a1) fun σ2 v3 =>
  sp_pl ((0 : Int32)) fun x4 =>
  sp_pl ((0 : Int32)) fun x6 =>
  X12_takeOut_12 n n σ2 a1 a2 v3 x4 x6
set_option maxRecDepth 100000 in
set_option maxHeartbeats 4000000 in
theorem hX12_takeOut_69 {X : sp_X} (hX : sp_OK shM X cX12_takeOut RX12 7 rmX12_takeOut) {τ : sp_St} (hR : sp_Rv shM X τ 0 0) {n : Nat}    {σ : sp_St} {z1 : Int32} {z2 : Int32} {z3 : Int32} {z4 : Int32} (hf : X12_takeOut_69 n σ z1 z2 z3 z4 = some τ) : sp_GG shM X σ 7 [some (.ref (sx_ad X 0)), some (.int z1), some (.int z2), some (.int z3), some (.int z4), none, none] [] 69 0 0 := by
  unfold X12_takeOut_69 at hf
  refine sp_aload_n (i := 0) (q := 70) hX dX12_takeOut_69 rfl rfl rfl ?_
  refine sp_gets (t := 18) (q := 73) hX flX12_81 fkX12_30 atM_0 srM_0_30 dX12_takeOut_70 rfl ?_
  refine sp_bipush (v := 10) (q := 75) hX dX12_takeOut_73 lb_10 rfl ?_
  refine sp_iload_n (i := 3) (q := 76) hX dX12_takeOut_75 rfl rfl rfl ?_
  refine sp_imul (q := 77) hX dX12_takeOut_76 rfl ?_
  refine sp_iload (i := 4) (q := 79) hX dX12_takeOut_77 rfl rfl ?_
  refine sp_iadd (q := 80) hX dX12_takeOut_79 rfl ?_
  refine sp_iconst (v := -1) (q := 81) hX dX12_takeOut_80 li_m1 rfl ?_
  obtain ⟨h1, hf⟩ := sp_ck_some hf
  obtain ⟨σ2, e3, hf⟩ := sp_pl_some hf
  refine sp_iast (q := 82) hX arM_18 h1 dX12_takeOut_81 rfl ?_
  refine sp_nms e3 ?_
  refine sp_aload_n (i := 0) (q := 83) hX dX12_takeOut_82 rfl rfl rfl ?_
  refine sp_gets (t := 17) (q := 86) hX flX12_78 fkX12_29 atM_0 srM_0_29 dX12_takeOut_83 rfl ?_
  refine sp_iload_n (i := 3) (q := 87) hX dX12_takeOut_86 rfl rfl rfl ?_
  refine sp_iload (i := 4) (q := 89) hX dX12_takeOut_87 rfl rfl ?_
  obtain ⟨h4, hf⟩ := sp_ck_some hf
  obtain ⟨σ5, e6, hf⟩ := sp_pl_some hf
  refine sp_iast (q := 90) hX arM_17 h4 dX12_takeOut_89 rfl ?_
  refine sp_nms e6 ?_
  refine sp_aload_n (i := 0) (q := 91) hX dX12_takeOut_90 rfl rfl rfl ?_
  refine sp_gets (t := 15) (q := 94) hX flX12_72 fkX12_27 atM_0 srM_0_27 dX12_takeOut_91 rfl ?_
  refine sp_iload_n (i := 1) (q := 95) hX dX12_takeOut_94 rfl rfl rfl ?_
  refine sp_iload_n (i := 2) (q := 96) hX dX12_takeOut_95 rfl rfl rfl ?_
  obtain ⟨h7, hf⟩ := sp_ck_some hf
  obtain ⟨σ8, e9, hf⟩ := sp_pl_some hf
  refine sp_iast (q := 97) hX arM_15 h7 dX12_takeOut_96 rfl ?_
  refine sp_nms e9 ?_
  exact sp_vret hX hR dX12_takeOut_97 hf (Nat.le_of_ble_eq_true rfl) (Nat.le_of_ble_eq_true rfl)
set_option maxRecDepth 100000 in
set_option maxHeartbeats 4000000 in
theorem hX12_takeOut_63 {X : sp_X} (hX : sp_OK shM X cX12_takeOut RX12 7 rmX12_takeOut) {τ : sp_St} (hR : sp_Rv shM X τ 0 0) {n : Nat}   {k12 : sp_St → Int32 → Int32 → Int32 → Int32 → Int32 → Option (sp_St)} (hk12 : ∀ (σ : sp_St) (z1 : Int32) (z2 : Int32) (z3 : Int32) (z4 : Int32) (z5 : Int32), k12 σ z1 z2 z3 z4 z5 = some τ → sp_GG shM X σ 7 [some (.ref (sx_ad X 0)), some (.int z1), some (.int z2), some (.int z3), some (.int z4), some (.int z5), none] [] 12 0 0) {σ : sp_St} {z1 : Int32} {z2 : Int32} {z3 : Int32} {z4 : Int32} {z5 : Int32} (hf : X12_takeOut_63 n k12 σ z1 z2 z3 z4 z5 = some τ) : sp_GG shM X σ 7 [some (.ref (sx_ad X 0)), some (.int z1), some (.int z2), some (.int z3), some (.int z4), some (.int z5), none] [] 63 0 0 := by
  unfold X12_takeOut_63 at hf
  obtain ⟨x1, e2, hf⟩ := sp_pl_some hf
  refine sp_iinc (i := 5) (v := x1) (lv' := [some (.ref (sx_ad X 0)), some (.int z1), some (.int z2), some (.int z3), some (.int z4), some (.int x1), none]) (q := 66) hX dX12_takeOut_63 rfl (by rw [e2, li_1]) (Nat.le_of_ble_eq_true rfl) rfl rfl rfl ?_
  refine sp_goto (tgt := 12) hX dX12_takeOut_66 (by decide) ?_
  exact hk12 σ z1 z2 z3 z4 x1 hf
set_option maxRecDepth 100000 in
set_option maxHeartbeats 4000000 in
theorem hX12_takeOut_12 {X : sp_X} (hX : sp_OK shM X cX12_takeOut RX12 7 rmX12_takeOut) {τ : sp_St} (hR : sp_Rv shM X τ 0 0) {n : Nat}    : ∀ (f : Nat) (σ : sp_St) (z1 : Int32) (z2 : Int32) (z3 : Int32) (z4 : Int32) (z5 : Int32), X12_takeOut_12 n f σ z1 z2 z3 z4 z5 = some τ → sp_GG shM X σ 7 [some (.ref (sx_ad X 0)), some (.int z1), some (.int z2), some (.int z3), some (.int z4), some (.int z5), none] [] 12 0 0 := by
  intro f
  induction f with
  | zero =>
    intro σ z1 z2 z3 z4 z5 hf
    rw [X12_takeOut_12] at hf
    cases hf
  | succ f ih =>
    intro σ z1 z2 z3 z4 z5 hf
    rw [X12_takeOut_12] at hf
    refine sp_iload (i := 5) (q := 14) hX dX12_takeOut_12 rfl rfl ?_
    refine sp_aload_n (i := 0) (q := 15) hX dX12_takeOut_14 rfl rfl rfl ?_
    refine sp_gets (t := 17) (q := 18) hX flX12_78 fkX12_29 atM_0 srM_0_29 dX12_takeOut_15 rfl ?_
    refine sp_iload_n (i := 3) (q := 19) hX dX12_takeOut_18 rfl rfl rfl ?_
    obtain ⟨h1, hf⟩ := sp_ck_some hf
    refine sp_iald (q := 20) hX arM_17 h1 dX12_takeOut_19 rfl ?_
    refine sp_icmp_ge (tgt := 69) (q := 23) hX dX12_takeOut_20 (by decide) rfl (fun hc => ?_) (fun hc => ?_)
    · rw [if_pos hc] at hf
      refine sp_drop (lv' := [some (.ref (sx_ad X 0)), some (.int z1), some (.int z2), some (.int z3), some (.int z4), none, none]) (And.intro rfl (And.intro rfl (And.intro rfl (And.intro rfl (And.intro rfl trivial))))) ?_
      exact hX12_takeOut_69 hX hR hf
    · rw [if_neg hc] at hf
      refine sp_aload_n (i := 0) (q := 24) hX dX12_takeOut_23 rfl rfl rfl ?_
      refine sp_gets (t := 18) (q := 27) hX flX12_81 fkX12_30 atM_0 srM_0_30 dX12_takeOut_24 rfl ?_
      refine sp_bipush (v := 10) (q := 29) hX dX12_takeOut_27 lb_10 rfl ?_
      refine sp_iload_n (i := 3) (q := 30) hX dX12_takeOut_29 rfl rfl rfl ?_
      refine sp_imul (q := 31) hX dX12_takeOut_30 rfl ?_
      refine sp_iload (i := 5) (q := 33) hX dX12_takeOut_31 rfl rfl ?_
      refine sp_iadd (q := 34) hX dX12_takeOut_33 rfl ?_
      obtain ⟨h2, hf⟩ := sp_ck_some hf
      refine sp_iald (q := 35) hX arM_18 h2 dX12_takeOut_34 rfl ?_
      obtain ⟨x3, e4, hf⟩ := sp_pl_some hf
      refine sp_nmi e4 ?_
      refine sp_istore (i := 6) (lv' := [some (.ref (sx_ad X 0)), some (.int z1), some (.int z2), some (.int z3), some (.int z4), some (.int z5), some (.int x3)]) (q := 37) hX dX12_takeOut_35 (Nat.le_of_ble_eq_true rfl) rfl rfl rfl ?_
      refine sp_iload (i := 6) (q := 39) hX dX12_takeOut_37 rfl rfl ?_
      refine sp_iload_n (i := 1) (q := 40) hX dX12_takeOut_39 rfl rfl rfl ?_
      refine sp_icmp_ne (tgt := 46) (q := 43) hX dX12_takeOut_40 (by decide) rfl (fun hc => ?_) (fun hc => ?_)
      · rw [if_neg hc] at hf
        refine sp_aload_n (i := 0) (q := 47) hX dX12_takeOut_46 rfl rfl rfl ?_
        refine sp_gets (t := 18) (q := 50) hX flX12_81 fkX12_30 atM_0 srM_0_30 dX12_takeOut_47 rfl ?_
        refine sp_bipush (v := 10) (q := 52) hX dX12_takeOut_50 lb_10 rfl ?_
        refine sp_iload_n (i := 3) (q := 53) hX dX12_takeOut_52 rfl rfl rfl ?_
        refine sp_imul (q := 54) hX dX12_takeOut_53 rfl ?_
        refine sp_iload (i := 4) (q := 56) hX dX12_takeOut_54 rfl rfl ?_
        refine sp_iadd (q := 57) hX dX12_takeOut_56 rfl ?_
        refine sp_iload (i := 6) (q := 59) hX dX12_takeOut_57 rfl rfl ?_
        obtain ⟨h5, hf⟩ := sp_ck_some hf
        obtain ⟨σ6, e7, hf⟩ := sp_pl_some hf
        refine sp_iast (q := 60) hX arM_18 h5 dX12_takeOut_59 rfl ?_
        refine sp_nms e7 ?_
        obtain ⟨x8, e9, hf⟩ := sp_pl_some hf
        refine sp_iinc (i := 4) (v := x8) (lv' := [some (.ref (sx_ad X 0)), some (.int z1), some (.int z2), some (.int z3), some (.int x8), some (.int z5), some (.int x3)]) (q := 63) hX dX12_takeOut_60 rfl (by rw [e9, li_1]) (Nat.le_of_ble_eq_true rfl) rfl rfl rfl ?_
        refine sp_drop (lv' := [some (.ref (sx_ad X 0)), some (.int z1), some (.int z2), some (.int z3), some (.int x8), some (.int z5), none]) (And.intro rfl (And.intro rfl (And.intro rfl (And.intro rfl (And.intro rfl (And.intro rfl trivial)))))) ?_
        exact hX12_takeOut_63 hX hR ih hf
      · rw [if_pos hc] at hf
        refine sp_goto (tgt := 63) hX dX12_takeOut_43 (by decide) ?_
        refine sp_drop (lv' := [some (.ref (sx_ad X 0)), some (.int z1), some (.int z2), some (.int z3), some (.int z4), some (.int z5), none]) (And.intro rfl (And.intro rfl (And.intro rfl (And.intro rfl (And.intro rfl (And.intro rfl trivial)))))) ?_
        exact hX12_takeOut_63 hX hR ih hf
set_option maxRecDepth 100000 in
set_option maxHeartbeats 4000000 in
theorem hX12_takeOut {X : sp_X} (hX : sp_OK shM X cX12_takeOut RX12 7 rmX12_takeOut) {τ : sp_St} (hR : sp_Rv shM X τ 0 0) {n : Nat}  {σ : sp_St} {a1 : Int32} {a2 : Int32}  (hf : X12_takeOut n σ a1 a2 = some τ) : sp_GG shM X σ 7 [some (.ref (sx_ad X 0)), some (.int a1), some (.int a2), none, none, none, none] [] 0 0 0 := by
  unfold X12_takeOut at hf
  refine sp_aload_n (i := 0) (q := 1) hX dX12_takeOut_0 rfl rfl rfl ?_
  refine sp_iload_n (i := 1) (q := 2) hX dX12_takeOut_1 rfl rfl rfl ?_
  obtain ⟨σ2, v3, h1, hf⟩ := sp_bd_so hf
  refine sp_callVi (As := [.int a1]) (rest := []) (q := 5) hX (cnX12_throatOf (sp_st hX)  h1) cwX12_339 atM_0 rfl rfl rfl rfl rfl (Nat.le_of_ble_eq_true rfl) (Nat.le_of_ble_eq_true rfl) (Nat.le_of_ble_eq_true rfl) (Nat.le_of_ble_eq_true rfl) (Nat.le_of_ble_eq_true rfl) dX12_takeOut_2 rfl ?_
  refine sp_istore_n (i := 3) (lv' := [some (.ref (sx_ad X 0)), some (.int a1), some (.int a2), some (.int v3), none, none, none]) (q := 6) hX dX12_takeOut_5 rfl (Nat.le_of_ble_eq_true rfl) rfl rfl rfl ?_
  refine sp_iconst (v := 0) (q := 7) hX dX12_takeOut_6 li_0 rfl ?_
  obtain ⟨x4, e5, hf⟩ := sp_pl_some hf
  refine sp_nmi e5 ?_
  refine sp_istore (i := 4) (lv' := [some (.ref (sx_ad X 0)), some (.int a1), some (.int a2), some (.int v3), some (.int x4), none, none]) (q := 9) hX dX12_takeOut_7 (Nat.le_of_ble_eq_true rfl) rfl rfl rfl ?_
  refine sp_iconst (v := 0) (q := 10) hX dX12_takeOut_9 li_0 rfl ?_
  obtain ⟨x6, e7, hf⟩ := sp_pl_some hf
  refine sp_nmi e7 ?_
  refine sp_istore (i := 5) (lv' := [some (.ref (sx_ad X 0)), some (.int a1), some (.int a2), some (.int v3), some (.int x4), some (.int x6), none]) (q := 12) hX dX12_takeOut_10 (Nat.le_of_ble_eq_true rfl) rfl rfl rfl ?_
  exact hX12_takeOut_12 hX hR n σ2 a1 a2 v3 x4 x6 hf
set_option maxRecDepth 100000 in
set_option maxHeartbeats 4000000 in
theorem cnX12_takeOut {l : Launch} (hst : l.stackTraces = false) {w : sp_Wd} {n : Nat}  {σ : sp_St} {a1 : Int32} {a2 : Int32} {τ : sp_St}  (hf : X12_takeOut n σ a1 a2 = some τ) : sp_Cv shM l w yX12_takeOut cX12_takeOut 7 rmX12_takeOut 0 0 σ [.ref (w.2.1 0), .int a1, .int a2] τ :=
  sp_cv (own := RX12) (by decide) rfl hst (Nat.le_of_ble_eq_true rfl) rfl (fun X hX hw hl hR => by subst hw; subst hl; exact hX12_takeOut hX hR   hf)
def rmX12_isFeud : Room := { frames := 1, cells := 0, slots := 0, locals := 21 }
def X12_isFeud (n : Nat)  (σ : sp_St) (a1 : Int32) (a2 : Int32) : Option (sp_St × Int32) :=
  sp_ck (sp_in a1 20) <|
  sp_ck (sp_in (sp_g σ 7 a1) 6) <|
  sp_ck (sp_in a2 20) <|
  sp_bd (X12_isOf n σ (sp_g σ 19 (sp_g σ 7 a1)) (sp_g σ 7 a2)) fun σ5 v6 =>
  sp_ck (sp_zb v6) <|
  some (σ5, v6)
set_option maxRecDepth 100000 in
set_option maxHeartbeats 4000000 in
theorem hX12_isFeud {X : sp_X} (hX : sp_OK shM X cX12_isFeud RX12 3 rmX12_isFeud) {τ : sp_St} {r : Int32} (hR : sp_Ri shM X (some .boolean) τ r 0 0) {n : Nat}  {σ : sp_St} {a1 : Int32} {a2 : Int32}  (hf : X12_isFeud n σ a1 a2 = some (τ, r)) : sp_GG shM X σ 3 [some (.ref (sx_ad X 0)), some (.int a1), some (.int a2)] [] 0 0 0 := by
  unfold X12_isFeud at hf
  refine sp_aload_n (i := 0) (q := 1) hX dX12_isFeud_0 rfl rfl rfl ?_
  refine sp_gets (t := 19) (q := 4) hX flX12_84 fkX12_31 atM_0 srM_0_31 dX12_isFeud_1 rfl ?_
  refine sp_aload_n (i := 0) (q := 5) hX dX12_isFeud_4 rfl rfl rfl ?_
  refine sp_gets (t := 7) (q := 8) hX flX12_46 fkX12_8 atM_0 srM_0_8 dX12_isFeud_5 rfl ?_
  refine sp_iload_n (i := 1) (q := 9) hX dX12_isFeud_8 rfl rfl rfl ?_
  obtain ⟨h1, hf⟩ := sp_ck_some hf
  refine sp_iald (q := 10) hX arM_7 h1 dX12_isFeud_9 rfl ?_
  obtain ⟨h2, hf⟩ := sp_ck_some hf
  refine sp_iald (q := 11) hX arM_19 h2 dX12_isFeud_10 rfl ?_
  refine sp_aload_n (i := 0) (q := 12) hX dX12_isFeud_11 rfl rfl rfl ?_
  refine sp_gets (t := 7) (q := 15) hX flX12_46 fkX12_8 atM_0 srM_0_8 dX12_isFeud_12 rfl ?_
  refine sp_iload_n (i := 2) (q := 16) hX dX12_isFeud_15 rfl rfl rfl ?_
  obtain ⟨h3, hf⟩ := sp_ck_some hf
  refine sp_iald (q := 17) hX arM_7 h3 dX12_isFeud_16 rfl ?_
  obtain ⟨σ5, v6, h4, hf⟩ := sp_bd_so hf
  refine sp_callSi (As := [.int (sp_g σ 19 (sp_g σ 7 a1)), .int (sp_g σ 7 a2)]) (rest := []) (q := 20) hX (cnX12_isOf (sp_st hX)  h4) cwX12_284 rfl rfl rfl rfl (Nat.le_of_ble_eq_true rfl) (Nat.le_of_ble_eq_true rfl) (Nat.le_of_ble_eq_true rfl) (Nat.le_of_ble_eq_true rfl) (Nat.le_of_ble_eq_true rfl) dX12_isFeud_17 rfl ?_
  obtain ⟨h7, hf⟩ := sp_ck_some hf
  exact sp_zret hX hR h7 dX12_isFeud_20 hf (Nat.le_of_ble_eq_true rfl) (Nat.le_of_ble_eq_true rfl)
set_option maxRecDepth 100000 in
set_option maxHeartbeats 4000000 in
theorem cnX12_isFeud {l : Launch} (hst : l.stackTraces = false) {w : sp_Wd} {n : Nat}  {σ : sp_St} {a1 : Int32} {a2 : Int32} {τ : sp_St} {r : Int32}  (hf : X12_isFeud n σ a1 a2 = some (τ, r)) : sp_Ci shM l w yX12_isFeud cX12_isFeud 3 (some .boolean) rmX12_isFeud 0 0 σ [.ref (w.2.1 0), .int a1, .int a2] τ r :=
  sp_ci (own := RX12) (by decide) rfl hst (Nat.le_of_ble_eq_true rfl) rfl (fun X hX hw hl hR => by subst hw; subst hl; exact hX12_isFeud hX hR   hf)
def rmX12_foesOf : Room := { frames := 2, cells := 0, slots := 0, locals := 43 }
def X12_foesOf_90 (n : Nat) (σ : sp_St) (z3 : Int32) : Option (sp_St × Int32) :=
  some (σ, z3)
def X12_foesOf_82 (n : Nat) (k46 : sp_St → Int32 → Int32 → Int32 → Int32 → Option (sp_St × Int32)) (σ : sp_St) (z1 : Int32) (z2 : Int32) (z4 : Int32) (zs0 : Int32) (zs1 : Int32) : Option (sp_St × Int32) :=
  sp_pl (zs1 + zs0) fun x1 =>
  sp_pl (z4 + 1) fun x3 =>
  k46 σ z1 z2 x1 x3
def X12_foesOf_81 (n : Nat) (k46 : sp_St → Int32 → Int32 → Int32 → Int32 → Option (sp_St × Int32)) (σ : sp_St) (z1 : Int32) (z2 : Int32) (z4 : Int32) (zs0 : Int32) : Option (sp_St × Int32) :=
  X12_foesOf_82 n k46 σ z1 z2 z4 ((0 : Int32)) zs0
def X12_foesOf_46 (n : Nat) : Nat → sp_St → Int32 → Int32 → Int32 → Int32 → Option (sp_St × Int32)
  | 0, _, _, _, _, _ => none
  | f + 1, σ, z1, z2, z3, z4 =>
    if (sp_g σ 3 ((2 : Int32))) ≤ z4 then
      X12_foesOf_90 n σ z3
    else
      sp_bd (X12_isOf n σ z2 z4) fun σ2 v3 =>
      if v3 = 0 then
        X12_foesOf_81 n (X12_foesOf_46 n f) σ2 z1 z2 z4 z3
      else
        sp_bd (X12_isFeud n σ2 z1 z4) fun σ5 v6 =>
        if v6 = 0 then
          X12_foesOf_81 n (X12_foesOf_46 n f) σ5 z1 z2 z4 z3
        else
          X12_foesOf_82 n (X12_foesOf_46 n f) σ5 z1 z2 z4 ((1 : Int32)) z3
def X12_foesOf_40 (n : Nat) (σ : sp_St) (z1 : Int32) (zs0 : Int32) : Option (sp_St × Int32) :=
  sp_pl ((0 : Int32)) fun x1 =>
  sp_pl ((0 : Int32)) fun x3 =>
  X12_foesOf_46 n n σ z1 zs0 x1 x3
def X12_foesOf (n : Nat)  (σ : sp_St) (a1 : Int32) : Option (sp_St × Int32) :=
  sp_ck (sp_in a1 10) <|
  if (sp_g σ 15 a1) = ((2 : Int32)) then
    X12_foesOf_40 n σ a1 ((0 : Int32))
  else
    sp_ck (sp_in a1 10) <|
    if (sp_g σ 15 a1) = 0 then
      sp_bd (X12_whereSet n σ ((0 : Int32))) fun σ10 v11 =>
      X12_foesOf_40 n σ10 a1 v11
    else
      sp_bd (X12_throatOf n σ a1) fun σ4 v5 =>
      sp_bd (X12_inside n σ4 v5) fun σ7 v8 =>
      X12_foesOf_40 n σ7 a1 v8
set_option maxRecDepth 100000 in
set_option maxHeartbeats 4000000 in
theorem hX12_foesOf_90 {X : sp_X} (hX : sp_OK shM X cX12_foesOf RX12 5 rmX12_foesOf) {τ : sp_St} {r : Int32} (hR : sp_Ri shM X (some .int) τ r 0 0) {n : Nat}    {σ : sp_St} {z3 : Int32} (hf : X12_foesOf_90 n σ z3 = some (τ, r)) : sp_GG shM X σ 5 [none, none, none, some (.int z3), none] [] 90 0 0 := by
  unfold X12_foesOf_90 at hf
  refine sp_iload_n (i := 3) (q := 91) hX dX12_foesOf_90 rfl rfl rfl ?_
  exact sp_iret hX hR dX12_foesOf_91 hf (Nat.le_of_ble_eq_true rfl) (Nat.le_of_ble_eq_true rfl)
set_option maxRecDepth 100000 in
set_option maxHeartbeats 4000000 in
theorem hX12_foesOf_82 {X : sp_X} (hX : sp_OK shM X cX12_foesOf RX12 5 rmX12_foesOf) {τ : sp_St} {r : Int32} (hR : sp_Ri shM X (some .int) τ r 0 0) {n : Nat}   {k46 : sp_St → Int32 → Int32 → Int32 → Int32 → Option (sp_St × Int32)} (hk46 : ∀ (σ : sp_St) (z1 : Int32) (z2 : Int32) (z3 : Int32) (z4 : Int32), k46 σ z1 z2 z3 z4 = some (τ, r) → sp_GG shM X σ 5 [some (.ref (sx_ad X 0)), some (.int z1), some (.int z2), some (.int z3), some (.int z4)] [] 46 0 0) {σ : sp_St} {z1 : Int32} {z2 : Int32} {z4 : Int32} {zs0 : Int32} {zs1 : Int32} (hf : X12_foesOf_82 n k46 σ z1 z2 z4 zs0 zs1 = some (τ, r)) : sp_GG shM X σ 5 [some (.ref (sx_ad X 0)), some (.int z1), some (.int z2), none, some (.int z4)] [.int zs0, .int zs1] 82 0 0 := by
  unfold X12_foesOf_82 at hf
  refine sp_iadd (q := 83) hX dX12_foesOf_82 rfl ?_
  obtain ⟨x1, e2, hf⟩ := sp_pl_some hf
  refine sp_nmi e2 ?_
  refine sp_istore_n (i := 3) (lv' := [some (.ref (sx_ad X 0)), some (.int z1), some (.int z2), some (.int x1), some (.int z4)]) (q := 84) hX dX12_foesOf_83 rfl (Nat.le_of_ble_eq_true rfl) rfl rfl rfl ?_
  obtain ⟨x3, e4, hf⟩ := sp_pl_some hf
  refine sp_iinc (i := 4) (v := x3) (lv' := [some (.ref (sx_ad X 0)), some (.int z1), some (.int z2), some (.int x1), some (.int x3)]) (q := 87) hX dX12_foesOf_84 rfl (by rw [e4, li_1]) (Nat.le_of_ble_eq_true rfl) rfl rfl rfl ?_
  refine sp_goto (tgt := 46) hX dX12_foesOf_87 (by decide) ?_
  exact hk46 σ z1 z2 x1 x3 hf
set_option maxRecDepth 100000 in
set_option maxHeartbeats 4000000 in
theorem hX12_foesOf_81 {X : sp_X} (hX : sp_OK shM X cX12_foesOf RX12 5 rmX12_foesOf) {τ : sp_St} {r : Int32} (hR : sp_Ri shM X (some .int) τ r 0 0) {n : Nat}   {k46 : sp_St → Int32 → Int32 → Int32 → Int32 → Option (sp_St × Int32)} (hk46 : ∀ (σ : sp_St) (z1 : Int32) (z2 : Int32) (z3 : Int32) (z4 : Int32), k46 σ z1 z2 z3 z4 = some (τ, r) → sp_GG shM X σ 5 [some (.ref (sx_ad X 0)), some (.int z1), some (.int z2), some (.int z3), some (.int z4)] [] 46 0 0) {σ : sp_St} {z1 : Int32} {z2 : Int32} {z4 : Int32} {zs0 : Int32} (hf : X12_foesOf_81 n k46 σ z1 z2 z4 zs0 = some (τ, r)) : sp_GG shM X σ 5 [some (.ref (sx_ad X 0)), some (.int z1), some (.int z2), none, some (.int z4)] [.int zs0] 81 0 0 := by
  unfold X12_foesOf_81 at hf
  refine sp_iconst (v := 0) (q := 82) hX dX12_foesOf_81 li_0 rfl ?_
  exact hX12_foesOf_82 hX hR hk46 hf
set_option maxRecDepth 100000 in
set_option maxHeartbeats 4000000 in
theorem hX12_foesOf_46 {X : sp_X} (hX : sp_OK shM X cX12_foesOf RX12 5 rmX12_foesOf) {τ : sp_St} {r : Int32} (hR : sp_Ri shM X (some .int) τ r 0 0) {n : Nat}    : ∀ (f : Nat) (σ : sp_St) (z1 : Int32) (z2 : Int32) (z3 : Int32) (z4 : Int32), X12_foesOf_46 n f σ z1 z2 z3 z4 = some (τ, r) → sp_GG shM X σ 5 [some (.ref (sx_ad X 0)), some (.int z1), some (.int z2), some (.int z3), some (.int z4)] [] 46 0 0 := by
  intro f
  induction f with
  | zero =>
    intro σ z1 z2 z3 z4 hf
    rw [X12_foesOf_46] at hf
    cases hf
  | succ f ih =>
    intro σ z1 z2 z3 z4 hf
    rw [X12_foesOf_46] at hf
    refine sp_iload (i := 4) (q := 48) hX dX12_foesOf_46 rfl rfl ?_
    refine sp_aload_n (i := 0) (q := 49) hX dX12_foesOf_48 rfl rfl rfl ?_
    refine sp_gets (t := 3) (q := 52) hX flX12_33 fkX12_4 atM_0 srM_0_4 dX12_foesOf_49 rfl ?_
    refine sp_iconst (v := 2) (q := 53) hX dX12_foesOf_52 li_2 rfl ?_
    refine sp_iald (q := 54) hX arM_3 (by decide) dX12_foesOf_53 rfl ?_
    refine sp_icmp_ge (tgt := 90) (q := 57) hX dX12_foesOf_54 (by decide) rfl (fun hc => ?_) (fun hc => ?_)
    · rw [if_pos hc] at hf
      refine sp_drop (lv' := [none, none, none, some (.int z3), none]) (And.intro rfl trivial) ?_
      exact hX12_foesOf_90 hX hR hf
    · rw [if_neg hc] at hf
      refine sp_iload_n (i := 3) (q := 58) hX dX12_foesOf_57 rfl rfl rfl ?_
      refine sp_iload_n (i := 2) (q := 59) hX dX12_foesOf_58 rfl rfl rfl ?_
      refine sp_iload (i := 4) (q := 61) hX dX12_foesOf_59 rfl rfl ?_
      obtain ⟨σ2, v3, h1, hf⟩ := sp_bd_so hf
      refine sp_callSi (As := [.int z2, .int z4]) (rest := [.int z3]) (q := 64) hX (cnX12_isOf (sp_st hX)  h1) cwX12_284 rfl rfl rfl rfl (Nat.le_of_ble_eq_true rfl) (Nat.le_of_ble_eq_true rfl) (Nat.le_of_ble_eq_true rfl) (Nat.le_of_ble_eq_true rfl) (Nat.le_of_ble_eq_true rfl) dX12_foesOf_61 rfl ?_
      refine sp_if_eq (tgt := 81) (q := 67) hX dX12_foesOf_64 (by decide) rfl (fun hc => ?_) (fun hc => ?_)
      · rw [if_pos hc] at hf
        refine sp_drop (lv' := [some (.ref (sx_ad X 0)), some (.int z1), some (.int z2), none, some (.int z4)]) (And.intro rfl (And.intro rfl (And.intro rfl (And.intro rfl trivial)))) ?_
        exact hX12_foesOf_81 hX hR ih hf
      · rw [if_neg hc] at hf
        refine sp_aload_n (i := 0) (q := 68) hX dX12_foesOf_67 rfl rfl rfl ?_
        refine sp_iload_n (i := 1) (q := 69) hX dX12_foesOf_68 rfl rfl rfl ?_
        refine sp_iload (i := 4) (q := 71) hX dX12_foesOf_69 rfl rfl ?_
        obtain ⟨σ5, v6, h4, hf⟩ := sp_bd_so hf
        refine sp_callVi (As := [.int z1, .int z4]) (rest := [.int z3]) (q := 74) hX (cnX12_isFeud (sp_st hX)  h4) cwX12_351 atM_0 rfl rfl rfl rfl rfl (Nat.le_of_ble_eq_true rfl) (Nat.le_of_ble_eq_true rfl) (Nat.le_of_ble_eq_true rfl) (Nat.le_of_ble_eq_true rfl) (Nat.le_of_ble_eq_true rfl) dX12_foesOf_71 rfl ?_
        refine sp_if_eq (tgt := 81) (q := 77) hX dX12_foesOf_74 (by decide) rfl (fun hc => ?_) (fun hc => ?_)
        · rw [if_pos hc] at hf
          refine sp_drop (lv' := [some (.ref (sx_ad X 0)), some (.int z1), some (.int z2), none, some (.int z4)]) (And.intro rfl (And.intro rfl (And.intro rfl (And.intro rfl trivial)))) ?_
          exact hX12_foesOf_81 hX hR ih hf
        · rw [if_neg hc] at hf
          refine sp_iconst (v := 1) (q := 78) hX dX12_foesOf_77 li_1 rfl ?_
          refine sp_goto (tgt := 82) hX dX12_foesOf_78 (by decide) ?_
          refine sp_drop (lv' := [some (.ref (sx_ad X 0)), some (.int z1), some (.int z2), none, some (.int z4)]) (And.intro rfl (And.intro rfl (And.intro rfl (And.intro rfl trivial)))) ?_
          exact hX12_foesOf_82 hX hR ih hf
set_option maxRecDepth 100000 in
set_option maxHeartbeats 4000000 in
theorem hX12_foesOf_40 {X : sp_X} (hX : sp_OK shM X cX12_foesOf RX12 5 rmX12_foesOf) {τ : sp_St} {r : Int32} (hR : sp_Ri shM X (some .int) τ r 0 0) {n : Nat}    {σ : sp_St} {z1 : Int32} {zs0 : Int32} (hf : X12_foesOf_40 n σ z1 zs0 = some (τ, r)) : sp_GG shM X σ 5 [some (.ref (sx_ad X 0)), some (.int z1), none, none, none] [.int zs0] 40 0 0 := by
  unfold X12_foesOf_40 at hf
  refine sp_istore_n (i := 2) (lv' := [some (.ref (sx_ad X 0)), some (.int z1), some (.int zs0), none, none]) (q := 41) hX dX12_foesOf_40 rfl (Nat.le_of_ble_eq_true rfl) rfl rfl rfl ?_
  refine sp_iconst (v := 0) (q := 42) hX dX12_foesOf_41 li_0 rfl ?_
  obtain ⟨x1, e2, hf⟩ := sp_pl_some hf
  refine sp_nmi e2 ?_
  refine sp_istore_n (i := 3) (lv' := [some (.ref (sx_ad X 0)), some (.int z1), some (.int zs0), some (.int x1), none]) (q := 43) hX dX12_foesOf_42 rfl (Nat.le_of_ble_eq_true rfl) rfl rfl rfl ?_
  refine sp_iconst (v := 0) (q := 44) hX dX12_foesOf_43 li_0 rfl ?_
  obtain ⟨x3, e4, hf⟩ := sp_pl_some hf
  refine sp_nmi e4 ?_
  refine sp_istore (i := 4) (lv' := [some (.ref (sx_ad X 0)), some (.int z1), some (.int zs0), some (.int x1), some (.int x3)]) (q := 46) hX dX12_foesOf_44 (Nat.le_of_ble_eq_true rfl) rfl rfl rfl ?_
  exact hX12_foesOf_46 hX hR n σ z1 zs0 x1 x3 hf
set_option maxRecDepth 100000 in
set_option maxHeartbeats 4000000 in
theorem hX12_foesOf {X : sp_X} (hX : sp_OK shM X cX12_foesOf RX12 5 rmX12_foesOf) {τ : sp_St} {r : Int32} (hR : sp_Ri shM X (some .int) τ r 0 0) {n : Nat}  {σ : sp_St} {a1 : Int32}  (hf : X12_foesOf n σ a1 = some (τ, r)) : sp_GG shM X σ 5 [some (.ref (sx_ad X 0)), some (.int a1), none, none, none] [] 0 0 0 := by
  unfold X12_foesOf at hf
  refine sp_aload_n (i := 0) (q := 1) hX dX12_foesOf_0 rfl rfl rfl ?_
  refine sp_gets (t := 15) (q := 4) hX flX12_72 fkX12_27 atM_0 srM_0_27 dX12_foesOf_1 rfl ?_
  refine sp_iload_n (i := 1) (q := 5) hX dX12_foesOf_4 rfl rfl rfl ?_
  obtain ⟨h1, hf⟩ := sp_ck_some hf
  refine sp_iald (q := 6) hX arM_15 h1 dX12_foesOf_5 rfl ?_
  refine sp_iconst (v := 2) (q := 7) hX dX12_foesOf_6 li_2 rfl ?_
  refine sp_icmp_ne (tgt := 14) (q := 10) hX dX12_foesOf_7 (by decide) rfl (fun hc => ?_) (fun hc => ?_)
  · rw [if_neg hc] at hf
    refine sp_aload_n (i := 0) (q := 15) hX dX12_foesOf_14 rfl rfl rfl ?_
    refine sp_gets (t := 15) (q := 18) hX flX12_72 fkX12_27 atM_0 srM_0_27 dX12_foesOf_15 rfl ?_
    refine sp_iload_n (i := 1) (q := 19) hX dX12_foesOf_18 rfl rfl rfl ?_
    obtain ⟨h2, hf⟩ := sp_ck_some hf
    refine sp_iald (q := 20) hX arM_15 h2 dX12_foesOf_19 rfl ?_
    refine sp_if_ne (tgt := 31) (q := 23) hX dX12_foesOf_20 (by decide) rfl (fun hc => ?_) (fun hc => ?_)
    · rw [if_neg hc] at hf
      refine sp_aload_n (i := 0) (q := 32) hX dX12_foesOf_31 rfl rfl rfl ?_
      refine sp_aload_n (i := 0) (q := 33) hX dX12_foesOf_32 rfl rfl rfl ?_
      refine sp_iload_n (i := 1) (q := 34) hX dX12_foesOf_33 rfl rfl rfl ?_
      obtain ⟨σ4, v5, h3, hf⟩ := sp_bd_so hf
      refine sp_callVi (As := [.int a1]) (rest := [.ref (sx_ad X 0)]) (q := 37) hX (cnX12_throatOf (sp_st hX)  h3) cwX12_339 atM_0 rfl rfl rfl rfl rfl (Nat.le_of_ble_eq_true rfl) (Nat.le_of_ble_eq_true rfl) (Nat.le_of_ble_eq_true rfl) (Nat.le_of_ble_eq_true rfl) (Nat.le_of_ble_eq_true rfl) dX12_foesOf_34 rfl ?_
      obtain ⟨σ7, v8, h6, hf⟩ := sp_bd_so hf
      refine sp_callVi (As := [.int v5]) (rest := []) (q := 40) hX (cnX12_inside (sp_st hX)  h6) cwX12_342 atM_0 rfl rfl rfl rfl rfl (Nat.le_of_ble_eq_true rfl) (Nat.le_of_ble_eq_true rfl) (Nat.le_of_ble_eq_true rfl) (Nat.le_of_ble_eq_true rfl) (Nat.le_of_ble_eq_true rfl) dX12_foesOf_37 rfl ?_
      exact hX12_foesOf_40 hX hR hf
    · rw [if_pos hc] at hf
      refine sp_aload_n (i := 0) (q := 24) hX dX12_foesOf_23 rfl rfl rfl ?_
      refine sp_iconst (v := 0) (q := 25) hX dX12_foesOf_24 li_0 rfl ?_
      obtain ⟨σ10, v11, h9, hf⟩ := sp_bd_so hf
      refine sp_callVi (As := [.int ((0 : Int32))]) (rest := []) (q := 28) hX (cnX12_whereSet (sp_st hX)  h9) cwX12_348 atM_0 rfl rfl rfl rfl rfl (Nat.le_of_ble_eq_true rfl) (Nat.le_of_ble_eq_true rfl) (Nat.le_of_ble_eq_true rfl) (Nat.le_of_ble_eq_true rfl) (Nat.le_of_ble_eq_true rfl) dX12_foesOf_25 rfl ?_
      refine sp_goto (tgt := 40) hX dX12_foesOf_28 (by decide) ?_
      exact hX12_foesOf_40 hX hR hf
  · rw [if_pos hc] at hf
    refine sp_iconst (v := 0) (q := 11) hX dX12_foesOf_10 li_0 rfl ?_
    refine sp_goto (tgt := 40) hX dX12_foesOf_11 (by decide) ?_
    exact hX12_foesOf_40 hX hR hf
set_option maxRecDepth 100000 in
set_option maxHeartbeats 4000000 in
theorem cnX12_foesOf {l : Launch} (hst : l.stackTraces = false) {w : sp_Wd} {n : Nat}  {σ : sp_St} {a1 : Int32} {τ : sp_St} {r : Int32}  (hf : X12_foesOf n σ a1 = some (τ, r)) : sp_Ci shM l w yX12_foesOf cX12_foesOf 5 (some .int) rmX12_foesOf 0 0 σ [.ref (w.2.1 0), .int a1] τ r :=
  sp_ci (own := RX12) (by decide) rfl hst (Nat.le_of_ble_eq_true rfl) rfl (fun X hX hw hl hR => by subst hw; subst hl; exact hX12_foesOf hX hR   hf)
def rmX12_reckon : Room := { frames := 0, cells := 0, slots := 0, locals := 0 }
def X12_reckon_117 (n : Nat) (σ : sp_St) (zs0 : Int32) : Option (sp_St × Int32) :=
  some (σ, zs0)
def X12_reckon_112 (n : Nat) (σ : sp_St) : Option (sp_St × Int32) :=
  X12_reckon_117 n σ ((1 : Int32))
def X12_reckon_103 (n : Nat) (σ : sp_St) (zs0 : Int32) : Option (sp_St × Int32) :=
  some (σ, zs0)
def X12_reckon_102 (n : Nat) (σ : sp_St) : Option (sp_St × Int32) :=
  X12_reckon_103 n σ ((0 : Int32))
def X12_reckon_67 (n : Nat) (σ : sp_St) (zs0 : Int32) : Option (sp_St × Int32) :=
  some (σ, zs0)
def X12_reckon (n : Nat)  (σ : sp_St) (a0 : Int32) (a1 : Int32) (a2 : Int32) : Option (sp_St × Int32) :=
  if a0 = -26 then
    if a1 = 0 then
      X12_reckon_102 n σ
    else
      if a2 = 0 then
        X12_reckon_102 n σ
      else
        X12_reckon_103 n σ ((1 : Int32))
  else
    if a0 = -25 then
      sp_pl (if a1 = a2 then ((1 : Int32)) else ((0 : Int32))) fun v2 =>
      some (σ, v2)
    else
      if a0 = -24 then
        sp_pl (if a2 ≤ a1 then ((0 : Int32)) else ((1 : Int32))) fun v6 =>
        some (σ, v6)
      else
        if a0 = -23 then
          if a2 = 0 then
            X12_reckon_67 n σ ((0 : Int32))
          else
            sp_ck (!decide (a2 = 0)) <|
            X12_reckon_67 n σ (a1 / a2)
        else
          if a0 = -22 then
            some (σ, a1 * a2)
          else
            if a0 = -21 then
              some (σ, a1 - a2)
            else
              if a0 = -20 then
                some (σ, a1 + a2)
              else
                if a1 = 0 then
                  if a2 = 0 then
                    X12_reckon_117 n σ ((0 : Int32))
                  else
                    X12_reckon_112 n σ
                else
                  X12_reckon_112 n σ
set_option maxRecDepth 100000 in
set_option maxHeartbeats 4000000 in
theorem hX12_reckon_117 {X : sp_X} (hX : sp_OK shM X cX12_reckon RX12 3 rmX12_reckon) {τ : sp_St} {r : Int32} (hR : sp_Ri shM X (some .int) τ r 0 0) {n : Nat}    {σ : sp_St} {zs0 : Int32} (hf : X12_reckon_117 n σ zs0 = some (τ, r)) : sp_GG shM X σ 3 [none, none, none] [.int zs0] 117 0 0 := by
  unfold X12_reckon_117 at hf
  exact sp_iret hX hR dX12_reckon_117 hf (Nat.le_of_ble_eq_true rfl) (Nat.le_of_ble_eq_true rfl)
set_option maxRecDepth 100000 in
set_option maxHeartbeats 4000000 in
theorem hX12_reckon_112 {X : sp_X} (hX : sp_OK shM X cX12_reckon RX12 3 rmX12_reckon) {τ : sp_St} {r : Int32} (hR : sp_Ri shM X (some .int) τ r 0 0) {n : Nat}    {σ : sp_St} (hf : X12_reckon_112 n σ = some (τ, r)) : sp_GG shM X σ 3 [none, none, none] [] 112 0 0 := by
  unfold X12_reckon_112 at hf
  refine sp_iconst (v := 1) (q := 113) hX dX12_reckon_112 li_1 rfl ?_
  refine sp_goto (tgt := 117) hX dX12_reckon_113 (by decide) ?_
  exact hX12_reckon_117 hX hR hf
set_option maxRecDepth 100000 in
set_option maxHeartbeats 4000000 in
theorem hX12_reckon_103 {X : sp_X} (hX : sp_OK shM X cX12_reckon RX12 3 rmX12_reckon) {τ : sp_St} {r : Int32} (hR : sp_Ri shM X (some .int) τ r 0 0) {n : Nat}    {σ : sp_St} {zs0 : Int32} (hf : X12_reckon_103 n σ zs0 = some (τ, r)) : sp_GG shM X σ 3 [none, none, none] [.int zs0] 103 0 0 := by
  unfold X12_reckon_103 at hf
  exact sp_iret hX hR dX12_reckon_103 hf (Nat.le_of_ble_eq_true rfl) (Nat.le_of_ble_eq_true rfl)
set_option maxRecDepth 100000 in
set_option maxHeartbeats 4000000 in
theorem hX12_reckon_102 {X : sp_X} (hX : sp_OK shM X cX12_reckon RX12 3 rmX12_reckon) {τ : sp_St} {r : Int32} (hR : sp_Ri shM X (some .int) τ r 0 0) {n : Nat}    {σ : sp_St} (hf : X12_reckon_102 n σ = some (τ, r)) : sp_GG shM X σ 3 [none, none, none] [] 102 0 0 := by
  unfold X12_reckon_102 at hf
  refine sp_iconst (v := 0) (q := 103) hX dX12_reckon_102 li_0 rfl ?_
  exact hX12_reckon_103 hX hR hf
set_option maxRecDepth 100000 in
set_option maxHeartbeats 4000000 in
theorem hX12_reckon_67 {X : sp_X} (hX : sp_OK shM X cX12_reckon RX12 3 rmX12_reckon) {τ : sp_St} {r : Int32} (hR : sp_Ri shM X (some .int) τ r 0 0) {n : Nat}    {σ : sp_St} {zs0 : Int32} (hf : X12_reckon_67 n σ zs0 = some (τ, r)) : sp_GG shM X σ 3 [none, none, none] [.int zs0] 67 0 0 := by
  unfold X12_reckon_67 at hf
  exact sp_iret hX hR dX12_reckon_67 hf (Nat.le_of_ble_eq_true rfl) (Nat.le_of_ble_eq_true rfl)
set_option maxRecDepth 100000 in
set_option maxHeartbeats 4000000 in
theorem hX12_reckon {X : sp_X} (hX : sp_OK shM X cX12_reckon RX12 3 rmX12_reckon) {τ : sp_St} {r : Int32} (hR : sp_Ri shM X (some .int) τ r 0 0) {n : Nat}  {σ : sp_St} {a0 : Int32} {a1 : Int32} {a2 : Int32}  (hf : X12_reckon n σ a0 a1 a2 = some (τ, r)) : sp_GG shM X σ 3 [some (.int a0), some (.int a1), some (.int a2)] [] 0 0 0 := by
  unfold X12_reckon at hf
  refine sp_iload_n (i := 0) (q := 1) hX dX12_reckon_0 rfl rfl rfl ?_
  by_cases h1 : a0 = -26
  · rw [if_pos h1] at hf
    refine sp_tblIn (off := 89) (tgt := 90) hX dX12_reckon_1 (by rw [h1]; decide) (by rw [h1]; decide) (by rw [h1]; decide +kernel) (by decide) ?_
    refine sp_iload_n (i := 1) (q := 91) hX dX12_reckon_90 rfl rfl rfl ?_
    refine sp_if_eq (tgt := 102) (q := 94) hX dX12_reckon_91 (by decide) rfl (fun hc => ?_) (fun hc => ?_)
    · rw [if_pos hc] at hf
      refine sp_drop (lv' := [none, none, none]) trivial ?_
      exact hX12_reckon_102 hX hR hf
    · rw [if_neg hc] at hf
      refine sp_iload_n (i := 2) (q := 95) hX dX12_reckon_94 rfl rfl rfl ?_
      refine sp_if_eq (tgt := 102) (q := 98) hX dX12_reckon_95 (by decide) rfl (fun hc => ?_) (fun hc => ?_)
      · rw [if_pos hc] at hf
        refine sp_drop (lv' := [none, none, none]) trivial ?_
        exact hX12_reckon_102 hX hR hf
      · rw [if_neg hc] at hf
        refine sp_iconst (v := 1) (q := 99) hX dX12_reckon_98 li_1 rfl ?_
        refine sp_goto (tgt := 103) hX dX12_reckon_99 (by decide) ?_
        refine sp_drop (lv' := [none, none, none]) trivial ?_
        exact hX12_reckon_103 hX hR hf
  · rw [if_neg h1] at hf
    by_cases h5 : a0 = -25
    · rw [if_pos h5] at hf
      refine sp_tblIn (off := 78) (tgt := 79) hX dX12_reckon_1 (by rw [h5]; decide) (by rw [h5]; decide) (by rw [h5]; decide +kernel) (by decide) ?_
      refine sp_iload_n (i := 1) (q := 80) hX dX12_reckon_79 rfl rfl rfl ?_
      refine sp_iload_n (i := 2) (q := 81) hX dX12_reckon_80 rfl rfl rfl ?_
      obtain ⟨v2, e3, hf⟩ := sp_pl_some hf
      have hj4 : sp_GG shM X σ 3 [some (.int a0), some (.int a1), some (.int a2)] [.int v2] 89 0 0 := by
        exact sp_iret hX hR dX12_reckon_89 hf (Nat.le_of_ble_eq_true rfl) (Nat.le_of_ble_eq_true rfl)
      refine sp_icmp_ne (tgt := 88) (q := 84) hX dX12_reckon_81 (by decide) rfl (fun hc => ?_) (fun hc => ?_)
      · refine sp_iconst (v := 0) (q := 89) hX dX12_reckon_88 li_0 rfl ?_
        exact sp_nmi (by rw [e3, if_neg hc]) hj4
      · refine sp_iconst (v := 1) (q := 85) hX dX12_reckon_84 li_1 rfl ?_
        refine sp_goto (tgt := 89) hX dX12_reckon_85 (by decide) ?_
        exact sp_nmi (by rw [e3, if_pos hc]) hj4
    · rw [if_neg h5] at hf
      by_cases h9 : a0 = -24
      · rw [if_pos h9] at hf
        refine sp_tblIn (off := 67) (tgt := 68) hX dX12_reckon_1 (by rw [h9]; decide) (by rw [h9]; decide) (by rw [h9]; decide +kernel) (by decide) ?_
        refine sp_iload_n (i := 1) (q := 69) hX dX12_reckon_68 rfl rfl rfl ?_
        refine sp_iload_n (i := 2) (q := 70) hX dX12_reckon_69 rfl rfl rfl ?_
        obtain ⟨v6, e7, hf⟩ := sp_pl_some hf
        have hj8 : sp_GG shM X σ 3 [some (.int a0), some (.int a1), some (.int a2)] [.int v6] 78 0 0 := by
          exact sp_iret hX hR dX12_reckon_78 hf (Nat.le_of_ble_eq_true rfl) (Nat.le_of_ble_eq_true rfl)
        refine sp_icmp_ge (tgt := 77) (q := 73) hX dX12_reckon_70 (by decide) rfl (fun hc => ?_) (fun hc => ?_)
        · refine sp_iconst (v := 0) (q := 78) hX dX12_reckon_77 li_0 rfl ?_
          exact sp_nmi (by rw [e7, if_pos hc]) hj8
        · refine sp_iconst (v := 1) (q := 74) hX dX12_reckon_73 li_1 rfl ?_
          refine sp_goto (tgt := 78) hX dX12_reckon_74 (by decide) ?_
          exact sp_nmi (by rw [e7, if_neg hc]) hj8
      · rw [if_neg h9] at hf
        by_cases h11 : a0 = -23
        · rw [if_pos h11] at hf
          refine sp_tblIn (off := 55) (tgt := 56) hX dX12_reckon_1 (by rw [h11]; decide) (by rw [h11]; decide) (by rw [h11]; decide +kernel) (by decide) ?_
          refine sp_iload_n (i := 2) (q := 57) hX dX12_reckon_56 rfl rfl rfl ?_
          refine sp_if_ne (tgt := 64) (q := 60) hX dX12_reckon_57 (by decide) rfl (fun hc => ?_) (fun hc => ?_)
          · rw [if_neg hc] at hf
            refine sp_iload_n (i := 1) (q := 65) hX dX12_reckon_64 rfl rfl rfl ?_
            refine sp_iload_n (i := 2) (q := 66) hX dX12_reckon_65 rfl rfl rfl ?_
            obtain ⟨h10, hf⟩ := sp_ck_some hf
            refine sp_idiv (q := 67) hX dX12_reckon_66 (sp_nz h10) rfl ?_
            refine sp_drop (lv' := [none, none, none]) trivial ?_
            exact hX12_reckon_67 hX hR hf
          · rw [if_pos hc] at hf
            refine sp_iconst (v := 0) (q := 61) hX dX12_reckon_60 li_0 rfl ?_
            refine sp_goto (tgt := 67) hX dX12_reckon_61 (by decide) ?_
            refine sp_drop (lv' := [none, none, none]) trivial ?_
            exact hX12_reckon_67 hX hR hf
        · rw [if_neg h11] at hf
          by_cases h12 : a0 = -22
          · rw [if_pos h12] at hf
            refine sp_tblIn (off := 51) (tgt := 52) hX dX12_reckon_1 (by rw [h12]; decide) (by rw [h12]; decide) (by rw [h12]; decide +kernel) (by decide) ?_
            refine sp_iload_n (i := 1) (q := 53) hX dX12_reckon_52 rfl rfl rfl ?_
            refine sp_iload_n (i := 2) (q := 54) hX dX12_reckon_53 rfl rfl rfl ?_
            refine sp_imul (q := 55) hX dX12_reckon_54 rfl ?_
            exact sp_iret hX hR dX12_reckon_55 hf (Nat.le_of_ble_eq_true rfl) (Nat.le_of_ble_eq_true rfl)
          · rw [if_neg h12] at hf
            by_cases h13 : a0 = -21
            · rw [if_pos h13] at hf
              refine sp_tblIn (off := 47) (tgt := 48) hX dX12_reckon_1 (by rw [h13]; decide) (by rw [h13]; decide) (by rw [h13]; decide +kernel) (by decide) ?_
              refine sp_iload_n (i := 1) (q := 49) hX dX12_reckon_48 rfl rfl rfl ?_
              refine sp_iload_n (i := 2) (q := 50) hX dX12_reckon_49 rfl rfl rfl ?_
              refine sp_isub (q := 51) hX dX12_reckon_50 rfl ?_
              exact sp_iret hX hR dX12_reckon_51 hf (Nat.le_of_ble_eq_true rfl) (Nat.le_of_ble_eq_true rfl)
            · rw [if_neg h13] at hf
              by_cases h14 : a0 = -20
              · rw [if_pos h14] at hf
                refine sp_tblIn (off := 43) (tgt := 44) hX dX12_reckon_1 (by rw [h14]; decide) (by rw [h14]; decide) (by rw [h14]; decide +kernel) (by decide) ?_
                refine sp_iload_n (i := 1) (q := 45) hX dX12_reckon_44 rfl rfl rfl ?_
                refine sp_iload_n (i := 2) (q := 46) hX dX12_reckon_45 rfl rfl rfl ?_
                refine sp_iadd (q := 47) hX dX12_reckon_46 rfl ?_
                exact sp_iret hX hR dX12_reckon_47 hf (Nat.le_of_ble_eq_true rfl) (Nat.le_of_ble_eq_true rfl)
              · rw [if_neg h14] at hf
                refine sp_tblOut (tgt := 104) hX dX12_reckon_1 (sp_swo (-26) (-20) (by decide) (fun kk hka hkb hke => by
                  rcases (show kk = -26 ∨ kk = -25 ∨ kk = -24 ∨ kk = -23 ∨ kk = -22 ∨ kk = -21 ∨ kk = -20 by omega) with rfl | rfl | rfl | rfl | rfl | rfl | rfl
                  · exact h1 (sp_i32 hke (by decide))
                  · exact h5 (sp_i32 hke (by decide))
                  · exact h9 (sp_i32 hke (by decide))
                  · exact h11 (sp_i32 hke (by decide))
                  · exact h12 (sp_i32 hke (by decide))
                  · exact h13 (sp_i32 hke (by decide))
                  · exact h14 (sp_i32 hke (by decide)))) (by decide) ?_
                refine sp_iload_n (i := 1) (q := 105) hX dX12_reckon_104 rfl rfl rfl ?_
                refine sp_if_ne (tgt := 112) (q := 108) hX dX12_reckon_105 (by decide) rfl (fun hc => ?_) (fun hc => ?_)
                · rw [if_neg hc] at hf
                  refine sp_drop (lv' := [none, none, none]) trivial ?_
                  exact hX12_reckon_112 hX hR hf
                · rw [if_pos hc] at hf
                  refine sp_iload_n (i := 2) (q := 109) hX dX12_reckon_108 rfl rfl rfl ?_
                  refine sp_if_eq (tgt := 116) (q := 112) hX dX12_reckon_109 (by decide) rfl (fun hc => ?_) (fun hc => ?_)
                  · rw [if_pos hc] at hf
                    refine sp_iconst (v := 0) (q := 117) hX dX12_reckon_116 li_0 rfl ?_
                    refine sp_drop (lv' := [none, none, none]) trivial ?_
                    exact hX12_reckon_117 hX hR hf
                  · rw [if_neg hc] at hf
                    refine sp_drop (lv' := [none, none, none]) trivial ?_
                    exact hX12_reckon_112 hX hR hf
set_option maxRecDepth 100000 in
set_option maxHeartbeats 4000000 in
theorem cnX12_reckon {l : Launch} (hst : l.stackTraces = false) {w : sp_Wd} {n : Nat}  {σ : sp_St} {a0 : Int32} {a1 : Int32} {a2 : Int32} {τ : sp_St} {r : Int32}  (hf : X12_reckon n σ a0 a1 a2 = some (τ, r)) : sp_Ci shM l w yX12_reckon cX12_reckon 3 (some .int) rmX12_reckon 0 0 σ [.int a0, .int a1, .int a2] τ r :=
  sp_ci (own := RX12) (by decide) rfl hst (Nat.le_of_ble_eq_true rfl) rfl (fun X hX hw hl hR => by subst hw; subst hl; exact hX12_reckon hX hR   hf)
def rmX12_valueNow : Room := { frames := 1, cells := 0, slots := 0, locals := 22 }
def X12_valueNow_125 (n : Nat) (p1 m1 : Nat) (σ : sp_St) : Option (sp_St × Int32) :=
  some (σ, sp_g σ 22 ((0 : Int32)))
def X12_valueNow_119 (n : Nat) (p1 m1 : Nat) (k5 : sp_St → Int32 → Int32 → Int32 → Option (sp_St × Int32)) (σ : sp_St) (z2 : Int32) (z3 : Int32) (z4 : Int32) : Option (sp_St × Int32) :=
  sp_pl (z4 + 1) fun x1 =>
  k5 σ z2 z3 x1
def X12_valueNow_48 (n : Nat) (p1 m1 : Nat) (k5 : sp_St → Int32 → Int32 → Int32 → Option (sp_St × Int32)) (σ : sp_St) (z2 : Int32) (z3 : Int32) (z4 : Int32) (zs0 : Int32) (zs1 : Int32) : Option (sp_St × Int32) :=
  sp_ck (sp_in zs1 64) <|
  sp_pl (sp_sa σ 22 zs1.toNatClampNeg zs0) fun σ2 =>
  sp_pl (z3 + 1) fun x4 =>
  X12_valueNow_119 n p1 m1 k5 σ2 z2 x4 z4
def X12_valueNow_5 (n : Nat) (p1 m1 : Nat) : Nat → sp_St → Int32 → Int32 → Int32 → Option (sp_St × Int32)
  | 0, _, _, _, _ => none
  | f + 1, σ, z2, z3, z4 =>
    if z2 ≤ z4 then
      X12_valueNow_125 n p1 m1 σ
    else
      sp_ck (sp_in z4 m1) <|
      sp_pl (sp_g σ p1 z4) fun x2 =>
      if x2 ≤ ((-20 : Int32)) then
        if x2 = ((-28 : Int32)) then
          sp_ck (sp_in (z3 - ((1 : Int32))) 64) <|
          sp_pl (if (sp_g σ 22 (z3 - ((1 : Int32)))) = 0 then ((1 : Int32)) else ((0 : Int32))) fun v15 =>
          sp_ck (sp_in (z3 - ((1 : Int32))) 64) <|
          sp_pl (sp_sa σ 22 (z3 - ((1 : Int32))).toNatClampNeg v15) fun σ18 =>
          X12_valueNow_119 n p1 m1 (X12_valueNow_5 n p1 m1 f) σ18 z2 z3 z4
        else
          sp_pl (z3 + (-1)) fun x4 =>
          sp_ck (sp_in (x4 - ((1 : Int32))) 64) <|
          sp_ck (sp_in x4 64) <|
          sp_bd (X12_reckon n σ x2 (sp_g σ 22 (x4 - ((1 : Int32)))) (sp_g σ 22 x4)) fun σ9 v10 =>
          sp_ck (sp_in (x4 - ((1 : Int32))) 64) <|
          sp_pl (sp_sa σ9 22 (x4 - ((1 : Int32))).toNatClampNeg v10) fun σ12 =>
          X12_valueNow_119 n p1 m1 (X12_valueNow_5 n p1 m1 f) σ12 z2 x4 z4
      else
        if x2 < 0 then
          sp_ck (sp_in (((-1 : Int32)) - x2) 6) <|
          X12_valueNow_48 n p1 m1 (X12_valueNow_5 n p1 m1 f) σ z2 z3 z4 (sp_g σ 21 (((-1 : Int32)) - x2)) z3
        else
          X12_valueNow_48 n p1 m1 (X12_valueNow_5 n p1 m1 f) σ z2 z3 z4 x2 z3
def X12_valueNow (n : Nat)  (σ : sp_St) (p1 m1 : Nat) (a2 : Int32) : Option (sp_St × Int32) :=
  sp_pl ((0 : Int32)) fun x1 =>
  sp_pl ((0 : Int32)) fun x3 =>
  X12_valueNow_5 n p1 m1 n σ a2 x1 x3
set_option maxRecDepth 100000 in
set_option maxHeartbeats 4000000 in
theorem hX12_valueNow_125 {X : sp_X} (hX : sp_OK shM X cX12_valueNow RX12 6 rmX12_valueNow) {τ : sp_St} {r : Int32} (hR : sp_Ri shM X (some .int) τ r 0 0) {n : Nat}  {p1 m1 : Nat} (hp1 : sp_ar shM p1 1 m1)  {σ : sp_St} (hf : X12_valueNow_125 n p1 m1 σ = some (τ, r)) : sp_GG shM X σ 6 [some (.ref (sx_ad X 0)), none, none, none, none, none] [] 125 0 0 := by
  unfold X12_valueNow_125 at hf
  refine sp_aload_n (i := 0) (q := 126) hX dX12_valueNow_125 rfl rfl rfl ?_
  refine sp_gets (t := 22) (q := 129) hX flX12_93 fkX12_38 atM_0 srM_0_38 dX12_valueNow_126 rfl ?_
  refine sp_iconst (v := 0) (q := 130) hX dX12_valueNow_129 li_0 rfl ?_
  refine sp_iald (q := 131) hX arM_22 (by decide) dX12_valueNow_130 rfl ?_
  exact sp_iret hX hR dX12_valueNow_131 hf (Nat.le_of_ble_eq_true rfl) (Nat.le_of_ble_eq_true rfl)
set_option maxRecDepth 100000 in
set_option maxHeartbeats 4000000 in
theorem hX12_valueNow_119 {X : sp_X} (hX : sp_OK shM X cX12_valueNow RX12 6 rmX12_valueNow) {τ : sp_St} {r : Int32} (hR : sp_Ri shM X (some .int) τ r 0 0) {n : Nat}  {p1 m1 : Nat} (hp1 : sp_ar shM p1 1 m1) {k5 : sp_St → Int32 → Int32 → Int32 → Option (sp_St × Int32)} (hk5 : ∀ (σ : sp_St) (z2 : Int32) (z3 : Int32) (z4 : Int32), k5 σ z2 z3 z4 = some (τ, r) → sp_GG shM X σ 6 [some (.ref (sx_ad X 0)), some (.ref (sx_ad X p1)), some (.int z2), some (.int z3), some (.int z4), none] [] 5 0 0) {σ : sp_St} {z2 : Int32} {z3 : Int32} {z4 : Int32} (hf : X12_valueNow_119 n p1 m1 k5 σ z2 z3 z4 = some (τ, r)) : sp_GG shM X σ 6 [some (.ref (sx_ad X 0)), some (.ref (sx_ad X p1)), some (.int z2), some (.int z3), some (.int z4), none] [] 119 0 0 := by
  unfold X12_valueNow_119 at hf
  obtain ⟨x1, e2, hf⟩ := sp_pl_some hf
  refine sp_iinc (i := 4) (v := x1) (lv' := [some (.ref (sx_ad X 0)), some (.ref (sx_ad X p1)), some (.int z2), some (.int z3), some (.int x1), none]) (q := 122) hX dX12_valueNow_119 rfl (by rw [e2, li_1]) (Nat.le_of_ble_eq_true rfl) rfl rfl rfl ?_
  refine sp_goto (tgt := 5) hX dX12_valueNow_122 (by decide) ?_
  exact hk5 σ z2 z3 x1 hf
set_option maxRecDepth 100000 in
set_option maxHeartbeats 4000000 in
theorem hX12_valueNow_48 {X : sp_X} (hX : sp_OK shM X cX12_valueNow RX12 6 rmX12_valueNow) {τ : sp_St} {r : Int32} (hR : sp_Ri shM X (some .int) τ r 0 0) {n : Nat}  {p1 m1 : Nat} (hp1 : sp_ar shM p1 1 m1) {k5 : sp_St → Int32 → Int32 → Int32 → Option (sp_St × Int32)} (hk5 : ∀ (σ : sp_St) (z2 : Int32) (z3 : Int32) (z4 : Int32), k5 σ z2 z3 z4 = some (τ, r) → sp_GG shM X σ 6 [some (.ref (sx_ad X 0)), some (.ref (sx_ad X p1)), some (.int z2), some (.int z3), some (.int z4), none] [] 5 0 0) {σ : sp_St} {z2 : Int32} {z3 : Int32} {z4 : Int32} {zs0 : Int32} {zs1 : Int32} (hf : X12_valueNow_48 n p1 m1 k5 σ z2 z3 z4 zs0 zs1 = some (τ, r)) : sp_GG shM X σ 6 [some (.ref (sx_ad X 0)), some (.ref (sx_ad X p1)), some (.int z2), some (.int z3), some (.int z4), none] [.int zs0, .int zs1, .ref (sx_ad X 22)] 48 0 0 := by
  unfold X12_valueNow_48 at hf
  obtain ⟨h1, hf⟩ := sp_ck_some hf
  obtain ⟨σ2, e3, hf⟩ := sp_pl_some hf
  refine sp_iast (q := 49) hX arM_22 h1 dX12_valueNow_48 rfl ?_
  refine sp_nms e3 ?_
  obtain ⟨x4, e5, hf⟩ := sp_pl_some hf
  refine sp_iinc (i := 3) (v := x4) (lv' := [some (.ref (sx_ad X 0)), some (.ref (sx_ad X p1)), some (.int z2), some (.int x4), some (.int z4), none]) (q := 52) hX dX12_valueNow_49 rfl (by rw [e5, li_1]) (Nat.le_of_ble_eq_true rfl) rfl rfl rfl ?_
  refine sp_goto (tgt := 119) hX dX12_valueNow_52 (by decide) ?_
  exact hX12_valueNow_119 hX hR hp1 hk5 hf
set_option maxRecDepth 100000 in
set_option maxHeartbeats 4000000 in
theorem hX12_valueNow_5 {X : sp_X} (hX : sp_OK shM X cX12_valueNow RX12 6 rmX12_valueNow) {τ : sp_St} {r : Int32} (hR : sp_Ri shM X (some .int) τ r 0 0) {n : Nat}  {p1 m1 : Nat} (hp1 : sp_ar shM p1 1 m1)  : ∀ (f : Nat) (σ : sp_St) (z2 : Int32) (z3 : Int32) (z4 : Int32), X12_valueNow_5 n p1 m1 f σ z2 z3 z4 = some (τ, r) → sp_GG shM X σ 6 [some (.ref (sx_ad X 0)), some (.ref (sx_ad X p1)), some (.int z2), some (.int z3), some (.int z4), none] [] 5 0 0 := by
  intro f
  induction f with
  | zero =>
    intro σ z2 z3 z4 hf
    rw [X12_valueNow_5] at hf
    cases hf
  | succ f ih =>
    intro σ z2 z3 z4 hf
    rw [X12_valueNow_5] at hf
    refine sp_iload (i := 4) (q := 7) hX dX12_valueNow_5 rfl rfl ?_
    refine sp_iload_n (i := 2) (q := 8) hX dX12_valueNow_7 rfl rfl rfl ?_
    refine sp_icmp_ge (tgt := 125) (q := 11) hX dX12_valueNow_8 (by decide) rfl (fun hc => ?_) (fun hc => ?_)
    · rw [if_pos hc] at hf
      refine sp_drop (lv' := [some (.ref (sx_ad X 0)), none, none, none, none, none]) (And.intro rfl trivial) ?_
      exact hX12_valueNow_125 hX hR hp1 hf
    · rw [if_neg hc] at hf
      refine sp_aload_n (i := 1) (q := 12) hX dX12_valueNow_11 rfl rfl rfl ?_
      refine sp_iload (i := 4) (q := 14) hX dX12_valueNow_12 rfl rfl ?_
      obtain ⟨h1, hf⟩ := sp_ck_some hf
      refine sp_iald (q := 15) hX hp1 h1 dX12_valueNow_14 rfl ?_
      obtain ⟨x2, e3, hf⟩ := sp_pl_some hf
      refine sp_nmi e3 ?_
      refine sp_istore (i := 5) (lv' := [some (.ref (sx_ad X 0)), some (.ref (sx_ad X p1)), some (.int z2), some (.int z3), some (.int z4), some (.int x2)]) (q := 17) hX dX12_valueNow_15 (Nat.le_of_ble_eq_true rfl) rfl rfl rfl ?_
      refine sp_iload (i := 5) (q := 19) hX dX12_valueNow_17 rfl rfl ?_
      refine sp_bipush (v := -20) (q := 21) hX dX12_valueNow_19 lb_m20 rfl ?_
      refine sp_icmp_le (tgt := 55) (q := 24) hX dX12_valueNow_21 (by decide) rfl (fun hc => ?_) (fun hc => ?_)
      · rw [if_pos hc] at hf
        refine sp_iload (i := 5) (q := 57) hX dX12_valueNow_55 rfl rfl ?_
        refine sp_bipush (v := -28) (q := 59) hX dX12_valueNow_57 lb_m28 rfl ?_
        refine sp_icmp_ne (tgt := 89) (q := 62) hX dX12_valueNow_59 (by decide) rfl (fun hc => ?_) (fun hc => ?_)
        · rw [if_neg hc] at hf
          obtain ⟨x4, e5, hf⟩ := sp_pl_some hf
          refine sp_iinc (i := 3) (v := x4) (lv' := [some (.ref (sx_ad X 0)), some (.ref (sx_ad X p1)), some (.int z2), some (.int x4), some (.int z4), some (.int x2)]) (q := 92) hX dX12_valueNow_89 rfl (by rw [e5, li_m1]) (Nat.le_of_ble_eq_true rfl) rfl rfl rfl ?_
          refine sp_aload_n (i := 0) (q := 93) hX dX12_valueNow_92 rfl rfl rfl ?_
          refine sp_gets (t := 22) (q := 96) hX flX12_93 fkX12_38 atM_0 srM_0_38 dX12_valueNow_93 rfl ?_
          refine sp_iload_n (i := 3) (q := 97) hX dX12_valueNow_96 rfl rfl rfl ?_
          refine sp_iconst (v := 1) (q := 98) hX dX12_valueNow_97 li_1 rfl ?_
          refine sp_isub (q := 99) hX dX12_valueNow_98 rfl ?_
          refine sp_iload (i := 5) (q := 101) hX dX12_valueNow_99 rfl rfl ?_
          refine sp_aload_n (i := 0) (q := 102) hX dX12_valueNow_101 rfl rfl rfl ?_
          refine sp_gets (t := 22) (q := 105) hX flX12_93 fkX12_38 atM_0 srM_0_38 dX12_valueNow_102 rfl ?_
          refine sp_iload_n (i := 3) (q := 106) hX dX12_valueNow_105 rfl rfl rfl ?_
          refine sp_iconst (v := 1) (q := 107) hX dX12_valueNow_106 li_1 rfl ?_
          refine sp_isub (q := 108) hX dX12_valueNow_107 rfl ?_
          obtain ⟨h6, hf⟩ := sp_ck_some hf
          refine sp_iald (q := 109) hX arM_22 h6 dX12_valueNow_108 rfl ?_
          refine sp_aload_n (i := 0) (q := 110) hX dX12_valueNow_109 rfl rfl rfl ?_
          refine sp_gets (t := 22) (q := 113) hX flX12_93 fkX12_38 atM_0 srM_0_38 dX12_valueNow_110 rfl ?_
          refine sp_iload_n (i := 3) (q := 114) hX dX12_valueNow_113 rfl rfl rfl ?_
          obtain ⟨h7, hf⟩ := sp_ck_some hf
          refine sp_iald (q := 115) hX arM_22 h7 dX12_valueNow_114 rfl ?_
          obtain ⟨σ9, v10, h8, hf⟩ := sp_bd_so hf
          refine sp_callSi (As := [.int x2, .int (sp_g σ 22 (x4 - ((1 : Int32)))), .int (sp_g σ 22 x4)]) (rest := [.int (x4 - ((1 : Int32))), .ref (sx_ad X 22)]) (q := 118) hX (cnX12_reckon (sp_st hX)  h8) cwX12_354 rfl rfl rfl rfl (Nat.le_of_ble_eq_true rfl) (Nat.le_of_ble_eq_true rfl) (Nat.le_of_ble_eq_true rfl) (Nat.le_of_ble_eq_true rfl) (Nat.le_of_ble_eq_true rfl) dX12_valueNow_115 rfl ?_
          obtain ⟨h11, hf⟩ := sp_ck_some hf
          obtain ⟨σ12, e13, hf⟩ := sp_pl_some hf
          refine sp_iast (q := 119) hX arM_22 h11 dX12_valueNow_118 rfl ?_
          refine sp_nms e13 ?_
          refine sp_drop (lv' := [some (.ref (sx_ad X 0)), some (.ref (sx_ad X p1)), some (.int z2), some (.int x4), some (.int z4), none]) (And.intro rfl (And.intro rfl (And.intro rfl (And.intro rfl (And.intro rfl trivial))))) ?_
          exact hX12_valueNow_119 hX hR hp1 ih hf
        · rw [if_pos hc] at hf
          refine sp_aload_n (i := 0) (q := 63) hX dX12_valueNow_62 rfl rfl rfl ?_
          refine sp_gets (t := 22) (q := 66) hX flX12_93 fkX12_38 atM_0 srM_0_38 dX12_valueNow_63 rfl ?_
          refine sp_iload_n (i := 3) (q := 67) hX dX12_valueNow_66 rfl rfl rfl ?_
          refine sp_iconst (v := 1) (q := 68) hX dX12_valueNow_67 li_1 rfl ?_
          refine sp_isub (q := 69) hX dX12_valueNow_68 rfl ?_
          refine sp_aload_n (i := 0) (q := 70) hX dX12_valueNow_69 rfl rfl rfl ?_
          refine sp_gets (t := 22) (q := 73) hX flX12_93 fkX12_38 atM_0 srM_0_38 dX12_valueNow_70 rfl ?_
          refine sp_iload_n (i := 3) (q := 74) hX dX12_valueNow_73 rfl rfl rfl ?_
          refine sp_iconst (v := 1) (q := 75) hX dX12_valueNow_74 li_1 rfl ?_
          refine sp_isub (q := 76) hX dX12_valueNow_75 rfl ?_
          obtain ⟨h14, hf⟩ := sp_ck_some hf
          refine sp_iald (q := 77) hX arM_22 h14 dX12_valueNow_76 rfl ?_
          obtain ⟨v15, e16, hf⟩ := sp_pl_some hf
          have hj20 : sp_GG shM X σ 6 [some (.ref (sx_ad X 0)), some (.ref (sx_ad X p1)), some (.int z2), some (.int z3), some (.int z4), some (.int x2)] [.int v15, .int (z3 - ((1 : Int32))), .ref (sx_ad X 22)] 85 0 0 := by
            obtain ⟨h17, hf⟩ := sp_ck_some hf
            obtain ⟨σ18, e19, hf⟩ := sp_pl_some hf
            refine sp_iast (q := 86) hX arM_22 h17 dX12_valueNow_85 rfl ?_
            refine sp_nms e19 ?_
            refine sp_goto (tgt := 119) hX dX12_valueNow_86 (by decide) ?_
            refine sp_drop (lv' := [some (.ref (sx_ad X 0)), some (.ref (sx_ad X p1)), some (.int z2), some (.int z3), some (.int z4), none]) (And.intro rfl (And.intro rfl (And.intro rfl (And.intro rfl (And.intro rfl trivial))))) ?_
            exact hX12_valueNow_119 hX hR hp1 ih hf
          refine sp_if_eq (tgt := 84) (q := 80) hX dX12_valueNow_77 (by decide) rfl (fun hc => ?_) (fun hc => ?_)
          · refine sp_iconst (v := 1) (q := 85) hX dX12_valueNow_84 li_1 rfl ?_
            exact sp_nmi (by rw [e16, if_pos hc]) hj20
          · refine sp_iconst (v := 0) (q := 81) hX dX12_valueNow_80 li_0 rfl ?_
            refine sp_goto (tgt := 85) hX dX12_valueNow_81 (by decide) ?_
            exact sp_nmi (by rw [e16, if_neg hc]) hj20
      · rw [if_neg hc] at hf
        refine sp_aload_n (i := 0) (q := 25) hX dX12_valueNow_24 rfl rfl rfl ?_
        refine sp_gets (t := 22) (q := 28) hX flX12_93 fkX12_38 atM_0 srM_0_38 dX12_valueNow_25 rfl ?_
        refine sp_iload_n (i := 3) (q := 29) hX dX12_valueNow_28 rfl rfl rfl ?_
        refine sp_iload (i := 5) (q := 31) hX dX12_valueNow_29 rfl rfl ?_
        refine sp_if_lt (tgt := 39) (q := 34) hX dX12_valueNow_31 (by decide) rfl (fun hc => ?_) (fun hc => ?_)
        · rw [if_pos hc] at hf
          refine sp_aload_n (i := 0) (q := 40) hX dX12_valueNow_39 rfl rfl rfl ?_
          refine sp_gets (t := 21) (q := 43) hX flX12_90 fkX12_37 atM_0 srM_0_37 dX12_valueNow_40 rfl ?_
          refine sp_iconst (v := -1) (q := 44) hX dX12_valueNow_43 li_m1 rfl ?_
          refine sp_iload (i := 5) (q := 46) hX dX12_valueNow_44 rfl rfl ?_
          refine sp_isub (q := 47) hX dX12_valueNow_46 rfl ?_
          obtain ⟨h21, hf⟩ := sp_ck_some hf
          refine sp_iald (q := 48) hX arM_21 h21 dX12_valueNow_47 rfl ?_
          refine sp_drop (lv' := [some (.ref (sx_ad X 0)), some (.ref (sx_ad X p1)), some (.int z2), some (.int z3), some (.int z4), none]) (And.intro rfl (And.intro rfl (And.intro rfl (And.intro rfl (And.intro rfl trivial))))) ?_
          exact hX12_valueNow_48 hX hR hp1 ih hf
        · rw [if_neg hc] at hf
          refine sp_iload (i := 5) (q := 36) hX dX12_valueNow_34 rfl rfl ?_
          refine sp_goto (tgt := 48) hX dX12_valueNow_36 (by decide) ?_
          refine sp_drop (lv' := [some (.ref (sx_ad X 0)), some (.ref (sx_ad X p1)), some (.int z2), some (.int z3), some (.int z4), none]) (And.intro rfl (And.intro rfl (And.intro rfl (And.intro rfl (And.intro rfl trivial))))) ?_
          exact hX12_valueNow_48 hX hR hp1 ih hf
set_option maxRecDepth 100000 in
set_option maxHeartbeats 4000000 in
theorem hX12_valueNow {X : sp_X} (hX : sp_OK shM X cX12_valueNow RX12 6 rmX12_valueNow) {τ : sp_St} {r : Int32} (hR : sp_Ri shM X (some .int) τ r 0 0) {n : Nat}  {σ : sp_St} {p1 m1 : Nat} {a2 : Int32} (hp1 : sp_ar shM p1 1 m1) (hf : X12_valueNow n σ p1 m1 a2 = some (τ, r)) : sp_GG shM X σ 6 [some (.ref (sx_ad X 0)), some (.ref (sx_ad X p1)), some (.int a2), none, none, none] [] 0 0 0 := by
  unfold X12_valueNow at hf
  refine sp_iconst (v := 0) (q := 1) hX dX12_valueNow_0 li_0 rfl ?_
  obtain ⟨x1, e2, hf⟩ := sp_pl_some hf
  refine sp_nmi e2 ?_
  refine sp_istore_n (i := 3) (lv' := [some (.ref (sx_ad X 0)), some (.ref (sx_ad X p1)), some (.int a2), some (.int x1), none, none]) (q := 2) hX dX12_valueNow_1 rfl (Nat.le_of_ble_eq_true rfl) rfl rfl rfl ?_
  refine sp_iconst (v := 0) (q := 3) hX dX12_valueNow_2 li_0 rfl ?_
  obtain ⟨x3, e4, hf⟩ := sp_pl_some hf
  refine sp_nmi e4 ?_
  refine sp_istore (i := 4) (lv' := [some (.ref (sx_ad X 0)), some (.ref (sx_ad X p1)), some (.int a2), some (.int x1), some (.int x3), none]) (q := 5) hX dX12_valueNow_3 (Nat.le_of_ble_eq_true rfl) rfl rfl rfl ?_
  exact hX12_valueNow_5 hX hR hp1 n σ a2 x1 x3 hf
set_option maxRecDepth 100000 in
set_option maxHeartbeats 4000000 in
theorem cnX12_valueNow {l : Launch} (hst : l.stackTraces = false) {w : sp_Wd} {n : Nat}  {σ : sp_St} {p1 m1 : Nat} {a2 : Int32} {τ : sp_St} {r : Int32} (hp1 : sp_ar shM p1 1 m1) (hf : X12_valueNow n σ p1 m1 a2 = some (τ, r)) : sp_Ci shM l w yX12_valueNow cX12_valueNow 6 (some .int) rmX12_valueNow 0 0 σ [.ref (w.2.1 0), .ref (w.2.1 p1), .int a2] τ r :=
  sp_ci (own := RX12) (by decide) rfl hst (Nat.le_of_ble_eq_true rfl) rfl (fun X hX hw hl hR => by subst hw; subst hl; exact hX12_valueNow hX hR  hp1 hf)
def rmX12_changeOf : Room := { frames := 3, cells := 0, slots := 0, locals := 67 }
def X12_changeOf_163 (n : Nat) (σ : sp_St) (z2 : Int32) (zcs0 : Nat) (zs2 : Int32) (zs3 : Int32) : Option (sp_St × Int32) :=
  sp_pl (if z2 = 0 then ((5 : Int32)) else ((4 : Int32))) fun v1 =>
  sp_ck (sp_in v1 12) <|
  sp_bd (X12_valueNow n σ zcs0 1400 (sp_g σ 3 v1)) fun σ5 v6 =>
  sp_pl (sp_min zs2 v6) fun v7 =>
  sp_pl (sp_max zs3 v7) fun v9 =>
  some (σ5, v9)
def X12_changeOf_129 (n : Nat) (σ : sp_St) (z1 : Int32) (z2 : Int32) (zs0 : Int32) (zs1 : Int32) : Option (sp_St × Int32) :=
  sp_ck (sp_in zs1 6) <|
  sp_pl (sp_sa σ 21 zs1.toNatClampNeg zs0) fun σ2 =>
  sp_bd (X12_aboveSet n σ2 z1) fun σ5 v6 =>
  sp_bd (X12_bitsOf n σ5 v6) fun σ8 v9 =>
  sp_pl (sp_sa σ8 21 ((5 : Int32)).toNatClampNeg v9) fun σ10 =>
  if z2 = 0 then
    X12_changeOf_163 n σ10 z2 11 ((99 : Int32)) ((0 : Int32))
  else
    X12_changeOf_163 n σ10 z2 10 ((99 : Int32)) ((0 : Int32))
def X12_changeOf (n : Nat)  (σ : sp_St) (a1 : Int32) : Option (sp_St × Int32) :=
  sp_ck (sp_in a1 10) <|
  if (sp_g σ 15 a1) = ((2 : Int32)) then
    some (σ, (0 : Int32))
  else
    sp_ck (sp_in a1 10) <|
    sp_pl (if (sp_g σ 15 a1) = ((1 : Int32)) then ((1 : Int32)) else ((0 : Int32))) fun v3 =>
    sp_bd (X12_foesOf n σ a1) fun σ6 v7 =>
    sp_pl (if v3 = 0 then ((5 : Int32)) else ((4 : Int32))) fun v8 =>
    sp_ck (sp_in v8 12) <|
    if (sp_g σ6 3 v8) = 0 then
      sp_pl (if v3 = 0 then v7 else (((2 : Int32)) + v7)) fun v25 =>
      some (σ6, v25)
    else
      sp_ck (sp_in a1 10) <|
      sp_pl (sp_sa σ6 21 ((0 : Int32)).toNatClampNeg (sp_g σ6 14 a1)) fun σ12 =>
      sp_ck (sp_in a1 20) <|
      sp_pl (sp_sa σ12 21 ((1 : Int32)).toNatClampNeg (sp_g σ12 8 a1)) fun σ15 =>
      sp_pl (sp_sa σ15 21 ((2 : Int32)).toNatClampNeg (σ15.1 0 33)) fun σ17 =>
      sp_pl (sp_sa σ17 21 ((3 : Int32)).toNatClampNeg v7) fun σ19 =>
      if v3 = 0 then
        X12_changeOf_129 n σ19 a1 v3 ((0 : Int32)) ((4 : Int32))
      else
        sp_bd (X12_throatOf n σ19 a1) fun σ22 v23 =>
        sp_ck (sp_in v23 5) <|
        X12_changeOf_129 n σ22 a1 v3 ((sp_g σ22 17 v23) - ((1 : Int32))) ((4 : Int32))
set_option maxRecDepth 100000 in
set_option maxHeartbeats 4000000 in
theorem hX12_changeOf_163 {X : sp_X} (hX : sp_OK shM X cX12_changeOf RX12 4 rmX12_changeOf) {τ : sp_St} {r : Int32} (hR : sp_Ri shM X (some .int) τ r 0 0) {n : Nat}    {σ : sp_St} {z2 : Int32} {zcs0 : Nat} {zs2 : Int32} {zs3 : Int32} (hzs0 : sp_ar shM zcs0 1 1400) (hf : X12_changeOf_163 n σ z2 zcs0 zs2 zs3 = some (τ, r)) : sp_GG shM X σ 4 [some (.ref (sx_ad X 0)), none, some (.int z2), none] [.ref (sx_ad X zcs0), .ref (sx_ad X 0), .int zs2, .int zs3] 163 0 0 := by
  unfold X12_changeOf_163 at hf
  refine sp_aload_n (i := 0) (q := 164) hX dX12_changeOf_163 rfl rfl rfl ?_
  refine sp_gets (t := 3) (q := 167) hX flX12_33 fkX12_4 atM_0 srM_0_4 dX12_changeOf_164 rfl ?_
  refine sp_iload_n (i := 2) (q := 168) hX dX12_changeOf_167 rfl rfl rfl ?_
  obtain ⟨v1, e2, hf⟩ := sp_pl_some hf
  have hj11 : sp_GG shM X σ 4 [some (.ref (sx_ad X 0)), none, some (.int z2), none] [.int v1, .ref (sx_ad X 3), .ref (sx_ad X zcs0), .ref (sx_ad X 0), .int zs2, .int zs3] 176 0 0 := by
    obtain ⟨h3, hf⟩ := sp_ck_some hf
    refine sp_iald (q := 177) hX arM_3 h3 dX12_changeOf_176 rfl ?_
    obtain ⟨σ5, v6, h4, hf⟩ := sp_bd_so hf
    refine sp_callVi (As := [.ref (sx_ad X zcs0), .int (sp_g σ 3 v1)]) (rest := [.int zs2, .int zs3]) (q := 180) hX (cnX12_valueNow (sp_st hX) hzs0 h4) cwX12_367 atM_0 rfl rfl rfl rfl rfl (Nat.le_of_ble_eq_true rfl) (Nat.le_of_ble_eq_true rfl) (Nat.le_of_ble_eq_true rfl) (Nat.le_of_ble_eq_true rfl) (Nat.le_of_ble_eq_true rfl) dX12_changeOf_177 rfl ?_
    obtain ⟨v7, e8, hf⟩ := sp_pl_some hf
    refine sp_mmin (q := 183) hX wd_1825 wd_607 wd_144 wd_608 (Nat.le_of_ble_eq_true rfl) (Nat.le_of_ble_eq_true rfl) (Nat.le_of_ble_eq_true rfl) (Nat.le_of_ble_eq_true rfl) dX12_changeOf_180 rfl ?_
    refine sp_nmi e8 ?_
    obtain ⟨v9, e10, hf⟩ := sp_pl_some hf
    refine sp_mmax (q := 186) hX wd_1991 wd_656 wd_144 wd_657 (Nat.le_of_ble_eq_true rfl) (Nat.le_of_ble_eq_true rfl) (Nat.le_of_ble_eq_true rfl) (Nat.le_of_ble_eq_true rfl) dX12_changeOf_183 rfl ?_
    refine sp_nmi e10 ?_
    exact sp_iret hX hR dX12_changeOf_186 hf (Nat.le_of_ble_eq_true rfl) (Nat.le_of_ble_eq_true rfl)
  refine sp_if_eq (tgt := 175) (q := 171) hX dX12_changeOf_168 (by decide) rfl (fun hc => ?_) (fun hc => ?_)
  · refine sp_iconst (v := 5) (q := 176) hX dX12_changeOf_175 li_5 rfl ?_
    exact sp_nmi (by rw [e2, if_pos hc]) hj11
  · refine sp_iconst (v := 4) (q := 172) hX dX12_changeOf_171 li_4 rfl ?_
    refine sp_goto (tgt := 176) hX dX12_changeOf_172 (by decide) ?_
    exact sp_nmi (by rw [e2, if_neg hc]) hj11
set_option maxRecDepth 100000 in
set_option maxHeartbeats 4000000 in
theorem hX12_changeOf_129 {X : sp_X} (hX : sp_OK shM X cX12_changeOf RX12 4 rmX12_changeOf) {τ : sp_St} {r : Int32} (hR : sp_Ri shM X (some .int) τ r 0 0) {n : Nat}    {σ : sp_St} {z1 : Int32} {z2 : Int32} {zs0 : Int32} {zs1 : Int32} (hf : X12_changeOf_129 n σ z1 z2 zs0 zs1 = some (τ, r)) : sp_GG shM X σ 4 [some (.ref (sx_ad X 0)), some (.int z1), some (.int z2), none] [.int zs0, .int zs1, .ref (sx_ad X 21)] 129 0 0 := by
  unfold X12_changeOf_129 at hf
  obtain ⟨h1, hf⟩ := sp_ck_some hf
  obtain ⟨σ2, e3, hf⟩ := sp_pl_some hf
  refine sp_iast (q := 130) hX arM_21 h1 dX12_changeOf_129 rfl ?_
  refine sp_nms e3 ?_
  refine sp_aload_n (i := 0) (q := 131) hX dX12_changeOf_130 rfl rfl rfl ?_
  refine sp_gets (t := 21) (q := 134) hX flX12_90 fkX12_37 atM_0 srM_0_37 dX12_changeOf_131 rfl ?_
  refine sp_iconst (v := 5) (q := 135) hX dX12_changeOf_134 li_5 rfl ?_
  refine sp_aload_n (i := 0) (q := 136) hX dX12_changeOf_135 rfl rfl rfl ?_
  refine sp_iload_n (i := 1) (q := 137) hX dX12_changeOf_136 rfl rfl rfl ?_
  obtain ⟨σ5, v6, h4, hf⟩ := sp_bd_so hf
  refine sp_callVi (As := [.int z1]) (rest := [.int ((5 : Int32)), .ref (sx_ad X 21)]) (q := 140) hX (cnX12_aboveSet (sp_st hX)  h4) cwX12_361 atM_0 rfl rfl rfl rfl rfl (Nat.le_of_ble_eq_true rfl) (Nat.le_of_ble_eq_true rfl) (Nat.le_of_ble_eq_true rfl) (Nat.le_of_ble_eq_true rfl) (Nat.le_of_ble_eq_true rfl) dX12_changeOf_137 rfl ?_
  obtain ⟨σ8, v9, h7, hf⟩ := sp_bd_so hf
  refine sp_callSi (As := [.int v6]) (rest := [.int ((5 : Int32)), .ref (sx_ad X 21)]) (q := 143) hX (cnX12_bitsOf (sp_st hX)  h7) cwX12_364 rfl rfl rfl rfl (Nat.le_of_ble_eq_true rfl) (Nat.le_of_ble_eq_true rfl) (Nat.le_of_ble_eq_true rfl) (Nat.le_of_ble_eq_true rfl) (Nat.le_of_ble_eq_true rfl) dX12_changeOf_140 rfl ?_
  obtain ⟨σ10, e11, hf⟩ := sp_pl_some hf
  refine sp_iast (q := 144) hX arM_21 (by decide) dX12_changeOf_143 rfl ?_
  refine sp_nms e11 ?_
  refine sp_iconst (v := 0) (q := 145) hX dX12_changeOf_144 li_0 rfl ?_
  refine sp_bipush (v := 99) (q := 147) hX dX12_changeOf_145 lb_99 rfl ?_
  refine sp_aload_n (i := 0) (q := 148) hX dX12_changeOf_147 rfl rfl rfl ?_
  refine sp_iload_n (i := 2) (q := 149) hX dX12_changeOf_148 rfl rfl rfl ?_
  refine sp_if_eq (tgt := 159) (q := 152) hX dX12_changeOf_149 (by decide) rfl (fun hc => ?_) (fun hc => ?_)
  · rw [if_pos hc] at hf
    refine sp_aload_n (i := 0) (q := 160) hX dX12_changeOf_159 rfl rfl rfl ?_
    refine sp_gets (t := 11) (q := 163) hX flX12_57 fkX12_12 atM_0 srM_0_12 dX12_changeOf_160 rfl ?_
    refine sp_drop (lv' := [some (.ref (sx_ad X 0)), none, some (.int z2), none]) (And.intro rfl (And.intro rfl trivial)) ?_
    exact hX12_changeOf_163 hX hR arM_11 hf
  · rw [if_neg hc] at hf
    refine sp_aload_n (i := 0) (q := 153) hX dX12_changeOf_152 rfl rfl rfl ?_
    refine sp_gets (t := 10) (q := 156) hX flX12_54 fkX12_11 atM_0 srM_0_11 dX12_changeOf_153 rfl ?_
    refine sp_goto (tgt := 163) hX dX12_changeOf_156 (by decide) ?_
    refine sp_drop (lv' := [some (.ref (sx_ad X 0)), none, some (.int z2), none]) (And.intro rfl (And.intro rfl trivial)) ?_
    exact hX12_changeOf_163 hX hR arM_10 hf
set_option maxRecDepth 100000 in
set_option maxHeartbeats 4000000 in
theorem hX12_changeOf {X : sp_X} (hX : sp_OK shM X cX12_changeOf RX12 4 rmX12_changeOf) {τ : sp_St} {r : Int32} (hR : sp_Ri shM X (some .int) τ r 0 0) {n : Nat}  {σ : sp_St} {a1 : Int32}  (hf : X12_changeOf n σ a1 = some (τ, r)) : sp_GG shM X σ 4 [some (.ref (sx_ad X 0)), some (.int a1), none, none] [] 0 0 0 := by
  unfold X12_changeOf at hf
  refine sp_aload_n (i := 0) (q := 1) hX dX12_changeOf_0 rfl rfl rfl ?_
  refine sp_gets (t := 15) (q := 4) hX flX12_72 fkX12_27 atM_0 srM_0_27 dX12_changeOf_1 rfl ?_
  refine sp_iload_n (i := 1) (q := 5) hX dX12_changeOf_4 rfl rfl rfl ?_
  obtain ⟨h1, hf⟩ := sp_ck_some hf
  refine sp_iald (q := 6) hX arM_15 h1 dX12_changeOf_5 rfl ?_
  refine sp_iconst (v := 2) (q := 7) hX dX12_changeOf_6 li_2 rfl ?_
  refine sp_icmp_ne (tgt := 12) (q := 10) hX dX12_changeOf_7 (by decide) rfl (fun hc => ?_) (fun hc => ?_)
  · rw [if_neg hc] at hf
    refine sp_aload_n (i := 0) (q := 13) hX dX12_changeOf_12 rfl rfl rfl ?_
    refine sp_gets (t := 15) (q := 16) hX flX12_72 fkX12_27 atM_0 srM_0_27 dX12_changeOf_13 rfl ?_
    refine sp_iload_n (i := 1) (q := 17) hX dX12_changeOf_16 rfl rfl rfl ?_
    obtain ⟨h2, hf⟩ := sp_ck_some hf
    refine sp_iald (q := 18) hX arM_15 h2 dX12_changeOf_17 rfl ?_
    refine sp_iconst (v := 1) (q := 19) hX dX12_changeOf_18 li_1 rfl ?_
    obtain ⟨v3, e4, hf⟩ := sp_pl_some hf
    have hj29 : sp_GG shM X σ 4 [some (.ref (sx_ad X 0)), some (.int a1), none, none] [.int v3] 27 0 0 := by
      refine sp_istore_n (i := 2) (lv' := [some (.ref (sx_ad X 0)), some (.int a1), some (.int v3), none]) (q := 28) hX dX12_changeOf_27 rfl (Nat.le_of_ble_eq_true rfl) rfl rfl rfl ?_
      refine sp_aload_n (i := 0) (q := 29) hX dX12_changeOf_28 rfl rfl rfl ?_
      refine sp_iload_n (i := 1) (q := 30) hX dX12_changeOf_29 rfl rfl rfl ?_
      obtain ⟨σ6, v7, h5, hf⟩ := sp_bd_so hf
      refine sp_callVi (As := [.int a1]) (rest := []) (q := 33) hX (cnX12_foesOf (sp_st hX)  h5) cwX12_358 atM_0 rfl rfl rfl rfl rfl (Nat.le_of_ble_eq_true rfl) (Nat.le_of_ble_eq_true rfl) (Nat.le_of_ble_eq_true rfl) (Nat.le_of_ble_eq_true rfl) (Nat.le_of_ble_eq_true rfl) dX12_changeOf_30 rfl ?_
      refine sp_istore_n (i := 3) (lv' := [some (.ref (sx_ad X 0)), some (.int a1), some (.int v3), some (.int v7)]) (q := 34) hX dX12_changeOf_33 rfl (Nat.le_of_ble_eq_true rfl) rfl rfl rfl ?_
      refine sp_aload_n (i := 0) (q := 35) hX dX12_changeOf_34 rfl rfl rfl ?_
      refine sp_gets (t := 3) (q := 38) hX flX12_33 fkX12_4 atM_0 srM_0_4 dX12_changeOf_35 rfl ?_
      refine sp_iload_n (i := 2) (q := 39) hX dX12_changeOf_38 rfl rfl rfl ?_
      obtain ⟨v8, e9, hf⟩ := sp_pl_some hf
      have hj28 : sp_GG shM X σ6 4 [some (.ref (sx_ad X 0)), some (.int a1), some (.int v3), some (.int v7)] [.int v8, .ref (sx_ad X 3)] 47 0 0 := by
        obtain ⟨h10, hf⟩ := sp_ck_some hf
        refine sp_iald (q := 48) hX arM_3 h10 dX12_changeOf_47 rfl ?_
        refine sp_if_ne (tgt := 63) (q := 51) hX dX12_changeOf_48 (by decide) rfl (fun hc => ?_) (fun hc => ?_)
        · rw [if_neg hc] at hf
          refine sp_aload_n (i := 0) (q := 64) hX dX12_changeOf_63 rfl rfl rfl ?_
          refine sp_gets (t := 21) (q := 67) hX flX12_90 fkX12_37 atM_0 srM_0_37 dX12_changeOf_64 rfl ?_
          refine sp_iconst (v := 0) (q := 68) hX dX12_changeOf_67 li_0 rfl ?_
          refine sp_aload_n (i := 0) (q := 69) hX dX12_changeOf_68 rfl rfl rfl ?_
          refine sp_gets (t := 14) (q := 72) hX flX12_70 fkX12_26 atM_0 srM_0_26 dX12_changeOf_69 rfl ?_
          refine sp_iload_n (i := 1) (q := 73) hX dX12_changeOf_72 rfl rfl rfl ?_
          obtain ⟨h11, hf⟩ := sp_ck_some hf
          refine sp_iald (q := 74) hX arM_14 h11 dX12_changeOf_73 rfl ?_
          obtain ⟨σ12, e13, hf⟩ := sp_pl_some hf
          refine sp_iast (q := 75) hX arM_21 (by decide) dX12_changeOf_74 rfl ?_
          refine sp_nms e13 ?_
          refine sp_aload_n (i := 0) (q := 76) hX dX12_changeOf_75 rfl rfl rfl ?_
          refine sp_gets (t := 21) (q := 79) hX flX12_90 fkX12_37 atM_0 srM_0_37 dX12_changeOf_76 rfl ?_
          refine sp_iconst (v := 1) (q := 80) hX dX12_changeOf_79 li_1 rfl ?_
          refine sp_aload_n (i := 0) (q := 81) hX dX12_changeOf_80 rfl rfl rfl ?_
          refine sp_gets (t := 8) (q := 84) hX flX12_49 fkX12_9 atM_0 srM_0_9 dX12_changeOf_81 rfl ?_
          refine sp_iload_n (i := 1) (q := 85) hX dX12_changeOf_84 rfl rfl rfl ?_
          obtain ⟨h14, hf⟩ := sp_ck_some hf
          refine sp_iald (q := 86) hX arM_8 h14 dX12_changeOf_85 rfl ?_
          obtain ⟨σ15, e16, hf⟩ := sp_pl_some hf
          refine sp_iast (q := 87) hX arM_21 (by decide) dX12_changeOf_86 rfl ?_
          refine sp_nms e16 ?_
          refine sp_aload_n (i := 0) (q := 88) hX dX12_changeOf_87 rfl rfl rfl ?_
          refine sp_gets (t := 21) (q := 91) hX flX12_90 fkX12_37 atM_0 srM_0_37 dX12_changeOf_88 rfl ?_
          refine sp_iconst (v := 2) (q := 92) hX dX12_changeOf_91 li_2 rfl ?_
          refine sp_aload_n (i := 0) (q := 93) hX dX12_changeOf_92 rfl rfl rfl ?_
          refine sp_geti (q := 96) hX flX12_325 fkX12_33 atM_0 dX12_changeOf_93 rfl ?_
          obtain ⟨σ17, e18, hf⟩ := sp_pl_some hf
          refine sp_iast (q := 97) hX arM_21 (by decide) dX12_changeOf_96 rfl ?_
          refine sp_nms e18 ?_
          refine sp_aload_n (i := 0) (q := 98) hX dX12_changeOf_97 rfl rfl rfl ?_
          refine sp_gets (t := 21) (q := 101) hX flX12_90 fkX12_37 atM_0 srM_0_37 dX12_changeOf_98 rfl ?_
          refine sp_iconst (v := 3) (q := 102) hX dX12_changeOf_101 li_3 rfl ?_
          refine sp_iload_n (i := 3) (q := 103) hX dX12_changeOf_102 rfl rfl rfl ?_
          obtain ⟨σ19, e20, hf⟩ := sp_pl_some hf
          refine sp_iast (q := 104) hX arM_21 (by decide) dX12_changeOf_103 rfl ?_
          refine sp_nms e20 ?_
          refine sp_aload_n (i := 0) (q := 105) hX dX12_changeOf_104 rfl rfl rfl ?_
          refine sp_gets (t := 21) (q := 108) hX flX12_90 fkX12_37 atM_0 srM_0_37 dX12_changeOf_105 rfl ?_
          refine sp_iconst (v := 4) (q := 109) hX dX12_changeOf_108 li_4 rfl ?_
          refine sp_iload_n (i := 2) (q := 110) hX dX12_changeOf_109 rfl rfl rfl ?_
          refine sp_if_eq (tgt := 128) (q := 113) hX dX12_changeOf_110 (by decide) rfl (fun hc => ?_) (fun hc => ?_)
          · rw [if_pos hc] at hf
            refine sp_iconst (v := 0) (q := 129) hX dX12_changeOf_128 li_0 rfl ?_
            refine sp_drop (lv' := [some (.ref (sx_ad X 0)), some (.int a1), some (.int v3), none]) (And.intro rfl (And.intro rfl (And.intro rfl trivial))) ?_
            exact hX12_changeOf_129 hX hR hf
          · rw [if_neg hc] at hf
            refine sp_aload_n (i := 0) (q := 114) hX dX12_changeOf_113 rfl rfl rfl ?_
            refine sp_gets (t := 17) (q := 117) hX flX12_78 fkX12_29 atM_0 srM_0_29 dX12_changeOf_114 rfl ?_
            refine sp_aload_n (i := 0) (q := 118) hX dX12_changeOf_117 rfl rfl rfl ?_
            refine sp_iload_n (i := 1) (q := 119) hX dX12_changeOf_118 rfl rfl rfl ?_
            obtain ⟨σ22, v23, h21, hf⟩ := sp_bd_so hf
            refine sp_callVi (As := [.int a1]) (rest := [.ref (sx_ad X 17), .int ((4 : Int32)), .ref (sx_ad X 21)]) (q := 122) hX (cnX12_throatOf (sp_st hX)  h21) cwX12_339 atM_0 rfl rfl rfl rfl rfl (Nat.le_of_ble_eq_true rfl) (Nat.le_of_ble_eq_true rfl) (Nat.le_of_ble_eq_true rfl) (Nat.le_of_ble_eq_true rfl) (Nat.le_of_ble_eq_true rfl) dX12_changeOf_119 rfl ?_
            obtain ⟨h24, hf⟩ := sp_ck_some hf
            refine sp_iald (q := 123) hX arM_17 h24 dX12_changeOf_122 rfl ?_
            refine sp_iconst (v := 1) (q := 124) hX dX12_changeOf_123 li_1 rfl ?_
            refine sp_isub (q := 125) hX dX12_changeOf_124 rfl ?_
            refine sp_goto (tgt := 129) hX dX12_changeOf_125 (by decide) ?_
            refine sp_drop (lv' := [some (.ref (sx_ad X 0)), some (.int a1), some (.int v3), none]) (And.intro rfl (And.intro rfl (And.intro rfl trivial))) ?_
            exact hX12_changeOf_129 hX hR hf
        · rw [if_pos hc] at hf
          refine sp_iload_n (i := 2) (q := 52) hX dX12_changeOf_51 rfl rfl rfl ?_
          obtain ⟨v25, e26, hf⟩ := sp_pl_some hf
          have hj27 : sp_GG shM X σ6 4 [some (.ref (sx_ad X 0)), some (.int a1), some (.int v3), some (.int v7)] [.int v25] 62 0 0 := by
            exact sp_iret hX hR dX12_changeOf_62 hf (Nat.le_of_ble_eq_true rfl) (Nat.le_of_ble_eq_true rfl)
          refine sp_if_eq (tgt := 61) (q := 55) hX dX12_changeOf_52 (by decide) rfl (fun hc => ?_) (fun hc => ?_)
          · refine sp_iload_n (i := 3) (q := 62) hX dX12_changeOf_61 rfl rfl rfl ?_
            exact sp_nmi (by rw [e26, if_pos hc]) hj27
          · refine sp_iconst (v := 2) (q := 56) hX dX12_changeOf_55 li_2 rfl ?_
            refine sp_iload_n (i := 3) (q := 57) hX dX12_changeOf_56 rfl rfl rfl ?_
            refine sp_iadd (q := 58) hX dX12_changeOf_57 rfl ?_
            refine sp_goto (tgt := 62) hX dX12_changeOf_58 (by decide) ?_
            exact sp_nmi (by rw [e26, if_neg hc]) hj27
      refine sp_if_eq (tgt := 46) (q := 42) hX dX12_changeOf_39 (by decide) rfl (fun hc => ?_) (fun hc => ?_)
      · refine sp_iconst (v := 5) (q := 47) hX dX12_changeOf_46 li_5 rfl ?_
        exact sp_nmi (by rw [e9, if_pos hc]) hj28
      · refine sp_iconst (v := 4) (q := 43) hX dX12_changeOf_42 li_4 rfl ?_
        refine sp_goto (tgt := 47) hX dX12_changeOf_43 (by decide) ?_
        exact sp_nmi (by rw [e9, if_neg hc]) hj28
    refine sp_icmp_ne (tgt := 26) (q := 22) hX dX12_changeOf_19 (by decide) rfl (fun hc => ?_) (fun hc => ?_)
    · refine sp_iconst (v := 0) (q := 27) hX dX12_changeOf_26 li_0 rfl ?_
      exact sp_nmi (by rw [e4, if_neg hc]) hj29
    · refine sp_iconst (v := 1) (q := 23) hX dX12_changeOf_22 li_1 rfl ?_
      refine sp_goto (tgt := 27) hX dX12_changeOf_23 (by decide) ?_
      exact sp_nmi (by rw [e4, if_pos hc]) hj29
  · rw [if_pos hc] at hf
    refine sp_iconst (v := 0) (q := 11) hX dX12_changeOf_10 li_0 rfl ?_
    exact sp_iret hX hR dX12_changeOf_11 hf (Nat.le_of_ble_eq_true rfl) (Nat.le_of_ble_eq_true rfl)
set_option maxRecDepth 100000 in
set_option maxHeartbeats 4000000 in
theorem cnX12_changeOf {l : Launch} (hst : l.stackTraces = false) {w : sp_Wd} {n : Nat}  {σ : sp_St} {a1 : Int32} {τ : sp_St} {r : Int32}  (hf : X12_changeOf n σ a1 = some (τ, r)) : sp_Ci shM l w yX12_changeOf cX12_changeOf 4 (some .int) rmX12_changeOf 0 0 σ [.ref (w.2.1 0), .int a1] τ r :=
  sp_ci (own := RX12) (by decide) rfl hst (Nat.le_of_ble_eq_true rfl) rfl (fun X hX hw hl hR => by subst hw; subst hl; exact hX12_changeOf hX hR   hf)
