def rmX5_mostWithoutOne : Room := { frames := 1, cells := 0, slots := 0, locals := 24 }
def X5_mostWithoutOne_49 (n : Nat) (σ : sp_St) (z2 : Int32) : Option (sp_St × Int32) :=
  some (σ, z2)
def X5_mostWithoutOne_43 (n : Nat) (k4 : sp_St → Int32 → Int32 → Int32 → Option (sp_St × Int32)) (σ : sp_St) (z1 : Int32) (z2 : Int32) (z3 : Int32) : Option (sp_St × Int32) :=
  sp_pl (z3 + 1) fun x1 =>
  k4 σ z1 z2 x1
def X5_mostWithoutOne_4 (n : Nat) : Nat → sp_St → Int32 → Int32 → Int32 → Option (sp_St × Int32)
  | 0, _, _, _, _ => none
  | f + 1, σ, z1, z2, z3 =>
    sp_pl (σ.2.1 23 0) fun c1 =>
    sp_ck (sp_isc c1) <|
    if (σ.1 c1 13) ≤ z3 then
      X5_mostWithoutOne_49 n σ z2
    else
      if ((z1 >>> (z3 &&& 31)) &&& ((1 : Int32))) = 0 then
        X5_mostWithoutOne_43 n (X5_mostWithoutOne_4 n f) σ z1 z2 z3
      else
        sp_ck (sp_in (z1 &&& ((((1 : Int32)) <<< (z3 &&& 31)) ^^^ ((-1 : Int32)))) 1024) <|
        sp_pl (sp_max z2 (sp_g σ 62 (z1 &&& ((((1 : Int32)) <<< (z3 &&& 31)) ^^^ ((-1 : Int32)))))) fun v5 =>
        X5_mostWithoutOne_43 n (X5_mostWithoutOne_4 n f) σ z1 v5 z3
def X5_mostWithoutOne (n : Nat)  (σ : sp_St) (a1 : Int32) : Option (sp_St × Int32) :=
  sp_pl ((0 : Int32)) fun x1 =>
  sp_pl ((0 : Int32)) fun x3 =>
  X5_mostWithoutOne_4 n n σ a1 x1 x3
set_option maxRecDepth 100000 in
set_option maxHeartbeats 4000000 in
theorem hX5_mostWithoutOne_49 {X : sp_X} (hX : sp_OK shX X cX5_mostWithoutOne RX5 4 rmX5_mostWithoutOne) {τ : sp_St} {r : Int32} (hR : sp_Ri shX X (some .int) τ r 0 0) {n : Nat}    {σ : sp_St} {z2 : Int32} (hf : X5_mostWithoutOne_49 n σ z2 = some (τ, r)) : sp_GG shX X σ 4 [none, none, some (.int z2), none] [] 49 0 0 := by
  unfold X5_mostWithoutOne_49 at hf
  refine sp_iload_n (i := 2) (q := 50) hX dX5_mostWithoutOne_49 rfl rfl rfl ?_
  exact sp_iret hX hR dX5_mostWithoutOne_50 hf (Nat.le_of_ble_eq_true rfl) (Nat.le_of_ble_eq_true rfl)
set_option maxRecDepth 100000 in
set_option maxHeartbeats 4000000 in
theorem hX5_mostWithoutOne_43 {X : sp_X} (hX : sp_OK shX X cX5_mostWithoutOne RX5 4 rmX5_mostWithoutOne) {τ : sp_St} {r : Int32} (hR : sp_Ri shX X (some .int) τ r 0 0) {n : Nat}   {k4 : sp_St → Int32 → Int32 → Int32 → Option (sp_St × Int32)} (hk4 : ∀ (σ : sp_St) (z1 : Int32) (z2 : Int32) (z3 : Int32), k4 σ z1 z2 z3 = some (τ, r) → sp_GG shX X σ 4 [some (.ref (sx_ad X 60)), some (.int z1), some (.int z2), some (.int z3)] [] 4 0 0) {σ : sp_St} {z1 : Int32} {z2 : Int32} {z3 : Int32} (hf : X5_mostWithoutOne_43 n k4 σ z1 z2 z3 = some (τ, r)) : sp_GG shX X σ 4 [some (.ref (sx_ad X 60)), some (.int z1), some (.int z2), some (.int z3)] [] 43 0 0 := by
  unfold X5_mostWithoutOne_43 at hf
  obtain ⟨x1, e2, hf⟩ := sp_pl_some hf
  refine sp_iinc (i := 3) (v := x1) (lv' := [some (.ref (sx_ad X 60)), some (.int z1), some (.int z2), some (.int x1)]) (q := 46) hX dX5_mostWithoutOne_43 rfl (by rw [e2, li_1]) (Nat.le_of_ble_eq_true rfl) rfl rfl rfl ?_
  refine sp_goto (tgt := 4) hX dX5_mostWithoutOne_46 (by decide) ?_
  exact hk4 σ z1 z2 x1 hf
set_option maxRecDepth 100000 in
set_option maxHeartbeats 4000000 in
theorem hX5_mostWithoutOne_4 {X : sp_X} (hX : sp_OK shX X cX5_mostWithoutOne RX5 4 rmX5_mostWithoutOne) {τ : sp_St} {r : Int32} (hR : sp_Ri shX X (some .int) τ r 0 0) {n : Nat}    : ∀ (f : Nat) (σ : sp_St) (z1 : Int32) (z2 : Int32) (z3 : Int32), X5_mostWithoutOne_4 n f σ z1 z2 z3 = some (τ, r) → sp_GG shX X σ 4 [some (.ref (sx_ad X 60)), some (.int z1), some (.int z2), some (.int z3)] [] 4 0 0 := by
  intro f
  induction f with
  | zero =>
    intro σ z1 z2 z3 hf
    rw [X5_mostWithoutOne_4] at hf
    cases hf
  | succ f ih =>
    intro σ z1 z2 z3 hf
    rw [X5_mostWithoutOne_4] at hf
    refine sp_iload_n (i := 3) (q := 5) hX dX5_mostWithoutOne_4 rfl rfl rfl ?_
    refine sp_aload_n (i := 0) (q := 6) hX dX5_mostWithoutOne_5 rfl rfl rfl ?_
    refine sp_gets (t := 23) (q := 9) hX flX5_21 fkX5_0 atX_60 srX_60_0 dX5_mostWithoutOne_6 rfl ?_
    obtain ⟨c1, e3, hf⟩ := sp_pl_some hf
    obtain ⟨h2, hf⟩ := sp_ck_some hf
    refine sp_getr (q := 12) hX flX5_35 fkX8_0 atX_23 dX5_mostWithoutOne_9 rfl ?_
    refine sp_nmr e3 ?_
    refine sp_geti (q := 15) hX flX5_78 fkX2_13 (sp_isc_at h2) dX5_mostWithoutOne_12 rfl ?_
    refine sp_icmp_ge (tgt := 49) (q := 18) hX dX5_mostWithoutOne_15 (by decide) rfl (fun hc => ?_) (fun hc => ?_)
    · rw [if_pos hc] at hf
      refine sp_drop (lv' := [none, none, some (.int z2), none]) (And.intro rfl trivial) ?_
      exact hX5_mostWithoutOne_49 hX hR hf
    · rw [if_neg hc] at hf
      refine sp_iload_n (i := 1) (q := 19) hX dX5_mostWithoutOne_18 rfl rfl rfl ?_
      refine sp_iload_n (i := 3) (q := 20) hX dX5_mostWithoutOne_19 rfl rfl rfl ?_
      refine sp_ishr (q := 21) hX dX5_mostWithoutOne_20 rfl ?_
      refine sp_iconst (v := 1) (q := 22) hX dX5_mostWithoutOne_21 li_1 rfl ?_
      refine sp_iand (q := 23) hX dX5_mostWithoutOne_22 rfl ?_
      refine sp_if_eq (tgt := 43) (q := 26) hX dX5_mostWithoutOne_23 (by decide) rfl (fun hc => ?_) (fun hc => ?_)
      · rw [if_pos hc] at hf
        exact hX5_mostWithoutOne_43 hX hR ih hf
      · rw [if_neg hc] at hf
        refine sp_iload_n (i := 2) (q := 27) hX dX5_mostWithoutOne_26 rfl rfl rfl ?_
        refine sp_aload_n (i := 0) (q := 28) hX dX5_mostWithoutOne_27 rfl rfl rfl ?_
        refine sp_gets (t := 62) (q := 31) hX flX5_15 fkX5_2 atX_60 srX_60_2 dX5_mostWithoutOne_28 rfl ?_
        refine sp_iload_n (i := 1) (q := 32) hX dX5_mostWithoutOne_31 rfl rfl rfl ?_
        refine sp_iconst (v := 1) (q := 33) hX dX5_mostWithoutOne_32 li_1 rfl ?_
        refine sp_iload_n (i := 3) (q := 34) hX dX5_mostWithoutOne_33 rfl rfl rfl ?_
        refine sp_ishl (q := 35) hX dX5_mostWithoutOne_34 rfl ?_
        refine sp_iconst (v := -1) (q := 36) hX dX5_mostWithoutOne_35 li_m1 rfl ?_
        refine sp_ixor (q := 37) hX dX5_mostWithoutOne_36 rfl ?_
        refine sp_iand (q := 38) hX dX5_mostWithoutOne_37 rfl ?_
        obtain ⟨h4, hf⟩ := sp_ck_some hf
        refine sp_iald (q := 39) hX arX_62 h4 dX5_mostWithoutOne_38 rfl ?_
        obtain ⟨v5, e6, hf⟩ := sp_pl_some hf
        refine sp_mmax (q := 42) hX wd_1388 wd_656 wd_144 wd_657 (Nat.le_of_ble_eq_true rfl) (Nat.le_of_ble_eq_true rfl) (Nat.le_of_ble_eq_true rfl) (Nat.le_of_ble_eq_true rfl) dX5_mostWithoutOne_39 rfl ?_
        refine sp_nmi e6 ?_
        refine sp_istore_n (i := 2) (lv' := [some (.ref (sx_ad X 60)), some (.int z1), some (.int v5), some (.int z3)]) (q := 43) hX dX5_mostWithoutOne_42 rfl (Nat.le_of_ble_eq_true rfl) rfl rfl rfl ?_
        exact hX5_mostWithoutOne_43 hX hR ih hf
set_option maxRecDepth 100000 in
set_option maxHeartbeats 4000000 in
theorem hX5_mostWithoutOne {X : sp_X} (hX : sp_OK shX X cX5_mostWithoutOne RX5 4 rmX5_mostWithoutOne) {τ : sp_St} {r : Int32} (hR : sp_Ri shX X (some .int) τ r 0 0) {n : Nat}  {σ : sp_St} {a1 : Int32}  (hf : X5_mostWithoutOne n σ a1 = some (τ, r)) : sp_GG shX X σ 4 [some (.ref (sx_ad X 60)), some (.int a1), none, none] [] 0 0 0 := by
  unfold X5_mostWithoutOne at hf
  refine sp_iconst (v := 0) (q := 1) hX dX5_mostWithoutOne_0 li_0 rfl ?_
  obtain ⟨x1, e2, hf⟩ := sp_pl_some hf
  refine sp_nmi e2 ?_
  refine sp_istore_n (i := 2) (lv' := [some (.ref (sx_ad X 60)), some (.int a1), some (.int x1), none]) (q := 2) hX dX5_mostWithoutOne_1 rfl (Nat.le_of_ble_eq_true rfl) rfl rfl rfl ?_
  refine sp_iconst (v := 0) (q := 3) hX dX5_mostWithoutOne_2 li_0 rfl ?_
  obtain ⟨x3, e4, hf⟩ := sp_pl_some hf
  refine sp_nmi e4 ?_
  refine sp_istore_n (i := 3) (lv' := [some (.ref (sx_ad X 60)), some (.int a1), some (.int x1), some (.int x3)]) (q := 4) hX dX5_mostWithoutOne_3 rfl (Nat.le_of_ble_eq_true rfl) rfl rfl rfl ?_
  exact hX5_mostWithoutOne_4 hX hR n σ a1 x1 x3 hf
set_option maxRecDepth 100000 in
set_option maxHeartbeats 4000000 in
theorem cnX5_mostWithoutOne {l : Launch} (hst : l.stackTraces = false) {w : sp_Wd} {n : Nat}  {σ : sp_St} {a1 : Int32} {τ : sp_St} {r : Int32}  (hf : X5_mostWithoutOne n σ a1 = some (τ, r)) : sp_Ci shX l w yX5_mostWithoutOne cX5_mostWithoutOne 4 (some .int) rmX5_mostWithoutOne 0 0 σ [.ref (w.2.1 60), .int a1] τ r :=
  sp_ci (own := RX5) (by decide) rfl hst (Nat.le_of_ble_eq_true rfl) rfl (fun X hX hw hl hR => by subst hw; subst hl; exact hX5_mostWithoutOne hX hR   hf)
def rmX5_roomIn : Room := { frames := 1, cells := 0, slots := 0, locals := 23 }
def X5_roomIn_84 (n : Nat) (σ : sp_St) (z2 : Int32) : Option (sp_St × Int32) :=
  some (σ, z2)
def X5_roomIn_78 (n : Nat) (k9 : sp_St → Int32 → Int32 → Int32 → Option (sp_St × Int32)) (σ : sp_St) (z1 : Int32) (z2 : Int32) (z3 : Int32) : Option (sp_St × Int32) :=
  sp_pl (z3 + 1) fun x1 =>
  k9 σ z1 z2 x1
def X5_roomIn_9 (n : Nat) : Nat → sp_St → Int32 → Int32 → Int32 → Option (sp_St × Int32)
  | 0, _, _, _, _ => none
  | f + 1, σ, z1, z2, z3 =>
    sp_pl (σ.2.1 23 0) fun c1 =>
    sp_ck (sp_isc c1) <|
    if (σ.1 c1 14) ≤ z3 then
      X5_roomIn_84 n σ z2
    else
      if ((z1 >>> (z3 &&& 31)) &&& ((1 : Int32))) = 0 then
        X5_roomIn_78 n (X5_roomIn_9 n f) σ z1 z2 z3
      else
        if ((5 : Int32)) ≤ (σ.1 60 4) then
          X5_roomIn_78 n (X5_roomIn_9 n f) σ z1 z2 z3
        else
          sp_bd (X8_left n σ 23 z3) fun σ5 v6 =>
          sp_ck (sp_in (σ.1 60 4) 5) <|
          sp_pl (sp_sa σ5 63 (σ.1 60 4).toNatClampNeg v6) fun σ8 =>
          sp_ck (sp_in (σ8.1 60 4) 5) <|
          sp_pl (z2 + (sp_g σ8 63 (σ8.1 60 4))) fun x11 =>
          sp_pl (sp_si σ8 60 4 ((σ8.1 60 4) + ((1 : Int32)))) fun σ13 =>
          X5_roomIn_78 n (X5_roomIn_9 n f) σ13 z1 x11 z3
def X5_roomIn (n : Nat)  (σ : sp_St) (a1 : Int32) : Option (sp_St × Int32) :=
  sp_pl ((0 : Int32)) fun x1 =>
  sp_pl (sp_si σ 60 4 ((0 : Int32))) fun σ3 =>
  sp_pl ((0 : Int32)) fun x5 =>
  X5_roomIn_9 n n σ3 a1 x1 x5
set_option maxRecDepth 100000 in
set_option maxHeartbeats 4000000 in
theorem hX5_roomIn_84 {X : sp_X} (hX : sp_OK shX X cX5_roomIn RX5 4 rmX5_roomIn) {τ : sp_St} {r : Int32} (hR : sp_Ri shX X (some .int) τ r 0 0) {n : Nat}    {σ : sp_St} {z2 : Int32} (hf : X5_roomIn_84 n σ z2 = some (τ, r)) : sp_GG shX X σ 4 [none, none, some (.int z2), none] [] 84 0 0 := by
  unfold X5_roomIn_84 at hf
  refine sp_iload_n (i := 2) (q := 85) hX dX5_roomIn_84 rfl rfl rfl ?_
  exact sp_iret hX hR dX5_roomIn_85 hf (Nat.le_of_ble_eq_true rfl) (Nat.le_of_ble_eq_true rfl)
set_option maxRecDepth 100000 in
set_option maxHeartbeats 4000000 in
theorem hX5_roomIn_78 {X : sp_X} (hX : sp_OK shX X cX5_roomIn RX5 4 rmX5_roomIn) {τ : sp_St} {r : Int32} (hR : sp_Ri shX X (some .int) τ r 0 0) {n : Nat}   {k9 : sp_St → Int32 → Int32 → Int32 → Option (sp_St × Int32)} (hk9 : ∀ (σ : sp_St) (z1 : Int32) (z2 : Int32) (z3 : Int32), k9 σ z1 z2 z3 = some (τ, r) → sp_GG shX X σ 4 [some (.ref (sx_ad X 60)), some (.int z1), some (.int z2), some (.int z3)] [] 9 0 0) {σ : sp_St} {z1 : Int32} {z2 : Int32} {z3 : Int32} (hf : X5_roomIn_78 n k9 σ z1 z2 z3 = some (τ, r)) : sp_GG shX X σ 4 [some (.ref (sx_ad X 60)), some (.int z1), some (.int z2), some (.int z3)] [] 78 0 0 := by
  unfold X5_roomIn_78 at hf
  obtain ⟨x1, e2, hf⟩ := sp_pl_some hf
  refine sp_iinc (i := 3) (v := x1) (lv' := [some (.ref (sx_ad X 60)), some (.int z1), some (.int z2), some (.int x1)]) (q := 81) hX dX5_roomIn_78 rfl (by rw [e2, li_1]) (Nat.le_of_ble_eq_true rfl) rfl rfl rfl ?_
  refine sp_goto (tgt := 9) hX dX5_roomIn_81 (by decide) ?_
  exact hk9 σ z1 z2 x1 hf
set_option maxRecDepth 100000 in
set_option maxHeartbeats 4000000 in
theorem hX5_roomIn_9 {X : sp_X} (hX : sp_OK shX X cX5_roomIn RX5 4 rmX5_roomIn) {τ : sp_St} {r : Int32} (hR : sp_Ri shX X (some .int) τ r 0 0) {n : Nat}    : ∀ (f : Nat) (σ : sp_St) (z1 : Int32) (z2 : Int32) (z3 : Int32), X5_roomIn_9 n f σ z1 z2 z3 = some (τ, r) → sp_GG shX X σ 4 [some (.ref (sx_ad X 60)), some (.int z1), some (.int z2), some (.int z3)] [] 9 0 0 := by
  intro f
  induction f with
  | zero =>
    intro σ z1 z2 z3 hf
    rw [X5_roomIn_9] at hf
    cases hf
  | succ f ih =>
    intro σ z1 z2 z3 hf
    rw [X5_roomIn_9] at hf
    refine sp_iload_n (i := 3) (q := 10) hX dX5_roomIn_9 rfl rfl rfl ?_
    refine sp_aload_n (i := 0) (q := 11) hX dX5_roomIn_10 rfl rfl rfl ?_
    refine sp_gets (t := 23) (q := 14) hX flX5_21 fkX5_0 atX_60 srX_60_0 dX5_roomIn_11 rfl ?_
    obtain ⟨c1, e3, hf⟩ := sp_pl_some hf
    obtain ⟨h2, hf⟩ := sp_ck_some hf
    refine sp_getr (q := 17) hX flX5_35 fkX8_0 atX_23 dX5_roomIn_14 rfl ?_
    refine sp_nmr e3 ?_
    refine sp_geti (q := 20) hX flX5_39 fkX2_14 (sp_isc_at h2) dX5_roomIn_17 rfl ?_
    refine sp_icmp_ge (tgt := 84) (q := 23) hX dX5_roomIn_20 (by decide) rfl (fun hc => ?_) (fun hc => ?_)
    · rw [if_pos hc] at hf
      refine sp_drop (lv' := [none, none, some (.int z2), none]) (And.intro rfl trivial) ?_
      exact hX5_roomIn_84 hX hR hf
    · rw [if_neg hc] at hf
      refine sp_iload_n (i := 1) (q := 24) hX dX5_roomIn_23 rfl rfl rfl ?_
      refine sp_iload_n (i := 3) (q := 25) hX dX5_roomIn_24 rfl rfl rfl ?_
      refine sp_ishr (q := 26) hX dX5_roomIn_25 rfl ?_
      refine sp_iconst (v := 1) (q := 27) hX dX5_roomIn_26 li_1 rfl ?_
      refine sp_iand (q := 28) hX dX5_roomIn_27 rfl ?_
      refine sp_if_eq (tgt := 78) (q := 31) hX dX5_roomIn_28 (by decide) rfl (fun hc => ?_) (fun hc => ?_)
      · rw [if_pos hc] at hf
        exact hX5_roomIn_78 hX hR ih hf
      · rw [if_neg hc] at hf
        refine sp_aload_n (i := 0) (q := 32) hX dX5_roomIn_31 rfl rfl rfl ?_
        refine sp_geti (q := 35) hX flX5_87 fkX5_4 atX_60 dX5_roomIn_32 rfl ?_
        refine sp_iconst (v := 5) (q := 36) hX dX5_roomIn_35 li_5 rfl ?_
        refine sp_icmp_ge (tgt := 78) (q := 39) hX dX5_roomIn_36 (by decide) rfl (fun hc => ?_) (fun hc => ?_)
        · rw [if_pos hc] at hf
          exact hX5_roomIn_78 hX hR ih hf
        · rw [if_neg hc] at hf
          refine sp_aload_n (i := 0) (q := 40) hX dX5_roomIn_39 rfl rfl rfl ?_
          refine sp_gets (t := 63) (q := 43) hX flX5_18 fkX5_3 atX_60 srX_60_3 dX5_roomIn_40 rfl ?_
          refine sp_aload_n (i := 0) (q := 44) hX dX5_roomIn_43 rfl rfl rfl ?_
          refine sp_geti (q := 47) hX flX5_87 fkX5_4 atX_60 dX5_roomIn_44 rfl ?_
          refine sp_aload_n (i := 0) (q := 48) hX dX5_roomIn_47 rfl rfl rfl ?_
          refine sp_gets (t := 23) (q := 51) hX flX5_21 fkX5_0 atX_60 srX_60_0 dX5_roomIn_48 rfl ?_
          refine sp_iload_n (i := 3) (q := 52) hX dX5_roomIn_51 rfl rfl rfl ?_
          obtain ⟨σ5, v6, h4, hf⟩ := sp_bd_so hf
          refine sp_callVi (As := [.int z3]) (rest := [.int (σ.1 60 4), .ref (sx_ad X 63)]) (q := 55) hX (cnX8_left (sp_st hX) atX_23 h4) cwX5_72 atX_23 rfl rfl rfl rfl rfl (Nat.le_of_ble_eq_true rfl) (Nat.le_of_ble_eq_true rfl) (Nat.le_of_ble_eq_true rfl) (Nat.le_of_ble_eq_true rfl) (Nat.le_of_ble_eq_true rfl) dX5_roomIn_52 rfl ?_
          obtain ⟨h7, hf⟩ := sp_ck_some hf
          obtain ⟨σ8, e9, hf⟩ := sp_pl_some hf
          refine sp_iast (q := 56) hX arX_63 h7 dX5_roomIn_55 rfl ?_
          refine sp_nms e9 ?_
          refine sp_iload_n (i := 2) (q := 57) hX dX5_roomIn_56 rfl rfl rfl ?_
          refine sp_aload_n (i := 0) (q := 58) hX dX5_roomIn_57 rfl rfl rfl ?_
          refine sp_gets (t := 63) (q := 61) hX flX5_18 fkX5_3 atX_60 srX_60_3 dX5_roomIn_58 rfl ?_
          refine sp_aload_n (i := 0) (q := 62) hX dX5_roomIn_61 rfl rfl rfl ?_
          refine sp_geti (q := 65) hX flX5_87 fkX5_4 atX_60 dX5_roomIn_62 rfl ?_
          obtain ⟨h10, hf⟩ := sp_ck_some hf
          refine sp_iald (q := 66) hX arX_63 h10 dX5_roomIn_65 rfl ?_
          refine sp_iadd (q := 67) hX dX5_roomIn_66 rfl ?_
          obtain ⟨x11, e12, hf⟩ := sp_pl_some hf
          refine sp_nmi e12 ?_
          refine sp_istore_n (i := 2) (lv' := [some (.ref (sx_ad X 60)), some (.int z1), some (.int x11), some (.int z3)]) (q := 68) hX dX5_roomIn_67 rfl (Nat.le_of_ble_eq_true rfl) rfl rfl rfl ?_
          refine sp_aload_n (i := 0) (q := 69) hX dX5_roomIn_68 rfl rfl rfl ?_
          refine sp_dup (q := 70) hX dX5_roomIn_69 rfl rfl ?_
          refine sp_geti (q := 73) hX flX5_87 fkX5_4 atX_60 dX5_roomIn_70 rfl ?_
          refine sp_iconst (v := 1) (q := 74) hX dX5_roomIn_73 li_1 rfl ?_
          refine sp_iadd (q := 75) hX dX5_roomIn_74 rfl ?_
          obtain ⟨σ13, e14, hf⟩ := sp_pl_some hf
          refine sp_puti (q := 78) hX fpX5_87 fkX5_4 atX_60 dX5_roomIn_75 rfl ?_
          refine sp_nms e14 ?_
          exact hX5_roomIn_78 hX hR ih hf
set_option maxRecDepth 100000 in
set_option maxHeartbeats 4000000 in
theorem hX5_roomIn {X : sp_X} (hX : sp_OK shX X cX5_roomIn RX5 4 rmX5_roomIn) {τ : sp_St} {r : Int32} (hR : sp_Ri shX X (some .int) τ r 0 0) {n : Nat}  {σ : sp_St} {a1 : Int32}  (hf : X5_roomIn n σ a1 = some (τ, r)) : sp_GG shX X σ 4 [some (.ref (sx_ad X 60)), some (.int a1), none, none] [] 0 0 0 := by
  unfold X5_roomIn at hf
  refine sp_iconst (v := 0) (q := 1) hX dX5_roomIn_0 li_0 rfl ?_
  obtain ⟨x1, e2, hf⟩ := sp_pl_some hf
  refine sp_nmi e2 ?_
  refine sp_istore_n (i := 2) (lv' := [some (.ref (sx_ad X 60)), some (.int a1), some (.int x1), none]) (q := 2) hX dX5_roomIn_1 rfl (Nat.le_of_ble_eq_true rfl) rfl rfl rfl ?_
  refine sp_aload_n (i := 0) (q := 3) hX dX5_roomIn_2 rfl rfl rfl ?_
  refine sp_iconst (v := 0) (q := 4) hX dX5_roomIn_3 li_0 rfl ?_
  obtain ⟨σ3, e4, hf⟩ := sp_pl_some hf
  refine sp_puti (q := 7) hX fpX5_87 fkX5_4 atX_60 dX5_roomIn_4 rfl ?_
  refine sp_nms e4 ?_
  refine sp_iconst (v := 0) (q := 8) hX dX5_roomIn_7 li_0 rfl ?_
  obtain ⟨x5, e6, hf⟩ := sp_pl_some hf
  refine sp_nmi e6 ?_
  refine sp_istore_n (i := 3) (lv' := [some (.ref (sx_ad X 60)), some (.int a1), some (.int x1), some (.int x5)]) (q := 9) hX dX5_roomIn_8 rfl (Nat.le_of_ble_eq_true rfl) rfl rfl rfl ?_
  exact hX5_roomIn_9 hX hR n σ3 a1 x1 x5 hf
set_option maxRecDepth 100000 in
set_option maxHeartbeats 4000000 in
theorem cnX5_roomIn {l : Launch} (hst : l.stackTraces = false) {w : sp_Wd} {n : Nat}  {σ : sp_St} {a1 : Int32} {τ : sp_St} {r : Int32}  (hf : X5_roomIn n σ a1 = some (τ, r)) : sp_Ci shX l w yX5_roomIn cX5_roomIn 4 (some .int) rmX5_roomIn 0 0 σ [.ref (w.2.1 60), .int a1] τ r :=
  sp_ci (own := RX5) (by decide) rfl hst (Nat.le_of_ble_eq_true rfl) rfl (fun X hX hw hl hR => by subst hw; subst hl; exact hX5_roomIn hX hR   hf)
def rmX5_fillingWith : Room := { frames := 0, cells := 0, slots := 0, locals := 0 }
def X5_fillingWith_54 (n : Nat) (σ : sp_St) : Option (sp_St × Int32) :=
  some (σ, (640 : Int32))
def X5_fillingWith_35 (n : Nat) (σ : sp_St) (z2 : Int32) (z3 : Int32) (z4 : Int32) : Option (sp_St × Int32) :=
  some (σ, ((z4 * ((128 : Int32))) + z3) + z2)
def X5_fillingWith_13 (n : Nat) : Nat → sp_St → Int32 → Int32 → Int32 → Option (sp_St × Int32)
  | 0, _, _, _, _ => none
  | f + 1, σ, z2, z3, z4 =>
    if (σ.1 60 4) ≤ z4 then
      X5_fillingWith_54 n σ
    else
      sp_ck (sp_in z4 5) <|
      if (sp_g σ 63 z4) < (z3 + z2) then
        sp_pl ((0 : Int32)) fun x2 =>
        sp_pl (z4 + 1) fun x4 =>
        X5_fillingWith_13 n f σ z2 x2 x4
      else
        X5_fillingWith_35 n σ z2 z3 z4
def X5_fillingWith (n : Nat)  (σ : sp_St) (a1 : Int32) (a2 : Int32) : Option (sp_St × Int32) :=
  sp_ck (!decide (((128 : Int32)) = 0)) <|
  sp_pl (a1 - a1 / ((128 : Int32)) * ((128 : Int32))) fun x2 =>
  sp_ck (!decide (((128 : Int32)) = 0)) <|
  sp_pl (a1 / ((128 : Int32))) fun x5 =>
  X5_fillingWith_13 n n σ a2 x2 x5
set_option maxRecDepth 100000 in
set_option maxHeartbeats 4000000 in
theorem hX5_fillingWith_54 {X : sp_X} (hX : sp_OK shX X cX5_fillingWith RX5 5 rmX5_fillingWith) {τ : sp_St} {r : Int32} (hR : sp_Ri shX X (some .int) τ r 0 0) {n : Nat}    {σ : sp_St} (hf : X5_fillingWith_54 n σ = some (τ, r)) : sp_GG shX X σ 5 [none, none, none, none, none] [] 54 0 0 := by
  unfold X5_fillingWith_54 at hf
  refine sp_sipush (v := 640) (q := 57) hX dX5_fillingWith_54 ls_640 rfl ?_
  exact sp_iret hX hR dX5_fillingWith_57 hf (Nat.le_of_ble_eq_true rfl) (Nat.le_of_ble_eq_true rfl)
set_option maxRecDepth 100000 in
set_option maxHeartbeats 4000000 in
theorem hX5_fillingWith_35 {X : sp_X} (hX : sp_OK shX X cX5_fillingWith RX5 5 rmX5_fillingWith) {τ : sp_St} {r : Int32} (hR : sp_Ri shX X (some .int) τ r 0 0) {n : Nat}    {σ : sp_St} {z2 : Int32} {z3 : Int32} {z4 : Int32} (hf : X5_fillingWith_35 n σ z2 z3 z4 = some (τ, r)) : sp_GG shX X σ 5 [none, none, some (.int z2), some (.int z3), some (.int z4)] [] 35 0 0 := by
  unfold X5_fillingWith_35 at hf
  refine sp_iload (i := 4) (q := 37) hX dX5_fillingWith_35 rfl rfl ?_
  refine sp_sipush (v := 128) (q := 40) hX dX5_fillingWith_37 ls_128 rfl ?_
  refine sp_imul (q := 41) hX dX5_fillingWith_40 rfl ?_
  refine sp_iload_n (i := 3) (q := 42) hX dX5_fillingWith_41 rfl rfl rfl ?_
  refine sp_iadd (q := 43) hX dX5_fillingWith_42 rfl ?_
  refine sp_iload_n (i := 2) (q := 44) hX dX5_fillingWith_43 rfl rfl rfl ?_
  refine sp_iadd (q := 45) hX dX5_fillingWith_44 rfl ?_
  exact sp_iret hX hR dX5_fillingWith_45 hf (Nat.le_of_ble_eq_true rfl) (Nat.le_of_ble_eq_true rfl)
set_option maxRecDepth 100000 in
set_option maxHeartbeats 4000000 in
theorem hX5_fillingWith_13 {X : sp_X} (hX : sp_OK shX X cX5_fillingWith RX5 5 rmX5_fillingWith) {τ : sp_St} {r : Int32} (hR : sp_Ri shX X (some .int) τ r 0 0) {n : Nat}    : ∀ (f : Nat) (σ : sp_St) (z2 : Int32) (z3 : Int32) (z4 : Int32), X5_fillingWith_13 n f σ z2 z3 z4 = some (τ, r) → sp_GG shX X σ 5 [some (.ref (sx_ad X 60)), none, some (.int z2), some (.int z3), some (.int z4)] [] 13 0 0 := by
  intro f
  induction f with
  | zero =>
    intro σ z2 z3 z4 hf
    rw [X5_fillingWith_13] at hf
    cases hf
  | succ f ih =>
    intro σ z2 z3 z4 hf
    rw [X5_fillingWith_13] at hf
    refine sp_iload (i := 4) (q := 15) hX dX5_fillingWith_13 rfl rfl ?_
    refine sp_aload_n (i := 0) (q := 16) hX dX5_fillingWith_15 rfl rfl rfl ?_
    refine sp_geti (q := 19) hX flX5_87 fkX5_4 atX_60 dX5_fillingWith_16 rfl ?_
    refine sp_icmp_ge (tgt := 54) (q := 22) hX dX5_fillingWith_19 (by decide) rfl (fun hc => ?_) (fun hc => ?_)
    · rw [if_pos hc] at hf
      refine sp_drop (lv' := [none, none, none, none, none]) trivial ?_
      exact hX5_fillingWith_54 hX hR hf
    · rw [if_neg hc] at hf
      refine sp_iload_n (i := 3) (q := 23) hX dX5_fillingWith_22 rfl rfl rfl ?_
      refine sp_iload_n (i := 2) (q := 24) hX dX5_fillingWith_23 rfl rfl rfl ?_
      refine sp_iadd (q := 25) hX dX5_fillingWith_24 rfl ?_
      refine sp_aload_n (i := 0) (q := 26) hX dX5_fillingWith_25 rfl rfl rfl ?_
      refine sp_gets (t := 63) (q := 29) hX flX5_18 fkX5_3 atX_60 srX_60_3 dX5_fillingWith_26 rfl ?_
      refine sp_iload (i := 4) (q := 31) hX dX5_fillingWith_29 rfl rfl ?_
      obtain ⟨h1, hf⟩ := sp_ck_some hf
      refine sp_iald (q := 32) hX arX_63 h1 dX5_fillingWith_31 rfl ?_
      refine sp_icmp_gt (tgt := 46) (q := 35) hX dX5_fillingWith_32 (by decide) rfl (fun hc => ?_) (fun hc => ?_)
      · rw [if_pos hc] at hf
        refine sp_iconst (v := 0) (q := 47) hX dX5_fillingWith_46 li_0 rfl ?_
        obtain ⟨x2, e3, hf⟩ := sp_pl_some hf
        refine sp_nmi e3 ?_
        refine sp_istore_n (i := 3) (lv' := [some (.ref (sx_ad X 60)), none, some (.int z2), some (.int x2), some (.int z4)]) (q := 48) hX dX5_fillingWith_47 rfl (Nat.le_of_ble_eq_true rfl) rfl rfl rfl ?_
        obtain ⟨x4, e5, hf⟩ := sp_pl_some hf
        refine sp_iinc (i := 4) (v := x4) (lv' := [some (.ref (sx_ad X 60)), none, some (.int z2), some (.int x2), some (.int x4)]) (q := 51) hX dX5_fillingWith_48 rfl (by rw [e5, li_1]) (Nat.le_of_ble_eq_true rfl) rfl rfl rfl ?_
        refine sp_goto (tgt := 13) hX dX5_fillingWith_51 (by decide) ?_
        exact ih σ z2 x2 x4 hf
      · rw [if_neg hc] at hf
        refine sp_drop (lv' := [none, none, some (.int z2), some (.int z3), some (.int z4)]) (And.intro rfl (And.intro rfl (And.intro rfl trivial))) ?_
        exact hX5_fillingWith_35 hX hR hf
set_option maxRecDepth 100000 in
set_option maxHeartbeats 4000000 in
theorem hX5_fillingWith {X : sp_X} (hX : sp_OK shX X cX5_fillingWith RX5 5 rmX5_fillingWith) {τ : sp_St} {r : Int32} (hR : sp_Ri shX X (some .int) τ r 0 0) {n : Nat}  {σ : sp_St} {a1 : Int32} {a2 : Int32}  (hf : X5_fillingWith n σ a1 a2 = some (τ, r)) : sp_GG shX X σ 5 [some (.ref (sx_ad X 60)), some (.int a1), some (.int a2), none, none] [] 0 0 0 := by
  unfold X5_fillingWith at hf
  refine sp_iload_n (i := 1) (q := 1) hX dX5_fillingWith_0 rfl rfl rfl ?_
  refine sp_sipush (v := 128) (q := 4) hX dX5_fillingWith_1 ls_128 rfl ?_
  obtain ⟨h1, hf⟩ := sp_ck_some hf
  refine sp_irem (q := 5) hX dX5_fillingWith_4 (sp_nz h1) rfl ?_
  obtain ⟨x2, e3, hf⟩ := sp_pl_some hf
  refine sp_nmi e3 ?_
  refine sp_istore_n (i := 3) (lv' := [some (.ref (sx_ad X 60)), some (.int a1), some (.int a2), some (.int x2), none]) (q := 6) hX dX5_fillingWith_5 rfl (Nat.le_of_ble_eq_true rfl) rfl rfl rfl ?_
  refine sp_iload_n (i := 1) (q := 7) hX dX5_fillingWith_6 rfl rfl rfl ?_
  refine sp_sipush (v := 128) (q := 10) hX dX5_fillingWith_7 ls_128 rfl ?_
  obtain ⟨h4, hf⟩ := sp_ck_some hf
  refine sp_idiv (q := 11) hX dX5_fillingWith_10 (sp_nz h4) rfl ?_
  obtain ⟨x5, e6, hf⟩ := sp_pl_some hf
  refine sp_nmi e6 ?_
  refine sp_istore (i := 4) (lv' := [some (.ref (sx_ad X 60)), some (.int a1), some (.int a2), some (.int x2), some (.int x5)]) (q := 13) hX dX5_fillingWith_11 (Nat.le_of_ble_eq_true rfl) rfl rfl rfl ?_
  refine sp_drop (lv' := [some (.ref (sx_ad X 60)), none, some (.int a2), some (.int x2), some (.int x5)]) (And.intro rfl (And.intro rfl (And.intro rfl (And.intro rfl trivial)))) ?_
  exact hX5_fillingWith_13 hX hR n σ a2 x2 x5 hf
set_option maxRecDepth 100000 in
set_option maxHeartbeats 4000000 in
theorem cnX5_fillingWith {l : Launch} (hst : l.stackTraces = false) {w : sp_Wd} {n : Nat}  {σ : sp_St} {a1 : Int32} {a2 : Int32} {τ : sp_St} {r : Int32}  (hf : X5_fillingWith n σ a1 a2 = some (τ, r)) : sp_Ci shX l w yX5_fillingWith cX5_fillingWith 5 (some .int) rmX5_fillingWith 0 0 σ [.ref (w.2.1 60), .int a1, .int a2] τ r :=
  sp_ci (own := RX5) (by decide) rfl hst (Nat.le_of_ble_eq_true rfl) rfl (fun X hX hw hl hR => by subst hw; subst hl; exact hX5_fillingWith hX hR   hf)
def rmX5_angerOf : Room := { frames := 0, cells := 0, slots := 0, locals := 0 }
def X5_angerOf_44 (n : Nat) (σ : sp_St) (z2 : Int32) : Option (sp_St × Int32) :=
  some (σ, z2)
def X5_angerOf_38 (n : Nat) (k4 : sp_St → Int32 → Int32 → Int32 → Option (sp_St × Int32)) (σ : sp_St) (z1 : Int32) (z2 : Int32) (z3 : Int32) : Option (sp_St × Int32) :=
  sp_pl (z3 + 1) fun x1 =>
  k4 σ z1 z2 x1
def X5_angerOf_4 (n : Nat) : Nat → sp_St → Int32 → Int32 → Int32 → Option (sp_St × Int32)
  | 0, _, _, _, _ => none
  | f + 1, σ, z1, z2, z3 =>
    sp_pl (σ.2.1 23 0) fun c1 =>
    sp_ck (sp_isc c1) <|
    if (σ.1 c1 13) ≤ z3 then
      X5_angerOf_44 n σ z2
    else
      if ((z1 >>> (z3 &&& 31)) &&& ((1 : Int32))) = 0 then
        X5_angerOf_38 n (X5_angerOf_4 n f) σ z1 z2 z3
      else
        sp_ck (sp_in z3 50) <|
        sp_pl (z2 + (sp_g σ 24 z3)) fun x5 =>
        X5_angerOf_38 n (X5_angerOf_4 n f) σ z1 x5 z3
def X5_angerOf (n : Nat)  (σ : sp_St) (a1 : Int32) : Option (sp_St × Int32) :=
  sp_pl ((0 : Int32)) fun x1 =>
  sp_pl ((0 : Int32)) fun x3 =>
  X5_angerOf_4 n n σ a1 x1 x3
set_option maxRecDepth 100000 in
set_option maxHeartbeats 4000000 in
theorem hX5_angerOf_44 {X : sp_X} (hX : sp_OK shX X cX5_angerOf RX5 4 rmX5_angerOf) {τ : sp_St} {r : Int32} (hR : sp_Ri shX X (some .int) τ r 0 0) {n : Nat}    {σ : sp_St} {z2 : Int32} (hf : X5_angerOf_44 n σ z2 = some (τ, r)) : sp_GG shX X σ 4 [none, none, some (.int z2), none] [] 44 0 0 := by
  unfold X5_angerOf_44 at hf
  refine sp_iload_n (i := 2) (q := 45) hX dX5_angerOf_44 rfl rfl rfl ?_
  exact sp_iret hX hR dX5_angerOf_45 hf (Nat.le_of_ble_eq_true rfl) (Nat.le_of_ble_eq_true rfl)
set_option maxRecDepth 100000 in
set_option maxHeartbeats 4000000 in
theorem hX5_angerOf_38 {X : sp_X} (hX : sp_OK shX X cX5_angerOf RX5 4 rmX5_angerOf) {τ : sp_St} {r : Int32} (hR : sp_Ri shX X (some .int) τ r 0 0) {n : Nat}   {k4 : sp_St → Int32 → Int32 → Int32 → Option (sp_St × Int32)} (hk4 : ∀ (σ : sp_St) (z1 : Int32) (z2 : Int32) (z3 : Int32), k4 σ z1 z2 z3 = some (τ, r) → sp_GG shX X σ 4 [some (.ref (sx_ad X 60)), some (.int z1), some (.int z2), some (.int z3)] [] 4 0 0) {σ : sp_St} {z1 : Int32} {z2 : Int32} {z3 : Int32} (hf : X5_angerOf_38 n k4 σ z1 z2 z3 = some (τ, r)) : sp_GG shX X σ 4 [some (.ref (sx_ad X 60)), some (.int z1), some (.int z2), some (.int z3)] [] 38 0 0 := by
  unfold X5_angerOf_38 at hf
  obtain ⟨x1, e2, hf⟩ := sp_pl_some hf
  refine sp_iinc (i := 3) (v := x1) (lv' := [some (.ref (sx_ad X 60)), some (.int z1), some (.int z2), some (.int x1)]) (q := 41) hX dX5_angerOf_38 rfl (by rw [e2, li_1]) (Nat.le_of_ble_eq_true rfl) rfl rfl rfl ?_
  refine sp_goto (tgt := 4) hX dX5_angerOf_41 (by decide) ?_
  exact hk4 σ z1 z2 x1 hf
set_option maxRecDepth 100000 in
set_option maxHeartbeats 4000000 in
theorem hX5_angerOf_4 {X : sp_X} (hX : sp_OK shX X cX5_angerOf RX5 4 rmX5_angerOf) {τ : sp_St} {r : Int32} (hR : sp_Ri shX X (some .int) τ r 0 0) {n : Nat}    : ∀ (f : Nat) (σ : sp_St) (z1 : Int32) (z2 : Int32) (z3 : Int32), X5_angerOf_4 n f σ z1 z2 z3 = some (τ, r) → sp_GG shX X σ 4 [some (.ref (sx_ad X 60)), some (.int z1), some (.int z2), some (.int z3)] [] 4 0 0 := by
  intro f
  induction f with
  | zero =>
    intro σ z1 z2 z3 hf
    rw [X5_angerOf_4] at hf
    cases hf
  | succ f ih =>
    intro σ z1 z2 z3 hf
    rw [X5_angerOf_4] at hf
    refine sp_iload_n (i := 3) (q := 5) hX dX5_angerOf_4 rfl rfl rfl ?_
    refine sp_aload_n (i := 0) (q := 6) hX dX5_angerOf_5 rfl rfl rfl ?_
    refine sp_gets (t := 23) (q := 9) hX flX5_21 fkX5_0 atX_60 srX_60_0 dX5_angerOf_6 rfl ?_
    obtain ⟨c1, e3, hf⟩ := sp_pl_some hf
    obtain ⟨h2, hf⟩ := sp_ck_some hf
    refine sp_getr (q := 12) hX flX5_35 fkX8_0 atX_23 dX5_angerOf_9 rfl ?_
    refine sp_nmr e3 ?_
    refine sp_geti (q := 15) hX flX5_78 fkX2_13 (sp_isc_at h2) dX5_angerOf_12 rfl ?_
    refine sp_icmp_ge (tgt := 44) (q := 18) hX dX5_angerOf_15 (by decide) rfl (fun hc => ?_) (fun hc => ?_)
    · rw [if_pos hc] at hf
      refine sp_drop (lv' := [none, none, some (.int z2), none]) (And.intro rfl trivial) ?_
      exact hX5_angerOf_44 hX hR hf
    · rw [if_neg hc] at hf
      refine sp_iload_n (i := 1) (q := 19) hX dX5_angerOf_18 rfl rfl rfl ?_
      refine sp_iload_n (i := 3) (q := 20) hX dX5_angerOf_19 rfl rfl rfl ?_
      refine sp_ishr (q := 21) hX dX5_angerOf_20 rfl ?_
      refine sp_iconst (v := 1) (q := 22) hX dX5_angerOf_21 li_1 rfl ?_
      refine sp_iand (q := 23) hX dX5_angerOf_22 rfl ?_
      refine sp_if_eq (tgt := 38) (q := 26) hX dX5_angerOf_23 (by decide) rfl (fun hc => ?_) (fun hc => ?_)
      · rw [if_pos hc] at hf
        exact hX5_angerOf_38 hX hR ih hf
      · rw [if_neg hc] at hf
        refine sp_iload_n (i := 2) (q := 27) hX dX5_angerOf_26 rfl rfl rfl ?_
        refine sp_aload_n (i := 0) (q := 28) hX dX5_angerOf_27 rfl rfl rfl ?_
        refine sp_gets (t := 23) (q := 31) hX flX5_21 fkX5_0 atX_60 srX_60_0 dX5_angerOf_28 rfl ?_
        refine sp_gets (t := 24) (q := 34) hX flX5_102 fkX8_1 atX_23 srX_23_1 dX5_angerOf_31 rfl ?_
        refine sp_iload_n (i := 3) (q := 35) hX dX5_angerOf_34 rfl rfl rfl ?_
        obtain ⟨h4, hf⟩ := sp_ck_some hf
        refine sp_iald (q := 36) hX arX_24 h4 dX5_angerOf_35 rfl ?_
        refine sp_iadd (q := 37) hX dX5_angerOf_36 rfl ?_
        obtain ⟨x5, e6, hf⟩ := sp_pl_some hf
        refine sp_nmi e6 ?_
        refine sp_istore_n (i := 2) (lv' := [some (.ref (sx_ad X 60)), some (.int z1), some (.int x5), some (.int z3)]) (q := 38) hX dX5_angerOf_37 rfl (Nat.le_of_ble_eq_true rfl) rfl rfl rfl ?_
        exact hX5_angerOf_38 hX hR ih hf
set_option maxRecDepth 100000 in
set_option maxHeartbeats 4000000 in
theorem hX5_angerOf {X : sp_X} (hX : sp_OK shX X cX5_angerOf RX5 4 rmX5_angerOf) {τ : sp_St} {r : Int32} (hR : sp_Ri shX X (some .int) τ r 0 0) {n : Nat}  {σ : sp_St} {a1 : Int32}  (hf : X5_angerOf n σ a1 = some (τ, r)) : sp_GG shX X σ 4 [some (.ref (sx_ad X 60)), some (.int a1), none, none] [] 0 0 0 := by
  unfold X5_angerOf at hf
  refine sp_iconst (v := 0) (q := 1) hX dX5_angerOf_0 li_0 rfl ?_
  obtain ⟨x1, e2, hf⟩ := sp_pl_some hf
  refine sp_nmi e2 ?_
  refine sp_istore_n (i := 2) (lv' := [some (.ref (sx_ad X 60)), some (.int a1), some (.int x1), none]) (q := 2) hX dX5_angerOf_1 rfl (Nat.le_of_ble_eq_true rfl) rfl rfl rfl ?_
  refine sp_iconst (v := 0) (q := 3) hX dX5_angerOf_2 li_0 rfl ?_
  obtain ⟨x3, e4, hf⟩ := sp_pl_some hf
  refine sp_nmi e4 ?_
  refine sp_istore_n (i := 3) (lv' := [some (.ref (sx_ad X 60)), some (.int a1), some (.int x1), some (.int x3)]) (q := 4) hX dX5_angerOf_3 rfl (Nat.le_of_ble_eq_true rfl) rfl rfl rfl ?_
  exact hX5_angerOf_4 hX hR n σ a1 x1 x3 hf
set_option maxRecDepth 100000 in
set_option maxHeartbeats 4000000 in
theorem cnX5_angerOf {l : Launch} (hst : l.stackTraces = false) {w : sp_Wd} {n : Nat}  {σ : sp_St} {a1 : Int32} {τ : sp_St} {r : Int32}  (hf : X5_angerOf n σ a1 = some (τ, r)) : sp_Ci shX l w yX5_angerOf cX5_angerOf 4 (some .int) rmX5_angerOf 0 0 σ [.ref (w.2.1 60), .int a1] τ r :=
  sp_ci (own := RX5) (by decide) rfl hst (Nat.le_of_ble_eq_true rfl) rfl (fun X hX hw hl hR => by subst hw; subst hl; exact hX5_angerOf hX hR   hf)
def rmX5_lengthOf : Room := { frames := 0, cells := 0, slots := 0, locals := 0 }
def X5_lengthOf_47 (n : Nat) (σ : sp_St) (z2 : Int32) : Option (sp_St × Int32) :=
  some (σ, z2)
def X5_lengthOf_41 (n : Nat) (k4 : sp_St → Int32 → Int32 → Int32 → Option (sp_St × Int32)) (σ : sp_St) (z1 : Int32) (z2 : Int32) (z3 : Int32) : Option (sp_St × Int32) :=
  sp_pl (z3 + 1) fun x1 =>
  k4 σ z1 z2 x1
def X5_lengthOf_4 (n : Nat) : Nat → sp_St → Int32 → Int32 → Int32 → Option (sp_St × Int32)
  | 0, _, _, _, _ => none
  | f + 1, σ, z1, z2, z3 =>
    sp_pl (σ.2.1 23 0) fun c1 =>
    sp_ck (sp_isc c1) <|
    if (σ.1 c1 13) ≤ z3 then
      X5_lengthOf_47 n σ z2
    else
      if ((z1 >>> (z3 &&& 31)) &&& ((1 : Int32))) = 0 then
        X5_lengthOf_41 n (X5_lengthOf_4 n f) σ z1 z2 z3
      else
        sp_ck (sp_in z3 10) <|
        sp_pl (z2 + (sp_g σ (c1 + 2) z3)) fun x5 =>
        X5_lengthOf_41 n (X5_lengthOf_4 n f) σ z1 x5 z3
def X5_lengthOf (n : Nat)  (σ : sp_St) (a1 : Int32) : Option (sp_St × Int32) :=
  sp_pl ((0 : Int32)) fun x1 =>
  sp_pl ((0 : Int32)) fun x3 =>
  X5_lengthOf_4 n n σ a1 x1 x3
set_option maxRecDepth 100000 in
set_option maxHeartbeats 4000000 in
theorem hX5_lengthOf_47 {X : sp_X} (hX : sp_OK shX X cX5_lengthOf RX5 4 rmX5_lengthOf) {τ : sp_St} {r : Int32} (hR : sp_Ri shX X (some .int) τ r 0 0) {n : Nat}    {σ : sp_St} {z2 : Int32} (hf : X5_lengthOf_47 n σ z2 = some (τ, r)) : sp_GG shX X σ 4 [none, none, some (.int z2), none] [] 47 0 0 := by
  unfold X5_lengthOf_47 at hf
  refine sp_iload_n (i := 2) (q := 48) hX dX5_lengthOf_47 rfl rfl rfl ?_
  exact sp_iret hX hR dX5_lengthOf_48 hf (Nat.le_of_ble_eq_true rfl) (Nat.le_of_ble_eq_true rfl)
set_option maxRecDepth 100000 in
set_option maxHeartbeats 4000000 in
theorem hX5_lengthOf_41 {X : sp_X} (hX : sp_OK shX X cX5_lengthOf RX5 4 rmX5_lengthOf) {τ : sp_St} {r : Int32} (hR : sp_Ri shX X (some .int) τ r 0 0) {n : Nat}   {k4 : sp_St → Int32 → Int32 → Int32 → Option (sp_St × Int32)} (hk4 : ∀ (σ : sp_St) (z1 : Int32) (z2 : Int32) (z3 : Int32), k4 σ z1 z2 z3 = some (τ, r) → sp_GG shX X σ 4 [some (.ref (sx_ad X 60)), some (.int z1), some (.int z2), some (.int z3)] [] 4 0 0) {σ : sp_St} {z1 : Int32} {z2 : Int32} {z3 : Int32} (hf : X5_lengthOf_41 n k4 σ z1 z2 z3 = some (τ, r)) : sp_GG shX X σ 4 [some (.ref (sx_ad X 60)), some (.int z1), some (.int z2), some (.int z3)] [] 41 0 0 := by
  unfold X5_lengthOf_41 at hf
  obtain ⟨x1, e2, hf⟩ := sp_pl_some hf
  refine sp_iinc (i := 3) (v := x1) (lv' := [some (.ref (sx_ad X 60)), some (.int z1), some (.int z2), some (.int x1)]) (q := 44) hX dX5_lengthOf_41 rfl (by rw [e2, li_1]) (Nat.le_of_ble_eq_true rfl) rfl rfl rfl ?_
  refine sp_goto (tgt := 4) hX dX5_lengthOf_44 (by decide) ?_
  exact hk4 σ z1 z2 x1 hf
set_option maxRecDepth 100000 in
set_option maxHeartbeats 4000000 in
theorem hX5_lengthOf_4 {X : sp_X} (hX : sp_OK shX X cX5_lengthOf RX5 4 rmX5_lengthOf) {τ : sp_St} {r : Int32} (hR : sp_Ri shX X (some .int) τ r 0 0) {n : Nat}    : ∀ (f : Nat) (σ : sp_St) (z1 : Int32) (z2 : Int32) (z3 : Int32), X5_lengthOf_4 n f σ z1 z2 z3 = some (τ, r) → sp_GG shX X σ 4 [some (.ref (sx_ad X 60)), some (.int z1), some (.int z2), some (.int z3)] [] 4 0 0 := by
  intro f
  induction f with
  | zero =>
    intro σ z1 z2 z3 hf
    rw [X5_lengthOf_4] at hf
    cases hf
  | succ f ih =>
    intro σ z1 z2 z3 hf
    rw [X5_lengthOf_4] at hf
    refine sp_iload_n (i := 3) (q := 5) hX dX5_lengthOf_4 rfl rfl rfl ?_
    refine sp_aload_n (i := 0) (q := 6) hX dX5_lengthOf_5 rfl rfl rfl ?_
    refine sp_gets (t := 23) (q := 9) hX flX5_21 fkX5_0 atX_60 srX_60_0 dX5_lengthOf_6 rfl ?_
    obtain ⟨c1, e3, hf⟩ := sp_pl_some hf
    obtain ⟨h2, hf⟩ := sp_ck_some hf
    refine sp_getr (q := 12) hX flX5_35 fkX8_0 atX_23 dX5_lengthOf_9 rfl ?_
    refine sp_nmr e3 ?_
    refine sp_geti (q := 15) hX flX5_78 fkX2_13 (sp_isc_at h2) dX5_lengthOf_12 rfl ?_
    refine sp_icmp_ge (tgt := 47) (q := 18) hX dX5_lengthOf_15 (by decide) rfl (fun hc => ?_) (fun hc => ?_)
    · rw [if_pos hc] at hf
      refine sp_drop (lv' := [none, none, some (.int z2), none]) (And.intro rfl trivial) ?_
      exact hX5_lengthOf_47 hX hR hf
    · rw [if_neg hc] at hf
      refine sp_iload_n (i := 1) (q := 19) hX dX5_lengthOf_18 rfl rfl rfl ?_
      refine sp_iload_n (i := 3) (q := 20) hX dX5_lengthOf_19 rfl rfl rfl ?_
      refine sp_ishr (q := 21) hX dX5_lengthOf_20 rfl ?_
      refine sp_iconst (v := 1) (q := 22) hX dX5_lengthOf_21 li_1 rfl ?_
      refine sp_iand (q := 23) hX dX5_lengthOf_22 rfl ?_
      refine sp_if_eq (tgt := 41) (q := 26) hX dX5_lengthOf_23 (by decide) rfl (fun hc => ?_) (fun hc => ?_)
      · rw [if_pos hc] at hf
        exact hX5_lengthOf_41 hX hR ih hf
      · rw [if_neg hc] at hf
        refine sp_iload_n (i := 2) (q := 27) hX dX5_lengthOf_26 rfl rfl rfl ?_
        refine sp_aload_n (i := 0) (q := 28) hX dX5_lengthOf_27 rfl rfl rfl ?_
        refine sp_gets (t := 23) (q := 31) hX flX5_21 fkX5_0 atX_60 srX_60_0 dX5_lengthOf_28 rfl ?_
        refine sp_getr (q := 34) hX flX5_35 fkX8_0 atX_23 dX5_lengthOf_31 rfl ?_
        refine sp_nmr e3 ?_
        refine sp_gets (t := c1 + 2) (q := 37) hX flX5_93 fkX2_1 (sp_isc_at h2) (msX2_1 (sp_isc_at h2)) dX5_lengthOf_34 rfl ?_
        refine sp_iload_n (i := 3) (q := 38) hX dX5_lengthOf_37 rfl rfl rfl ?_
        obtain ⟨h4, hf⟩ := sp_ck_some hf
        refine sp_iald (q := 39) hX (mfX2_1 (sp_isc_at h2)) h4 dX5_lengthOf_38 rfl ?_
        refine sp_iadd (q := 40) hX dX5_lengthOf_39 rfl ?_
        obtain ⟨x5, e6, hf⟩ := sp_pl_some hf
        refine sp_nmi e6 ?_
        refine sp_istore_n (i := 2) (lv' := [some (.ref (sx_ad X 60)), some (.int z1), some (.int x5), some (.int z3)]) (q := 41) hX dX5_lengthOf_40 rfl (Nat.le_of_ble_eq_true rfl) rfl rfl rfl ?_
        exact hX5_lengthOf_41 hX hR ih hf
set_option maxRecDepth 100000 in
set_option maxHeartbeats 4000000 in
theorem hX5_lengthOf {X : sp_X} (hX : sp_OK shX X cX5_lengthOf RX5 4 rmX5_lengthOf) {τ : sp_St} {r : Int32} (hR : sp_Ri shX X (some .int) τ r 0 0) {n : Nat}  {σ : sp_St} {a1 : Int32}  (hf : X5_lengthOf n σ a1 = some (τ, r)) : sp_GG shX X σ 4 [some (.ref (sx_ad X 60)), some (.int a1), none, none] [] 0 0 0 := by
  unfold X5_lengthOf at hf
  refine sp_iconst (v := 0) (q := 1) hX dX5_lengthOf_0 li_0 rfl ?_
  obtain ⟨x1, e2, hf⟩ := sp_pl_some hf
  refine sp_nmi e2 ?_
  refine sp_istore_n (i := 2) (lv' := [some (.ref (sx_ad X 60)), some (.int a1), some (.int x1), none]) (q := 2) hX dX5_lengthOf_1 rfl (Nat.le_of_ble_eq_true rfl) rfl rfl rfl ?_
  refine sp_iconst (v := 0) (q := 3) hX dX5_lengthOf_2 li_0 rfl ?_
  obtain ⟨x3, e4, hf⟩ := sp_pl_some hf
  refine sp_nmi e4 ?_
  refine sp_istore_n (i := 3) (lv' := [some (.ref (sx_ad X 60)), some (.int a1), some (.int x1), some (.int x3)]) (q := 4) hX dX5_lengthOf_3 rfl (Nat.le_of_ble_eq_true rfl) rfl rfl rfl ?_
  exact hX5_lengthOf_4 hX hR n σ a1 x1 x3 hf
set_option maxRecDepth 100000 in
set_option maxHeartbeats 4000000 in
theorem cnX5_lengthOf {l : Launch} (hst : l.stackTraces = false) {w : sp_Wd} {n : Nat}  {σ : sp_St} {a1 : Int32} {τ : sp_St} {r : Int32}  (hf : X5_lengthOf n σ a1 = some (τ, r)) : sp_Ci shX l w yX5_lengthOf cX5_lengthOf 4 (some .int) rmX5_lengthOf 0 0 σ [.ref (w.2.1 60), .int a1] τ r :=
  sp_ci (own := RX5) (by decide) rfl hst (Nat.le_of_ble_eq_true rfl) rfl (fun X hX hw hl hR => by subst hw; subst hl; exact hX5_lengthOf hX hR   hf)
def rmX5_leastSet : Room := { frames := 1, cells := 0, slots := 0, locals := 23 }
def X5_leastSet_78 (n : Nat) (σ : sp_St) : Option (sp_St × Int32) :=
  some (σ, (0 : Int32))
def X5_leastSet_72 (n : Nat) (k13 : sp_St → Int32 → Int32 → Int32 → Int32 → Option (sp_St × Int32)) (σ : sp_St) (z2 : Int32) (z3 : Int32) (z4 : Int32) (z5 : Int32) : Option (sp_St × Int32) :=
  sp_pl (z5 + 1) fun x1 =>
  k13 σ z2 z3 z4 x1
def X5_leastSet_69 (n : Nat) (σ : sp_St) (z5 : Int32) : Option (sp_St × Int32) :=
  some (σ, z5)
def X5_leastSet_13 (n : Nat) : Nat → sp_St → Int32 → Int32 → Int32 → Int32 → Option (sp_St × Int32)
  | 0, _, _, _, _, _ => none
  | f + 1, σ, z2, z3, z4, z5 =>
    if z2 < z5 then
      X5_leastSet_78 n σ
    else
      if ((1024 : Int32)) ≤ z5 then
        X5_leastSet_78 n σ
      else
        if (z5 &&& (z2 ^^^ ((-1 : Int32)))) = 0 then
          sp_bd (X5_angerOf n σ z5) fun σ2 v3 =>
          sp_ck (sp_in (z2 &&& (z5 ^^^ ((-1 : Int32)))) 1024) <|
          if (v3 + (sp_g σ2 62 (z2 &&& (z5 ^^^ ((-1 : Int32)))))) = z3 then
            sp_bd (X5_lengthOf n σ2 z5) fun σ6 v7 =>
            if z4 < v7 then
              X5_leastSet_72 n (X5_leastSet_13 n f) σ6 z2 z3 z4 z5
            else
              X5_leastSet_69 n σ6 z5
          else
            X5_leastSet_72 n (X5_leastSet_13 n f) σ2 z2 z3 z4 z5
        else
          X5_leastSet_72 n (X5_leastSet_13 n f) σ z2 z3 z4 z5
def X5_leastSet (n : Nat)  (σ : sp_St) (a1 : Int32) (a2 : Int32) (a3 : Int32) : Option (sp_St × Int32) :=
  sp_bd (X8_left n σ 23 a1) fun σ2 v3 =>
  sp_pl ((0 : Int32)) fun x4 =>
  X5_leastSet_13 n n σ2 a2 a3 v3 x4
set_option maxRecDepth 100000 in
set_option maxHeartbeats 4000000 in
theorem hX5_leastSet_78 {X : sp_X} (hX : sp_OK shX X cX5_leastSet RX5 6 rmX5_leastSet) {τ : sp_St} {r : Int32} (hR : sp_Ri shX X (some .int) τ r 0 0) {n : Nat}    {σ : sp_St} (hf : X5_leastSet_78 n σ = some (τ, r)) : sp_GG shX X σ 6 [none, none, none, none, none, none] [] 78 0 0 := by
  unfold X5_leastSet_78 at hf
  refine sp_iconst (v := 0) (q := 79) hX dX5_leastSet_78 li_0 rfl ?_
  exact sp_iret hX hR dX5_leastSet_79 hf (Nat.le_of_ble_eq_true rfl) (Nat.le_of_ble_eq_true rfl)
set_option maxRecDepth 100000 in
set_option maxHeartbeats 4000000 in
theorem hX5_leastSet_72 {X : sp_X} (hX : sp_OK shX X cX5_leastSet RX5 6 rmX5_leastSet) {τ : sp_St} {r : Int32} (hR : sp_Ri shX X (some .int) τ r 0 0) {n : Nat}   {k13 : sp_St → Int32 → Int32 → Int32 → Int32 → Option (sp_St × Int32)} (hk13 : ∀ (σ : sp_St) (z2 : Int32) (z3 : Int32) (z4 : Int32) (z5 : Int32), k13 σ z2 z3 z4 z5 = some (τ, r) → sp_GG shX X σ 6 [some (.ref (sx_ad X 60)), none, some (.int z2), some (.int z3), some (.int z4), some (.int z5)] [] 13 0 0) {σ : sp_St} {z2 : Int32} {z3 : Int32} {z4 : Int32} {z5 : Int32} (hf : X5_leastSet_72 n k13 σ z2 z3 z4 z5 = some (τ, r)) : sp_GG shX X σ 6 [some (.ref (sx_ad X 60)), none, some (.int z2), some (.int z3), some (.int z4), some (.int z5)] [] 72 0 0 := by
  unfold X5_leastSet_72 at hf
  obtain ⟨x1, e2, hf⟩ := sp_pl_some hf
  refine sp_iinc (i := 5) (v := x1) (lv' := [some (.ref (sx_ad X 60)), none, some (.int z2), some (.int z3), some (.int z4), some (.int x1)]) (q := 75) hX dX5_leastSet_72 rfl (by rw [e2, li_1]) (Nat.le_of_ble_eq_true rfl) rfl rfl rfl ?_
  refine sp_goto (tgt := 13) hX dX5_leastSet_75 (by decide) ?_
  exact hk13 σ z2 z3 z4 x1 hf
set_option maxRecDepth 100000 in
set_option maxHeartbeats 4000000 in
theorem hX5_leastSet_69 {X : sp_X} (hX : sp_OK shX X cX5_leastSet RX5 6 rmX5_leastSet) {τ : sp_St} {r : Int32} (hR : sp_Ri shX X (some .int) τ r 0 0) {n : Nat}    {σ : sp_St} {z5 : Int32} (hf : X5_leastSet_69 n σ z5 = some (τ, r)) : sp_GG shX X σ 6 [none, none, none, none, none, some (.int z5)] [] 69 0 0 := by
  unfold X5_leastSet_69 at hf
  refine sp_iload (i := 5) (q := 71) hX dX5_leastSet_69 rfl rfl ?_
  exact sp_iret hX hR dX5_leastSet_71 hf (Nat.le_of_ble_eq_true rfl) (Nat.le_of_ble_eq_true rfl)
set_option maxRecDepth 100000 in
set_option maxHeartbeats 4000000 in
theorem hX5_leastSet_13 {X : sp_X} (hX : sp_OK shX X cX5_leastSet RX5 6 rmX5_leastSet) {τ : sp_St} {r : Int32} (hR : sp_Ri shX X (some .int) τ r 0 0) {n : Nat}    : ∀ (f : Nat) (σ : sp_St) (z2 : Int32) (z3 : Int32) (z4 : Int32) (z5 : Int32), X5_leastSet_13 n f σ z2 z3 z4 z5 = some (τ, r) → sp_GG shX X σ 6 [some (.ref (sx_ad X 60)), none, some (.int z2), some (.int z3), some (.int z4), some (.int z5)] [] 13 0 0 := by
  intro f
  induction f with
  | zero =>
    intro σ z2 z3 z4 z5 hf
    rw [X5_leastSet_13] at hf
    cases hf
  | succ f ih =>
    intro σ z2 z3 z4 z5 hf
    rw [X5_leastSet_13] at hf
    refine sp_iload (i := 5) (q := 15) hX dX5_leastSet_13 rfl rfl ?_
    refine sp_iload_n (i := 2) (q := 16) hX dX5_leastSet_15 rfl rfl rfl ?_
    refine sp_icmp_gt (tgt := 78) (q := 19) hX dX5_leastSet_16 (by decide) rfl (fun hc => ?_) (fun hc => ?_)
    · rw [if_pos hc] at hf
      refine sp_drop (lv' := [none, none, none, none, none, none]) trivial ?_
      exact hX5_leastSet_78 hX hR hf
    · rw [if_neg hc] at hf
      refine sp_iload (i := 5) (q := 21) hX dX5_leastSet_19 rfl rfl ?_
      refine sp_sipush (v := 1024) (q := 24) hX dX5_leastSet_21 ls_1024 rfl ?_
      refine sp_icmp_ge (tgt := 78) (q := 27) hX dX5_leastSet_24 (by decide) rfl (fun hc => ?_) (fun hc => ?_)
      · rw [if_pos hc] at hf
        refine sp_drop (lv' := [none, none, none, none, none, none]) trivial ?_
        exact hX5_leastSet_78 hX hR hf
      · rw [if_neg hc] at hf
        refine sp_iload (i := 5) (q := 29) hX dX5_leastSet_27 rfl rfl ?_
        refine sp_iload_n (i := 2) (q := 30) hX dX5_leastSet_29 rfl rfl rfl ?_
        refine sp_iconst (v := -1) (q := 31) hX dX5_leastSet_30 li_m1 rfl ?_
        refine sp_ixor (q := 32) hX dX5_leastSet_31 rfl ?_
        refine sp_iand (q := 33) hX dX5_leastSet_32 rfl ?_
        refine sp_if_ne (tgt := 72) (q := 36) hX dX5_leastSet_33 (by decide) rfl (fun hc => ?_) (fun hc => ?_)
        · rw [if_neg hc] at hf
          exact hX5_leastSet_72 hX hR ih hf
        · rw [if_pos hc] at hf
          refine sp_aload_n (i := 0) (q := 37) hX dX5_leastSet_36 rfl rfl rfl ?_
          refine sp_iload (i := 5) (q := 39) hX dX5_leastSet_37 rfl rfl ?_
          obtain ⟨σ2, v3, h1, hf⟩ := sp_bd_so hf
          refine sp_callVi (As := [.int z5]) (rest := []) (q := 42) hX (cnX5_angerOf (sp_st hX)  h1) cwX5_49 atX_60 rfl rfl rfl rfl rfl (Nat.le_of_ble_eq_true rfl) (Nat.le_of_ble_eq_true rfl) (Nat.le_of_ble_eq_true rfl) (Nat.le_of_ble_eq_true rfl) (Nat.le_of_ble_eq_true rfl) dX5_leastSet_39 rfl ?_
          refine sp_aload_n (i := 0) (q := 43) hX dX5_leastSet_42 rfl rfl rfl ?_
          refine sp_gets (t := 62) (q := 46) hX flX5_15 fkX5_2 atX_60 srX_60_2 dX5_leastSet_43 rfl ?_
          refine sp_iload_n (i := 2) (q := 47) hX dX5_leastSet_46 rfl rfl rfl ?_
          refine sp_iload (i := 5) (q := 49) hX dX5_leastSet_47 rfl rfl ?_
          refine sp_iconst (v := -1) (q := 50) hX dX5_leastSet_49 li_m1 rfl ?_
          refine sp_ixor (q := 51) hX dX5_leastSet_50 rfl ?_
          refine sp_iand (q := 52) hX dX5_leastSet_51 rfl ?_
          obtain ⟨h4, hf⟩ := sp_ck_some hf
          refine sp_iald (q := 53) hX arX_62 h4 dX5_leastSet_52 rfl ?_
          refine sp_iadd (q := 54) hX dX5_leastSet_53 rfl ?_
          refine sp_iload_n (i := 3) (q := 55) hX dX5_leastSet_54 rfl rfl rfl ?_
          refine sp_icmp_ne (tgt := 72) (q := 58) hX dX5_leastSet_55 (by decide) rfl (fun hc => ?_) (fun hc => ?_)
          · rw [if_neg hc] at hf
            exact hX5_leastSet_72 hX hR ih hf
          · rw [if_pos hc] at hf
            refine sp_aload_n (i := 0) (q := 59) hX dX5_leastSet_58 rfl rfl rfl ?_
            refine sp_iload (i := 5) (q := 61) hX dX5_leastSet_59 rfl rfl ?_
            obtain ⟨σ6, v7, h5, hf⟩ := sp_bd_so hf
            refine sp_callVi (As := [.int z5]) (rest := []) (q := 64) hX (cnX5_lengthOf (sp_st hX)  h5) cwX5_53 atX_60 rfl rfl rfl rfl rfl (Nat.le_of_ble_eq_true rfl) (Nat.le_of_ble_eq_true rfl) (Nat.le_of_ble_eq_true rfl) (Nat.le_of_ble_eq_true rfl) (Nat.le_of_ble_eq_true rfl) dX5_leastSet_61 rfl ?_
            refine sp_iload (i := 4) (q := 66) hX dX5_leastSet_64 rfl rfl ?_
            refine sp_icmp_gt (tgt := 72) (q := 69) hX dX5_leastSet_66 (by decide) rfl (fun hc => ?_) (fun hc => ?_)
            · rw [if_pos hc] at hf
              exact hX5_leastSet_72 hX hR ih hf
            · rw [if_neg hc] at hf
              refine sp_drop (lv' := [none, none, none, none, none, some (.int z5)]) (And.intro rfl trivial) ?_
              exact hX5_leastSet_69 hX hR hf
set_option maxRecDepth 100000 in
set_option maxHeartbeats 4000000 in
theorem hX5_leastSet {X : sp_X} (hX : sp_OK shX X cX5_leastSet RX5 6 rmX5_leastSet) {τ : sp_St} {r : Int32} (hR : sp_Ri shX X (some .int) τ r 0 0) {n : Nat}  {σ : sp_St} {a1 : Int32} {a2 : Int32} {a3 : Int32}  (hf : X5_leastSet n σ a1 a2 a3 = some (τ, r)) : sp_GG shX X σ 6 [some (.ref (sx_ad X 60)), some (.int a1), some (.int a2), some (.int a3), none, none] [] 0 0 0 := by
  unfold X5_leastSet at hf
  refine sp_aload_n (i := 0) (q := 1) hX dX5_leastSet_0 rfl rfl rfl ?_
  refine sp_gets (t := 23) (q := 4) hX flX5_21 fkX5_0 atX_60 srX_60_0 dX5_leastSet_1 rfl ?_
  refine sp_iload_n (i := 1) (q := 5) hX dX5_leastSet_4 rfl rfl rfl ?_
  obtain ⟨σ2, v3, h1, hf⟩ := sp_bd_so hf
  refine sp_callVi (As := [.int a1]) (rest := []) (q := 8) hX (cnX8_left (sp_st hX) atX_23 h1) cwX5_72 atX_23 rfl rfl rfl rfl rfl (Nat.le_of_ble_eq_true rfl) (Nat.le_of_ble_eq_true rfl) (Nat.le_of_ble_eq_true rfl) (Nat.le_of_ble_eq_true rfl) (Nat.le_of_ble_eq_true rfl) dX5_leastSet_5 rfl ?_
  refine sp_istore (i := 4) (lv' := [some (.ref (sx_ad X 60)), some (.int a1), some (.int a2), some (.int a3), some (.int v3), none]) (q := 10) hX dX5_leastSet_8 (Nat.le_of_ble_eq_true rfl) rfl rfl rfl ?_
  refine sp_iconst (v := 0) (q := 11) hX dX5_leastSet_10 li_0 rfl ?_
  obtain ⟨x4, e5, hf⟩ := sp_pl_some hf
  refine sp_nmi e5 ?_
  refine sp_istore (i := 5) (lv' := [some (.ref (sx_ad X 60)), some (.int a1), some (.int a2), some (.int a3), some (.int v3), some (.int x4)]) (q := 13) hX dX5_leastSet_11 (Nat.le_of_ble_eq_true rfl) rfl rfl rfl ?_
  refine sp_drop (lv' := [some (.ref (sx_ad X 60)), none, some (.int a2), some (.int a3), some (.int v3), some (.int x4)]) (And.intro rfl (And.intro rfl (And.intro rfl (And.intro rfl (And.intro rfl trivial))))) ?_
  exact hX5_leastSet_13 hX hR n σ2 a2 a3 v3 x4 hf
set_option maxRecDepth 100000 in
set_option maxHeartbeats 4000000 in
theorem cnX5_leastSet {l : Launch} (hst : l.stackTraces = false) {w : sp_Wd} {n : Nat}  {σ : sp_St} {a1 : Int32} {a2 : Int32} {a3 : Int32} {τ : sp_St} {r : Int32}  (hf : X5_leastSet n σ a1 a2 a3 = some (τ, r)) : sp_Ci shX l w yX5_leastSet cX5_leastSet 6 (some .int) rmX5_leastSet 0 0 σ [.ref (w.2.1 60), .int a1, .int a2, .int a3] τ r :=
  sp_ci (own := RX5) (by decide) rfl hst (Nat.le_of_ble_eq_true rfl) rfl (fun X hX hw hl hR => by subst hw; subst hl; exact hX5_leastSet hX hR   hf)
def rmX5_leastFilling : Room := { frames := 1, cells := 0, slots := 0, locals := 24 }
def X5_leastFilling_67 (n : Nat) (σ : sp_St) (z2 : Int32) : Option (sp_St × Int32) :=
  some (σ, z2)
def X5_leastFilling_61 (n : Nat) (k6 : sp_St → Int32 → Int32 → Int32 → Option (sp_St × Int32)) (σ : sp_St) (z1 : Int32) (z2 : Int32) (z3 : Int32) : Option (sp_St × Int32) :=
  sp_pl (z3 + 1) fun x1 =>
  k6 σ z1 z2 x1
def X5_leastFilling_6 (n : Nat) : Nat → sp_St → Int32 → Int32 → Int32 → Option (sp_St × Int32)
  | 0, _, _, _, _ => none
  | f + 1, σ, z1, z2, z3 =>
    sp_pl (σ.2.1 23 0) fun c1 =>
    sp_ck (sp_isc c1) <|
    if (σ.1 c1 13) ≤ z3 then
      X5_leastFilling_67 n σ z2
    else
      if ((z1 >>> (z3 &&& 31)) &&& ((1 : Int32))) = 0 then
        X5_leastFilling_61 n (X5_leastFilling_6 n f) σ z1 z2 z3
      else
        sp_ck (sp_in (z1 &&& ((((1 : Int32)) <<< (z3 &&& 31)) ^^^ ((-1 : Int32)))) 1024) <|
        sp_ck (sp_in z3 10) <|
        sp_bd (X5_fillingWith n σ (sp_g σ 61 (z1 &&& ((((1 : Int32)) <<< (z3 &&& 31)) ^^^ ((-1 : Int32))))) (sp_g σ (c1 + 2) z3)) fun σ7 v8 =>
        sp_pl (sp_min z2 v8) fun v9 =>
        X5_leastFilling_61 n (X5_leastFilling_6 n f) σ7 z1 v9 z3
def X5_leastFilling (n : Nat)  (σ : sp_St) (a1 : Int32) : Option (sp_St × Int32) :=
  sp_pl ((640 : Int32)) fun x1 =>
  sp_pl ((0 : Int32)) fun x3 =>
  X5_leastFilling_6 n n σ a1 x1 x3
set_option maxRecDepth 100000 in
set_option maxHeartbeats 4000000 in
theorem hX5_leastFilling_67 {X : sp_X} (hX : sp_OK shX X cX5_leastFilling RX5 4 rmX5_leastFilling) {τ : sp_St} {r : Int32} (hR : sp_Ri shX X (some .int) τ r 0 0) {n : Nat}    {σ : sp_St} {z2 : Int32} (hf : X5_leastFilling_67 n σ z2 = some (τ, r)) : sp_GG shX X σ 4 [none, none, some (.int z2), none] [] 67 0 0 := by
  unfold X5_leastFilling_67 at hf
  refine sp_iload_n (i := 2) (q := 68) hX dX5_leastFilling_67 rfl rfl rfl ?_
  exact sp_iret hX hR dX5_leastFilling_68 hf (Nat.le_of_ble_eq_true rfl) (Nat.le_of_ble_eq_true rfl)
set_option maxRecDepth 100000 in
set_option maxHeartbeats 4000000 in
theorem hX5_leastFilling_61 {X : sp_X} (hX : sp_OK shX X cX5_leastFilling RX5 4 rmX5_leastFilling) {τ : sp_St} {r : Int32} (hR : sp_Ri shX X (some .int) τ r 0 0) {n : Nat}   {k6 : sp_St → Int32 → Int32 → Int32 → Option (sp_St × Int32)} (hk6 : ∀ (σ : sp_St) (z1 : Int32) (z2 : Int32) (z3 : Int32), k6 σ z1 z2 z3 = some (τ, r) → sp_GG shX X σ 4 [some (.ref (sx_ad X 60)), some (.int z1), some (.int z2), some (.int z3)] [] 6 0 0) {σ : sp_St} {z1 : Int32} {z2 : Int32} {z3 : Int32} (hf : X5_leastFilling_61 n k6 σ z1 z2 z3 = some (τ, r)) : sp_GG shX X σ 4 [some (.ref (sx_ad X 60)), some (.int z1), some (.int z2), some (.int z3)] [] 61 0 0 := by
  unfold X5_leastFilling_61 at hf
  obtain ⟨x1, e2, hf⟩ := sp_pl_some hf
  refine sp_iinc (i := 3) (v := x1) (lv' := [some (.ref (sx_ad X 60)), some (.int z1), some (.int z2), some (.int x1)]) (q := 64) hX dX5_leastFilling_61 rfl (by rw [e2, li_1]) (Nat.le_of_ble_eq_true rfl) rfl rfl rfl ?_
  refine sp_goto (tgt := 6) hX dX5_leastFilling_64 (by decide) ?_
  exact hk6 σ z1 z2 x1 hf
set_option maxRecDepth 100000 in
set_option maxHeartbeats 4000000 in
theorem hX5_leastFilling_6 {X : sp_X} (hX : sp_OK shX X cX5_leastFilling RX5 4 rmX5_leastFilling) {τ : sp_St} {r : Int32} (hR : sp_Ri shX X (some .int) τ r 0 0) {n : Nat}    : ∀ (f : Nat) (σ : sp_St) (z1 : Int32) (z2 : Int32) (z3 : Int32), X5_leastFilling_6 n f σ z1 z2 z3 = some (τ, r) → sp_GG shX X σ 4 [some (.ref (sx_ad X 60)), some (.int z1), some (.int z2), some (.int z3)] [] 6 0 0 := by
  intro f
  induction f with
  | zero =>
    intro σ z1 z2 z3 hf
    rw [X5_leastFilling_6] at hf
    cases hf
  | succ f ih =>
    intro σ z1 z2 z3 hf
    rw [X5_leastFilling_6] at hf
    refine sp_iload_n (i := 3) (q := 7) hX dX5_leastFilling_6 rfl rfl rfl ?_
    refine sp_aload_n (i := 0) (q := 8) hX dX5_leastFilling_7 rfl rfl rfl ?_
    refine sp_gets (t := 23) (q := 11) hX flX5_21 fkX5_0 atX_60 srX_60_0 dX5_leastFilling_8 rfl ?_
    obtain ⟨c1, e3, hf⟩ := sp_pl_some hf
    obtain ⟨h2, hf⟩ := sp_ck_some hf
    refine sp_getr (q := 14) hX flX5_35 fkX8_0 atX_23 dX5_leastFilling_11 rfl ?_
    refine sp_nmr e3 ?_
    refine sp_geti (q := 17) hX flX5_78 fkX2_13 (sp_isc_at h2) dX5_leastFilling_14 rfl ?_
    refine sp_icmp_ge (tgt := 67) (q := 20) hX dX5_leastFilling_17 (by decide) rfl (fun hc => ?_) (fun hc => ?_)
    · rw [if_pos hc] at hf
      refine sp_drop (lv' := [none, none, some (.int z2), none]) (And.intro rfl trivial) ?_
      exact hX5_leastFilling_67 hX hR hf
    · rw [if_neg hc] at hf
      refine sp_iload_n (i := 1) (q := 21) hX dX5_leastFilling_20 rfl rfl rfl ?_
      refine sp_iload_n (i := 3) (q := 22) hX dX5_leastFilling_21 rfl rfl rfl ?_
      refine sp_ishr (q := 23) hX dX5_leastFilling_22 rfl ?_
      refine sp_iconst (v := 1) (q := 24) hX dX5_leastFilling_23 li_1 rfl ?_
      refine sp_iand (q := 25) hX dX5_leastFilling_24 rfl ?_
      refine sp_if_eq (tgt := 61) (q := 28) hX dX5_leastFilling_25 (by decide) rfl (fun hc => ?_) (fun hc => ?_)
      · rw [if_pos hc] at hf
        exact hX5_leastFilling_61 hX hR ih hf
      · rw [if_neg hc] at hf
        refine sp_iload_n (i := 2) (q := 29) hX dX5_leastFilling_28 rfl rfl rfl ?_
        refine sp_aload_n (i := 0) (q := 30) hX dX5_leastFilling_29 rfl rfl rfl ?_
        refine sp_aload_n (i := 0) (q := 31) hX dX5_leastFilling_30 rfl rfl rfl ?_
        refine sp_gets (t := 61) (q := 34) hX flX5_11 fkX5_1 atX_60 srX_60_1 dX5_leastFilling_31 rfl ?_
        refine sp_iload_n (i := 1) (q := 35) hX dX5_leastFilling_34 rfl rfl rfl ?_
        refine sp_iconst (v := 1) (q := 36) hX dX5_leastFilling_35 li_1 rfl ?_
        refine sp_iload_n (i := 3) (q := 37) hX dX5_leastFilling_36 rfl rfl rfl ?_
        refine sp_ishl (q := 38) hX dX5_leastFilling_37 rfl ?_
        refine sp_iconst (v := -1) (q := 39) hX dX5_leastFilling_38 li_m1 rfl ?_
        refine sp_ixor (q := 40) hX dX5_leastFilling_39 rfl ?_
        refine sp_iand (q := 41) hX dX5_leastFilling_40 rfl ?_
        obtain ⟨h4, hf⟩ := sp_ck_some hf
        refine sp_iald (q := 42) hX arX_61 h4 dX5_leastFilling_41 rfl ?_
        refine sp_aload_n (i := 0) (q := 43) hX dX5_leastFilling_42 rfl rfl rfl ?_
        refine sp_gets (t := 23) (q := 46) hX flX5_21 fkX5_0 atX_60 srX_60_0 dX5_leastFilling_43 rfl ?_
        refine sp_getr (q := 49) hX flX5_35 fkX8_0 atX_23 dX5_leastFilling_46 rfl ?_
        refine sp_nmr e3 ?_
        refine sp_gets (t := c1 + 2) (q := 52) hX flX5_93 fkX2_1 (sp_isc_at h2) (msX2_1 (sp_isc_at h2)) dX5_leastFilling_49 rfl ?_
        refine sp_iload_n (i := 3) (q := 53) hX dX5_leastFilling_52 rfl rfl rfl ?_
        obtain ⟨h5, hf⟩ := sp_ck_some hf
        refine sp_iald (q := 54) hX (mfX2_1 (sp_isc_at h2)) h5 dX5_leastFilling_53 rfl ?_
        obtain ⟨σ7, v8, h6, hf⟩ := sp_bd_so hf
        refine sp_callVi (As := [.int (sp_g σ 61 (z1 &&& ((((1 : Int32)) <<< (z3 &&& 31)) ^^^ ((-1 : Int32))))), .int (sp_g σ (c1 + 2) z3)]) (rest := [.int z2]) (q := 57) hX (cnX5_fillingWith (sp_st hX)  h6) cwX5_96 atX_60 rfl rfl rfl rfl rfl (Nat.le_of_ble_eq_true rfl) (Nat.le_of_ble_eq_true rfl) (Nat.le_of_ble_eq_true rfl) (Nat.le_of_ble_eq_true rfl) (Nat.le_of_ble_eq_true rfl) dX5_leastFilling_54 rfl ?_
        obtain ⟨v9, e10, hf⟩ := sp_pl_some hf
        refine sp_mmin (q := 60) hX wd_786 wd_607 wd_144 wd_608 (Nat.le_of_ble_eq_true rfl) (Nat.le_of_ble_eq_true rfl) (Nat.le_of_ble_eq_true rfl) (Nat.le_of_ble_eq_true rfl) dX5_leastFilling_57 rfl ?_
        refine sp_nmi e10 ?_
        refine sp_istore_n (i := 2) (lv' := [some (.ref (sx_ad X 60)), some (.int z1), some (.int v9), some (.int z3)]) (q := 61) hX dX5_leastFilling_60 rfl (Nat.le_of_ble_eq_true rfl) rfl rfl rfl ?_
        exact hX5_leastFilling_61 hX hR ih hf
set_option maxRecDepth 100000 in
set_option maxHeartbeats 4000000 in
theorem hX5_leastFilling {X : sp_X} (hX : sp_OK shX X cX5_leastFilling RX5 4 rmX5_leastFilling) {τ : sp_St} {r : Int32} (hR : sp_Ri shX X (some .int) τ r 0 0) {n : Nat}  {σ : sp_St} {a1 : Int32}  (hf : X5_leastFilling n σ a1 = some (τ, r)) : sp_GG shX X σ 4 [some (.ref (sx_ad X 60)), some (.int a1), none, none] [] 0 0 0 := by
  unfold X5_leastFilling at hf
  refine sp_sipush (v := 640) (q := 3) hX dX5_leastFilling_0 ls_640 rfl ?_
  obtain ⟨x1, e2, hf⟩ := sp_pl_some hf
  refine sp_nmi e2 ?_
  refine sp_istore_n (i := 2) (lv' := [some (.ref (sx_ad X 60)), some (.int a1), some (.int x1), none]) (q := 4) hX dX5_leastFilling_3 rfl (Nat.le_of_ble_eq_true rfl) rfl rfl rfl ?_
  refine sp_iconst (v := 0) (q := 5) hX dX5_leastFilling_4 li_0 rfl ?_
  obtain ⟨x3, e4, hf⟩ := sp_pl_some hf
  refine sp_nmi e4 ?_
  refine sp_istore_n (i := 3) (lv' := [some (.ref (sx_ad X 60)), some (.int a1), some (.int x1), some (.int x3)]) (q := 6) hX dX5_leastFilling_5 rfl (Nat.le_of_ble_eq_true rfl) rfl rfl rfl ?_
  exact hX5_leastFilling_6 hX hR n σ a1 x1 x3 hf
set_option maxRecDepth 100000 in
set_option maxHeartbeats 4000000 in
theorem cnX5_leastFilling {l : Launch} (hst : l.stackTraces = false) {w : sp_Wd} {n : Nat}  {σ : sp_St} {a1 : Int32} {τ : sp_St} {r : Int32}  (hf : X5_leastFilling n σ a1 = some (τ, r)) : sp_Ci shX l w yX5_leastFilling cX5_leastFilling 4 (some .int) rmX5_leastFilling 0 0 σ [.ref (w.2.1 60), .int a1] τ r :=
  sp_ci (own := RX5) (by decide) rfl hst (Nat.le_of_ble_eq_true rfl) rfl (fun X hX hw hl hR => by subst hw; subst hl; exact hX5_leastFilling hX hR   hf)
def rmX5_fill : Room := { frames := 2, cells := 0, slots := 0, locals := 47 }
def X5_fill_46 (n : Nat) (σ : sp_St) : Option (sp_St) :=
  some σ
def X5_fill_40 (n : Nat) (k9 : sp_St → Int32 → Int32 → Option (sp_St)) (σ : sp_St) (z1 : Int32) (z2 : Int32) : Option (sp_St) :=
  sp_pl (z2 + 1) fun x1 =>
  k9 σ z1 x1
def X5_fill_9 (n : Nat) : Nat → sp_St → Int32 → Int32 → Option (sp_St)
  | 0, _, _, _ => none
  | f + 1, σ, z1, z2 =>
    if z1 < z2 then
      X5_fill_46 n σ
    else
      if ((1024 : Int32)) ≤ z2 then
        X5_fill_46 n σ
      else
        if (z2 &&& (z1 ^^^ ((-1 : Int32)))) = 0 then
          sp_bd (X5_leastFilling n σ z2) fun σ2 v3 =>
          sp_ck (sp_in z2 1024) <|
          sp_pl (sp_sa σ2 61 z2.toNatClampNeg v3) fun σ5 =>
          X5_fill_40 n (X5_fill_9 n f) σ5 z1 z2
        else
          X5_fill_40 n (X5_fill_9 n f) σ z1 z2
def X5_fill (n : Nat)  (σ : sp_St) (a1 : Int32) : Option (sp_St) :=
  sp_pl (sp_sa σ 61 ((0 : Int32)).toNatClampNeg ((0 : Int32))) fun σ1 =>
  sp_pl ((1 : Int32)) fun x3 =>
  X5_fill_9 n n σ1 a1 x3
set_option maxRecDepth 100000 in
set_option maxHeartbeats 4000000 in
theorem hX5_fill_46 {X : sp_X} (hX : sp_OK shX X cX5_fill RX5 3 rmX5_fill) {τ : sp_St} (hR : sp_Rv shX X τ 0 0) {n : Nat}    {σ : sp_St} (hf : X5_fill_46 n σ = some τ) : sp_GG shX X σ 3 [none, none, none] [] 46 0 0 := by
  unfold X5_fill_46 at hf
  exact sp_vret hX hR dX5_fill_46 hf (Nat.le_of_ble_eq_true rfl) (Nat.le_of_ble_eq_true rfl)
set_option maxRecDepth 100000 in
set_option maxHeartbeats 4000000 in
theorem hX5_fill_40 {X : sp_X} (hX : sp_OK shX X cX5_fill RX5 3 rmX5_fill) {τ : sp_St} (hR : sp_Rv shX X τ 0 0) {n : Nat}   {k9 : sp_St → Int32 → Int32 → Option (sp_St)} (hk9 : ∀ (σ : sp_St) (z1 : Int32) (z2 : Int32), k9 σ z1 z2 = some τ → sp_GG shX X σ 3 [some (.ref (sx_ad X 60)), some (.int z1), some (.int z2)] [] 9 0 0) {σ : sp_St} {z1 : Int32} {z2 : Int32} (hf : X5_fill_40 n k9 σ z1 z2 = some τ) : sp_GG shX X σ 3 [some (.ref (sx_ad X 60)), some (.int z1), some (.int z2)] [] 40 0 0 := by
  unfold X5_fill_40 at hf
  obtain ⟨x1, e2, hf⟩ := sp_pl_some hf
  refine sp_iinc (i := 2) (v := x1) (lv' := [some (.ref (sx_ad X 60)), some (.int z1), some (.int x1)]) (q := 43) hX dX5_fill_40 rfl (by rw [e2, li_1]) (Nat.le_of_ble_eq_true rfl) rfl rfl rfl ?_
  refine sp_goto (tgt := 9) hX dX5_fill_43 (by decide) ?_
  exact hk9 σ z1 x1 hf
set_option maxRecDepth 100000 in
set_option maxHeartbeats 4000000 in
theorem hX5_fill_9 {X : sp_X} (hX : sp_OK shX X cX5_fill RX5 3 rmX5_fill) {τ : sp_St} (hR : sp_Rv shX X τ 0 0) {n : Nat}    : ∀ (f : Nat) (σ : sp_St) (z1 : Int32) (z2 : Int32), X5_fill_9 n f σ z1 z2 = some τ → sp_GG shX X σ 3 [some (.ref (sx_ad X 60)), some (.int z1), some (.int z2)] [] 9 0 0 := by
  intro f
  induction f with
  | zero =>
    intro σ z1 z2 hf
    rw [X5_fill_9] at hf
    cases hf
  | succ f ih =>
    intro σ z1 z2 hf
    rw [X5_fill_9] at hf
    refine sp_iload_n (i := 2) (q := 10) hX dX5_fill_9 rfl rfl rfl ?_
    refine sp_iload_n (i := 1) (q := 11) hX dX5_fill_10 rfl rfl rfl ?_
    refine sp_icmp_gt (tgt := 46) (q := 14) hX dX5_fill_11 (by decide) rfl (fun hc => ?_) (fun hc => ?_)
    · rw [if_pos hc] at hf
      refine sp_drop (lv' := [none, none, none]) trivial ?_
      exact hX5_fill_46 hX hR hf
    · rw [if_neg hc] at hf
      refine sp_iload_n (i := 2) (q := 15) hX dX5_fill_14 rfl rfl rfl ?_
      refine sp_sipush (v := 1024) (q := 18) hX dX5_fill_15 ls_1024 rfl ?_
      refine sp_icmp_ge (tgt := 46) (q := 21) hX dX5_fill_18 (by decide) rfl (fun hc => ?_) (fun hc => ?_)
      · rw [if_pos hc] at hf
        refine sp_drop (lv' := [none, none, none]) trivial ?_
        exact hX5_fill_46 hX hR hf
      · rw [if_neg hc] at hf
        refine sp_iload_n (i := 2) (q := 22) hX dX5_fill_21 rfl rfl rfl ?_
        refine sp_iload_n (i := 1) (q := 23) hX dX5_fill_22 rfl rfl rfl ?_
        refine sp_iconst (v := -1) (q := 24) hX dX5_fill_23 li_m1 rfl ?_
        refine sp_ixor (q := 25) hX dX5_fill_24 rfl ?_
        refine sp_iand (q := 26) hX dX5_fill_25 rfl ?_
        refine sp_if_ne (tgt := 40) (q := 29) hX dX5_fill_26 (by decide) rfl (fun hc => ?_) (fun hc => ?_)
        · rw [if_neg hc] at hf
          exact hX5_fill_40 hX hR ih hf
        · rw [if_pos hc] at hf
          refine sp_aload_n (i := 0) (q := 30) hX dX5_fill_29 rfl rfl rfl ?_
          refine sp_gets (t := 61) (q := 33) hX flX5_11 fkX5_1 atX_60 srX_60_1 dX5_fill_30 rfl ?_
          refine sp_iload_n (i := 2) (q := 34) hX dX5_fill_33 rfl rfl rfl ?_
          refine sp_aload_n (i := 0) (q := 35) hX dX5_fill_34 rfl rfl rfl ?_
          refine sp_iload_n (i := 2) (q := 36) hX dX5_fill_35 rfl rfl rfl ?_
          obtain ⟨σ2, v3, h1, hf⟩ := sp_bd_so hf
          refine sp_callVi (As := [.int z2]) (rest := [.int z2, .ref (sx_ad X 61)]) (q := 39) hX (cnX5_leastFilling (sp_st hX)  h1) cwX5_90 atX_60 rfl rfl rfl rfl rfl (Nat.le_of_ble_eq_true rfl) (Nat.le_of_ble_eq_true rfl) (Nat.le_of_ble_eq_true rfl) (Nat.le_of_ble_eq_true rfl) (Nat.le_of_ble_eq_true rfl) dX5_fill_36 rfl ?_
          obtain ⟨h4, hf⟩ := sp_ck_some hf
          obtain ⟨σ5, e6, hf⟩ := sp_pl_some hf
          refine sp_iast (q := 40) hX arX_61 h4 dX5_fill_39 rfl ?_
          refine sp_nms e6 ?_
          exact hX5_fill_40 hX hR ih hf
set_option maxRecDepth 100000 in
set_option maxHeartbeats 4000000 in
theorem hX5_fill {X : sp_X} (hX : sp_OK shX X cX5_fill RX5 3 rmX5_fill) {τ : sp_St} (hR : sp_Rv shX X τ 0 0) {n : Nat}  {σ : sp_St} {a1 : Int32}  (hf : X5_fill n σ a1 = some τ) : sp_GG shX X σ 3 [some (.ref (sx_ad X 60)), some (.int a1), none] [] 0 0 0 := by
  unfold X5_fill at hf
  refine sp_aload_n (i := 0) (q := 1) hX dX5_fill_0 rfl rfl rfl ?_
  refine sp_gets (t := 61) (q := 4) hX flX5_11 fkX5_1 atX_60 srX_60_1 dX5_fill_1 rfl ?_
  refine sp_iconst (v := 0) (q := 5) hX dX5_fill_4 li_0 rfl ?_
  refine sp_iconst (v := 0) (q := 6) hX dX5_fill_5 li_0 rfl ?_
  obtain ⟨σ1, e2, hf⟩ := sp_pl_some hf
  refine sp_iast (q := 7) hX arX_61 (by decide) dX5_fill_6 rfl ?_
  refine sp_nms e2 ?_
  refine sp_iconst (v := 1) (q := 8) hX dX5_fill_7 li_1 rfl ?_
  obtain ⟨x3, e4, hf⟩ := sp_pl_some hf
  refine sp_nmi e4 ?_
  refine sp_istore_n (i := 2) (lv' := [some (.ref (sx_ad X 60)), some (.int a1), some (.int x3)]) (q := 9) hX dX5_fill_8 rfl (Nat.le_of_ble_eq_true rfl) rfl rfl rfl ?_
  exact hX5_fill_9 hX hR n σ1 a1 x3 hf
set_option maxRecDepth 100000 in
set_option maxHeartbeats 4000000 in
theorem cnX5_fill {l : Launch} (hst : l.stackTraces = false) {w : sp_Wd} {n : Nat}  {σ : sp_St} {a1 : Int32} {τ : sp_St}  (hf : X5_fill n σ a1 = some τ) : sp_Cv shX l w yX5_fill cX5_fill 3 rmX5_fill 0 0 σ [.ref (w.2.1 60), .int a1] τ :=
  sp_cv (own := RX5) (by decide) rfl hst (Nat.le_of_ble_eq_true rfl) rfl (fun X hX hw hl hR => by subst hw; subst hl; exact hX5_fill hX hR   hf)
def rmX5_goesInto : Room := { frames := 3, cells := 0, slots := 0, locals := 69 }
def X5_goesInto (n : Nat)  (σ : sp_St) (a1 : Int32) : Option (sp_St × Int32) :=
  sp_bv (X5_fill n σ a1) fun σ2 =>
  sp_ck (sp_in a1 1024) <|
  sp_pl (if ((640 : Int32)) ≤ (sp_g σ2 61 a1) then ((0 : Int32)) else ((1 : Int32))) fun v4 =>
  sp_ck (sp_zb v4) <|
  some (σ2, v4)
set_option maxRecDepth 100000 in
set_option maxHeartbeats 4000000 in
theorem hX5_goesInto {X : sp_X} (hX : sp_OK shX X cX5_goesInto RX5 2 rmX5_goesInto) {τ : sp_St} {r : Int32} (hR : sp_Ri shX X (some .boolean) τ r 0 0) {n : Nat}  {σ : sp_St} {a1 : Int32}  (hf : X5_goesInto n σ a1 = some (τ, r)) : sp_GG shX X σ 2 [some (.ref (sx_ad X 60)), some (.int a1)] [] 0 0 0 := by
  unfold X5_goesInto at hf
  refine sp_aload_n (i := 0) (q := 1) hX dX5_goesInto_0 rfl rfl rfl ?_
  refine sp_iload_n (i := 1) (q := 2) hX dX5_goesInto_1 rfl rfl rfl ?_
  obtain ⟨σ2, h1, hf⟩ := sp_bv_so hf
  refine sp_callVv (As := [.int a1]) (rest := []) (q := 5) hX (cnX5_fill (sp_st hX)  h1) cwX5_68 atX_60 rfl rfl rfl rfl rfl (Nat.le_of_ble_eq_true rfl) (Nat.le_of_ble_eq_true rfl) (Nat.le_of_ble_eq_true rfl) (Nat.le_of_ble_eq_true rfl) (Nat.le_of_ble_eq_true rfl) dX5_goesInto_2 rfl ?_
  refine sp_aload_n (i := 0) (q := 6) hX dX5_goesInto_5 rfl rfl rfl ?_
  refine sp_gets (t := 61) (q := 9) hX flX5_11 fkX5_1 atX_60 srX_60_1 dX5_goesInto_6 rfl ?_
  refine sp_iload_n (i := 1) (q := 10) hX dX5_goesInto_9 rfl rfl rfl ?_
  obtain ⟨h3, hf⟩ := sp_ck_some hf
  refine sp_iald (q := 11) hX arX_61 h3 dX5_goesInto_10 rfl ?_
  refine sp_sipush (v := 640) (q := 14) hX dX5_goesInto_11 ls_640 rfl ?_
  obtain ⟨v4, e5, hf⟩ := sp_pl_some hf
  have hj7 : sp_GG shX X σ2 2 [some (.ref (sx_ad X 60)), some (.int a1)] [.int v4] 22 0 0 := by
    obtain ⟨h6, hf⟩ := sp_ck_some hf
    exact sp_zret hX hR h6 dX5_goesInto_22 hf (Nat.le_of_ble_eq_true rfl) (Nat.le_of_ble_eq_true rfl)
  refine sp_icmp_ge (tgt := 21) (q := 17) hX dX5_goesInto_14 (by decide) rfl (fun hc => ?_) (fun hc => ?_)
  · refine sp_iconst (v := 0) (q := 22) hX dX5_goesInto_21 li_0 rfl ?_
    exact sp_nmi (by rw [e5, if_pos hc]) hj7
  · refine sp_iconst (v := 1) (q := 18) hX dX5_goesInto_17 li_1 rfl ?_
    refine sp_goto (tgt := 22) hX dX5_goesInto_18 (by decide) ?_
    exact sp_nmi (by rw [e5, if_neg hc]) hj7
set_option maxRecDepth 100000 in
set_option maxHeartbeats 4000000 in
theorem cnX5_goesInto {l : Launch} (hst : l.stackTraces = false) {w : sp_Wd} {n : Nat}  {σ : sp_St} {a1 : Int32} {τ : sp_St} {r : Int32}  (hf : X5_goesInto n σ a1 = some (τ, r)) : sp_Ci shX l w yX5_goesInto cX5_goesInto 2 (some .boolean) rmX5_goesInto 0 0 σ [.ref (w.2.1 60), .int a1] τ r :=
  sp_ci (own := RX5) (by decide) rfl hst (Nat.le_of_ble_eq_true rfl) rfl (fun X hX hw hl hR => by subst hw; subst hl; exact hX5_goesInto hX hR   hf)
def rmX5_weighFrom : Room := { frames := 3, cells := 0, slots := 0, locals := 69 }
def X5_weighFrom_87 (n : Nat) (σ : sp_St) : Option (sp_St) :=
  some σ
def X5_weighFrom_81 (n : Nat) (k30 : sp_St → Int32 → Int32 → Option (sp_St)) (σ : sp_St) (z2 : Int32) (z3 : Int32) : Option (sp_St) :=
  sp_pl (z3 + 1) fun x1 =>
  k30 σ z2 x1
def X5_weighFrom_80 (n : Nat) (k30 : sp_St → Int32 → Int32 → Option (sp_St)) (σ : sp_St) (z2 : Int32) (z3 : Int32) (zs0 : Int32) (zs1 : Int32) : Option (sp_St) :=
  sp_ck (sp_in zs1 1024) <|
  sp_pl (sp_sa σ 62 zs1.toNatClampNeg zs0) fun σ2 =>
  X5_weighFrom_81 n k30 σ2 z2 z3
def X5_weighFrom_30 (n : Nat) : Nat → sp_St → Int32 → Int32 → Option (sp_St)
  | 0, _, _, _ => none
  | f + 1, σ, z2, z3 =>
    if z2 < z3 then
      X5_weighFrom_87 n σ
    else
      if ((1024 : Int32)) ≤ z3 then
        X5_weighFrom_87 n σ
      else
        if (z3 &&& (z2 ^^^ ((-1 : Int32)))) = 0 then
          sp_ck (sp_in z3 1024) <|
          if ((640 : Int32)) ≤ (sp_g σ 61 z3) then
            sp_bd (X5_mostWithoutOne n σ z3) fun σ3 v4 =>
            X5_weighFrom_80 n (X5_weighFrom_30 n f) σ3 z2 z3 v4 z3
          else
            sp_bd (X5_angerOf n σ z3) fun σ6 v7 =>
            X5_weighFrom_80 n (X5_weighFrom_30 n f) σ6 z2 z3 v7 z3
        else
          X5_weighFrom_81 n (X5_weighFrom_30 n f) σ z2 z3
def X5_weighFrom (n : Nat)  (σ : sp_St) (a1 : Int32) (a2 : Int32) : Option (sp_St) :=
  sp_pl (σ.2.1 23 0) fun c1 =>
  sp_ck (sp_isc c1) <|
  sp_bd (X5_roomIn n σ (((((1 : Int32)) <<< ((σ.1 c1 14) &&& 31)) - ((1 : Int32))) &&& (((-1 : Int32)) <<< (a1 &&& 31)))) fun σ5 v6 =>
  sp_bv (X5_fill n σ5 a2) fun σ8 =>
  sp_pl ((0 : Int32)) fun x9 =>
  X5_weighFrom_30 n n σ8 a2 x9
set_option maxRecDepth 100000 in
set_option maxHeartbeats 4000000 in
theorem hX5_weighFrom_87 {X : sp_X} (hX : sp_OK shX X cX5_weighFrom RX5 4 rmX5_weighFrom) {τ : sp_St} (hR : sp_Rv shX X τ 0 0) {n : Nat}    {σ : sp_St} (hf : X5_weighFrom_87 n σ = some τ) : sp_GG shX X σ 4 [none, none, none, none] [] 87 0 0 := by
  unfold X5_weighFrom_87 at hf
  exact sp_vret hX hR dX5_weighFrom_87 hf (Nat.le_of_ble_eq_true rfl) (Nat.le_of_ble_eq_true rfl)
set_option maxRecDepth 100000 in
set_option maxHeartbeats 4000000 in
theorem hX5_weighFrom_81 {X : sp_X} (hX : sp_OK shX X cX5_weighFrom RX5 4 rmX5_weighFrom) {τ : sp_St} (hR : sp_Rv shX X τ 0 0) {n : Nat}   {k30 : sp_St → Int32 → Int32 → Option (sp_St)} (hk30 : ∀ (σ : sp_St) (z2 : Int32) (z3 : Int32), k30 σ z2 z3 = some τ → sp_GG shX X σ 4 [some (.ref (sx_ad X 60)), none, some (.int z2), some (.int z3)] [] 30 0 0) {σ : sp_St} {z2 : Int32} {z3 : Int32} (hf : X5_weighFrom_81 n k30 σ z2 z3 = some τ) : sp_GG shX X σ 4 [some (.ref (sx_ad X 60)), none, some (.int z2), some (.int z3)] [] 81 0 0 := by
  unfold X5_weighFrom_81 at hf
  obtain ⟨x1, e2, hf⟩ := sp_pl_some hf
  refine sp_iinc (i := 3) (v := x1) (lv' := [some (.ref (sx_ad X 60)), none, some (.int z2), some (.int x1)]) (q := 84) hX dX5_weighFrom_81 rfl (by rw [e2, li_1]) (Nat.le_of_ble_eq_true rfl) rfl rfl rfl ?_
  refine sp_goto (tgt := 30) hX dX5_weighFrom_84 (by decide) ?_
  exact hk30 σ z2 x1 hf
set_option maxRecDepth 100000 in
set_option maxHeartbeats 4000000 in
theorem hX5_weighFrom_80 {X : sp_X} (hX : sp_OK shX X cX5_weighFrom RX5 4 rmX5_weighFrom) {τ : sp_St} (hR : sp_Rv shX X τ 0 0) {n : Nat}   {k30 : sp_St → Int32 → Int32 → Option (sp_St)} (hk30 : ∀ (σ : sp_St) (z2 : Int32) (z3 : Int32), k30 σ z2 z3 = some τ → sp_GG shX X σ 4 [some (.ref (sx_ad X 60)), none, some (.int z2), some (.int z3)] [] 30 0 0) {σ : sp_St} {z2 : Int32} {z3 : Int32} {zs0 : Int32} {zs1 : Int32} (hf : X5_weighFrom_80 n k30 σ z2 z3 zs0 zs1 = some τ) : sp_GG shX X σ 4 [some (.ref (sx_ad X 60)), none, some (.int z2), some (.int z3)] [.int zs0, .int zs1, .ref (sx_ad X 62)] 80 0 0 := by
  unfold X5_weighFrom_80 at hf
  obtain ⟨h1, hf⟩ := sp_ck_some hf
  obtain ⟨σ2, e3, hf⟩ := sp_pl_some hf
  refine sp_iast (q := 81) hX arX_62 h1 dX5_weighFrom_80 rfl ?_
  refine sp_nms e3 ?_
  exact hX5_weighFrom_81 hX hR hk30 hf
set_option maxRecDepth 100000 in
set_option maxHeartbeats 4000000 in
theorem hX5_weighFrom_30 {X : sp_X} (hX : sp_OK shX X cX5_weighFrom RX5 4 rmX5_weighFrom) {τ : sp_St} (hR : sp_Rv shX X τ 0 0) {n : Nat}    : ∀ (f : Nat) (σ : sp_St) (z2 : Int32) (z3 : Int32), X5_weighFrom_30 n f σ z2 z3 = some τ → sp_GG shX X σ 4 [some (.ref (sx_ad X 60)), none, some (.int z2), some (.int z3)] [] 30 0 0 := by
  intro f
  induction f with
  | zero =>
    intro σ z2 z3 hf
    rw [X5_weighFrom_30] at hf
    cases hf
  | succ f ih =>
    intro σ z2 z3 hf
    rw [X5_weighFrom_30] at hf
    refine sp_iload_n (i := 3) (q := 31) hX dX5_weighFrom_30 rfl rfl rfl ?_
    refine sp_iload_n (i := 2) (q := 32) hX dX5_weighFrom_31 rfl rfl rfl ?_
    refine sp_icmp_gt (tgt := 87) (q := 35) hX dX5_weighFrom_32 (by decide) rfl (fun hc => ?_) (fun hc => ?_)
    · rw [if_pos hc] at hf
      refine sp_drop (lv' := [none, none, none, none]) trivial ?_
      exact hX5_weighFrom_87 hX hR hf
    · rw [if_neg hc] at hf
      refine sp_iload_n (i := 3) (q := 36) hX dX5_weighFrom_35 rfl rfl rfl ?_
      refine sp_sipush (v := 1024) (q := 39) hX dX5_weighFrom_36 ls_1024 rfl ?_
      refine sp_icmp_ge (tgt := 87) (q := 42) hX dX5_weighFrom_39 (by decide) rfl (fun hc => ?_) (fun hc => ?_)
      · rw [if_pos hc] at hf
        refine sp_drop (lv' := [none, none, none, none]) trivial ?_
        exact hX5_weighFrom_87 hX hR hf
      · rw [if_neg hc] at hf
        refine sp_iload_n (i := 3) (q := 43) hX dX5_weighFrom_42 rfl rfl rfl ?_
        refine sp_iload_n (i := 2) (q := 44) hX dX5_weighFrom_43 rfl rfl rfl ?_
        refine sp_iconst (v := -1) (q := 45) hX dX5_weighFrom_44 li_m1 rfl ?_
        refine sp_ixor (q := 46) hX dX5_weighFrom_45 rfl ?_
        refine sp_iand (q := 47) hX dX5_weighFrom_46 rfl ?_
        refine sp_if_ne (tgt := 81) (q := 50) hX dX5_weighFrom_47 (by decide) rfl (fun hc => ?_) (fun hc => ?_)
        · rw [if_neg hc] at hf
          exact hX5_weighFrom_81 hX hR ih hf
        · rw [if_pos hc] at hf
          refine sp_aload_n (i := 0) (q := 51) hX dX5_weighFrom_50 rfl rfl rfl ?_
          refine sp_gets (t := 62) (q := 54) hX flX5_15 fkX5_2 atX_60 srX_60_2 dX5_weighFrom_51 rfl ?_
          refine sp_iload_n (i := 3) (q := 55) hX dX5_weighFrom_54 rfl rfl rfl ?_
          refine sp_aload_n (i := 0) (q := 56) hX dX5_weighFrom_55 rfl rfl rfl ?_
          refine sp_gets (t := 61) (q := 59) hX flX5_11 fkX5_1 atX_60 srX_60_1 dX5_weighFrom_56 rfl ?_
          refine sp_iload_n (i := 3) (q := 60) hX dX5_weighFrom_59 rfl rfl rfl ?_
          obtain ⟨h1, hf⟩ := sp_ck_some hf
          refine sp_iald (q := 61) hX arX_61 h1 dX5_weighFrom_60 rfl ?_
          refine sp_sipush (v := 640) (q := 64) hX dX5_weighFrom_61 ls_640 rfl ?_
          refine sp_icmp_ge (tgt := 75) (q := 67) hX dX5_weighFrom_64 (by decide) rfl (fun hc => ?_) (fun hc => ?_)
          · rw [if_pos hc] at hf
            refine sp_aload_n (i := 0) (q := 76) hX dX5_weighFrom_75 rfl rfl rfl ?_
            refine sp_iload_n (i := 3) (q := 77) hX dX5_weighFrom_76 rfl rfl rfl ?_
            obtain ⟨σ3, v4, h2, hf⟩ := sp_bd_so hf
            refine sp_callVi (As := [.int z3]) (rest := [.int z3, .ref (sx_ad X 62)]) (q := 80) hX (cnX5_mostWithoutOne (sp_st hX)  h2) cwX5_75 atX_60 rfl rfl rfl rfl rfl (Nat.le_of_ble_eq_true rfl) (Nat.le_of_ble_eq_true rfl) (Nat.le_of_ble_eq_true rfl) (Nat.le_of_ble_eq_true rfl) (Nat.le_of_ble_eq_true rfl) dX5_weighFrom_77 rfl ?_
            exact hX5_weighFrom_80 hX hR ih hf
          · rw [if_neg hc] at hf
            refine sp_aload_n (i := 0) (q := 68) hX dX5_weighFrom_67 rfl rfl rfl ?_
            refine sp_iload_n (i := 3) (q := 69) hX dX5_weighFrom_68 rfl rfl rfl ?_
            obtain ⟨σ6, v7, h5, hf⟩ := sp_bd_so hf
            refine sp_callVi (As := [.int z3]) (rest := [.int z3, .ref (sx_ad X 62)]) (q := 72) hX (cnX5_angerOf (sp_st hX)  h5) cwX5_49 atX_60 rfl rfl rfl rfl rfl (Nat.le_of_ble_eq_true rfl) (Nat.le_of_ble_eq_true rfl) (Nat.le_of_ble_eq_true rfl) (Nat.le_of_ble_eq_true rfl) (Nat.le_of_ble_eq_true rfl) dX5_weighFrom_69 rfl ?_
            refine sp_goto (tgt := 80) hX dX5_weighFrom_72 (by decide) ?_
            exact hX5_weighFrom_80 hX hR ih hf
set_option maxRecDepth 100000 in
set_option maxHeartbeats 4000000 in
theorem hX5_weighFrom {X : sp_X} (hX : sp_OK shX X cX5_weighFrom RX5 4 rmX5_weighFrom) {τ : sp_St} (hR : sp_Rv shX X τ 0 0) {n : Nat}  {σ : sp_St} {a1 : Int32} {a2 : Int32}  (hf : X5_weighFrom n σ a1 a2 = some τ) : sp_GG shX X σ 4 [some (.ref (sx_ad X 60)), some (.int a1), some (.int a2), none] [] 0 0 0 := by
  unfold X5_weighFrom at hf
  refine sp_aload_n (i := 0) (q := 1) hX dX5_weighFrom_0 rfl rfl rfl ?_
  refine sp_iconst (v := 1) (q := 2) hX dX5_weighFrom_1 li_1 rfl ?_
  refine sp_aload_n (i := 0) (q := 3) hX dX5_weighFrom_2 rfl rfl rfl ?_
  refine sp_gets (t := 23) (q := 6) hX flX5_21 fkX5_0 atX_60 srX_60_0 dX5_weighFrom_3 rfl ?_
  obtain ⟨c1, e3, hf⟩ := sp_pl_some hf
  obtain ⟨h2, hf⟩ := sp_ck_some hf
  refine sp_getr (q := 9) hX flX5_35 fkX8_0 atX_23 dX5_weighFrom_6 rfl ?_
  refine sp_nmr e3 ?_
  refine sp_geti (q := 12) hX flX5_39 fkX2_14 (sp_isc_at h2) dX5_weighFrom_9 rfl ?_
  refine sp_ishl (q := 13) hX dX5_weighFrom_12 rfl ?_
  refine sp_iconst (v := 1) (q := 14) hX dX5_weighFrom_13 li_1 rfl ?_
  refine sp_isub (q := 15) hX dX5_weighFrom_14 rfl ?_
  refine sp_iconst (v := -1) (q := 16) hX dX5_weighFrom_15 li_m1 rfl ?_
  refine sp_iload_n (i := 1) (q := 17) hX dX5_weighFrom_16 rfl rfl rfl ?_
  refine sp_ishl (q := 18) hX dX5_weighFrom_17 rfl ?_
  refine sp_iand (q := 19) hX dX5_weighFrom_18 rfl ?_
  obtain ⟨σ5, v6, h4, hf⟩ := sp_bd_so hf
  refine sp_callVi (As := [.int (((((1 : Int32)) <<< ((σ.1 c1 14) &&& 31)) - ((1 : Int32))) &&& (((-1 : Int32)) <<< (a1 &&& 31)))]) (rest := []) (q := 22) hX (cnX5_roomIn (sp_st hX)  h4) cwX5_61 atX_60 rfl rfl rfl rfl rfl (Nat.le_of_ble_eq_true rfl) (Nat.le_of_ble_eq_true rfl) (Nat.le_of_ble_eq_true rfl) (Nat.le_of_ble_eq_true rfl) (Nat.le_of_ble_eq_true rfl) dX5_weighFrom_19 rfl ?_
  refine sp_pop (q := 23) hX dX5_weighFrom_22 rfl rfl ?_
  refine sp_aload_n (i := 0) (q := 24) hX dX5_weighFrom_23 rfl rfl rfl ?_
  refine sp_iload_n (i := 2) (q := 25) hX dX5_weighFrom_24 rfl rfl rfl ?_
  obtain ⟨σ8, h7, hf⟩ := sp_bv_so hf
  refine sp_callVv (As := [.int a2]) (rest := []) (q := 28) hX (cnX5_fill (sp_st hX)  h7) cwX5_68 atX_60 rfl rfl rfl rfl rfl (Nat.le_of_ble_eq_true rfl) (Nat.le_of_ble_eq_true rfl) (Nat.le_of_ble_eq_true rfl) (Nat.le_of_ble_eq_true rfl) (Nat.le_of_ble_eq_true rfl) dX5_weighFrom_25 rfl ?_
  refine sp_iconst (v := 0) (q := 29) hX dX5_weighFrom_28 li_0 rfl ?_
  obtain ⟨x9, e10, hf⟩ := sp_pl_some hf
  refine sp_nmi e10 ?_
  refine sp_istore_n (i := 3) (lv' := [some (.ref (sx_ad X 60)), some (.int a1), some (.int a2), some (.int x9)]) (q := 30) hX dX5_weighFrom_29 rfl (Nat.le_of_ble_eq_true rfl) rfl rfl rfl ?_
  refine sp_drop (lv' := [some (.ref (sx_ad X 60)), none, some (.int a2), some (.int x9)]) (And.intro rfl (And.intro rfl (And.intro rfl trivial))) ?_
  exact hX5_weighFrom_30 hX hR n σ8 a2 x9 hf
set_option maxRecDepth 100000 in
set_option maxHeartbeats 4000000 in
theorem cnX5_weighFrom {l : Launch} (hst : l.stackTraces = false) {w : sp_Wd} {n : Nat}  {σ : sp_St} {a1 : Int32} {a2 : Int32} {τ : sp_St}  (hf : X5_weighFrom n σ a1 a2 = some τ) : sp_Cv shX l w yX5_weighFrom cX5_weighFrom 4 rmX5_weighFrom 0 0 σ [.ref (w.2.1 60), .int a1, .int a2] τ :=
  sp_cv (own := RX5) (by decide) rfl hst (Nat.le_of_ble_eq_true rfl) rfl (fun X hX hw hl hR => by subst hw; subst hl; exact hX5_weighFrom hX hR   hf)
def rmX5_mostAnger : Room := { frames := 4, cells := 0, slots := 0, locals := 92 }
def X5_mostAnger (n : Nat)  (σ : sp_St)  : Option (sp_St × Int32) :=
  sp_bd (X8_bladesOut n σ 23) fun σ2 v3 =>
  sp_bv (X5_weighFrom n σ2 ((0 : Int32)) v3) fun σ5 =>
  sp_ck (sp_in v3 1024) <|
  some (σ5, sp_g σ5 62 v3)
set_option maxRecDepth 100000 in
set_option maxHeartbeats 4000000 in
theorem hX5_mostAnger {X : sp_X} (hX : sp_OK shX X cX5_mostAnger RX5 2 rmX5_mostAnger) {τ : sp_St} {r : Int32} (hR : sp_Ri shX X (some .int) τ r 0 0) {n : Nat}  {σ : sp_St}   (hf : X5_mostAnger n σ = some (τ, r)) : sp_GG shX X σ 2 [some (.ref (sx_ad X 60)), none] [] 0 0 0 := by
  unfold X5_mostAnger at hf
  refine sp_aload_n (i := 0) (q := 1) hX dX5_mostAnger_0 rfl rfl rfl ?_
  refine sp_gets (t := 23) (q := 4) hX flX5_21 fkX5_0 atX_60 srX_60_0 dX5_mostAnger_1 rfl ?_
  obtain ⟨σ2, v3, h1, hf⟩ := sp_bd_so hf
  refine sp_callVi (As := []) (rest := []) (q := 7) hX (cnX8_bladesOut (sp_st hX) atX_23 h1) cwX5_25 atX_23 rfl rfl rfl rfl rfl (Nat.le_of_ble_eq_true rfl) (Nat.le_of_ble_eq_true rfl) (Nat.le_of_ble_eq_true rfl) (Nat.le_of_ble_eq_true rfl) (Nat.le_of_ble_eq_true rfl) dX5_mostAnger_4 rfl ?_
  refine sp_istore_n (i := 1) (lv' := [some (.ref (sx_ad X 60)), some (.int v3)]) (q := 8) hX dX5_mostAnger_7 rfl (Nat.le_of_ble_eq_true rfl) rfl rfl rfl ?_
  refine sp_aload_n (i := 0) (q := 9) hX dX5_mostAnger_8 rfl rfl rfl ?_
  refine sp_iconst (v := 0) (q := 10) hX dX5_mostAnger_9 li_0 rfl ?_
  refine sp_iload_n (i := 1) (q := 11) hX dX5_mostAnger_10 rfl rfl rfl ?_
  obtain ⟨σ5, h4, hf⟩ := sp_bv_so hf
  refine sp_callVv (As := [.int ((0 : Int32)), .int v3]) (rest := []) (q := 14) hX (cnX5_weighFrom (sp_st hX)  h4) cwX5_31 atX_60 rfl rfl rfl rfl rfl (Nat.le_of_ble_eq_true rfl) (Nat.le_of_ble_eq_true rfl) (Nat.le_of_ble_eq_true rfl) (Nat.le_of_ble_eq_true rfl) (Nat.le_of_ble_eq_true rfl) dX5_mostAnger_11 rfl ?_
  refine sp_aload_n (i := 0) (q := 15) hX dX5_mostAnger_14 rfl rfl rfl ?_
  refine sp_gets (t := 62) (q := 18) hX flX5_15 fkX5_2 atX_60 srX_60_2 dX5_mostAnger_15 rfl ?_
  refine sp_iload_n (i := 1) (q := 19) hX dX5_mostAnger_18 rfl rfl rfl ?_
  obtain ⟨h6, hf⟩ := sp_ck_some hf
  refine sp_iald (q := 20) hX arX_62 h6 dX5_mostAnger_19 rfl ?_
  exact sp_iret hX hR dX5_mostAnger_20 hf (Nat.le_of_ble_eq_true rfl) (Nat.le_of_ble_eq_true rfl)
set_option maxRecDepth 100000 in
set_option maxHeartbeats 4000000 in
theorem cnX5_mostAnger {l : Launch} (hst : l.stackTraces = false) {w : sp_Wd} {n : Nat}  {σ : sp_St}  {τ : sp_St} {r : Int32}  (hf : X5_mostAnger n σ = some (τ, r)) : sp_Ci shX l w yX5_mostAnger cX5_mostAnger 2 (some .int) rmX5_mostAnger 0 0 σ [.ref (w.2.1 60)] τ r :=
  sp_ci (own := RX5) (by decide) rfl hst (Nat.le_of_ble_eq_true rfl) rfl (fun X hX hw hl hR => by subst hw; subst hl; exact hX5_mostAnger hX hR   hf)
def rmX5_bestSwallower : Room := { frames := 4, cells := 0, slots := 0, locals := 92 }
def X5_bestSwallower_92 (n : Nat) (σ : sp_St) : Option (sp_St × Int32) :=
  some (σ, (-1 : Int32))
def X5_bestSwallower_67 (n : Nat) (σ : sp_St) (z4 : Int32) : Option (sp_St × Int32) :=
  some (σ, z4)
def X5_bestSwallower_24 (n : Nat) : Nat → sp_St → Int32 → Int32 → Int32 → Int32 → Option (sp_St × Int32)
  | 0, _, _, _, _, _ => none
  | f + 1, σ, z1, z2, z3, z4 =>
    sp_pl (σ.2.1 23 0) fun c1 =>
    sp_ck (sp_isc c1) <|
    if (σ.1 c1 14) ≤ z4 then
      X5_bestSwallower_92 n σ
    else
      sp_bv (X5_weighFrom n σ (z4 + ((1 : Int32))) z2) fun σ5 =>
      sp_bd (X5_leastSet n σ5 z4 z2 z3) fun σ7 v8 =>
      if ((v8 >>> (z1 &&& 31)) &&& ((1 : Int32))) = 0 then
        sp_pl (z2 &&& (v8 ^^^ ((-1 : Int32)))) fun x9 =>
        sp_bd (X5_angerOf n σ7 v8) fun σ12 v13 =>
        sp_pl (z3 - v13) fun x14 =>
        sp_pl (z4 + 1) fun x16 =>
        X5_bestSwallower_24 n f σ12 z1 x9 x14 x16
      else
        X5_bestSwallower_67 n σ7 z4
def X5_bestSwallower (n : Nat)  (σ : sp_St) (a1 : Int32) : Option (sp_St × Int32) :=
  sp_bd (X8_bladesOut n σ 23) fun σ2 v3 =>
  sp_bv (X5_weighFrom n σ2 ((0 : Int32)) v3) fun σ5 =>
  sp_ck (sp_in v3 1024) <|
  sp_pl (sp_g σ5 62 v3) fun x7 =>
  sp_pl ((0 : Int32)) fun x9 =>
  X5_bestSwallower_24 n n σ5 a1 v3 x7 x9
set_option maxRecDepth 100000 in
set_option maxHeartbeats 4000000 in
theorem hX5_bestSwallower_92 {X : sp_X} (hX : sp_OK shX X cX5_bestSwallower RX5 6 rmX5_bestSwallower) {τ : sp_St} {r : Int32} (hR : sp_Ri shX X (some .int) τ r 0 0) {n : Nat}    {σ : sp_St} (hf : X5_bestSwallower_92 n σ = some (τ, r)) : sp_GG shX X σ 6 [none, none, none, none, none, none] [] 92 0 0 := by
  unfold X5_bestSwallower_92 at hf
  refine sp_iconst (v := -1) (q := 93) hX dX5_bestSwallower_92 li_m1 rfl ?_
  exact sp_iret hX hR dX5_bestSwallower_93 hf (Nat.le_of_ble_eq_true rfl) (Nat.le_of_ble_eq_true rfl)
set_option maxRecDepth 100000 in
set_option maxHeartbeats 4000000 in
theorem hX5_bestSwallower_67 {X : sp_X} (hX : sp_OK shX X cX5_bestSwallower RX5 6 rmX5_bestSwallower) {τ : sp_St} {r : Int32} (hR : sp_Ri shX X (some .int) τ r 0 0) {n : Nat}    {σ : sp_St} {z4 : Int32} (hf : X5_bestSwallower_67 n σ z4 = some (τ, r)) : sp_GG shX X σ 6 [none, none, none, none, some (.int z4), none] [] 67 0 0 := by
  unfold X5_bestSwallower_67 at hf
  refine sp_iload (i := 4) (q := 69) hX dX5_bestSwallower_67 rfl rfl ?_
  exact sp_iret hX hR dX5_bestSwallower_69 hf (Nat.le_of_ble_eq_true rfl) (Nat.le_of_ble_eq_true rfl)
set_option maxRecDepth 100000 in
set_option maxHeartbeats 4000000 in
theorem hX5_bestSwallower_24 {X : sp_X} (hX : sp_OK shX X cX5_bestSwallower RX5 6 rmX5_bestSwallower) {τ : sp_St} {r : Int32} (hR : sp_Ri shX X (some .int) τ r 0 0) {n : Nat}    : ∀ (f : Nat) (σ : sp_St) (z1 : Int32) (z2 : Int32) (z3 : Int32) (z4 : Int32), X5_bestSwallower_24 n f σ z1 z2 z3 z4 = some (τ, r) → sp_GG shX X σ 6 [some (.ref (sx_ad X 60)), some (.int z1), some (.int z2), some (.int z3), some (.int z4), none] [] 24 0 0 := by
  intro f
  induction f with
  | zero =>
    intro σ z1 z2 z3 z4 hf
    rw [X5_bestSwallower_24] at hf
    cases hf
  | succ f ih =>
    intro σ z1 z2 z3 z4 hf
    rw [X5_bestSwallower_24] at hf
    refine sp_iload (i := 4) (q := 26) hX dX5_bestSwallower_24 rfl rfl ?_
    refine sp_aload_n (i := 0) (q := 27) hX dX5_bestSwallower_26 rfl rfl rfl ?_
    refine sp_gets (t := 23) (q := 30) hX flX5_21 fkX5_0 atX_60 srX_60_0 dX5_bestSwallower_27 rfl ?_
    obtain ⟨c1, e3, hf⟩ := sp_pl_some hf
    obtain ⟨h2, hf⟩ := sp_ck_some hf
    refine sp_getr (q := 33) hX flX5_35 fkX8_0 atX_23 dX5_bestSwallower_30 rfl ?_
    refine sp_nmr e3 ?_
    refine sp_geti (q := 36) hX flX5_39 fkX2_14 (sp_isc_at h2) dX5_bestSwallower_33 rfl ?_
    refine sp_icmp_ge (tgt := 92) (q := 39) hX dX5_bestSwallower_36 (by decide) rfl (fun hc => ?_) (fun hc => ?_)
    · rw [if_pos hc] at hf
      refine sp_drop (lv' := [none, none, none, none, none, none]) trivial ?_
      exact hX5_bestSwallower_92 hX hR hf
    · rw [if_neg hc] at hf
      refine sp_aload_n (i := 0) (q := 40) hX dX5_bestSwallower_39 rfl rfl rfl ?_
      refine sp_iload (i := 4) (q := 42) hX dX5_bestSwallower_40 rfl rfl ?_
      refine sp_iconst (v := 1) (q := 43) hX dX5_bestSwallower_42 li_1 rfl ?_
      refine sp_iadd (q := 44) hX dX5_bestSwallower_43 rfl ?_
      refine sp_iload_n (i := 2) (q := 45) hX dX5_bestSwallower_44 rfl rfl rfl ?_
      obtain ⟨σ5, h4, hf⟩ := sp_bv_so hf
      refine sp_callVv (As := [.int (z4 + ((1 : Int32))), .int z2]) (rest := []) (q := 48) hX (cnX5_weighFrom (sp_st hX)  h4) cwX5_31 atX_60 rfl rfl rfl rfl rfl (Nat.le_of_ble_eq_true rfl) (Nat.le_of_ble_eq_true rfl) (Nat.le_of_ble_eq_true rfl) (Nat.le_of_ble_eq_true rfl) (Nat.le_of_ble_eq_true rfl) dX5_bestSwallower_45 rfl ?_
      refine sp_aload_n (i := 0) (q := 49) hX dX5_bestSwallower_48 rfl rfl rfl ?_
      refine sp_iload (i := 4) (q := 51) hX dX5_bestSwallower_49 rfl rfl ?_
      refine sp_iload_n (i := 2) (q := 52) hX dX5_bestSwallower_51 rfl rfl rfl ?_
      refine sp_iload_n (i := 3) (q := 53) hX dX5_bestSwallower_52 rfl rfl rfl ?_
      obtain ⟨σ7, v8, h6, hf⟩ := sp_bd_so hf
      refine sp_callVi (As := [.int z4, .int z2, .int z3]) (rest := []) (q := 56) hX (cnX5_leastSet (sp_st hX)  h6) cwX5_45 atX_60 rfl rfl rfl rfl rfl (Nat.le_of_ble_eq_true rfl) (Nat.le_of_ble_eq_true rfl) (Nat.le_of_ble_eq_true rfl) (Nat.le_of_ble_eq_true rfl) (Nat.le_of_ble_eq_true rfl) dX5_bestSwallower_53 rfl ?_
      refine sp_istore (i := 5) (lv' := [some (.ref (sx_ad X 60)), some (.int z1), some (.int z2), some (.int z3), some (.int z4), some (.int v8)]) (q := 58) hX dX5_bestSwallower_56 (Nat.le_of_ble_eq_true rfl) rfl rfl rfl ?_
      refine sp_iload (i := 5) (q := 60) hX dX5_bestSwallower_58 rfl rfl ?_
      refine sp_iload_n (i := 1) (q := 61) hX dX5_bestSwallower_60 rfl rfl rfl ?_
      refine sp_ishr (q := 62) hX dX5_bestSwallower_61 rfl ?_
      refine sp_iconst (v := 1) (q := 63) hX dX5_bestSwallower_62 li_1 rfl ?_
      refine sp_iand (q := 64) hX dX5_bestSwallower_63 rfl ?_
      refine sp_if_eq (tgt := 70) (q := 67) hX dX5_bestSwallower_64 (by decide) rfl (fun hc => ?_) (fun hc => ?_)
      · rw [if_pos hc] at hf
        refine sp_iload_n (i := 2) (q := 71) hX dX5_bestSwallower_70 rfl rfl rfl ?_
        refine sp_iload (i := 5) (q := 73) hX dX5_bestSwallower_71 rfl rfl ?_
        refine sp_iconst (v := -1) (q := 74) hX dX5_bestSwallower_73 li_m1 rfl ?_
        refine sp_ixor (q := 75) hX dX5_bestSwallower_74 rfl ?_
        refine sp_iand (q := 76) hX dX5_bestSwallower_75 rfl ?_
        obtain ⟨x9, e10, hf⟩ := sp_pl_some hf
        refine sp_nmi e10 ?_
        refine sp_istore_n (i := 2) (lv' := [some (.ref (sx_ad X 60)), some (.int z1), some (.int x9), some (.int z3), some (.int z4), some (.int v8)]) (q := 77) hX dX5_bestSwallower_76 rfl (Nat.le_of_ble_eq_true rfl) rfl rfl rfl ?_
        refine sp_iload_n (i := 3) (q := 78) hX dX5_bestSwallower_77 rfl rfl rfl ?_
        refine sp_aload_n (i := 0) (q := 79) hX dX5_bestSwallower_78 rfl rfl rfl ?_
        refine sp_iload (i := 5) (q := 81) hX dX5_bestSwallower_79 rfl rfl ?_
        obtain ⟨σ12, v13, h11, hf⟩ := sp_bd_so hf
        refine sp_callVi (As := [.int v8]) (rest := [.int z3]) (q := 84) hX (cnX5_angerOf (sp_st hX)  h11) cwX5_49 atX_60 rfl rfl rfl rfl rfl (Nat.le_of_ble_eq_true rfl) (Nat.le_of_ble_eq_true rfl) (Nat.le_of_ble_eq_true rfl) (Nat.le_of_ble_eq_true rfl) (Nat.le_of_ble_eq_true rfl) dX5_bestSwallower_81 rfl ?_
        refine sp_isub (q := 85) hX dX5_bestSwallower_84 rfl ?_
        obtain ⟨x14, e15, hf⟩ := sp_pl_some hf
        refine sp_nmi e15 ?_
        refine sp_istore_n (i := 3) (lv' := [some (.ref (sx_ad X 60)), some (.int z1), some (.int x9), some (.int x14), some (.int z4), some (.int v8)]) (q := 86) hX dX5_bestSwallower_85 rfl (Nat.le_of_ble_eq_true rfl) rfl rfl rfl ?_
        obtain ⟨x16, e17, hf⟩ := sp_pl_some hf
        refine sp_iinc (i := 4) (v := x16) (lv' := [some (.ref (sx_ad X 60)), some (.int z1), some (.int x9), some (.int x14), some (.int x16), some (.int v8)]) (q := 89) hX dX5_bestSwallower_86 rfl (by rw [e17, li_1]) (Nat.le_of_ble_eq_true rfl) rfl rfl rfl ?_
        refine sp_goto (tgt := 24) hX dX5_bestSwallower_89 (by decide) ?_
        refine sp_drop (lv' := [some (.ref (sx_ad X 60)), some (.int z1), some (.int x9), some (.int x14), some (.int x16), none]) (And.intro rfl (And.intro rfl (And.intro rfl (And.intro rfl (And.intro rfl trivial))))) ?_
        exact ih σ12 z1 x9 x14 x16 hf
      · rw [if_neg hc] at hf
        refine sp_drop (lv' := [none, none, none, none, some (.int z4), none]) (And.intro rfl trivial) ?_
        exact hX5_bestSwallower_67 hX hR hf
set_option maxRecDepth 100000 in
set_option maxHeartbeats 4000000 in
theorem hX5_bestSwallower {X : sp_X} (hX : sp_OK shX X cX5_bestSwallower RX5 6 rmX5_bestSwallower) {τ : sp_St} {r : Int32} (hR : sp_Ri shX X (some .int) τ r 0 0) {n : Nat}  {σ : sp_St} {a1 : Int32}  (hf : X5_bestSwallower n σ a1 = some (τ, r)) : sp_GG shX X σ 6 [some (.ref (sx_ad X 60)), some (.int a1), none, none, none, none] [] 0 0 0 := by
  unfold X5_bestSwallower at hf
  refine sp_aload_n (i := 0) (q := 1) hX dX5_bestSwallower_0 rfl rfl rfl ?_
  refine sp_gets (t := 23) (q := 4) hX flX5_21 fkX5_0 atX_60 srX_60_0 dX5_bestSwallower_1 rfl ?_
  obtain ⟨σ2, v3, h1, hf⟩ := sp_bd_so hf
  refine sp_callVi (As := []) (rest := []) (q := 7) hX (cnX8_bladesOut (sp_st hX) atX_23 h1) cwX5_25 atX_23 rfl rfl rfl rfl rfl (Nat.le_of_ble_eq_true rfl) (Nat.le_of_ble_eq_true rfl) (Nat.le_of_ble_eq_true rfl) (Nat.le_of_ble_eq_true rfl) (Nat.le_of_ble_eq_true rfl) dX5_bestSwallower_4 rfl ?_
  refine sp_istore_n (i := 2) (lv' := [some (.ref (sx_ad X 60)), some (.int a1), some (.int v3), none, none, none]) (q := 8) hX dX5_bestSwallower_7 rfl (Nat.le_of_ble_eq_true rfl) rfl rfl rfl ?_
  refine sp_aload_n (i := 0) (q := 9) hX dX5_bestSwallower_8 rfl rfl rfl ?_
  refine sp_iconst (v := 0) (q := 10) hX dX5_bestSwallower_9 li_0 rfl ?_
  refine sp_iload_n (i := 2) (q := 11) hX dX5_bestSwallower_10 rfl rfl rfl ?_
  obtain ⟨σ5, h4, hf⟩ := sp_bv_so hf
  refine sp_callVv (As := [.int ((0 : Int32)), .int v3]) (rest := []) (q := 14) hX (cnX5_weighFrom (sp_st hX)  h4) cwX5_31 atX_60 rfl rfl rfl rfl rfl (Nat.le_of_ble_eq_true rfl) (Nat.le_of_ble_eq_true rfl) (Nat.le_of_ble_eq_true rfl) (Nat.le_of_ble_eq_true rfl) (Nat.le_of_ble_eq_true rfl) dX5_bestSwallower_11 rfl ?_
  refine sp_aload_n (i := 0) (q := 15) hX dX5_bestSwallower_14 rfl rfl rfl ?_
  refine sp_gets (t := 62) (q := 18) hX flX5_15 fkX5_2 atX_60 srX_60_2 dX5_bestSwallower_15 rfl ?_
  refine sp_iload_n (i := 2) (q := 19) hX dX5_bestSwallower_18 rfl rfl rfl ?_
  obtain ⟨h6, hf⟩ := sp_ck_some hf
  refine sp_iald (q := 20) hX arX_62 h6 dX5_bestSwallower_19 rfl ?_
  obtain ⟨x7, e8, hf⟩ := sp_pl_some hf
  refine sp_nmi e8 ?_
  refine sp_istore_n (i := 3) (lv' := [some (.ref (sx_ad X 60)), some (.int a1), some (.int v3), some (.int x7), none, none]) (q := 21) hX dX5_bestSwallower_20 rfl (Nat.le_of_ble_eq_true rfl) rfl rfl rfl ?_
  refine sp_iconst (v := 0) (q := 22) hX dX5_bestSwallower_21 li_0 rfl ?_
  obtain ⟨x9, e10, hf⟩ := sp_pl_some hf
  refine sp_nmi e10 ?_
  refine sp_istore (i := 4) (lv' := [some (.ref (sx_ad X 60)), some (.int a1), some (.int v3), some (.int x7), some (.int x9), none]) (q := 24) hX dX5_bestSwallower_22 (Nat.le_of_ble_eq_true rfl) rfl rfl rfl ?_
  exact hX5_bestSwallower_24 hX hR n σ5 a1 v3 x7 x9 hf
set_option maxRecDepth 100000 in
set_option maxHeartbeats 4000000 in
theorem cnX5_bestSwallower {l : Launch} (hst : l.stackTraces = false) {w : sp_Wd} {n : Nat}  {σ : sp_St} {a1 : Int32} {τ : sp_St} {r : Int32}  (hf : X5_bestSwallower n σ a1 = some (τ, r)) : sp_Ci shX l w yX5_bestSwallower cX5_bestSwallower 6 (some .int) rmX5_bestSwallower 0 0 σ [.ref (w.2.1 60), .int a1] τ r :=
  sp_ci (own := RX5) (by decide) rfl hst (Nat.le_of_ble_eq_true rfl) rfl (fun X hX hw hl hR => by subst hw; subst hl; exact hX5_bestSwallower hX hR   hf)
def rmX5_fewestSwallowers : Room := { frames := 4, cells := 0, slots := 0, locals := 90 }
def X5_fewestSwallowers_88 (n : Nat) (σ : sp_St) : Option (sp_St × Int32) :=
  some (σ, (-1 : Int32))
def X5_fewestSwallowers_82 (n : Nat) (k28 : sp_St → Int32 → Int32 → Int32 → Int32 → Option (sp_St × Int32)) (σ : sp_St) (z1 : Int32) (z2 : Int32) (z3 : Int32) (z4 : Int32) : Option (sp_St × Int32) :=
  sp_pl (z4 + 1) fun x1 =>
  k28 σ z1 z2 z3 x1
def X5_fewestSwallowers_76 (n : Nat) (k28 : sp_St → Int32 → Int32 → Int32 → Int32 → Option (sp_St × Int32)) (k37 : sp_St → Int32 → Int32 → Int32 → Int32 → Int32 → Option (sp_St × Int32)) (σ : sp_St) (z1 : Int32) (z2 : Int32) (z3 : Int32) (z4 : Int32) (z5 : Int32) : Option (sp_St × Int32) :=
  sp_pl (z5 + 1) fun x1 =>
  k37 σ z1 z2 z3 z4 x1
def X5_fewestSwallowers_73 (n : Nat) (σ : sp_St) (z5 : Int32) : Option (sp_St × Int32) :=
  some (σ, z5)
def X5_fewestSwallowers_37 (n : Nat) (k28 : sp_St → Int32 → Int32 → Int32 → Int32 → Option (sp_St × Int32)) : Nat → sp_St → Int32 → Int32 → Int32 → Int32 → Int32 → Option (sp_St × Int32)
  | 0, _, _, _, _, _, _ => none
  | f + 1, σ, z1, z2, z3, z4, z5 =>
    if (((1 : Int32)) <<< (z3 &&& 31)) ≤ z5 then
      X5_fewestSwallowers_82 n k28 σ z1 z2 z3 z4
    else
      sp_bd (J6_bitCount_0f7a4 n σ z5) fun σ2 v3 =>
      if v3 = z4 then
        sp_bd (X5_roomIn n σ2 z5) fun σ5 v6 =>
        if v6 < z2 then
          X5_fewestSwallowers_76 n k28 (X5_fewestSwallowers_37 n k28 f) σ5 z1 z2 z3 z4 z5
        else
          sp_bd (X5_goesInto n σ5 z1) fun σ8 v9 =>
          if v9 = 0 then
            X5_fewestSwallowers_76 n k28 (X5_fewestSwallowers_37 n k28 f) σ8 z1 z2 z3 z4 z5
          else
            X5_fewestSwallowers_73 n σ8 z5
      else
        X5_fewestSwallowers_76 n k28 (X5_fewestSwallowers_37 n k28 f) σ2 z1 z2 z3 z4 z5
def X5_fewestSwallowers_28 (n : Nat) : Nat → sp_St → Int32 → Int32 → Int32 → Int32 → Option (sp_St × Int32)
  | 0, _, _, _, _, _ => none
  | f + 1, σ, z1, z2, z3, z4 =>
    if z3 < z4 then
      X5_fewestSwallowers_88 n σ
    else
      sp_pl ((0 : Int32)) fun x1 =>
      X5_fewestSwallowers_37 n (X5_fewestSwallowers_28 n f) n σ z1 z2 z3 z4 x1
def X5_fewestSwallowers (n : Nat)  (σ : sp_St)  : Option (sp_St × Int32) :=
  sp_bd (X8_bladesOut n σ 23) fun σ2 v3 =>
  sp_bd (X5_lengthOf n σ2 v3) fun σ5 v6 =>
  sp_pl (σ5.2.1 23 0) fun c7 =>
  sp_ck (sp_isc c7) <|
  sp_pl (σ5.1 c7 14) fun x10 =>
  sp_pl ((0 : Int32)) fun x12 =>
  X5_fewestSwallowers_28 n n σ5 v3 v6 x10 x12
set_option maxRecDepth 100000 in
set_option maxHeartbeats 4000000 in
theorem hX5_fewestSwallowers_88 {X : sp_X} (hX : sp_OK shX X cX5_fewestSwallowers RX5 6 rmX5_fewestSwallowers) {τ : sp_St} {r : Int32} (hR : sp_Ri shX X (some .int) τ r 0 0) {n : Nat}    {σ : sp_St} (hf : X5_fewestSwallowers_88 n σ = some (τ, r)) : sp_GG shX X σ 6 [none, none, none, none, none, none] [] 88 0 0 := by
  unfold X5_fewestSwallowers_88 at hf
  refine sp_iconst (v := -1) (q := 89) hX dX5_fewestSwallowers_88 li_m1 rfl ?_
  exact sp_iret hX hR dX5_fewestSwallowers_89 hf (Nat.le_of_ble_eq_true rfl) (Nat.le_of_ble_eq_true rfl)
set_option maxRecDepth 100000 in
set_option maxHeartbeats 4000000 in
theorem hX5_fewestSwallowers_82 {X : sp_X} (hX : sp_OK shX X cX5_fewestSwallowers RX5 6 rmX5_fewestSwallowers) {τ : sp_St} {r : Int32} (hR : sp_Ri shX X (some .int) τ r 0 0) {n : Nat}   {k28 : sp_St → Int32 → Int32 → Int32 → Int32 → Option (sp_St × Int32)} (hk28 : ∀ (σ : sp_St) (z1 : Int32) (z2 : Int32) (z3 : Int32) (z4 : Int32), k28 σ z1 z2 z3 z4 = some (τ, r) → sp_GG shX X σ 6 [some (.ref (sx_ad X 60)), some (.int z1), some (.int z2), some (.int z3), some (.int z4), none] [] 28 0 0) {σ : sp_St} {z1 : Int32} {z2 : Int32} {z3 : Int32} {z4 : Int32} (hf : X5_fewestSwallowers_82 n k28 σ z1 z2 z3 z4 = some (τ, r)) : sp_GG shX X σ 6 [some (.ref (sx_ad X 60)), some (.int z1), some (.int z2), some (.int z3), some (.int z4), none] [] 82 0 0 := by
  unfold X5_fewestSwallowers_82 at hf
  obtain ⟨x1, e2, hf⟩ := sp_pl_some hf
  refine sp_iinc (i := 4) (v := x1) (lv' := [some (.ref (sx_ad X 60)), some (.int z1), some (.int z2), some (.int z3), some (.int x1), none]) (q := 85) hX dX5_fewestSwallowers_82 rfl (by rw [e2, li_1]) (Nat.le_of_ble_eq_true rfl) rfl rfl rfl ?_
  refine sp_goto (tgt := 28) hX dX5_fewestSwallowers_85 (by decide) ?_
  exact hk28 σ z1 z2 z3 x1 hf
set_option maxRecDepth 100000 in
set_option maxHeartbeats 4000000 in
theorem hX5_fewestSwallowers_76 {X : sp_X} (hX : sp_OK shX X cX5_fewestSwallowers RX5 6 rmX5_fewestSwallowers) {τ : sp_St} {r : Int32} (hR : sp_Ri shX X (some .int) τ r 0 0) {n : Nat}   {k28 : sp_St → Int32 → Int32 → Int32 → Int32 → Option (sp_St × Int32)} (hk28 : ∀ (σ : sp_St) (z1 : Int32) (z2 : Int32) (z3 : Int32) (z4 : Int32), k28 σ z1 z2 z3 z4 = some (τ, r) → sp_GG shX X σ 6 [some (.ref (sx_ad X 60)), some (.int z1), some (.int z2), some (.int z3), some (.int z4), none] [] 28 0 0) {k37 : sp_St → Int32 → Int32 → Int32 → Int32 → Int32 → Option (sp_St × Int32)} (hk37 : ∀ (σ : sp_St) (z1 : Int32) (z2 : Int32) (z3 : Int32) (z4 : Int32) (z5 : Int32), k37 σ z1 z2 z3 z4 z5 = some (τ, r) → sp_GG shX X σ 6 [some (.ref (sx_ad X 60)), some (.int z1), some (.int z2), some (.int z3), some (.int z4), some (.int z5)] [] 37 0 0) {σ : sp_St} {z1 : Int32} {z2 : Int32} {z3 : Int32} {z4 : Int32} {z5 : Int32} (hf : X5_fewestSwallowers_76 n k28 k37 σ z1 z2 z3 z4 z5 = some (τ, r)) : sp_GG shX X σ 6 [some (.ref (sx_ad X 60)), some (.int z1), some (.int z2), some (.int z3), some (.int z4), some (.int z5)] [] 76 0 0 := by
  unfold X5_fewestSwallowers_76 at hf
  obtain ⟨x1, e2, hf⟩ := sp_pl_some hf
  refine sp_iinc (i := 5) (v := x1) (lv' := [some (.ref (sx_ad X 60)), some (.int z1), some (.int z2), some (.int z3), some (.int z4), some (.int x1)]) (q := 79) hX dX5_fewestSwallowers_76 rfl (by rw [e2, li_1]) (Nat.le_of_ble_eq_true rfl) rfl rfl rfl ?_
  refine sp_goto (tgt := 37) hX dX5_fewestSwallowers_79 (by decide) ?_
  exact hk37 σ z1 z2 z3 z4 x1 hf
set_option maxRecDepth 100000 in
set_option maxHeartbeats 4000000 in
theorem hX5_fewestSwallowers_73 {X : sp_X} (hX : sp_OK shX X cX5_fewestSwallowers RX5 6 rmX5_fewestSwallowers) {τ : sp_St} {r : Int32} (hR : sp_Ri shX X (some .int) τ r 0 0) {n : Nat}    {σ : sp_St} {z5 : Int32} (hf : X5_fewestSwallowers_73 n σ z5 = some (τ, r)) : sp_GG shX X σ 6 [none, none, none, none, none, some (.int z5)] [] 73 0 0 := by
  unfold X5_fewestSwallowers_73 at hf
  refine sp_iload (i := 5) (q := 75) hX dX5_fewestSwallowers_73 rfl rfl ?_
  exact sp_iret hX hR dX5_fewestSwallowers_75 hf (Nat.le_of_ble_eq_true rfl) (Nat.le_of_ble_eq_true rfl)
set_option maxRecDepth 100000 in
set_option maxHeartbeats 4000000 in
theorem hX5_fewestSwallowers_37 {X : sp_X} (hX : sp_OK shX X cX5_fewestSwallowers RX5 6 rmX5_fewestSwallowers) {τ : sp_St} {r : Int32} (hR : sp_Ri shX X (some .int) τ r 0 0) {n : Nat}   {k28 : sp_St → Int32 → Int32 → Int32 → Int32 → Option (sp_St × Int32)} (hk28 : ∀ (σ : sp_St) (z1 : Int32) (z2 : Int32) (z3 : Int32) (z4 : Int32), k28 σ z1 z2 z3 z4 = some (τ, r) → sp_GG shX X σ 6 [some (.ref (sx_ad X 60)), some (.int z1), some (.int z2), some (.int z3), some (.int z4), none] [] 28 0 0) : ∀ (f : Nat) (σ : sp_St) (z1 : Int32) (z2 : Int32) (z3 : Int32) (z4 : Int32) (z5 : Int32), X5_fewestSwallowers_37 n k28 f σ z1 z2 z3 z4 z5 = some (τ, r) → sp_GG shX X σ 6 [some (.ref (sx_ad X 60)), some (.int z1), some (.int z2), some (.int z3), some (.int z4), some (.int z5)] [] 37 0 0 := by
  intro f
  induction f with
  | zero =>
    intro σ z1 z2 z3 z4 z5 hf
    rw [X5_fewestSwallowers_37] at hf
    cases hf
  | succ f ih =>
    intro σ z1 z2 z3 z4 z5 hf
    rw [X5_fewestSwallowers_37] at hf
    refine sp_iload (i := 5) (q := 39) hX dX5_fewestSwallowers_37 rfl rfl ?_
    refine sp_iconst (v := 1) (q := 40) hX dX5_fewestSwallowers_39 li_1 rfl ?_
    refine sp_iload_n (i := 3) (q := 41) hX dX5_fewestSwallowers_40 rfl rfl rfl ?_
    refine sp_ishl (q := 42) hX dX5_fewestSwallowers_41 rfl ?_
    refine sp_icmp_ge (tgt := 82) (q := 45) hX dX5_fewestSwallowers_42 (by decide) rfl (fun hc => ?_) (fun hc => ?_)
    · rw [if_pos hc] at hf
      refine sp_drop (lv' := [some (.ref (sx_ad X 60)), some (.int z1), some (.int z2), some (.int z3), some (.int z4), none]) (And.intro rfl (And.intro rfl (And.intro rfl (And.intro rfl (And.intro rfl trivial))))) ?_
      exact hX5_fewestSwallowers_82 hX hR hk28 hf
    · rw [if_neg hc] at hf
      refine sp_iload (i := 5) (q := 47) hX dX5_fewestSwallowers_45 rfl rfl ?_
      obtain ⟨σ2, v3, h1, hf⟩ := sp_bd_so hf
      refine sp_callSi (As := [.int z5]) (rest := []) (q := 50) hX (cnJ6_bitCount_0f7a4 (sp_st hX)  h1) cwX5_56 rfl rfl rfl rfl (Nat.le_of_ble_eq_true rfl) (Nat.le_of_ble_eq_true rfl) (Nat.le_of_ble_eq_true rfl) (Nat.le_of_ble_eq_true rfl) (Nat.le_of_ble_eq_true rfl) dX5_fewestSwallowers_47 rfl ?_
      refine sp_iload (i := 4) (q := 52) hX dX5_fewestSwallowers_50 rfl rfl ?_
      refine sp_icmp_ne (tgt := 76) (q := 55) hX dX5_fewestSwallowers_52 (by decide) rfl (fun hc => ?_) (fun hc => ?_)
      · rw [if_neg hc] at hf
        exact hX5_fewestSwallowers_76 hX hR hk28 ih hf
      · rw [if_pos hc] at hf
        refine sp_aload_n (i := 0) (q := 56) hX dX5_fewestSwallowers_55 rfl rfl rfl ?_
        refine sp_iload (i := 5) (q := 58) hX dX5_fewestSwallowers_56 rfl rfl ?_
        obtain ⟨σ5, v6, h4, hf⟩ := sp_bd_so hf
        refine sp_callVi (As := [.int z5]) (rest := []) (q := 61) hX (cnX5_roomIn (sp_st hX)  h4) cwX5_61 atX_60 rfl rfl rfl rfl rfl (Nat.le_of_ble_eq_true rfl) (Nat.le_of_ble_eq_true rfl) (Nat.le_of_ble_eq_true rfl) (Nat.le_of_ble_eq_true rfl) (Nat.le_of_ble_eq_true rfl) dX5_fewestSwallowers_58 rfl ?_
        refine sp_iload_n (i := 2) (q := 62) hX dX5_fewestSwallowers_61 rfl rfl rfl ?_
        refine sp_icmp_lt (tgt := 76) (q := 65) hX dX5_fewestSwallowers_62 (by decide) rfl (fun hc => ?_) (fun hc => ?_)
        · rw [if_pos hc] at hf
          exact hX5_fewestSwallowers_76 hX hR hk28 ih hf
        · rw [if_neg hc] at hf
          refine sp_aload_n (i := 0) (q := 66) hX dX5_fewestSwallowers_65 rfl rfl rfl ?_
          refine sp_iload_n (i := 1) (q := 67) hX dX5_fewestSwallowers_66 rfl rfl rfl ?_
          obtain ⟨σ8, v9, h7, hf⟩ := sp_bd_so hf
          refine sp_callVi (As := [.int z1]) (rest := []) (q := 70) hX (cnX5_goesInto (sp_st hX)  h7) cwX5_64 atX_60 rfl rfl rfl rfl rfl (Nat.le_of_ble_eq_true rfl) (Nat.le_of_ble_eq_true rfl) (Nat.le_of_ble_eq_true rfl) (Nat.le_of_ble_eq_true rfl) (Nat.le_of_ble_eq_true rfl) dX5_fewestSwallowers_67 rfl ?_
          refine sp_if_eq (tgt := 76) (q := 73) hX dX5_fewestSwallowers_70 (by decide) rfl (fun hc => ?_) (fun hc => ?_)
          · rw [if_pos hc] at hf
            exact hX5_fewestSwallowers_76 hX hR hk28 ih hf
          · rw [if_neg hc] at hf
            refine sp_drop (lv' := [none, none, none, none, none, some (.int z5)]) (And.intro rfl trivial) ?_
            exact hX5_fewestSwallowers_73 hX hR hf
set_option maxRecDepth 100000 in
set_option maxHeartbeats 4000000 in
theorem hX5_fewestSwallowers_28 {X : sp_X} (hX : sp_OK shX X cX5_fewestSwallowers RX5 6 rmX5_fewestSwallowers) {τ : sp_St} {r : Int32} (hR : sp_Ri shX X (some .int) τ r 0 0) {n : Nat}    : ∀ (f : Nat) (σ : sp_St) (z1 : Int32) (z2 : Int32) (z3 : Int32) (z4 : Int32), X5_fewestSwallowers_28 n f σ z1 z2 z3 z4 = some (τ, r) → sp_GG shX X σ 6 [some (.ref (sx_ad X 60)), some (.int z1), some (.int z2), some (.int z3), some (.int z4), none] [] 28 0 0 := by
  intro f
  induction f with
  | zero =>
    intro σ z1 z2 z3 z4 hf
    rw [X5_fewestSwallowers_28] at hf
    cases hf
  | succ f ih =>
    intro σ z1 z2 z3 z4 hf
    rw [X5_fewestSwallowers_28] at hf
    refine sp_iload (i := 4) (q := 30) hX dX5_fewestSwallowers_28 rfl rfl ?_
    refine sp_iload_n (i := 3) (q := 31) hX dX5_fewestSwallowers_30 rfl rfl rfl ?_
    refine sp_icmp_gt (tgt := 88) (q := 34) hX dX5_fewestSwallowers_31 (by decide) rfl (fun hc => ?_) (fun hc => ?_)
    · rw [if_pos hc] at hf
      refine sp_drop (lv' := [none, none, none, none, none, none]) trivial ?_
      exact hX5_fewestSwallowers_88 hX hR hf
    · rw [if_neg hc] at hf
      refine sp_iconst (v := 0) (q := 35) hX dX5_fewestSwallowers_34 li_0 rfl ?_
      obtain ⟨x1, e2, hf⟩ := sp_pl_some hf
      refine sp_nmi e2 ?_
      refine sp_istore (i := 5) (lv' := [some (.ref (sx_ad X 60)), some (.int z1), some (.int z2), some (.int z3), some (.int z4), some (.int x1)]) (q := 37) hX dX5_fewestSwallowers_35 (Nat.le_of_ble_eq_true rfl) rfl rfl rfl ?_
      exact hX5_fewestSwallowers_37 hX hR ih n σ z1 z2 z3 z4 x1 hf
set_option maxRecDepth 100000 in
set_option maxHeartbeats 4000000 in
theorem hX5_fewestSwallowers {X : sp_X} (hX : sp_OK shX X cX5_fewestSwallowers RX5 6 rmX5_fewestSwallowers) {τ : sp_St} {r : Int32} (hR : sp_Ri shX X (some .int) τ r 0 0) {n : Nat}  {σ : sp_St}   (hf : X5_fewestSwallowers n σ = some (τ, r)) : sp_GG shX X σ 6 [some (.ref (sx_ad X 60)), none, none, none, none, none] [] 0 0 0 := by
  unfold X5_fewestSwallowers at hf
  refine sp_aload_n (i := 0) (q := 1) hX dX5_fewestSwallowers_0 rfl rfl rfl ?_
  refine sp_gets (t := 23) (q := 4) hX flX5_21 fkX5_0 atX_60 srX_60_0 dX5_fewestSwallowers_1 rfl ?_
  obtain ⟨σ2, v3, h1, hf⟩ := sp_bd_so hf
  refine sp_callVi (As := []) (rest := []) (q := 7) hX (cnX8_bladesOut (sp_st hX) atX_23 h1) cwX5_25 atX_23 rfl rfl rfl rfl rfl (Nat.le_of_ble_eq_true rfl) (Nat.le_of_ble_eq_true rfl) (Nat.le_of_ble_eq_true rfl) (Nat.le_of_ble_eq_true rfl) (Nat.le_of_ble_eq_true rfl) dX5_fewestSwallowers_4 rfl ?_
  refine sp_istore_n (i := 1) (lv' := [some (.ref (sx_ad X 60)), some (.int v3), none, none, none, none]) (q := 8) hX dX5_fewestSwallowers_7 rfl (Nat.le_of_ble_eq_true rfl) rfl rfl rfl ?_
  refine sp_aload_n (i := 0) (q := 9) hX dX5_fewestSwallowers_8 rfl rfl rfl ?_
  refine sp_iload_n (i := 1) (q := 10) hX dX5_fewestSwallowers_9 rfl rfl rfl ?_
  obtain ⟨σ5, v6, h4, hf⟩ := sp_bd_so hf
  refine sp_callVi (As := [.int v3]) (rest := []) (q := 13) hX (cnX5_lengthOf (sp_st hX)  h4) cwX5_53 atX_60 rfl rfl rfl rfl rfl (Nat.le_of_ble_eq_true rfl) (Nat.le_of_ble_eq_true rfl) (Nat.le_of_ble_eq_true rfl) (Nat.le_of_ble_eq_true rfl) (Nat.le_of_ble_eq_true rfl) dX5_fewestSwallowers_10 rfl ?_
  refine sp_istore_n (i := 2) (lv' := [some (.ref (sx_ad X 60)), some (.int v3), some (.int v6), none, none, none]) (q := 14) hX dX5_fewestSwallowers_13 rfl (Nat.le_of_ble_eq_true rfl) rfl rfl rfl ?_
  refine sp_aload_n (i := 0) (q := 15) hX dX5_fewestSwallowers_14 rfl rfl rfl ?_
  refine sp_gets (t := 23) (q := 18) hX flX5_21 fkX5_0 atX_60 srX_60_0 dX5_fewestSwallowers_15 rfl ?_
  obtain ⟨c7, e9, hf⟩ := sp_pl_some hf
  obtain ⟨h8, hf⟩ := sp_ck_some hf
  refine sp_getr (q := 21) hX flX5_35 fkX8_0 atX_23 dX5_fewestSwallowers_18 rfl ?_
  refine sp_nmr e9 ?_
  refine sp_geti (q := 24) hX flX5_39 fkX2_14 (sp_isc_at h8) dX5_fewestSwallowers_21 rfl ?_
  obtain ⟨x10, e11, hf⟩ := sp_pl_some hf
  refine sp_nmi e11 ?_
  refine sp_istore_n (i := 3) (lv' := [some (.ref (sx_ad X 60)), some (.int v3), some (.int v6), some (.int x10), none, none]) (q := 25) hX dX5_fewestSwallowers_24 rfl (Nat.le_of_ble_eq_true rfl) rfl rfl rfl ?_
  refine sp_iconst (v := 0) (q := 26) hX dX5_fewestSwallowers_25 li_0 rfl ?_
  obtain ⟨x12, e13, hf⟩ := sp_pl_some hf
  refine sp_nmi e13 ?_
  refine sp_istore (i := 4) (lv' := [some (.ref (sx_ad X 60)), some (.int v3), some (.int v6), some (.int x10), some (.int x12), none]) (q := 28) hX dX5_fewestSwallowers_26 (Nat.le_of_ble_eq_true rfl) rfl rfl rfl ?_
  exact hX5_fewestSwallowers_28 hX hR n σ5 v3 v6 x10 x12 hf
set_option maxRecDepth 100000 in
set_option maxHeartbeats 4000000 in
theorem cnX5_fewestSwallowers {l : Launch} (hst : l.stackTraces = false) {w : sp_Wd} {n : Nat}  {σ : sp_St}  {τ : sp_St} {r : Int32}  (hf : X5_fewestSwallowers n σ = some (τ, r)) : sp_Ci shX l w yX5_fewestSwallowers cX5_fewestSwallowers 6 (some .int) rmX5_fewestSwallowers 0 0 σ [.ref (w.2.1 60)] τ r :=
  sp_ci (own := RX5) (by decide) rfl hst (Nat.le_of_ble_eq_true rfl) rfl (fun X hX hw hl hR => by subst hw; subst hl; exact hX5_fewestSwallowers hX hR   hf)
