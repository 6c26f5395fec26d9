def rmX12_couplesOf (d : Nat) : Room := { frames := 10 * d + 30, cells := 0, slots := 0, locals := 600 * d + 400 }
def X12_couplesOfB_90 (n : Nat) (ke : sp_St → Int32 → Option (sp_St × Int32)) (σ : sp_St) (z2 : Int32) : Option (sp_St × Int32) :=
  some (σ, z2)
def X12_couplesOfB_84 (n : Nat) (ke : sp_St → Int32 → Option (sp_St × Int32)) (k4 : sp_St → Int32 → Int32 → Int32 → Option (sp_St × Int32)) (σ : sp_St) (z1 : Int32) (z2 : Int32) (z3 : Int32) : Option (sp_St × Int32) :=
  sp_pl (z3 + 1) fun x1 =>
  k4 σ z1 z2 x1
def X12_couplesOfB_78 (n : Nat) (ke : sp_St → Int32 → Option (sp_St × Int32)) (k4 : sp_St → Int32 → Int32 → Int32 → Option (sp_St × Int32)) (k15 : sp_St → Int32 → Int32 → Int32 → Int32 → Option (sp_St × Int32)) (σ : sp_St) (z1 : Int32) (z2 : Int32) (z3 : Int32) (z4 : Int32) : Option (sp_St × Int32) :=
  sp_pl (z4 + 1) fun x1 =>
  k15 σ z1 z2 z3 x1
def X12_couplesOfB_15 (n : Nat) (ke : sp_St → Int32 → Option (sp_St × Int32)) (k4 : sp_St → Int32 → Int32 → Int32 → Option (sp_St × Int32)) : Nat → sp_St → Int32 → Int32 → Int32 → Int32 → Option (sp_St × Int32)
  | 0, _, _, _, _, _ => none
  | f + 1, σ, z1, z2, z3, z4 =>
    if ((6 : Int32)) ≤ z4 then
      X12_couplesOfB_84 n ke k4 σ z1 z2 z3
    else
      sp_bd (X12_isOf n σ z1 z3) fun σ2 v3 =>
      if v3 = 0 then
        X12_couplesOfB_78 n ke k4 (X12_couplesOfB_15 n ke k4 f) σ2 z1 z2 z3 z4
      else
        sp_bd (X12_isOf n σ2 z1 z4) fun σ5 v6 =>
        if v6 = 0 then
          X12_couplesOfB_78 n ke k4 (X12_couplesOfB_15 n ke k4 f) σ5 z1 z2 z3 z4
        else
          sp_ck (sp_in z3 6) <|
          sp_bd (X12_isOf n σ5 (sp_g σ5 19 z3) z4) fun σ9 v10 =>
          if v10 = 0 then
            X12_couplesOfB_78 n ke k4 (X12_couplesOfB_15 n ke k4 f) σ9 z1 z2 z3 z4
          else
            sp_bd (ke σ9 ((z1 &&& ((((1 : Int32)) <<< (z3 &&& 31)) ^^^ ((-1 : Int32)))) &&& ((((1 : Int32)) <<< (z4 &&& 31)) ^^^ ((-1 : Int32))))) fun σ12 v13 =>
            sp_pl (sp_max z2 (((1 : Int32)) + v13)) fun v14 =>
            X12_couplesOfB_78 n ke k4 (X12_couplesOfB_15 n ke k4 f) σ12 z1 v14 z3 z4
def X12_couplesOfB_4 (n : Nat) (ke : sp_St → Int32 → Option (sp_St × Int32)) : Nat → sp_St → Int32 → Int32 → Int32 → Option (sp_St × Int32)
  | 0, _, _, _, _ => none
  | f + 1, σ, z1, z2, z3 =>
    if ((6 : Int32)) ≤ z3 then
      X12_couplesOfB_90 n ke σ z2
    else
      sp_pl (z3 + ((1 : Int32))) fun x1 =>
      X12_couplesOfB_15 n ke (X12_couplesOfB_4 n ke f) n σ z1 z2 z3 x1
def X12_couplesOfB (n : Nat) (ke : sp_St → Int32 → Option (sp_St × Int32)) (σ : sp_St) (a1 : Int32) : Option (sp_St × Int32) :=
  sp_pl ((0 : Int32)) fun x1 =>
  sp_pl ((0 : Int32)) fun x3 =>
  X12_couplesOfB_4 n ke n σ a1 x1 x3
set_option maxRecDepth 100000 in
set_option maxHeartbeats 4000000 in
theorem hX12_couplesOfB_90 {d : Nat} {X : sp_X} (hX : sp_OK shM X cX12_couplesOf RX12 5 (rmX12_couplesOf (d + 1))) {τ : sp_St} {r : Int32} (hR : sp_Ri shM X (some .int) τ r 0 0) {n : Nat} {ke : sp_St → Int32 → Option (sp_St × Int32)} (hke : ∀ (σ : sp_St) (a : Int32) (τ : sp_St) (r : Int32), ke σ a = some (τ, r) → sp_Ci shM (sx_l X) (sx_w X) yX12_couplesOf cX12_couplesOf 5 (some .int) (rmX12_couplesOf d) 0 0 σ [.ref ((sx_w X).2.1 0), .int a] τ r)   {σ : sp_St} {z2 : Int32} (hf : X12_couplesOfB_90 n ke σ z2 = some (τ, r)) : sp_GG shM X σ 5 [none, none, some (.int z2), none, none] [] 90 0 0 := by
  unfold X12_couplesOfB_90 at hf
  refine sp_iload_n (i := 2) (q := 91) hX dX12_couplesOf_90 rfl rfl rfl ?_
  exact sp_iret hX hR dX12_couplesOf_91 hf (Nat.le_of_ble_eq_true rfl) (Nat.le_of_ble_eq_true rfl)
set_option maxRecDepth 100000 in
set_option maxHeartbeats 4000000 in
theorem hX12_couplesOfB_84 {d : Nat} {X : sp_X} (hX : sp_OK shM X cX12_couplesOf RX12 5 (rmX12_couplesOf (d + 1))) {τ : sp_St} {r : Int32} (hR : sp_Ri shM X (some .int) τ r 0 0) {n : Nat} {ke : sp_St → Int32 → Option (sp_St × Int32)} (hke : ∀ (σ : sp_St) (a : Int32) (τ : sp_St) (r : Int32), ke σ a = some (τ, r) → sp_Ci shM (sx_l X) (sx_w X) yX12_couplesOf cX12_couplesOf 5 (some .int) (rmX12_couplesOf d) 0 0 σ [.ref ((sx_w X).2.1 0), .int a] τ r)  {k4 : sp_St → Int32 → Int32 → Int32 → Option (sp_St × Int32)} (hk4 : ∀ (σ : sp_St) (z1 : Int32) (z2 : Int32) (z3 : Int32), k4 σ z1 z2 z3 = some (τ, r) → sp_GG shM X σ 5 [some (.ref (sx_ad X 0)), some (.int z1), some (.int z2), some (.int z3), none] [] 4 0 0) {σ : sp_St} {z1 : Int32} {z2 : Int32} {z3 : Int32} (hf : X12_couplesOfB_84 n ke k4 σ z1 z2 z3 = some (τ, r)) : sp_GG shM X σ 5 [some (.ref (sx_ad X 0)), some (.int z1), some (.int z2), some (.int z3), none] [] 84 0 0 := by
  unfold X12_couplesOfB_84 at hf
  obtain ⟨x1, e2, hf⟩ := sp_pl_some hf
  refine sp_iinc (i := 3) (v := x1) (lv' := [some (.ref (sx_ad X 0)), some (.int z1), some (.int z2), some (.int x1), none]) (q := 87) hX dX12_couplesOf_84 rfl (by rw [e2, li_1]) (Nat.le_of_ble_eq_true rfl) rfl rfl rfl ?_
  refine sp_goto (tgt := 4) hX dX12_couplesOf_87 (by decide) ?_
  exact hk4 σ z1 z2 x1 hf
set_option maxRecDepth 100000 in
set_option maxHeartbeats 4000000 in
theorem hX12_couplesOfB_78 {d : Nat} {X : sp_X} (hX : sp_OK shM X cX12_couplesOf RX12 5 (rmX12_couplesOf (d + 1))) {τ : sp_St} {r : Int32} (hR : sp_Ri shM X (some .int) τ r 0 0) {n : Nat} {ke : sp_St → Int32 → Option (sp_St × Int32)} (hke : ∀ (σ : sp_St) (a : Int32) (τ : sp_St) (r : Int32), ke σ a = some (τ, r) → sp_Ci shM (sx_l X) (sx_w X) yX12_couplesOf cX12_couplesOf 5 (some .int) (rmX12_couplesOf d) 0 0 σ [.ref ((sx_w X).2.1 0), .int a] τ r)  {k4 : sp_St → Int32 → Int32 → Int32 → Option (sp_St × Int32)} (hk4 : ∀ (σ : sp_St) (z1 : Int32) (z2 : Int32) (z3 : Int32), k4 σ z1 z2 z3 = some (τ, r) → sp_GG shM X σ 5 [some (.ref (sx_ad X 0)), some (.int z1), some (.int z2), some (.int z3), none] [] 4 0 0) {k15 : sp_St → Int32 → Int32 → Int32 → Int32 → Option (sp_St × Int32)} (hk15 : ∀ (σ : sp_St) (z1 : Int32) (z2 : Int32) (z3 : Int32) (z4 : Int32), k15 σ z1 z2 z3 z4 = some (τ, r) → sp_GG shM X σ 5 [some (.ref (sx_ad X 0)), some (.int z1), some (.int z2), some (.int z3), some (.int z4)] [] 15 0 0) {σ : sp_St} {z1 : Int32} {z2 : Int32} {z3 : Int32} {z4 : Int32} (hf : X12_couplesOfB_78 n ke k4 k15 σ z1 z2 z3 z4 = some (τ, r)) : sp_GG shM X σ 5 [some (.ref (sx_ad X 0)), some (.int z1), some (.int z2), some (.int z3), some (.int z4)] [] 78 0 0 := by
  unfold X12_couplesOfB_78 at hf
  obtain ⟨x1, e2, hf⟩ := sp_pl_some hf
  refine sp_iinc (i := 4) (v := x1) (lv' := [some (.ref (sx_ad X 0)), some (.int z1), some (.int z2), some (.int z3), some (.int x1)]) (q := 81) hX dX12_couplesOf_78 rfl (by rw [e2, li_1]) (Nat.le_of_ble_eq_true rfl) rfl rfl rfl ?_
  refine sp_goto (tgt := 15) hX dX12_couplesOf_81 (by decide) ?_
  exact hk15 σ z1 z2 z3 x1 hf
set_option maxRecDepth 100000 in
set_option maxHeartbeats 4000000 in
theorem hX12_couplesOfB_15 {d : Nat} {X : sp_X} (hX : sp_OK shM X cX12_couplesOf RX12 5 (rmX12_couplesOf (d + 1))) {τ : sp_St} {r : Int32} (hR : sp_Ri shM X (some .int) τ r 0 0) {n : Nat} {ke : sp_St → Int32 → Option (sp_St × Int32)} (hke : ∀ (σ : sp_St) (a : Int32) (τ : sp_St) (r : Int32), ke σ a = some (τ, r) → sp_Ci shM (sx_l X) (sx_w X) yX12_couplesOf cX12_couplesOf 5 (some .int) (rmX12_couplesOf d) 0 0 σ [.ref ((sx_w X).2.1 0), .int a] τ r)  {k4 : sp_St → Int32 → Int32 → Int32 → Option (sp_St × Int32)} (hk4 : ∀ (σ : sp_St) (z1 : Int32) (z2 : Int32) (z3 : Int32), k4 σ z1 z2 z3 = some (τ, r) → sp_GG shM X σ 5 [some (.ref (sx_ad X 0)), some (.int z1), some (.int z2), some (.int z3), none] [] 4 0 0) : ∀ (f : Nat) (σ : sp_St) (z1 : Int32) (z2 : Int32) (z3 : Int32) (z4 : Int32), X12_couplesOfB_15 n ke k4 f σ z1 z2 z3 z4 = some (τ, r) → sp_GG shM X σ 5 [some (.ref (sx_ad X 0)), some (.int z1), some (.int z2), some (.int z3), some (.int z4)] [] 15 0 0 := by
  intro f
  induction f with
  | zero =>
    intro σ z1 z2 z3 z4 hf
    rw [X12_couplesOfB_15] at hf
    cases hf
  | succ f ih =>
    intro σ z1 z2 z3 z4 hf
    rw [X12_couplesOfB_15] at hf
    refine sp_iload (i := 4) (q := 17) hX dX12_couplesOf_15 rfl rfl ?_
    refine sp_bipush (v := 6) (q := 19) hX dX12_couplesOf_17 lb_6 rfl ?_
    refine sp_icmp_ge (tgt := 84) (q := 22) hX dX12_couplesOf_19 (by decide) rfl (fun hc => ?_) (fun hc => ?_)
    · rw [if_pos hc] at hf
      refine sp_drop (lv' := [some (.ref (sx_ad X 0)), some (.int z1), some (.int z2), some (.int z3), none]) (And.intro rfl (And.intro rfl (And.intro rfl (And.intro rfl trivial)))) ?_
      exact hX12_couplesOfB_84 hX hR hke hk4 hf
    · rw [if_neg hc] at hf
      refine sp_iload_n (i := 1) (q := 23) hX dX12_couplesOf_22 rfl rfl rfl ?_
      refine sp_iload_n (i := 3) (q := 24) hX dX12_couplesOf_23 rfl rfl rfl ?_
      obtain ⟨σ2, v3, h1, hf⟩ := sp_bd_so hf
      refine sp_callSi (As := [.int z1, .int z3]) (rest := []) (q := 27) hX (cnX12_isOf (sp_st hX)  h1) cwX12_284 rfl rfl rfl rfl (by unfold rmX12_isOf rmX12_couplesOf; dsimp only; simp; try omega) (by unfold rmX12_isOf rmX12_couplesOf; dsimp only; simp; try omega) (Nat.le_of_ble_eq_true rfl) (Nat.le_of_ble_eq_true rfl) (Nat.le_of_ble_eq_true rfl) dX12_couplesOf_24 rfl ?_
      refine sp_if_eq (tgt := 78) (q := 30) hX dX12_couplesOf_27 (by decide) rfl (fun hc => ?_) (fun hc => ?_)
      · rw [if_pos hc] at hf
        exact hX12_couplesOfB_78 hX hR hke hk4 ih hf
      · rw [if_neg hc] at hf
        refine sp_iload_n (i := 1) (q := 31) hX dX12_couplesOf_30 rfl rfl rfl ?_
        refine sp_iload (i := 4) (q := 33) hX dX12_couplesOf_31 rfl rfl ?_
        obtain ⟨σ5, v6, h4, hf⟩ := sp_bd_so hf
        refine sp_callSi (As := [.int z1, .int z4]) (rest := []) (q := 36) hX (cnX12_isOf (sp_st hX)  h4) cwX12_284 rfl rfl rfl rfl (by unfold rmX12_isOf rmX12_couplesOf; dsimp only; simp; try omega) (by unfold rmX12_isOf rmX12_couplesOf; dsimp only; simp; try omega) (Nat.le_of_ble_eq_true rfl) (Nat.le_of_ble_eq_true rfl) (Nat.le_of_ble_eq_true rfl) dX12_couplesOf_33 rfl ?_
        refine sp_if_eq (tgt := 78) (q := 39) hX dX12_couplesOf_36 (by decide) rfl (fun hc => ?_) (fun hc => ?_)
        · rw [if_pos hc] at hf
          exact hX12_couplesOfB_78 hX hR hke hk4 ih hf
        · rw [if_neg hc] at hf
          refine sp_aload_n (i := 0) (q := 40) hX dX12_couplesOf_39 rfl rfl rfl ?_
          refine sp_gets (t := 19) (q := 43) hX flX12_84 fkX12_31 atM_0 srM_0_31 dX12_couplesOf_40 rfl ?_
          refine sp_iload_n (i := 3) (q := 44) hX dX12_couplesOf_43 rfl rfl rfl ?_
          obtain ⟨h7, hf⟩ := sp_ck_some hf
          refine sp_iald (q := 45) hX arM_19 h7 dX12_couplesOf_44 rfl ?_
          refine sp_iload (i := 4) (q := 47) hX dX12_couplesOf_45 rfl rfl ?_
          obtain ⟨σ9, v10, h8, hf⟩ := sp_bd_so hf
          refine sp_callSi (As := [.int (sp_g σ5 19 z3), .int z4]) (rest := []) (q := 50) hX (cnX12_isOf (sp_st hX)  h8) cwX12_284 rfl rfl rfl rfl (by unfold rmX12_isOf rmX12_couplesOf; dsimp only; simp; try omega) (by unfold rmX12_isOf rmX12_couplesOf; dsimp only; simp; try omega) (Nat.le_of_ble_eq_true rfl) (Nat.le_of_ble_eq_true rfl) (Nat.le_of_ble_eq_true rfl) dX12_couplesOf_47 rfl ?_
          refine sp_if_eq (tgt := 78) (q := 53) hX dX12_couplesOf_50 (by decide) rfl (fun hc => ?_) (fun hc => ?_)
          · rw [if_pos hc] at hf
            exact hX12_couplesOfB_78 hX hR hke hk4 ih hf
          · rw [if_neg hc] at hf
            refine sp_iload_n (i := 2) (q := 54) hX dX12_couplesOf_53 rfl rfl rfl ?_
            refine sp_iconst (v := 1) (q := 55) hX dX12_couplesOf_54 li_1 rfl ?_
            refine sp_aload_n (i := 0) (q := 56) hX dX12_couplesOf_55 rfl rfl rfl ?_
            refine sp_iload_n (i := 1) (q := 57) hX dX12_couplesOf_56 rfl rfl rfl ?_
            refine sp_iconst (v := 1) (q := 58) hX dX12_couplesOf_57 li_1 rfl ?_
            refine sp_iload_n (i := 3) (q := 59) hX dX12_couplesOf_58 rfl rfl rfl ?_
            refine sp_ishl (q := 60) hX dX12_couplesOf_59 rfl ?_
            refine sp_iconst (v := -1) (q := 61) hX dX12_couplesOf_60 li_m1 rfl ?_
            refine sp_ixor (q := 62) hX dX12_couplesOf_61 rfl ?_
            refine sp_iand (q := 63) hX dX12_couplesOf_62 rfl ?_
            refine sp_iconst (v := 1) (q := 64) hX dX12_couplesOf_63 li_1 rfl ?_
            refine sp_iload (i := 4) (q := 66) hX dX12_couplesOf_64 rfl rfl ?_
            refine sp_ishl (q := 67) hX dX12_couplesOf_66 rfl ?_
            refine sp_iconst (v := -1) (q := 68) hX dX12_couplesOf_67 li_m1 rfl ?_
            refine sp_ixor (q := 69) hX dX12_couplesOf_68 rfl ?_
            refine sp_iand (q := 70) hX dX12_couplesOf_69 rfl ?_
            obtain ⟨σ12, v13, h11, hf⟩ := sp_bd_so hf
            refine sp_callVi (As := [.int ((z1 &&& ((((1 : Int32)) <<< (z3 &&& 31)) ^^^ ((-1 : Int32)))) &&& ((((1 : Int32)) <<< (z4 &&& 31)) ^^^ ((-1 : Int32))))]) (rest := [.int ((1 : Int32)), .int z2]) (q := 73) hX (hke _ _ _ _ h11) cwX12_454 atM_0 rfl rfl rfl rfl rfl (by unfold rmX12_couplesOf; dsimp only; simp; try omega) (by unfold rmX12_couplesOf; dsimp only; simp; try omega) (Nat.le_of_ble_eq_true rfl) (Nat.le_of_ble_eq_true rfl) (Nat.le_of_ble_eq_true rfl) dX12_couplesOf_70 rfl ?_
            refine sp_iadd (q := 74) hX dX12_couplesOf_73 rfl ?_
            obtain ⟨v14, e15, hf⟩ := sp_pl_some hf
            refine sp_mmax (q := 77) hX wd_1991 wd_656 wd_144 wd_657 (by unfold rmX12_couplesOf; dsimp only; simp; try omega) (by unfold rmX12_couplesOf; dsimp only; simp; try omega) (Nat.le_of_ble_eq_true rfl) (Nat.le_of_ble_eq_true rfl) dX12_couplesOf_74 rfl ?_
            refine sp_nmi e15 ?_
            refine sp_istore_n (i := 2) (lv' := [some (.ref (sx_ad X 0)), some (.int z1), some (.int v14), some (.int z3), some (.int z4)]) (q := 78) hX dX12_couplesOf_77 rfl (Nat.le_of_ble_eq_true rfl) rfl rfl rfl ?_
            exact hX12_couplesOfB_78 hX hR hke hk4 ih hf
set_option maxRecDepth 100000 in
set_option maxHeartbeats 4000000 in
theorem hX12_couplesOfB_4 {d : Nat} {X : sp_X} (hX : sp_OK shM X cX12_couplesOf RX12 5 (rmX12_couplesOf (d + 1))) {τ : sp_St} {r : Int32} (hR : sp_Ri shM X (some .int) τ r 0 0) {n : Nat} {ke : sp_St → Int32 → Option (sp_St × Int32)} (hke : ∀ (σ : sp_St) (a : Int32) (τ : sp_St) (r : Int32), ke σ a = some (τ, r) → sp_Ci shM (sx_l X) (sx_w X) yX12_couplesOf cX12_couplesOf 5 (some .int) (rmX12_couplesOf d) 0 0 σ [.ref ((sx_w X).2.1 0), .int a] τ r)   : ∀ (f : Nat) (σ : sp_St) (z1 : Int32) (z2 : Int32) (z3 : Int32), X12_couplesOfB_4 n ke f σ z1 z2 z3 = some (τ, r) → sp_GG shM X σ 5 [some (.ref (sx_ad X 0)), some (.int z1), some (.int z2), some (.int z3), none] [] 4 0 0 := by
  intro f
  induction f with
  | zero =>
    intro σ z1 z2 z3 hf
    rw [X12_couplesOfB_4] at hf
    cases hf
  | succ f ih =>
    intro σ z1 z2 z3 hf
    rw [X12_couplesOfB_4] at hf
    refine sp_iload_n (i := 3) (q := 5) hX dX12_couplesOf_4 rfl rfl rfl ?_
    refine sp_bipush (v := 6) (q := 7) hX dX12_couplesOf_5 lb_6 rfl ?_
    refine sp_icmp_ge (tgt := 90) (q := 10) hX dX12_couplesOf_7 (by decide) rfl (fun hc => ?_) (fun hc => ?_)
    · rw [if_pos hc] at hf
      refine sp_drop (lv' := [none, none, some (.int z2), none, none]) (And.intro rfl trivial) ?_
      exact hX12_couplesOfB_90 hX hR hke hf
    · rw [if_neg hc] at hf
      refine sp_iload_n (i := 3) (q := 11) hX dX12_couplesOf_10 rfl rfl rfl ?_
      refine sp_iconst (v := 1) (q := 12) hX dX12_couplesOf_11 li_1 rfl ?_
      refine sp_iadd (q := 13) hX dX12_couplesOf_12 rfl ?_
      obtain ⟨x1, e2, hf⟩ := sp_pl_some hf
      refine sp_nmi e2 ?_
      refine sp_istore (i := 4) (lv' := [some (.ref (sx_ad X 0)), some (.int z1), some (.int z2), some (.int z3), some (.int x1)]) (q := 15) hX dX12_couplesOf_13 (Nat.le_of_ble_eq_true rfl) rfl rfl rfl ?_
      exact hX12_couplesOfB_15 hX hR hke ih n σ z1 z2 z3 x1 hf
set_option maxRecDepth 100000 in
set_option maxHeartbeats 4000000 in
theorem hX12_couplesOfB {d : Nat} {X : sp_X} (hX : sp_OK shM X cX12_couplesOf RX12 5 (rmX12_couplesOf (d + 1))) {τ : sp_St} {r : Int32} (hR : sp_Ri shM X (some .int) τ r 0 0) {n : Nat} {ke : sp_St → Int32 → Option (sp_St × Int32)} (hke : ∀ (σ : sp_St) (a : Int32) (τ : sp_St) (r : Int32), ke σ a = some (τ, r) → sp_Ci shM (sx_l X) (sx_w X) yX12_couplesOf cX12_couplesOf 5 (some .int) (rmX12_couplesOf d) 0 0 σ [.ref ((sx_w X).2.1 0), .int a] τ r) {σ : sp_St} {a1 : Int32}  (hf : X12_couplesOfB n ke σ a1 = some (τ, r)) : sp_GG shM X σ 5 [some (.ref (sx_ad X 0)), some (.int a1), none, none, none] [] 0 0 0 := by
  unfold X12_couplesOfB at hf
  refine sp_iconst (v := 0) (q := 1) hX dX12_couplesOf_0 li_0 rfl ?_
  obtain ⟨x1, e2, hf⟩ := sp_pl_some hf
  refine sp_nmi e2 ?_
  refine sp_istore_n (i := 2) (lv' := [some (.ref (sx_ad X 0)), some (.int a1), some (.int x1), none, none]) (q := 2) hX dX12_couplesOf_1 rfl (Nat.le_of_ble_eq_true rfl) rfl rfl rfl ?_
  refine sp_iconst (v := 0) (q := 3) hX dX12_couplesOf_2 li_0 rfl ?_
  obtain ⟨x3, e4, hf⟩ := sp_pl_some hf
  refine sp_nmi e4 ?_
  refine sp_istore_n (i := 3) (lv' := [some (.ref (sx_ad X 0)), some (.int a1), some (.int x1), some (.int x3), none]) (q := 4) hX dX12_couplesOf_3 rfl (Nat.le_of_ble_eq_true rfl) rfl rfl rfl ?_
  exact hX12_couplesOfB_4 hX hR hke n σ a1 x1 x3 hf
set_option maxRecDepth 100000 in
set_option maxHeartbeats 4000000 in
theorem cnX12_couplesOfB {l : Launch} (hst : l.stackTraces = false) {w : sp_Wd} {n : Nat} {d : Nat} {ke : sp_St → Int32 → Option (sp_St × Int32)} (hke : ∀ (σ : sp_St) (a : Int32) (τ : sp_St) (r : Int32), ke σ a = some (τ, r) → sp_Ci shM l w yX12_couplesOf cX12_couplesOf 5 (some .int) (rmX12_couplesOf d) 0 0 σ [.ref (w.2.1 0), .int a] τ r) {σ : sp_St} {a1 : Int32} {τ : sp_St} {r : Int32}  (hf : X12_couplesOfB n ke σ a1 = some (τ, r)) : sp_Ci shM l w yX12_couplesOf cX12_couplesOf 5 (some .int) (rmX12_couplesOf (d + 1)) 0 0 σ [.ref (w.2.1 0), .int a1] τ r :=
  sp_ci (own := RX12) (by decide) rfl hst (Nat.le_of_ble_eq_true rfl) rfl (fun X hX hw hl hR => by subst hw; subst hl; exact hX12_couplesOfB hX hR hke  hf)
def X12_couplesOf : Nat → Nat → sp_St → Int32 → Option (sp_St × Int32)
  | 0, _, _, _ => none
  | d + 1, n, σ, a => X12_couplesOfB n (X12_couplesOf d n) σ a
theorem cnX12_couplesOf {l : Launch} (hst : l.stackTraces = false) {w : sp_Wd} : ∀ (d : Nat) {n : Nat} {σ : sp_St} {a1 : Int32} {τ : sp_St} {r : Int32}, X12_couplesOf d n σ a1 = some (τ, r) → sp_Ci shM l w yX12_couplesOf cX12_couplesOf 5 (some .int) (rmX12_couplesOf d) 0 0 σ [.ref (w.2.1 0), .int a1] τ r := by
  intro d
  induction d with
  | zero =>
    intro n σ a1 τ r hf
    rw [X12_couplesOf] at hf
    cases hf
  | succ d ih =>
    intro n σ a1 τ r hf
    rw [X12_couplesOf] at hf
    exact cnX12_couplesOfB hst (fun σ a τ r h => ih h) hf
def rmX12_readPart (d : Nat) : Room := { frames := 10 * d + 31, cells := 0, slots := 0, locals := 600 * d + 450 }
def rmX12_readProduct (d : Nat) : Room := { frames := 10 * d + 32, cells := 0, slots := 0, locals := 600 * d + 500 }
def rmX12_readSum (d : Nat) : Room := { frames := 10 * d + 33, cells := 0, slots := 0, locals := 600 * d + 550 }
def rmX12_readNot (d : Nat) : Room := { frames := 10 * d + 34, cells := 0, slots := 0, locals := 600 * d + 600 }
def rmX12_readAnd (d : Nat) : Room := { frames := 10 * d + 35, cells := 0, slots := 0, locals := 600 * d + 650 }
def rmX12_readExpression (d : Nat) : Room := { frames := 10 * d + 30, cells := 0, slots := 0, locals := 600 * d + 400 }
def X12_readPart_74 (n : Nat) (ke : sp_St → Int32 → Option (sp_St)) (σ : sp_St) : Option (sp_St) :=
  some σ
def X12_readPart_56 (n : Nat) (ke : sp_St → Int32 → Option (sp_St)) (σ : sp_St) (z2 : Int32) : Option (sp_St) :=
  sp_bv (X12_lay n σ (((-1 : Int32)) - z2)) fun σ2 =>
  if (σ2.1 0 22) = 0 then
    sp_bv (X12_stepOn n σ2) fun σ4 =>
    X12_readPart_74 n ke σ4
  else
    X12_readPart_74 n ke σ2
def X12_readPart (n : Nat) (ke : sp_St → Int32 → Option (sp_St)) (σ : sp_St) (a1 : Int32) : Option (sp_St) :=
  if (σ.1 0 22) = 0 then
    if (σ.1 0 18) = ((2 : Int32)) then
      sp_bd (X12_readNumber n σ ((0 : Int32)) ((9999 : Int32))) fun σ16 v17 =>
      sp_bv (X12_lay n σ16 v17) fun σ19 =>
      some σ19
    else
      if (σ.1 0 18) = ((1 : Int32)) then
        sp_pl (σ.2.1 0 2) fun c7 =>
        sp_ck (sp_isv c7) <|
        sp_bd (X12_which n σ c7 (sp_vl c7)) fun σ11 v12 =>
        if v12 = ((-1 : Int32)) then
          sp_bv (X12_amiss n σ11 ((3 : Int32))) fun σ14 =>
          X12_readPart_56 n ke σ14 v12
        else
          X12_readPart_56 n ke σ11 v12
      else
        sp_bv (X12_mark n σ ((40 : Int32))) fun σ2 =>
        sp_bv (ke σ2 (a1 + ((1 : Int32)))) fun σ4 =>
        sp_bv (X12_mark n σ4 ((41 : Int32))) fun σ6 =>
        some σ6
  else
    some σ
set_option maxRecDepth 100000 in
set_option maxHeartbeats 4000000 in
theorem hX12_readPart_74 {d : Nat} {X : sp_X} (hX : sp_OK shM X cX12_readPart RX12 3 (rmX12_readPart d)) {τ : sp_St} (hR : sp_Rv shM X τ 0 0) {n : Nat} {ke : sp_St → Int32 → Option (sp_St)} (hke : ∀ (σ : sp_St) (a : Int32) (τ : sp_St), ke σ a = some τ → sp_Cv shM (sx_l X) (sx_w X) yX12_readExpression cX12_readExpression 3 (rmX12_readExpression d) 0 0 σ [.ref ((sx_w X).2.1 0), .int a] τ)   {σ : sp_St} (hf : X12_readPart_74 n ke σ = some τ) : sp_GG shM X σ 3 [none, none, none] [] 74 0 0 := by
  unfold X12_readPart_74 at hf
  exact sp_vret hX hR dX12_readPart_74 hf (Nat.le_of_ble_eq_true rfl) (Nat.le_of_ble_eq_true rfl)
set_option maxRecDepth 100000 in
set_option maxHeartbeats 4000000 in
theorem hX12_readPart_56 {d : Nat} {X : sp_X} (hX : sp_OK shM X cX12_readPart RX12 3 (rmX12_readPart d)) {τ : sp_St} (hR : sp_Rv shM X τ 0 0) {n : Nat} {ke : sp_St → Int32 → Option (sp_St)} (hke : ∀ (σ : sp_St) (a : Int32) (τ : sp_St), ke σ a = some τ → sp_Cv shM (sx_l X) (sx_w X) yX12_readExpression cX12_readExpression 3 (rmX12_readExpression d) 0 0 σ [.ref ((sx_w X).2.1 0), .int a] τ)   {σ : sp_St} {z2 : Int32} (hf : X12_readPart_56 n ke σ z2 = some τ) : sp_GG shM X σ 3 [some (.ref (sx_ad X 0)), none, some (.int z2)] [] 56 0 0 := by
  unfold X12_readPart_56 at hf
  refine sp_aload_n (i := 0) (q := 57) hX dX12_readPart_56 rfl rfl rfl ?_
  refine sp_iconst (v := -1) (q := 58) hX dX12_readPart_57 li_m1 rfl ?_
  refine sp_iload_n (i := 2) (q := 59) hX dX12_readPart_58 rfl rfl rfl ?_
  refine sp_isub (q := 60) hX dX12_readPart_59 rfl ?_
  obtain ⟨σ2, h1, hf⟩ := sp_bv_so hf
  refine sp_callVv (As := [.int (((-1 : Int32)) - z2)]) (rest := []) (q := 63) hX (cnX12_lay (sp_st hX)  h1) cwX12_246 atM_0 rfl rfl rfl rfl rfl (by unfold rmX12_lay rmX12_readPart; dsimp only; simp; try omega) (by unfold rmX12_lay rmX12_readPart; dsimp only; simp; try omega) (Nat.le_of_ble_eq_true rfl) (Nat.le_of_ble_eq_true rfl) (Nat.le_of_ble_eq_true rfl) dX12_readPart_60 rfl ?_
  refine sp_aload_n (i := 0) (q := 64) hX dX12_readPart_63 rfl rfl rfl ?_
  refine sp_geti (q := 67) hX flX12_209 fkX12_22 atM_0 dX12_readPart_64 rfl ?_
  refine sp_if_ne (tgt := 74) (q := 70) hX dX12_readPart_67 (by decide) rfl (fun hc => ?_) (fun hc => ?_)
  · rw [if_neg hc] at hf
    refine sp_drop (lv' := [none, none, none]) trivial ?_
    exact hX12_readPart_74 hX hR hke hf
  · rw [if_pos hc] at hf
    refine sp_aload_n (i := 0) (q := 71) hX dX12_readPart_70 rfl rfl rfl ?_
    obtain ⟨σ4, h3, hf⟩ := sp_bv_so hf
    refine sp_callVv (As := []) (rest := []) (q := 74) hX (cnX12_stepOn (sp_st hX)  h3) cwX12_233 atM_0 rfl rfl rfl rfl rfl (by unfold rmX12_stepOn rmX12_readPart; dsimp only; simp; try omega) (by unfold rmX12_stepOn rmX12_readPart; dsimp only; simp; try omega) (Nat.le_of_ble_eq_true rfl) (Nat.le_of_ble_eq_true rfl) (Nat.le_of_ble_eq_true rfl) dX12_readPart_71 rfl ?_
    refine sp_drop (lv' := [none, none, none]) trivial ?_
    exact hX12_readPart_74 hX hR hke hf
set_option maxRecDepth 100000 in
set_option maxHeartbeats 4000000 in
theorem hX12_readPart {d : Nat} {X : sp_X} (hX : sp_OK shM X cX12_readPart RX12 3 (rmX12_readPart d)) {τ : sp_St} (hR : sp_Rv shM X τ 0 0) {n : Nat} {ke : sp_St → Int32 → Option (sp_St)} (hke : ∀ (σ : sp_St) (a : Int32) (τ : sp_St), ke σ a = some τ → sp_Cv shM (sx_l X) (sx_w X) yX12_readExpression cX12_readExpression 3 (rmX12_readExpression d) 0 0 σ [.ref ((sx_w X).2.1 0), .int a] τ) {σ : sp_St} {a1 : Int32}  (hf : X12_readPart n ke σ a1 = some τ) : sp_GG shM X σ 3 [some (.ref (sx_ad X 0)), some (.int a1), none] [] 0 0 0 := by
  unfold X12_readPart at hf
  refine sp_aload_n (i := 0) (q := 1) hX dX12_readPart_0 rfl rfl rfl ?_
  refine sp_geti (q := 4) hX flX12_209 fkX12_22 atM_0 dX12_readPart_1 rfl ?_
  refine sp_if_eq (tgt := 8) (q := 7) hX dX12_readPart_4 (by decide) rfl (fun hc => ?_) (fun hc => ?_)
  · rw [if_pos hc] at hf
    refine sp_aload_n (i := 0) (q := 9) hX dX12_readPart_8 rfl rfl rfl ?_
    refine sp_geti (q := 12) hX flX12_183 fkX12_18 atM_0 dX12_readPart_9 rfl ?_
    refine sp_iconst (v := 2) (q := 13) hX dX12_readPart_12 li_2 rfl ?_
    refine sp_icmp_ne (tgt := 29) (q := 16) hX dX12_readPart_13 (by decide) rfl (fun hc => ?_) (fun hc => ?_)
    · rw [if_neg hc] at hf
      refine sp_aload_n (i := 0) (q := 30) hX dX12_readPart_29 rfl rfl rfl ?_
      refine sp_geti (q := 33) hX flX12_183 fkX12_18 atM_0 dX12_readPart_30 rfl ?_
      refine sp_iconst (v := 1) (q := 34) hX dX12_readPart_33 li_1 rfl ?_
      refine sp_icmp_ne (tgt := 75) (q := 37) hX dX12_readPart_34 (by decide) rfl (fun hc => ?_) (fun hc => ?_)
      · rw [if_neg hc] at hf
        refine sp_aload_n (i := 0) (q := 76) hX dX12_readPart_75 rfl rfl rfl ?_
        refine sp_bipush (v := 40) (q := 78) hX dX12_readPart_76 lb_40 rfl ?_
        obtain ⟨σ2, h1, hf⟩ := sp_bv_so hf
        refine sp_callVv (As := [.int ((40 : Int32))]) (rest := []) (q := 81) hX (cnX12_mark (sp_st hX)  h1) cwX12_253 atM_0 rfl rfl rfl rfl rfl (by unfold rmX12_mark rmX12_readPart; dsimp only; simp; try omega) (by unfold rmX12_mark rmX12_readPart; dsimp only; simp; try omega) (Nat.le_of_ble_eq_true rfl) (Nat.le_of_ble_eq_true rfl) (Nat.le_of_ble_eq_true rfl) dX12_readPart_78 rfl ?_
        refine sp_aload_n (i := 0) (q := 82) hX dX12_readPart_81 rfl rfl rfl ?_
        refine sp_iload_n (i := 1) (q := 83) hX dX12_readPart_82 rfl rfl rfl ?_
        refine sp_iconst (v := 1) (q := 84) hX dX12_readPart_83 li_1 rfl ?_
        refine sp_iadd (q := 85) hX dX12_readPart_84 rfl ?_
        obtain ⟨σ4, h3, hf⟩ := sp_bv_so hf
        refine sp_callVv (As := [.int (a1 + ((1 : Int32)))]) (rest := []) (q := 88) hX (hke _ _ _ h3) cwX12_256 atM_0 rfl rfl rfl rfl rfl (by unfold rmX12_readExpression rmX12_readPart; dsimp only; simp; try omega) (by unfold rmX12_readExpression rmX12_readPart; dsimp only; simp; try omega) (Nat.le_of_ble_eq_true rfl) (Nat.le_of_ble_eq_true rfl) (Nat.le_of_ble_eq_true rfl) dX12_readPart_85 rfl ?_
        refine sp_aload_n (i := 0) (q := 89) hX dX12_readPart_88 rfl rfl rfl ?_
        refine sp_bipush (v := 41) (q := 91) hX dX12_readPart_89 lb_41 rfl ?_
        obtain ⟨σ6, h5, hf⟩ := sp_bv_so hf
        refine sp_callVv (As := [.int ((41 : Int32))]) (rest := []) (q := 94) hX (cnX12_mark (sp_st hX)  h5) cwX12_253 atM_0 rfl rfl rfl rfl rfl (by unfold rmX12_mark rmX12_readPart; dsimp only; simp; try omega) (by unfold rmX12_mark rmX12_readPart; dsimp only; simp; try omega) (Nat.le_of_ble_eq_true rfl) (Nat.le_of_ble_eq_true rfl) (Nat.le_of_ble_eq_true rfl) dX12_readPart_91 rfl ?_
        exact sp_vret hX hR dX12_readPart_94 hf (Nat.le_of_ble_eq_true rfl) (Nat.le_of_ble_eq_true rfl)
      · rw [if_pos hc] at hf
        refine sp_aload_n (i := 0) (q := 38) hX dX12_readPart_37 rfl rfl rfl ?_
        refine sp_aload_n (i := 0) (q := 39) hX dX12_readPart_38 rfl rfl rfl ?_
        obtain ⟨c7, e9, hf⟩ := sp_pl_some hf
        obtain ⟨h8, hf⟩ := sp_ck_some hf
        refine sp_getr (q := 42) hX flX12_30 fkX12_2 atM_0 dX12_readPart_39 rfl ?_
        refine sp_nmr e9 ?_
        obtain ⟨σ11, v12, h10, hf⟩ := sp_bd_so hf
        refine sp_callVi (As := [.ref (sx_ad X c7)]) (rest := []) (q := 45) hX (cnX12_which (sp_st hX) (sp_isv_ar h8) h10) cwX12_249 atM_0 rfl rfl rfl rfl rfl (by unfold rmX12_which rmX12_readPart; dsimp only; simp; try omega) (by unfold rmX12_which rmX12_readPart; dsimp only; simp; try omega) (Nat.le_of_ble_eq_true rfl) (Nat.le_of_ble_eq_true rfl) (Nat.le_of_ble_eq_true rfl) dX12_readPart_42 rfl ?_
        refine sp_istore_n (i := 2) (lv' := [some (.ref (sx_ad X 0)), some (.int a1), some (.int v12)]) (q := 46) hX dX12_readPart_45 rfl (Nat.le_of_ble_eq_true rfl) rfl rfl rfl ?_
        refine sp_iload_n (i := 2) (q := 47) hX dX12_readPart_46 rfl rfl rfl ?_
        refine sp_iconst (v := -1) (q := 48) hX dX12_readPart_47 li_m1 rfl ?_
        refine sp_icmp_ne (tgt := 56) (q := 51) hX dX12_readPart_48 (by decide) rfl (fun hc => ?_) (fun hc => ?_)
        · rw [if_neg hc] at hf
          refine sp_drop (lv' := [some (.ref (sx_ad X 0)), none, some (.int v12)]) (And.intro rfl (And.intro rfl trivial)) ?_
          exact hX12_readPart_56 hX hR hke hf
        · rw [if_pos hc] at hf
          refine sp_aload_n (i := 0) (q := 52) hX dX12_readPart_51 rfl rfl rfl ?_
          refine sp_iconst (v := 3) (q := 53) hX dX12_readPart_52 li_3 rfl ?_
          obtain ⟨σ14, h13, hf⟩ := sp_bv_so hf
          refine sp_callVv (As := [.int ((3 : Int32))]) (rest := []) (q := 56) hX (cnX12_amiss (sp_st hX)  h13) cwX12_229 atM_0 rfl rfl rfl rfl rfl (by unfold rmX12_amiss rmX12_readPart; dsimp only; simp; try omega) (by unfold rmX12_amiss rmX12_readPart; dsimp only; simp; try omega) (Nat.le_of_ble_eq_true rfl) (Nat.le_of_ble_eq_true rfl) (Nat.le_of_ble_eq_true rfl) dX12_readPart_53 rfl ?_
          refine sp_drop (lv' := [some (.ref (sx_ad X 0)), none, some (.int v12)]) (And.intro rfl (And.intro rfl trivial)) ?_
          exact hX12_readPart_56 hX hR hke hf
    · rw [if_pos hc] at hf
      refine sp_aload_n (i := 0) (q := 17) hX dX12_readPart_16 rfl rfl rfl ?_
      refine sp_aload_n (i := 0) (q := 18) hX dX12_readPart_17 rfl rfl rfl ?_
      refine sp_iconst (v := 0) (q := 19) hX dX12_readPart_18 li_0 rfl ?_
      refine sp_sipush (v := 9999) (q := 22) hX dX12_readPart_19 ls_9999 rfl ?_
      obtain ⟨σ16, v17, h15, hf⟩ := sp_bd_so hf
      refine sp_callVi (As := [.int ((0 : Int32)), .int ((9999 : Int32))]) (rest := [.ref (sx_ad X 0)]) (q := 25) hX (cnX12_readNumber (sp_st hX)  h15) cwX12_243 atM_0 rfl rfl rfl rfl rfl (by unfold rmX12_readNumber rmX12_readPart; dsimp only; simp; try omega) (by unfold rmX12_readNumber rmX12_readPart; dsimp only; simp; try omega) (Nat.le_of_ble_eq_true rfl) (Nat.le_of_ble_eq_true rfl) (Nat.le_of_ble_eq_true rfl) dX12_readPart_22 rfl ?_
      obtain ⟨σ19, h18, hf⟩ := sp_bv_so hf
      refine sp_callVv (As := [.int v17]) (rest := []) (q := 28) hX (cnX12_lay (sp_st hX)  h18) cwX12_246 atM_0 rfl rfl rfl rfl rfl (by unfold rmX12_lay rmX12_readPart; dsimp only; simp; try omega) (by unfold rmX12_lay rmX12_readPart; dsimp only; simp; try omega) (Nat.le_of_ble_eq_true rfl) (Nat.le_of_ble_eq_true rfl) (Nat.le_of_ble_eq_true rfl) dX12_readPart_25 rfl ?_
      exact sp_vret hX hR dX12_readPart_28 hf (Nat.le_of_ble_eq_true rfl) (Nat.le_of_ble_eq_true rfl)
  · rw [if_neg hc] at hf
    exact sp_vret hX hR dX12_readPart_7 hf (Nat.le_of_ble_eq_true rfl) (Nat.le_of_ble_eq_true rfl)
set_option maxRecDepth 100000 in
set_option maxHeartbeats 4000000 in
theorem cnX12_readPart {l : Launch} (hst : l.stackTraces = false) {w : sp_Wd} {n : Nat} {d : Nat} {ke : sp_St → Int32 → Option (sp_St)} (hke : ∀ (σ : sp_St) (a : Int32) (τ : sp_St), ke σ a = some τ → sp_Cv shM l w yX12_readExpression cX12_readExpression 3 (rmX12_readExpression d) 0 0 σ [.ref (w.2.1 0), .int a] τ) {σ : sp_St} {a1 : Int32} {τ : sp_St}  (hf : X12_readPart n ke σ a1 = some τ) : sp_Cv shM l w yX12_readPart cX12_readPart 3 (rmX12_readPart d) 0 0 σ [.ref (w.2.1 0), .int a1] τ :=
  sp_cv (own := RX12) (by decide) rfl hst (Nat.le_of_ble_eq_true rfl) rfl (fun X hX hw hl hR => by subst hw; subst hl; exact hX12_readPart hX hR hke  hf)
def X12_readProduct_23 (n : Nat) (ke : sp_St → Int32 → Option (sp_St)) (k5 : sp_St → Int32 → Option (sp_St)) (σ : sp_St) (z1 : Int32) : Option (sp_St) :=
  sp_bd (X12_isMarked n σ ((42 : Int32))) fun σ2 v3 =>
  sp_pl (if v3 = 0 then ((-23 : Int32)) else ((-22 : Int32))) fun v4 =>
  sp_bv (X12_stepOn n σ2) fun σ7 =>
  sp_bv (X12_readPart n ke σ7 z1) fun σ9 =>
  sp_bv (X12_lay n σ9 v4) fun σ11 =>
  k5 σ11 z1
def X12_readProduct_5 (n : Nat) (ke : sp_St → Int32 → Option (sp_St)) : Nat → sp_St → Int32 → Option (sp_St)
  | 0, _, _ => none
  | f + 1, σ, z1 =>
    sp_bd (X12_isMarked n σ ((42 : Int32))) fun σ2 v3 =>
    if v3 = 0 then
      sp_bd (X12_isMarked n σ2 ((47 : Int32))) fun σ5 v6 =>
      if v6 = 0 then
        some σ5
      else
        X12_readProduct_23 n ke (X12_readProduct_5 n ke f) σ5 z1
    else
      X12_readProduct_23 n ke (X12_readProduct_5 n ke f) σ2 z1
def X12_readProduct (n : Nat) (ke : sp_St → Int32 → Option (sp_St)) (σ : sp_St) (a1 : Int32) : Option (sp_St) :=
  sp_bv (X12_readPart n ke σ a1) fun σ2 =>
  X12_readProduct_5 n ke n σ2 a1
set_option maxRecDepth 100000 in
set_option maxHeartbeats 4000000 in
theorem hX12_readProduct_23 {d : Nat} {X : sp_X} (hX : sp_OK shM X cX12_readProduct RX12 3 (rmX12_readProduct d)) {τ : sp_St} (hR : sp_Rv shM X τ 0 0) {n : Nat} {ke : sp_St → Int32 → Option (sp_St)} (hke : ∀ (σ : sp_St) (a : Int32) (τ : sp_St), ke σ a = some τ → sp_Cv shM (sx_l X) (sx_w X) yX12_readExpression cX12_readExpression 3 (rmX12_readExpression d) 0 0 σ [.ref ((sx_w X).2.1 0), .int a] τ)  {k5 : sp_St → Int32 → Option (sp_St)} (hk5 : ∀ (σ : sp_St) (z1 : Int32), k5 σ z1 = some τ → sp_GG shM X σ 3 [some (.ref (sx_ad X 0)), some (.int z1), none] [] 5 0 0) {σ : sp_St} {z1 : Int32} (hf : X12_readProduct_23 n ke k5 σ z1 = some τ) : sp_GG shM X σ 3 [some (.ref (sx_ad X 0)), some (.int z1), none] [] 23 0 0 := by
  unfold X12_readProduct_23 at hf
  refine sp_aload_n (i := 0) (q := 24) hX dX12_readProduct_23 rfl rfl rfl ?_
  refine sp_bipush (v := 42) (q := 26) hX dX12_readProduct_24 lb_42 rfl ?_
  obtain ⟨σ2, v3, h1, hf⟩ := sp_bd_so hf
  refine sp_callVi (As := [.int ((42 : Int32))]) (rest := []) (q := 29) hX (cnX12_isMarked (sp_st hX)  h1) cwX12_226 atM_0 rfl rfl rfl rfl rfl (by unfold rmX12_isMarked rmX12_readProduct; dsimp only; simp; try omega) (by unfold rmX12_isMarked rmX12_readProduct; dsimp only; simp; try omega) (Nat.le_of_ble_eq_true rfl) (Nat.le_of_ble_eq_true rfl) (Nat.le_of_ble_eq_true rfl) dX12_readProduct_26 rfl ?_
  obtain ⟨v4, e5, hf⟩ := sp_pl_some hf
  have hj12 : sp_GG shM X σ2 3 [some (.ref (sx_ad X 0)), some (.int z1), none] [.int v4] 39 0 0 := by
    refine sp_istore_n (i := 2) (lv' := [some (.ref (sx_ad X 0)), some (.int z1), some (.int v4)]) (q := 40) hX dX12_readProduct_39 rfl (Nat.le_of_ble_eq_true rfl) rfl rfl rfl ?_
    refine sp_aload_n (i := 0) (q := 41) hX dX12_readProduct_40 rfl rfl rfl ?_
    obtain ⟨σ7, h6, hf⟩ := sp_bv_so hf
    refine sp_callVv (As := []) (rest := []) (q := 44) hX (cnX12_stepOn (sp_st hX)  h6) cwX12_233 atM_0 rfl rfl rfl rfl rfl (by unfold rmX12_stepOn rmX12_readProduct; dsimp only; simp; try omega) (by unfold rmX12_stepOn rmX12_readProduct; dsimp only; simp; try omega) (Nat.le_of_ble_eq_true rfl) (Nat.le_of_ble_eq_true rfl) (Nat.le_of_ble_eq_true rfl) dX12_readProduct_41 rfl ?_
    refine sp_aload_n (i := 0) (q := 45) hX dX12_readProduct_44 rfl rfl rfl ?_
    refine sp_iload_n (i := 1) (q := 46) hX dX12_readProduct_45 rfl rfl rfl ?_
    obtain ⟨σ9, h8, hf⟩ := sp_bv_so hf
    refine sp_callVv (As := [.int z1]) (rest := []) (q := 49) hX (cnX12_readPart (sp_st hX) hke  h8) cwX12_259 atM_0 rfl rfl rfl rfl rfl (by unfold rmX12_readPart rmX12_readProduct; dsimp only; simp; try omega) (by unfold rmX12_readPart rmX12_readProduct; dsimp only; simp; try omega) (Nat.le_of_ble_eq_true rfl) (Nat.le_of_ble_eq_true rfl) (Nat.le_of_ble_eq_true rfl) dX12_readProduct_46 rfl ?_
    refine sp_aload_n (i := 0) (q := 50) hX dX12_readProduct_49 rfl rfl rfl ?_
    refine sp_iload_n (i := 2) (q := 51) hX dX12_readProduct_50 rfl rfl rfl ?_
    obtain ⟨σ11, h10, hf⟩ := sp_bv_so hf
    refine sp_callVv (As := [.int v4]) (rest := []) (q := 54) hX (cnX12_lay (sp_st hX)  h10) cwX12_246 atM_0 rfl rfl rfl rfl rfl (by unfold rmX12_lay rmX12_readProduct; dsimp only; simp; try omega) (by unfold rmX12_lay rmX12_readProduct; dsimp only; simp; try omega) (Nat.le_of_ble_eq_true rfl) (Nat.le_of_ble_eq_true rfl) (Nat.le_of_ble_eq_true rfl) dX12_readProduct_51 rfl ?_
    refine sp_goto (tgt := 5) hX dX12_readProduct_54 (by decide) ?_
    refine sp_drop (lv' := [some (.ref (sx_ad X 0)), some (.int z1), none]) (And.intro rfl (And.intro rfl trivial)) ?_
    exact hk5 σ11 z1 hf
  refine sp_if_eq (tgt := 37) (q := 32) hX dX12_readProduct_29 (by decide) rfl (fun hc => ?_) (fun hc => ?_)
  · refine sp_bipush (v := -23) (q := 39) hX dX12_readProduct_37 lb_m23 rfl ?_
    exact sp_nmi (by rw [e5, if_pos hc]) hj12
  · refine sp_bipush (v := -22) (q := 34) hX dX12_readProduct_32 lb_m22 rfl ?_
    refine sp_goto (tgt := 39) hX dX12_readProduct_34 (by decide) ?_
    exact sp_nmi (by rw [e5, if_neg hc]) hj12
set_option maxRecDepth 100000 in
set_option maxHeartbeats 4000000 in
theorem hX12_readProduct_5 {d : Nat} {X : sp_X} (hX : sp_OK shM X cX12_readProduct RX12 3 (rmX12_readProduct d)) {τ : sp_St} (hR : sp_Rv shM X τ 0 0) {n : Nat} {ke : sp_St → Int32 → Option (sp_St)} (hke : ∀ (σ : sp_St) (a : Int32) (τ : sp_St), ke σ a = some τ → sp_Cv shM (sx_l X) (sx_w X) yX12_readExpression cX12_readExpression 3 (rmX12_readExpression d) 0 0 σ [.ref ((sx_w X).2.1 0), .int a] τ)   : ∀ (f : Nat) (σ : sp_St) (z1 : Int32), X12_readProduct_5 n ke f σ z1 = some τ → sp_GG shM X σ 3 [some (.ref (sx_ad X 0)), some (.int z1), none] [] 5 0 0 := by
  intro f
  induction f with
  | zero =>
    intro σ z1 hf
    rw [X12_readProduct_5] at hf
    cases hf
  | succ f ih =>
    intro σ z1 hf
    rw [X12_readProduct_5] at hf
    refine sp_aload_n (i := 0) (q := 6) hX dX12_readProduct_5 rfl rfl rfl ?_
    refine sp_bipush (v := 42) (q := 8) hX dX12_readProduct_6 lb_42 rfl ?_
    obtain ⟨σ2, v3, h1, hf⟩ := sp_bd_so hf
    refine sp_callVi (As := [.int ((42 : Int32))]) (rest := []) (q := 11) hX (cnX12_isMarked (sp_st hX)  h1) cwX12_226 atM_0 rfl rfl rfl rfl rfl (by unfold rmX12_isMarked rmX12_readProduct; dsimp only; simp; try omega) (by unfold rmX12_isMarked rmX12_readProduct; dsimp only; simp; try omega) (Nat.le_of_ble_eq_true rfl) (Nat.le_of_ble_eq_true rfl) (Nat.le_of_ble_eq_true rfl) dX12_readProduct_8 rfl ?_
    refine sp_if_ne (tgt := 23) (q := 14) hX dX12_readProduct_11 (by decide) rfl (fun hc => ?_) (fun hc => ?_)
    · rw [if_neg hc] at hf
      exact hX12_readProduct_23 hX hR hke ih hf
    · rw [if_pos hc] at hf
      refine sp_aload_n (i := 0) (q := 15) hX dX12_readProduct_14 rfl rfl rfl ?_
      refine sp_bipush (v := 47) (q := 17) hX dX12_readProduct_15 lb_47 rfl ?_
      obtain ⟨σ5, v6, h4, hf⟩ := sp_bd_so hf
      refine sp_callVi (As := [.int ((47 : Int32))]) (rest := []) (q := 20) hX (cnX12_isMarked (sp_st hX)  h4) cwX12_226 atM_0 rfl rfl rfl rfl rfl (by unfold rmX12_isMarked rmX12_readProduct; dsimp only; simp; try omega) (by unfold rmX12_isMarked rmX12_readProduct; dsimp only; simp; try omega) (Nat.le_of_ble_eq_true rfl) (Nat.le_of_ble_eq_true rfl) (Nat.le_of_ble_eq_true rfl) dX12_readProduct_17 rfl ?_
      refine sp_if_eq (tgt := 57) (q := 23) hX dX12_readProduct_20 (by decide) rfl (fun hc => ?_) (fun hc => ?_)
      · rw [if_pos hc] at hf
        exact sp_vret hX hR dX12_readProduct_57 hf (Nat.le_of_ble_eq_true rfl) (Nat.le_of_ble_eq_true rfl)
      · rw [if_neg hc] at hf
        exact hX12_readProduct_23 hX hR hke ih hf
set_option maxRecDepth 100000 in
set_option maxHeartbeats 4000000 in
theorem hX12_readProduct {d : Nat} {X : sp_X} (hX : sp_OK shM X cX12_readProduct RX12 3 (rmX12_readProduct d)) {τ : sp_St} (hR : sp_Rv shM X τ 0 0) {n : Nat} {ke : sp_St → Int32 → Option (sp_St)} (hke : ∀ (σ : sp_St) (a : Int32) (τ : sp_St), ke σ a = some τ → sp_Cv shM (sx_l X) (sx_w X) yX12_readExpression cX12_readExpression 3 (rmX12_readExpression d) 0 0 σ [.ref ((sx_w X).2.1 0), .int a] τ) {σ : sp_St} {a1 : Int32}  (hf : X12_readProduct n ke σ a1 = some τ) : sp_GG shM X σ 3 [some (.ref (sx_ad X 0)), some (.int a1), none] [] 0 0 0 := by
  unfold X12_readProduct at hf
  refine sp_aload_n (i := 0) (q := 1) hX dX12_readProduct_0 rfl rfl rfl ?_
  refine sp_iload_n (i := 1) (q := 2) hX dX12_readProduct_1 rfl rfl rfl ?_
  obtain ⟨σ2, h1, hf⟩ := sp_bv_so hf
  refine sp_callVv (As := [.int a1]) (rest := []) (q := 5) hX (cnX12_readPart (sp_st hX) hke  h1) cwX12_259 atM_0 rfl rfl rfl rfl rfl (by unfold rmX12_readPart rmX12_readProduct; dsimp only; simp; try omega) (by unfold rmX12_readPart rmX12_readProduct; dsimp only; simp; try omega) (Nat.le_of_ble_eq_true rfl) (Nat.le_of_ble_eq_true rfl) (Nat.le_of_ble_eq_true rfl) dX12_readProduct_2 rfl ?_
  exact hX12_readProduct_5 hX hR hke n σ2 a1 hf
set_option maxRecDepth 100000 in
set_option maxHeartbeats 4000000 in
theorem cnX12_readProduct {l : Launch} (hst : l.stackTraces = false) {w : sp_Wd} {n : Nat} {d : Nat} {ke : sp_St → Int32 → Option (sp_St)} (hke : ∀ (σ : sp_St) (a : Int32) (τ : sp_St), ke σ a = some τ → sp_Cv shM l w yX12_readExpression cX12_readExpression 3 (rmX12_readExpression d) 0 0 σ [.ref (w.2.1 0), .int a] τ) {σ : sp_St} {a1 : Int32} {τ : sp_St}  (hf : X12_readProduct n ke σ a1 = some τ) : sp_Cv shM l w yX12_readProduct cX12_readProduct 3 (rmX12_readProduct d) 0 0 σ [.ref (w.2.1 0), .int a1] τ :=
  sp_cv (own := RX12) (by decide) rfl hst (Nat.le_of_ble_eq_true rfl) rfl (fun X hX hw hl hR => by subst hw; subst hl; exact hX12_readProduct hX hR hke  hf)
def X12_readSum_23 (n : Nat) (ke : sp_St → Int32 → Option (sp_St)) (k5 : sp_St → Int32 → Option (sp_St)) (σ : sp_St) (z1 : Int32) : Option (sp_St) :=
  sp_bd (X12_isMarked n σ ((43 : Int32))) fun σ2 v3 =>
  sp_pl (if v3 = 0 then ((-21 : Int32)) else ((-20 : Int32))) fun v4 =>
  sp_bv (X12_stepOn n σ2) fun σ7 =>
  sp_bv (X12_readProduct n ke σ7 z1) fun σ9 =>
  sp_bv (X12_lay n σ9 v4) fun σ11 =>
  k5 σ11 z1
def X12_readSum_5 (n : Nat) (ke : sp_St → Int32 → Option (sp_St)) : Nat → sp_St → Int32 → Option (sp_St)
  | 0, _, _ => none
  | f + 1, σ, z1 =>
    sp_bd (X12_isMarked n σ ((43 : Int32))) fun σ2 v3 =>
    if v3 = 0 then
      sp_bd (X12_isMarked n σ2 ((45 : Int32))) fun σ5 v6 =>
      if v6 = 0 then
        some σ5
      else
        X12_readSum_23 n ke (X12_readSum_5 n ke f) σ5 z1
    else
      X12_readSum_23 n ke (X12_readSum_5 n ke f) σ2 z1
def X12_readSum (n : Nat) (ke : sp_St → Int32 → Option (sp_St)) (σ : sp_St) (a1 : Int32) : Option (sp_St) :=
  sp_bv (X12_readProduct n ke σ a1) fun σ2 =>
  X12_readSum_5 n ke n σ2 a1
set_option maxRecDepth 100000 in
set_option maxHeartbeats 4000000 in
theorem hX12_readSum_23 {d : Nat} {X : sp_X} (hX : sp_OK shM X cX12_readSum RX12 3 (rmX12_readSum d)) {τ : sp_St} (hR : sp_Rv shM X τ 0 0) {n : Nat} {ke : sp_St → Int32 → Option (sp_St)} (hke : ∀ (σ : sp_St) (a : Int32) (τ : sp_St), ke σ a = some τ → sp_Cv shM (sx_l X) (sx_w X) yX12_readExpression cX12_readExpression 3 (rmX12_readExpression d) 0 0 σ [.ref ((sx_w X).2.1 0), .int a] τ)  {k5 : sp_St → Int32 → Option (sp_St)} (hk5 : ∀ (σ : sp_St) (z1 : Int32), k5 σ z1 = some τ → sp_GG shM X σ 3 [some (.ref (sx_ad X 0)), some (.int z1), none] [] 5 0 0) {σ : sp_St} {z1 : Int32} (hf : X12_readSum_23 n ke k5 σ z1 = some τ) : sp_GG shM X σ 3 [some (.ref (sx_ad X 0)), some (.int z1), none] [] 23 0 0 := by
  unfold X12_readSum_23 at hf
  refine sp_aload_n (i := 0) (q := 24) hX dX12_readSum_23 rfl rfl rfl ?_
  refine sp_bipush (v := 43) (q := 26) hX dX12_readSum_24 lb_43 rfl ?_
  obtain ⟨σ2, v3, h1, hf⟩ := sp_bd_so hf
  refine sp_callVi (As := [.int ((43 : Int32))]) (rest := []) (q := 29) hX (cnX12_isMarked (sp_st hX)  h1) cwX12_226 atM_0 rfl rfl rfl rfl rfl (by unfold rmX12_isMarked rmX12_readSum; dsimp only; simp; try omega) (by unfold rmX12_isMarked rmX12_readSum; dsimp only; simp; try omega) (Nat.le_of_ble_eq_true rfl) (Nat.le_of_ble_eq_true rfl) (Nat.le_of_ble_eq_true rfl) dX12_readSum_26 rfl ?_
  obtain ⟨v4, e5, hf⟩ := sp_pl_some hf
  have hj12 : sp_GG shM X σ2 3 [some (.ref (sx_ad X 0)), some (.int z1), none] [.int v4] 39 0 0 := by
    refine sp_istore_n (i := 2) (lv' := [some (.ref (sx_ad X 0)), some (.int z1), some (.int v4)]) (q := 40) hX dX12_readSum_39 rfl (Nat.le_of_ble_eq_true rfl) rfl rfl rfl ?_
    refine sp_aload_n (i := 0) (q := 41) hX dX12_readSum_40 rfl rfl rfl ?_
    obtain ⟨σ7, h6, hf⟩ := sp_bv_so hf
    refine sp_callVv (As := []) (rest := []) (q := 44) hX (cnX12_stepOn (sp_st hX)  h6) cwX12_233 atM_0 rfl rfl rfl rfl rfl (by unfold rmX12_stepOn rmX12_readSum; dsimp only; simp; try omega) (by unfold rmX12_stepOn rmX12_readSum; dsimp only; simp; try omega) (Nat.le_of_ble_eq_true rfl) (Nat.le_of_ble_eq_true rfl) (Nat.le_of_ble_eq_true rfl) dX12_readSum_41 rfl ?_
    refine sp_aload_n (i := 0) (q := 45) hX dX12_readSum_44 rfl rfl rfl ?_
    refine sp_iload_n (i := 1) (q := 46) hX dX12_readSum_45 rfl rfl rfl ?_
    obtain ⟨σ9, h8, hf⟩ := sp_bv_so hf
    refine sp_callVv (As := [.int z1]) (rest := []) (q := 49) hX (cnX12_readProduct (sp_st hX) hke  h8) cwX12_262 atM_0 rfl rfl rfl rfl rfl (by unfold rmX12_readProduct rmX12_readSum; dsimp only; simp; try omega) (by unfold rmX12_readProduct rmX12_readSum; dsimp only; simp; try omega) (Nat.le_of_ble_eq_true rfl) (Nat.le_of_ble_eq_true rfl) (Nat.le_of_ble_eq_true rfl) dX12_readSum_46 rfl ?_
    refine sp_aload_n (i := 0) (q := 50) hX dX12_readSum_49 rfl rfl rfl ?_
    refine sp_iload_n (i := 2) (q := 51) hX dX12_readSum_50 rfl rfl rfl ?_
    obtain ⟨σ11, h10, hf⟩ := sp_bv_so hf
    refine sp_callVv (As := [.int v4]) (rest := []) (q := 54) hX (cnX12_lay (sp_st hX)  h10) cwX12_246 atM_0 rfl rfl rfl rfl rfl (by unfold rmX12_lay rmX12_readSum; dsimp only; simp; try omega) (by unfold rmX12_lay rmX12_readSum; dsimp only; simp; try omega) (Nat.le_of_ble_eq_true rfl) (Nat.le_of_ble_eq_true rfl) (Nat.le_of_ble_eq_true rfl) dX12_readSum_51 rfl ?_
    refine sp_goto (tgt := 5) hX dX12_readSum_54 (by decide) ?_
    refine sp_drop (lv' := [some (.ref (sx_ad X 0)), some (.int z1), none]) (And.intro rfl (And.intro rfl trivial)) ?_
    exact hk5 σ11 z1 hf
  refine sp_if_eq (tgt := 37) (q := 32) hX dX12_readSum_29 (by decide) rfl (fun hc => ?_) (fun hc => ?_)
  · refine sp_bipush (v := -21) (q := 39) hX dX12_readSum_37 lb_m21 rfl ?_
    exact sp_nmi (by rw [e5, if_pos hc]) hj12
  · refine sp_bipush (v := -20) (q := 34) hX dX12_readSum_32 lb_m20 rfl ?_
    refine sp_goto (tgt := 39) hX dX12_readSum_34 (by decide) ?_
    exact sp_nmi (by rw [e5, if_neg hc]) hj12
set_option maxRecDepth 100000 in
set_option maxHeartbeats 4000000 in
theorem hX12_readSum_5 {d : Nat} {X : sp_X} (hX : sp_OK shM X cX12_readSum RX12 3 (rmX12_readSum d)) {τ : sp_St} (hR : sp_Rv shM X τ 0 0) {n : Nat} {ke : sp_St → Int32 → Option (sp_St)} (hke : ∀ (σ : sp_St) (a : Int32) (τ : sp_St), ke σ a = some τ → sp_Cv shM (sx_l X) (sx_w X) yX12_readExpression cX12_readExpression 3 (rmX12_readExpression d) 0 0 σ [.ref ((sx_w X).2.1 0), .int a] τ)   : ∀ (f : Nat) (σ : sp_St) (z1 : Int32), X12_readSum_5 n ke f σ z1 = some τ → sp_GG shM X σ 3 [some (.ref (sx_ad X 0)), some (.int z1), none] [] 5 0 0 := by
  intro f
  induction f with
  | zero =>
    intro σ z1 hf
    rw [X12_readSum_5] at hf
    cases hf
  | succ f ih =>
    intro σ z1 hf
    rw [X12_readSum_5] at hf
    refine sp_aload_n (i := 0) (q := 6) hX dX12_readSum_5 rfl rfl rfl ?_
    refine sp_bipush (v := 43) (q := 8) hX dX12_readSum_6 lb_43 rfl ?_
    obtain ⟨σ2, v3, h1, hf⟩ := sp_bd_so hf
    refine sp_callVi (As := [.int ((43 : Int32))]) (rest := []) (q := 11) hX (cnX12_isMarked (sp_st hX)  h1) cwX12_226 atM_0 rfl rfl rfl rfl rfl (by unfold rmX12_isMarked rmX12_readSum; dsimp only; simp; try omega) (by unfold rmX12_isMarked rmX12_readSum; dsimp only; simp; try omega) (Nat.le_of_ble_eq_true rfl) (Nat.le_of_ble_eq_true rfl) (Nat.le_of_ble_eq_true rfl) dX12_readSum_8 rfl ?_
    refine sp_if_ne (tgt := 23) (q := 14) hX dX12_readSum_11 (by decide) rfl (fun hc => ?_) (fun hc => ?_)
    · rw [if_neg hc] at hf
      exact hX12_readSum_23 hX hR hke ih hf
    · rw [if_pos hc] at hf
      refine sp_aload_n (i := 0) (q := 15) hX dX12_readSum_14 rfl rfl rfl ?_
      refine sp_bipush (v := 45) (q := 17) hX dX12_readSum_15 lb_45 rfl ?_
      obtain ⟨σ5, v6, h4, hf⟩ := sp_bd_so hf
      refine sp_callVi (As := [.int ((45 : Int32))]) (rest := []) (q := 20) hX (cnX12_isMarked (sp_st hX)  h4) cwX12_226 atM_0 rfl rfl rfl rfl rfl (by unfold rmX12_isMarked rmX12_readSum; dsimp only; simp; try omega) (by unfold rmX12_isMarked rmX12_readSum; dsimp only; simp; try omega) (Nat.le_of_ble_eq_true rfl) (Nat.le_of_ble_eq_true rfl) (Nat.le_of_ble_eq_true rfl) dX12_readSum_17 rfl ?_
      refine sp_if_eq (tgt := 57) (q := 23) hX dX12_readSum_20 (by decide) rfl (fun hc => ?_) (fun hc => ?_)
      · rw [if_pos hc] at hf
        exact sp_vret hX hR dX12_readSum_57 hf (Nat.le_of_ble_eq_true rfl) (Nat.le_of_ble_eq_true rfl)
      · rw [if_neg hc] at hf
        exact hX12_readSum_23 hX hR hke ih hf
set_option maxRecDepth 100000 in
set_option maxHeartbeats 4000000 in
theorem hX12_readSum {d : Nat} {X : sp_X} (hX : sp_OK shM X cX12_readSum RX12 3 (rmX12_readSum d)) {τ : sp_St} (hR : sp_Rv shM X τ 0 0) {n : Nat} {ke : sp_St → Int32 → Option (sp_St)} (hke : ∀ (σ : sp_St) (a : Int32) (τ : sp_St), ke σ a = some τ → sp_Cv shM (sx_l X) (sx_w X) yX12_readExpression cX12_readExpression 3 (rmX12_readExpression d) 0 0 σ [.ref ((sx_w X).2.1 0), .int a] τ) {σ : sp_St} {a1 : Int32}  (hf : X12_readSum n ke σ a1 = some τ) : sp_GG shM X σ 3 [some (.ref (sx_ad X 0)), some (.int a1), none] [] 0 0 0 := by
  unfold X12_readSum at hf
  refine sp_aload_n (i := 0) (q := 1) hX dX12_readSum_0 rfl rfl rfl ?_
  refine sp_iload_n (i := 1) (q := 2) hX dX12_readSum_1 rfl rfl rfl ?_
  obtain ⟨σ2, h1, hf⟩ := sp_bv_so hf
  refine sp_callVv (As := [.int a1]) (rest := []) (q := 5) hX (cnX12_readProduct (sp_st hX) hke  h1) cwX12_262 atM_0 rfl rfl rfl rfl rfl (by unfold rmX12_readProduct rmX12_readSum; dsimp only; simp; try omega) (by unfold rmX12_readProduct rmX12_readSum; dsimp only; simp; try omega) (Nat.le_of_ble_eq_true rfl) (Nat.le_of_ble_eq_true rfl) (Nat.le_of_ble_eq_true rfl) dX12_readSum_2 rfl ?_
  exact hX12_readSum_5 hX hR hke n σ2 a1 hf
set_option maxRecDepth 100000 in
set_option maxHeartbeats 4000000 in
theorem cnX12_readSum {l : Launch} (hst : l.stackTraces = false) {w : sp_Wd} {n : Nat} {d : Nat} {ke : sp_St → Int32 → Option (sp_St)} (hke : ∀ (σ : sp_St) (a : Int32) (τ : sp_St), ke σ a = some τ → sp_Cv shM l w yX12_readExpression cX12_readExpression 3 (rmX12_readExpression d) 0 0 σ [.ref (w.2.1 0), .int a] τ) {σ : sp_St} {a1 : Int32} {τ : sp_St}  (hf : X12_readSum n ke σ a1 = some τ) : sp_Cv shM l w yX12_readSum cX12_readSum 3 (rmX12_readSum d) 0 0 σ [.ref (w.2.1 0), .int a1] τ :=
  sp_cv (own := RX12) (by decide) rfl hst (Nat.le_of_ble_eq_true rfl) rfl (fun X hX hw hl hR => by subst hw; subst hl; exact hX12_readSum hX hR hke  hf)
def X12_readNot_96 (n : Nat) (ke : sp_St → Int32 → Option (sp_St)) : Nat → sp_St → Int32 → Int32 → Option (sp_St)
  | 0, _, _, _ => none
  | f + 1, σ, z2, z3 =>
    if z2 ≤ z3 then
      some σ
    else
      sp_bv (X12_lay n σ ((-28 : Int32))) fun σ2 =>
      sp_pl (z3 + 1) fun x3 =>
      X12_readNot_96 n ke f σ2 z2 x3
def X12_readNot_94 (n : Nat) (ke : sp_St → Int32 → Option (sp_St)) (σ : sp_St) (z2 : Int32) : Option (sp_St) :=
  sp_pl ((0 : Int32)) fun x1 =>
  X12_readNot_96 n ke n σ z2 x1
def X12_readNot_63 (n : Nat) (ke : sp_St → Int32 → Option (sp_St)) (σ : sp_St) (z1 : Int32) (z2 : Int32) : Option (sp_St) :=
  sp_bd (X12_isMarked n σ ((60 : Int32))) fun σ2 v3 =>
  sp_pl (if v3 = 0 then ((-25 : Int32)) else ((-24 : Int32))) fun v4 =>
  sp_bv (X12_stepOn n σ2) fun σ7 =>
  sp_bv (X12_readSum n ke σ7 z1) fun σ9 =>
  sp_bv (X12_lay n σ9 v4) fun σ11 =>
  X12_readNot_94 n ke σ11 z2
def X12_readNot_40 (n : Nat) (ke : sp_St → Int32 → Option (sp_St)) (σ : sp_St) (z1 : Int32) (z2 : Int32) : Option (sp_St) :=
  sp_bv (X12_readSum n ke σ z1) fun σ2 =>
  sp_bd (X12_isMarked n σ2 ((60 : Int32))) fun σ4 v5 =>
  if v5 = 0 then
    sp_bd (X12_isMarked n σ4 ((61 : Int32))) fun σ7 v8 =>
    if v8 = 0 then
      X12_readNot_94 n ke σ7 z2
    else
      X12_readNot_63 n ke σ7 z1 z2
  else
    X12_readNot_63 n ke σ4 z1 z2
def X12_readNot_23 (n : Nat) (ke : sp_St → Int32 → Option (sp_St)) (k2 : sp_St → Int32 → Int32 → Option (sp_St)) (σ : sp_St) (z1 : Int32) (z2 : Int32) : Option (sp_St) :=
  sp_pl (z2 + 1) fun x1 =>
  if (σ.1 0 22) = 0 then
    sp_bv (X12_stepOn n σ) fun σ4 =>
    k2 σ4 z1 x1
  else
    k2 σ z1 x1
def X12_readNot_2 (n : Nat) (ke : sp_St → Int32 → Option (sp_St)) : Nat → sp_St → Int32 → Int32 → Option (sp_St)
  | 0, _, _, _ => none
  | f + 1, σ, z1, z2 =>
    sp_bd (X12_is n σ 6) fun σ2 v3 =>
    if v3 = 0 then
      X12_readNot_40 n ke σ2 z1 z2
    else
      if z2 = ((6 : Int32)) then
        sp_bv (X12_amiss n σ2 ((2 : Int32))) fun σ5 =>
        X12_readNot_23 n ke (X12_readNot_2 n ke f) σ5 z1 z2
      else
        X12_readNot_23 n ke (X12_readNot_2 n ke f) σ2 z1 z2
def X12_readNot (n : Nat) (ke : sp_St → Int32 → Option (sp_St)) (σ : sp_St) (a1 : Int32) : Option (sp_St) :=
  sp_pl ((0 : Int32)) fun x1 =>
  X12_readNot_2 n ke n σ a1 x1
set_option maxRecDepth 100000 in
set_option maxHeartbeats 4000000 in
theorem hX12_readNot_96 {d : Nat} {X : sp_X} (hX : sp_OK shM X cX12_readNot RX12 4 (rmX12_readNot d)) {τ : sp_St} (hR : sp_Rv shM X τ 0 0) {n : Nat} {ke : sp_St → Int32 → Option (sp_St)} (hke : ∀ (σ : sp_St) (a : Int32) (τ : sp_St), ke σ a = some τ → sp_Cv shM (sx_l X) (sx_w X) yX12_readExpression cX12_readExpression 3 (rmX12_readExpression d) 0 0 σ [.ref ((sx_w X).2.1 0), .int a] τ)   : ∀ (f : Nat) (σ : sp_St) (z2 : Int32) (z3 : Int32), X12_readNot_96 n ke f σ z2 z3 = some τ → sp_GG shM X σ 4 [some (.ref (sx_ad X 0)), none, some (.int z2), some (.int z3)] [] 96 0 0 := by
  intro f
  induction f with
  | zero =>
    intro σ z2 z3 hf
    rw [X12_readNot_96] at hf
    cases hf
  | succ f ih =>
    intro σ z2 z3 hf
    rw [X12_readNot_96] at hf
    refine sp_iload_n (i := 3) (q := 97) hX dX12_readNot_96 rfl rfl rfl ?_
    refine sp_iload_n (i := 2) (q := 98) hX dX12_readNot_97 rfl rfl rfl ?_
    refine sp_icmp_ge (tgt := 113) (q := 101) hX dX12_readNot_98 (by decide) rfl (fun hc => ?_) (fun hc => ?_)
    · rw [if_pos hc] at hf
      exact sp_vret hX hR dX12_readNot_113 hf (Nat.le_of_ble_eq_true rfl) (Nat.le_of_ble_eq_true rfl)
    · rw [if_neg hc] at hf
      refine sp_aload_n (i := 0) (q := 102) hX dX12_readNot_101 rfl rfl rfl ?_
      refine sp_bipush (v := -28) (q := 104) hX dX12_readNot_102 lb_m28 rfl ?_
      obtain ⟨σ2, h1, hf⟩ := sp_bv_so hf
      refine sp_callVv (As := [.int ((-28 : Int32))]) (rest := []) (q := 107) hX (cnX12_lay (sp_st hX)  h1) cwX12_246 atM_0 rfl rfl rfl rfl rfl (by unfold rmX12_lay rmX12_readNot; dsimp only; simp; try omega) (by unfold rmX12_lay rmX12_readNot; dsimp only; simp; try omega) (Nat.le_of_ble_eq_true rfl) (Nat.le_of_ble_eq_true rfl) (Nat.le_of_ble_eq_true rfl) dX12_readNot_104 rfl ?_
      obtain ⟨x3, e4, hf⟩ := sp_pl_some hf
      refine sp_iinc (i := 3) (v := x3) (lv' := [some (.ref (sx_ad X 0)), none, some (.int z2), some (.int x3)]) (q := 110) hX dX12_readNot_107 rfl (by rw [e4, li_1]) (Nat.le_of_ble_eq_true rfl) rfl rfl rfl ?_
      refine sp_goto (tgt := 96) hX dX12_readNot_110 (by decide) ?_
      exact ih σ2 z2 x3 hf
set_option maxRecDepth 100000 in
set_option maxHeartbeats 4000000 in
theorem hX12_readNot_94 {d : Nat} {X : sp_X} (hX : sp_OK shM X cX12_readNot RX12 4 (rmX12_readNot d)) {τ : sp_St} (hR : sp_Rv shM X τ 0 0) {n : Nat} {ke : sp_St → Int32 → Option (sp_St)} (hke : ∀ (σ : sp_St) (a : Int32) (τ : sp_St), ke σ a = some τ → sp_Cv shM (sx_l X) (sx_w X) yX12_readExpression cX12_readExpression 3 (rmX12_readExpression d) 0 0 σ [.ref ((sx_w X).2.1 0), .int a] τ)   {σ : sp_St} {z2 : Int32} (hf : X12_readNot_94 n ke σ z2 = some τ) : sp_GG shM X σ 4 [some (.ref (sx_ad X 0)), none, some (.int z2), none] [] 94 0 0 := by
  unfold X12_readNot_94 at hf
  refine sp_iconst (v := 0) (q := 95) hX dX12_readNot_94 li_0 rfl ?_
  obtain ⟨x1, e2, hf⟩ := sp_pl_some hf
  refine sp_nmi e2 ?_
  refine sp_istore_n (i := 3) (lv' := [some (.ref (sx_ad X 0)), none, some (.int z2), some (.int x1)]) (q := 96) hX dX12_readNot_95 rfl (Nat.le_of_ble_eq_true rfl) rfl rfl rfl ?_
  exact hX12_readNot_96 hX hR hke n σ z2 x1 hf
set_option maxRecDepth 100000 in
set_option maxHeartbeats 4000000 in
theorem hX12_readNot_63 {d : Nat} {X : sp_X} (hX : sp_OK shM X cX12_readNot RX12 4 (rmX12_readNot d)) {τ : sp_St} (hR : sp_Rv shM X τ 0 0) {n : Nat} {ke : sp_St → Int32 → Option (sp_St)} (hke : ∀ (σ : sp_St) (a : Int32) (τ : sp_St), ke σ a = some τ → sp_Cv shM (sx_l X) (sx_w X) yX12_readExpression cX12_readExpression 3 (rmX12_readExpression d) 0 0 σ [.ref ((sx_w X).2.1 0), .int a] τ)   {σ : sp_St} {z1 : Int32} {z2 : Int32} (hf : X12_readNot_63 n ke σ z1 z2 = some τ) : sp_GG shM X σ 4 [some (.ref (sx_ad X 0)), some (.int z1), some (.int z2), none] [] 63 0 0 := by
  unfold X12_readNot_63 at hf
  refine sp_aload_n (i := 0) (q := 64) hX dX12_readNot_63 rfl rfl rfl ?_
  refine sp_bipush (v := 60) (q := 66) hX dX12_readNot_64 lb_60 rfl ?_
  obtain ⟨σ2, v3, h1, hf⟩ := sp_bd_so hf
  refine sp_callVi (As := [.int ((60 : Int32))]) (rest := []) (q := 69) hX (cnX12_isMarked (sp_st hX)  h1) cwX12_226 atM_0 rfl rfl rfl rfl rfl (by unfold rmX12_isMarked rmX12_readNot; dsimp only; simp; try omega) (by unfold rmX12_isMarked rmX12_readNot; dsimp only; simp; try omega) (Nat.le_of_ble_eq_true rfl) (Nat.le_of_ble_eq_true rfl) (Nat.le_of_ble_eq_true rfl) dX12_readNot_66 rfl ?_
  obtain ⟨v4, e5, hf⟩ := sp_pl_some hf
  have hj12 : sp_GG shM X σ2 4 [some (.ref (sx_ad X 0)), some (.int z1), some (.int z2), none] [.int v4] 79 0 0 := by
    refine sp_istore_n (i := 3) (lv' := [some (.ref (sx_ad X 0)), some (.int z1), some (.int z2), some (.int v4)]) (q := 80) hX dX12_readNot_79 rfl (Nat.le_of_ble_eq_true rfl) rfl rfl rfl ?_
    refine sp_aload_n (i := 0) (q := 81) hX dX12_readNot_80 rfl rfl rfl ?_
    obtain ⟨σ7, h6, hf⟩ := sp_bv_so hf
    refine sp_callVv (As := []) (rest := []) (q := 84) hX (cnX12_stepOn (sp_st hX)  h6) cwX12_233 atM_0 rfl rfl rfl rfl rfl (by unfold rmX12_stepOn rmX12_readNot; dsimp only; simp; try omega) (by unfold rmX12_stepOn rmX12_readNot; dsimp only; simp; try omega) (Nat.le_of_ble_eq_true rfl) (Nat.le_of_ble_eq_true rfl) (Nat.le_of_ble_eq_true rfl) dX12_readNot_81 rfl ?_
    refine sp_aload_n (i := 0) (q := 85) hX dX12_readNot_84 rfl rfl rfl ?_
    refine sp_iload_n (i := 1) (q := 86) hX dX12_readNot_85 rfl rfl rfl ?_
    obtain ⟨σ9, h8, hf⟩ := sp_bv_so hf
    refine sp_callVv (As := [.int z1]) (rest := []) (q := 89) hX (cnX12_readSum (sp_st hX) hke  h8) cwX12_267 atM_0 rfl rfl rfl rfl rfl (by unfold rmX12_readSum rmX12_readNot; dsimp only; simp; try omega) (by unfold rmX12_readSum rmX12_readNot; dsimp only; simp; try omega) (Nat.le_of_ble_eq_true rfl) (Nat.le_of_ble_eq_true rfl) (Nat.le_of_ble_eq_true rfl) dX12_readNot_86 rfl ?_
    refine sp_aload_n (i := 0) (q := 90) hX dX12_readNot_89 rfl rfl rfl ?_
    refine sp_iload_n (i := 3) (q := 91) hX dX12_readNot_90 rfl rfl rfl ?_
    obtain ⟨σ11, h10, hf⟩ := sp_bv_so hf
    refine sp_callVv (As := [.int v4]) (rest := []) (q := 94) hX (cnX12_lay (sp_st hX)  h10) cwX12_246 atM_0 rfl rfl rfl rfl rfl (by unfold rmX12_lay rmX12_readNot; dsimp only; simp; try omega) (by unfold rmX12_lay rmX12_readNot; dsimp only; simp; try omega) (Nat.le_of_ble_eq_true rfl) (Nat.le_of_ble_eq_true rfl) (Nat.le_of_ble_eq_true rfl) dX12_readNot_91 rfl ?_
    refine sp_drop (lv' := [some (.ref (sx_ad X 0)), none, some (.int z2), none]) (And.intro rfl (And.intro rfl trivial)) ?_
    exact hX12_readNot_94 hX hR hke hf
  refine sp_if_eq (tgt := 77) (q := 72) hX dX12_readNot_69 (by decide) rfl (fun hc => ?_) (fun hc => ?_)
  · refine sp_bipush (v := -25) (q := 79) hX dX12_readNot_77 lb_m25 rfl ?_
    exact sp_nmi (by rw [e5, if_pos hc]) hj12
  · refine sp_bipush (v := -24) (q := 74) hX dX12_readNot_72 lb_m24 rfl ?_
    refine sp_goto (tgt := 79) hX dX12_readNot_74 (by decide) ?_
    exact sp_nmi (by rw [e5, if_neg hc]) hj12
set_option maxRecDepth 100000 in
set_option maxHeartbeats 4000000 in
theorem hX12_readNot_40 {d : Nat} {X : sp_X} (hX : sp_OK shM X cX12_readNot RX12 4 (rmX12_readNot d)) {τ : sp_St} (hR : sp_Rv shM X τ 0 0) {n : Nat} {ke : sp_St → Int32 → Option (sp_St)} (hke : ∀ (σ : sp_St) (a : Int32) (τ : sp_St), ke σ a = some τ → sp_Cv shM (sx_l X) (sx_w X) yX12_readExpression cX12_readExpression 3 (rmX12_readExpression d) 0 0 σ [.ref ((sx_w X).2.1 0), .int a] τ)   {σ : sp_St} {z1 : Int32} {z2 : Int32} (hf : X12_readNot_40 n ke σ z1 z2 = some τ) : sp_GG shM X σ 4 [some (.ref (sx_ad X 0)), some (.int z1), some (.int z2), none] [] 40 0 0 := by
  unfold X12_readNot_40 at hf
  refine sp_aload_n (i := 0) (q := 41) hX dX12_readNot_40 rfl rfl rfl ?_
  refine sp_iload_n (i := 1) (q := 42) hX dX12_readNot_41 rfl rfl rfl ?_
  obtain ⟨σ2, h1, hf⟩ := sp_bv_so hf
  refine sp_callVv (As := [.int z1]) (rest := []) (q := 45) hX (cnX12_readSum (sp_st hX) hke  h1) cwX12_267 atM_0 rfl rfl rfl rfl rfl (by unfold rmX12_readSum rmX12_readNot; dsimp only; simp; try omega) (by unfold rmX12_readSum rmX12_readNot; dsimp only; simp; try omega) (Nat.le_of_ble_eq_true rfl) (Nat.le_of_ble_eq_true rfl) (Nat.le_of_ble_eq_true rfl) dX12_readNot_42 rfl ?_
  refine sp_aload_n (i := 0) (q := 46) hX dX12_readNot_45 rfl rfl rfl ?_
  refine sp_bipush (v := 60) (q := 48) hX dX12_readNot_46 lb_60 rfl ?_
  obtain ⟨σ4, v5, h3, hf⟩ := sp_bd_so hf
  refine sp_callVi (As := [.int ((60 : Int32))]) (rest := []) (q := 51) hX (cnX12_isMarked (sp_st hX)  h3) cwX12_226 atM_0 rfl rfl rfl rfl rfl (by unfold rmX12_isMarked rmX12_readNot; dsimp only; simp; try omega) (by unfold rmX12_isMarked rmX12_readNot; dsimp only; simp; try omega) (Nat.le_of_ble_eq_true rfl) (Nat.le_of_ble_eq_true rfl) (Nat.le_of_ble_eq_true rfl) dX12_readNot_48 rfl ?_
  refine sp_if_ne (tgt := 63) (q := 54) hX dX12_readNot_51 (by decide) rfl (fun hc => ?_) (fun hc => ?_)
  · rw [if_neg hc] at hf
    exact hX12_readNot_63 hX hR hke hf
  · rw [if_pos hc] at hf
    refine sp_aload_n (i := 0) (q := 55) hX dX12_readNot_54 rfl rfl rfl ?_
    refine sp_bipush (v := 61) (q := 57) hX dX12_readNot_55 lb_61 rfl ?_
    obtain ⟨σ7, v8, h6, hf⟩ := sp_bd_so hf
    refine sp_callVi (As := [.int ((61 : Int32))]) (rest := []) (q := 60) hX (cnX12_isMarked (sp_st hX)  h6) cwX12_226 atM_0 rfl rfl rfl rfl rfl (by unfold rmX12_isMarked rmX12_readNot; dsimp only; simp; try omega) (by unfold rmX12_isMarked rmX12_readNot; dsimp only; simp; try omega) (Nat.le_of_ble_eq_true rfl) (Nat.le_of_ble_eq_true rfl) (Nat.le_of_ble_eq_true rfl) dX12_readNot_57 rfl ?_
    refine sp_if_eq (tgt := 94) (q := 63) hX dX12_readNot_60 (by decide) rfl (fun hc => ?_) (fun hc => ?_)
    · rw [if_pos hc] at hf
      refine sp_drop (lv' := [some (.ref (sx_ad X 0)), none, some (.int z2), none]) (And.intro rfl (And.intro rfl trivial)) ?_
      exact hX12_readNot_94 hX hR hke hf
    · rw [if_neg hc] at hf
      exact hX12_readNot_63 hX hR hke hf
set_option maxRecDepth 100000 in
set_option maxHeartbeats 4000000 in
theorem hX12_readNot_23 {d : Nat} {X : sp_X} (hX : sp_OK shM X cX12_readNot RX12 4 (rmX12_readNot d)) {τ : sp_St} (hR : sp_Rv shM X τ 0 0) {n : Nat} {ke : sp_St → Int32 → Option (sp_St)} (hke : ∀ (σ : sp_St) (a : Int32) (τ : sp_St), ke σ a = some τ → sp_Cv shM (sx_l X) (sx_w X) yX12_readExpression cX12_readExpression 3 (rmX12_readExpression d) 0 0 σ [.ref ((sx_w X).2.1 0), .int a] τ)  {k2 : sp_St → Int32 → Int32 → Option (sp_St)} (hk2 : ∀ (σ : sp_St) (z1 : Int32) (z2 : Int32), k2 σ z1 z2 = some τ → sp_GG shM X σ 4 [some (.ref (sx_ad X 0)), some (.int z1), some (.int z2), none] [] 2 0 0) {σ : sp_St} {z1 : Int32} {z2 : Int32} (hf : X12_readNot_23 n ke k2 σ z1 z2 = some τ) : sp_GG shM X σ 4 [some (.ref (sx_ad X 0)), some (.int z1), some (.int z2), none] [] 23 0 0 := by
  unfold X12_readNot_23 at hf
  obtain ⟨x1, e2, hf⟩ := sp_pl_some hf
  refine sp_iinc (i := 2) (v := x1) (lv' := [some (.ref (sx_ad X 0)), some (.int z1), some (.int x1), none]) (q := 26) hX dX12_readNot_23 rfl (by rw [e2, li_1]) (Nat.le_of_ble_eq_true rfl) rfl rfl rfl ?_
  refine sp_aload_n (i := 0) (q := 27) hX dX12_readNot_26 rfl rfl rfl ?_
  refine sp_geti (q := 30) hX flX12_209 fkX12_22 atM_0 dX12_readNot_27 rfl ?_
  refine sp_if_ne (tgt := 2) (q := 33) hX dX12_readNot_30 (by decide) rfl (fun hc => ?_) (fun hc => ?_)
  · rw [if_neg hc] at hf
    exact hk2 σ z1 x1 hf
  · rw [if_pos hc] at hf
    refine sp_aload_n (i := 0) (q := 34) hX dX12_readNot_33 rfl rfl rfl ?_
    obtain ⟨σ4, h3, hf⟩ := sp_bv_so hf
    refine sp_callVv (As := []) (rest := []) (q := 37) hX (cnX12_stepOn (sp_st hX)  h3) cwX12_233 atM_0 rfl rfl rfl rfl rfl (by unfold rmX12_stepOn rmX12_readNot; dsimp only; simp; try omega) (by unfold rmX12_stepOn rmX12_readNot; dsimp only; simp; try omega) (Nat.le_of_ble_eq_true rfl) (Nat.le_of_ble_eq_true rfl) (Nat.le_of_ble_eq_true rfl) dX12_readNot_34 rfl ?_
    refine sp_goto (tgt := 2) hX dX12_readNot_37 (by decide) ?_
    exact hk2 σ4 z1 x1 hf
set_option maxRecDepth 100000 in
set_option maxHeartbeats 4000000 in
theorem hX12_readNot_2 {d : Nat} {X : sp_X} (hX : sp_OK shM X cX12_readNot RX12 4 (rmX12_readNot d)) {τ : sp_St} (hR : sp_Rv shM X τ 0 0) {n : Nat} {ke : sp_St → Int32 → Option (sp_St)} (hke : ∀ (σ : sp_St) (a : Int32) (τ : sp_St), ke σ a = some τ → sp_Cv shM (sx_l X) (sx_w X) yX12_readExpression cX12_readExpression 3 (rmX12_readExpression d) 0 0 σ [.ref ((sx_w X).2.1 0), .int a] τ)   : ∀ (f : Nat) (σ : sp_St) (z1 : Int32) (z2 : Int32), X12_readNot_2 n ke f σ z1 z2 = some τ → sp_GG shM X σ 4 [some (.ref (sx_ad X 0)), some (.int z1), some (.int z2), none] [] 2 0 0 := by
  intro f
  induction f with
  | zero =>
    intro σ z1 z2 hf
    rw [X12_readNot_2] at hf
    cases hf
  | succ f ih =>
    intro σ z1 z2 hf
    rw [X12_readNot_2] at hf
    refine sp_aload_n (i := 0) (q := 3) hX dX12_readNot_2 rfl rfl rfl ?_
    refine sp_ldcSw (i := 6) (tx := "not") (q := 6) hX (by decide) dX12_readNot_3 rfl ?_
    obtain ⟨σ2, v3, h1, hf⟩ := sp_bd_so hf
    refine sp_callVi (As := [.ref ((sx_w X).2.2.1 0 6)]) (rest := []) (q := 9) hX (cnX12_is (sp_st hX) (by decide) h1) cwX12_222 atM_0 rfl rfl rfl rfl rfl (by unfold rmX12_is rmX12_readNot; dsimp only; simp; try omega) (by unfold rmX12_is rmX12_readNot; dsimp only; simp; try omega) (Nat.le_of_ble_eq_true rfl) (Nat.le_of_ble_eq_true rfl) (Nat.le_of_ble_eq_true rfl) dX12_readNot_6 rfl ?_
    refine sp_if_eq (tgt := 40) (q := 12) hX dX12_readNot_9 (by decide) rfl (fun hc => ?_) (fun hc => ?_)
    · rw [if_pos hc] at hf
      exact hX12_readNot_40 hX hR hke hf
    · rw [if_neg hc] at hf
      refine sp_iload_n (i := 2) (q := 13) hX dX12_readNot_12 rfl rfl rfl ?_
      refine sp_bipush (v := 6) (q := 15) hX dX12_readNot_13 lb_6 rfl ?_
      refine sp_icmp_ne (tgt := 23) (q := 18) hX dX12_readNot_15 (by decide) rfl (fun hc => ?_) (fun hc => ?_)
      · rw [if_neg hc] at hf
        exact hX12_readNot_23 hX hR hke ih hf
      · rw [if_pos hc] at hf
        refine sp_aload_n (i := 0) (q := 19) hX dX12_readNot_18 rfl rfl rfl ?_
        refine sp_iconst (v := 2) (q := 20) hX dX12_readNot_19 li_2 rfl ?_
        obtain ⟨σ5, h4, hf⟩ := sp_bv_so hf
        refine sp_callVv (As := [.int ((2 : Int32))]) (rest := []) (q := 23) hX (cnX12_amiss (sp_st hX)  h4) cwX12_229 atM_0 rfl rfl rfl rfl rfl (by unfold rmX12_amiss rmX12_readNot; dsimp only; simp; try omega) (by unfold rmX12_amiss rmX12_readNot; dsimp only; simp; try omega) (Nat.le_of_ble_eq_true rfl) (Nat.le_of_ble_eq_true rfl) (Nat.le_of_ble_eq_true rfl) dX12_readNot_20 rfl ?_
        exact hX12_readNot_23 hX hR hke ih hf
set_option maxRecDepth 100000 in
set_option maxHeartbeats 4000000 in
theorem hX12_readNot {d : Nat} {X : sp_X} (hX : sp_OK shM X cX12_readNot RX12 4 (rmX12_readNot d)) {τ : sp_St} (hR : sp_Rv shM X τ 0 0) {n : Nat} {ke : sp_St → Int32 → Option (sp_St)} (hke : ∀ (σ : sp_St) (a : Int32) (τ : sp_St), ke σ a = some τ → sp_Cv shM (sx_l X) (sx_w X) yX12_readExpression cX12_readExpression 3 (rmX12_readExpression d) 0 0 σ [.ref ((sx_w X).2.1 0), .int a] τ) {σ : sp_St} {a1 : Int32}  (hf : X12_readNot n ke σ a1 = some τ) : sp_GG shM X σ 4 [some (.ref (sx_ad X 0)), some (.int a1), none, none] [] 0 0 0 := by
  unfold X12_readNot at hf
  refine sp_iconst (v := 0) (q := 1) hX dX12_readNot_0 li_0 rfl ?_
  obtain ⟨x1, e2, hf⟩ := sp_pl_some hf
  refine sp_nmi e2 ?_
  refine sp_istore_n (i := 2) (lv' := [some (.ref (sx_ad X 0)), some (.int a1), some (.int x1), none]) (q := 2) hX dX12_readNot_1 rfl (Nat.le_of_ble_eq_true rfl) rfl rfl rfl ?_
  exact hX12_readNot_2 hX hR hke n σ a1 x1 hf
set_option maxRecDepth 100000 in
set_option maxHeartbeats 4000000 in
theorem cnX12_readNot {l : Launch} (hst : l.stackTraces = false) {w : sp_Wd} {n : Nat} {d : Nat} {ke : sp_St → Int32 → Option (sp_St)} (hke : ∀ (σ : sp_St) (a : Int32) (τ : sp_St), ke σ a = some τ → sp_Cv shM l w yX12_readExpression cX12_readExpression 3 (rmX12_readExpression d) 0 0 σ [.ref (w.2.1 0), .int a] τ) {σ : sp_St} {a1 : Int32} {τ : sp_St}  (hf : X12_readNot n ke σ a1 = some τ) : sp_Cv shM l w yX12_readNot cX12_readNot 4 (rmX12_readNot d) 0 0 σ [.ref (w.2.1 0), .int a1] τ :=
  sp_cv (own := RX12) (by decide) rfl hst (Nat.le_of_ble_eq_true rfl) rfl (fun X hX hw hl hR => by subst hw; subst hl; exact hX12_readNot hX hR hke  hf)
def X12_readAnd_5 (n : Nat) (ke : sp_St → Int32 → Option (sp_St)) : Nat → sp_St → Int32 → Option (sp_St)
  | 0, _, _ => none
  | f + 1, σ, z1 =>
    sp_bd (X12_is n σ 7) fun σ2 v3 =>
    if v3 = 0 then
      some σ2
    else
      sp_bv (X12_stepOn n σ2) fun σ5 =>
      sp_bv (X12_readNot n ke σ5 z1) fun σ7 =>
      sp_bv (X12_lay n σ7 ((-26 : Int32))) fun σ9 =>
      X12_readAnd_5 n ke f σ9 z1
def X12_readAnd (n : Nat) (ke : sp_St → Int32 → Option (sp_St)) (σ : sp_St) (a1 : Int32) : Option (sp_St) :=
  sp_bv (X12_readNot n ke σ a1) fun σ2 =>
  X12_readAnd_5 n ke n σ2 a1
set_option maxRecDepth 100000 in
set_option maxHeartbeats 4000000 in
theorem hX12_readAnd_5 {d : Nat} {X : sp_X} (hX : sp_OK shM X cX12_readAnd RX12 2 (rmX12_readAnd d)) {τ : sp_St} (hR : sp_Rv shM X τ 0 0) {n : Nat} {ke : sp_St → Int32 → Option (sp_St)} (hke : ∀ (σ : sp_St) (a : Int32) (τ : sp_St), ke σ a = some τ → sp_Cv shM (sx_l X) (sx_w X) yX12_readExpression cX12_readExpression 3 (rmX12_readExpression d) 0 0 σ [.ref ((sx_w X).2.1 0), .int a] τ)   : ∀ (f : Nat) (σ : sp_St) (z1 : Int32), X12_readAnd_5 n ke f σ z1 = some τ → sp_GG shM X σ 2 [some (.ref (sx_ad X 0)), some (.int z1)] [] 5 0 0 := by
  intro f
  induction f with
  | zero =>
    intro σ z1 hf
    rw [X12_readAnd_5] at hf
    cases hf
  | succ f ih =>
    intro σ z1 hf
    rw [X12_readAnd_5] at hf
    refine sp_aload_n (i := 0) (q := 6) hX dX12_readAnd_5 rfl rfl rfl ?_
    refine sp_ldcSw (i := 7) (tx := "and") (q := 9) hX (by decide) dX12_readAnd_6 rfl ?_
    obtain ⟨σ2, v3, h1, hf⟩ := sp_bd_so hf
    refine sp_callVi (As := [.ref ((sx_w X).2.2.1 0 7)]) (rest := []) (q := 12) hX (cnX12_is (sp_st hX) (by decide) h1) cwX12_222 atM_0 rfl rfl rfl rfl rfl (by unfold rmX12_is rmX12_readAnd; dsimp only; simp; try omega) (by unfold rmX12_is rmX12_readAnd; dsimp only; simp; try omega) (Nat.le_of_ble_eq_true rfl) (Nat.le_of_ble_eq_true rfl) (Nat.le_of_ble_eq_true rfl) dX12_readAnd_9 rfl ?_
    refine sp_if_eq (tgt := 33) (q := 15) hX dX12_readAnd_12 (by decide) rfl (fun hc => ?_) (fun hc => ?_)
    · rw [if_pos hc] at hf
      exact sp_vret hX hR dX12_readAnd_33 hf (Nat.le_of_ble_eq_true rfl) (Nat.le_of_ble_eq_true rfl)
    · rw [if_neg hc] at hf
      refine sp_aload_n (i := 0) (q := 16) hX dX12_readAnd_15 rfl rfl rfl ?_
      obtain ⟨σ5, h4, hf⟩ := sp_bv_so hf
      refine sp_callVv (As := []) (rest := []) (q := 19) hX (cnX12_stepOn (sp_st hX)  h4) cwX12_233 atM_0 rfl rfl rfl rfl rfl (by unfold rmX12_stepOn rmX12_readAnd; dsimp only; simp; try omega) (by unfold rmX12_stepOn rmX12_readAnd; dsimp only; simp; try omega) (Nat.le_of_ble_eq_true rfl) (Nat.le_of_ble_eq_true rfl) (Nat.le_of_ble_eq_true rfl) dX12_readAnd_16 rfl ?_
      refine sp_aload_n (i := 0) (q := 20) hX dX12_readAnd_19 rfl rfl rfl ?_
      refine sp_iload_n (i := 1) (q := 21) hX dX12_readAnd_20 rfl rfl rfl ?_
      obtain ⟨σ7, h6, hf⟩ := sp_bv_so hf
      refine sp_callVv (As := [.int z1]) (rest := []) (q := 24) hX (cnX12_readNot (sp_st hX) hke  h6) cwX12_270 atM_0 rfl rfl rfl rfl rfl (by unfold rmX12_readNot rmX12_readAnd; dsimp only; simp; try omega) (by unfold rmX12_readNot rmX12_readAnd; dsimp only; simp; try omega) (Nat.le_of_ble_eq_true rfl) (Nat.le_of_ble_eq_true rfl) (Nat.le_of_ble_eq_true rfl) dX12_readAnd_21 rfl ?_
      refine sp_aload_n (i := 0) (q := 25) hX dX12_readAnd_24 rfl rfl rfl ?_
      refine sp_bipush (v := -26) (q := 27) hX dX12_readAnd_25 lb_m26 rfl ?_
      obtain ⟨σ9, h8, hf⟩ := sp_bv_so hf
      refine sp_callVv (As := [.int ((-26 : Int32))]) (rest := []) (q := 30) hX (cnX12_lay (sp_st hX)  h8) cwX12_246 atM_0 rfl rfl rfl rfl rfl (by unfold rmX12_lay rmX12_readAnd; dsimp only; simp; try omega) (by unfold rmX12_lay rmX12_readAnd; dsimp only; simp; try omega) (Nat.le_of_ble_eq_true rfl) (Nat.le_of_ble_eq_true rfl) (Nat.le_of_ble_eq_true rfl) dX12_readAnd_27 rfl ?_
      refine sp_goto (tgt := 5) hX dX12_readAnd_30 (by decide) ?_
      exact ih σ9 z1 hf
set_option maxRecDepth 100000 in
set_option maxHeartbeats 4000000 in
theorem hX12_readAnd {d : Nat} {X : sp_X} (hX : sp_OK shM X cX12_readAnd RX12 2 (rmX12_readAnd d)) {τ : sp_St} (hR : sp_Rv shM X τ 0 0) {n : Nat} {ke : sp_St → Int32 → Option (sp_St)} (hke : ∀ (σ : sp_St) (a : Int32) (τ : sp_St), ke σ a = some τ → sp_Cv shM (sx_l X) (sx_w X) yX12_readExpression cX12_readExpression 3 (rmX12_readExpression d) 0 0 σ [.ref ((sx_w X).2.1 0), .int a] τ) {σ : sp_St} {a1 : Int32}  (hf : X12_readAnd n ke σ a1 = some τ) : sp_GG shM X σ 2 [some (.ref (sx_ad X 0)), some (.int a1)] [] 0 0 0 := by
  unfold X12_readAnd at hf
  refine sp_aload_n (i := 0) (q := 1) hX dX12_readAnd_0 rfl rfl rfl ?_
  refine sp_iload_n (i := 1) (q := 2) hX dX12_readAnd_1 rfl rfl rfl ?_
  obtain ⟨σ2, h1, hf⟩ := sp_bv_so hf
  refine sp_callVv (As := [.int a1]) (rest := []) (q := 5) hX (cnX12_readNot (sp_st hX) hke  h1) cwX12_270 atM_0 rfl rfl rfl rfl rfl (by unfold rmX12_readNot rmX12_readAnd; dsimp only; simp; try omega) (by unfold rmX12_readNot rmX12_readAnd; dsimp only; simp; try omega) (Nat.le_of_ble_eq_true rfl) (Nat.le_of_ble_eq_true rfl) (Nat.le_of_ble_eq_true rfl) dX12_readAnd_2 rfl ?_
  exact hX12_readAnd_5 hX hR hke n σ2 a1 hf
set_option maxRecDepth 100000 in
set_option maxHeartbeats 4000000 in
theorem cnX12_readAnd {l : Launch} (hst : l.stackTraces = false) {w : sp_Wd} {n : Nat} {d : Nat} {ke : sp_St → Int32 → Option (sp_St)} (hke : ∀ (σ : sp_St) (a : Int32) (τ : sp_St), ke σ a = some τ → sp_Cv shM l w yX12_readExpression cX12_readExpression 3 (rmX12_readExpression d) 0 0 σ [.ref (w.2.1 0), .int a] τ) {σ : sp_St} {a1 : Int32} {τ : sp_St}  (hf : X12_readAnd n ke σ a1 = some τ) : sp_Cv shM l w yX12_readAnd cX12_readAnd 2 (rmX12_readAnd d) 0 0 σ [.ref (w.2.1 0), .int a1] τ :=
  sp_cv (own := RX12) (by decide) rfl hst (Nat.le_of_ble_eq_true rfl) rfl (fun X hX hw hl hR => by subst hw; subst hl; exact hX12_readAnd hX hR hke  hf)
def X12_readExpressionB_67 (n : Nat) (ke : sp_St → Int32 → Option (sp_St)) : Nat → sp_St → Int32 → Option (sp_St)
  | 0, _, _ => none
  | f + 1, σ, z1 =>
    sp_bd (X12_is n σ 8) fun σ2 v3 =>
    if v3 = 0 then
      some σ2
    else
      sp_bv (X12_stepOn n σ2) fun σ5 =>
      sp_bv (X12_readAnd n ke σ5 z1) fun σ7 =>
      sp_bv (X12_lay n σ7 ((-27 : Int32))) fun σ9 =>
      X12_readExpressionB_67 n ke f σ9 z1
def X12_readExpressionB_62 (n : Nat) (ke : sp_St → Int32 → Option (sp_St)) (σ : sp_St) (z1 : Int32) : Option (sp_St) :=
  sp_bv (X12_readAnd n ke σ z1) fun σ2 =>
  X12_readExpressionB_67 n ke n σ2 z1
def X12_readExpressionB_38 (n : Nat) (ke : sp_St → Int32 → Option (sp_St)) (σ : sp_St) (z1 : Int32) (zs0 : Int32) : Option (sp_St) :=
  if zs0 = 0 then
    sp_bv (X12_amiss n σ ((1 : Int32))) fun σ4 =>
    X12_readExpressionB_62 n ke σ4 z1
  else
    if z1 = ((6 : Int32)) then
      sp_bv (X12_amiss n σ ((2 : Int32))) fun σ2 =>
      X12_readExpressionB_62 n ke σ2 z1
    else
      X12_readExpressionB_62 n ke σ z1
def X12_readExpressionB_33 (n : Nat) (ke : sp_St → Int32 → Option (sp_St)) (σ : sp_St) (z1 : Int32) : Option (sp_St) :=
  X12_readExpressionB_38 n ke σ z1 ((1 : Int32))
def X12_readExpressionB (n : Nat) (ke : sp_St → Int32 → Option (sp_St)) (σ : sp_St) (a1 : Int32) : Option (sp_St) :=
  if (σ.1 0 22) = 0 then
    if (σ.1 0 18) = ((2 : Int32)) then
      X12_readExpressionB_33 n ke σ a1
    else
      if (σ.1 0 18) = ((1 : Int32)) then
        X12_readExpressionB_33 n ke σ a1
      else
        sp_bd (X12_isMarked n σ ((40 : Int32))) fun σ2 v3 =>
        if v3 = 0 then
          X12_readExpressionB_38 n ke σ2 a1 ((0 : Int32))
        else
          X12_readExpressionB_33 n ke σ2 a1
  else
    some σ
set_option maxRecDepth 100000 in
set_option maxHeartbeats 4000000 in
theorem hX12_readExpressionB_67 {d : Nat} {X : sp_X} (hX : sp_OK shM X cX12_readExpression RX12 3 (rmX12_readExpression (d + 1))) {τ : sp_St} (hR : sp_Rv shM X τ 0 0) {n : Nat} {ke : sp_St → Int32 → Option (sp_St)} (hke : ∀ (σ : sp_St) (a : Int32) (τ : sp_St), ke σ a = some τ → sp_Cv shM (sx_l X) (sx_w X) yX12_readExpression cX12_readExpression 3 (rmX12_readExpression d) 0 0 σ [.ref ((sx_w X).2.1 0), .int a] τ)   : ∀ (f : Nat) (σ : sp_St) (z1 : Int32), X12_readExpressionB_67 n ke f σ z1 = some τ → sp_GG shM X σ 3 [some (.ref (sx_ad X 0)), some (.int z1), none] [] 67 0 0 := by
  intro f
  induction f with
  | zero =>
    intro σ z1 hf
    rw [X12_readExpressionB_67] at hf
    cases hf
  | succ f ih =>
    intro σ z1 hf
    rw [X12_readExpressionB_67] at hf
    refine sp_aload_n (i := 0) (q := 68) hX dX12_readExpression_67 rfl rfl rfl ?_
    refine sp_ldcSw (i := 8) (tx := "or") (q := 71) hX (by decide) dX12_readExpression_68 rfl ?_
    obtain ⟨σ2, v3, h1, hf⟩ := sp_bd_so hf
    refine sp_callVi (As := [.ref ((sx_w X).2.2.1 0 8)]) (rest := []) (q := 74) hX (cnX12_is (sp_st hX) (by decide) h1) cwX12_222 atM_0 rfl rfl rfl rfl rfl (by unfold rmX12_is rmX12_readExpression; dsimp only; simp; try omega) (by unfold rmX12_is rmX12_readExpression; dsimp only; simp; try omega) (Nat.le_of_ble_eq_true rfl) (Nat.le_of_ble_eq_true rfl) (Nat.le_of_ble_eq_true rfl) dX12_readExpression_71 rfl ?_
    refine sp_if_eq (tgt := 95) (q := 77) hX dX12_readExpression_74 (by decide) rfl (fun hc => ?_) (fun hc => ?_)
    · rw [if_pos hc] at hf
      exact sp_vret hX hR dX12_readExpression_95 hf (Nat.le_of_ble_eq_true rfl) (Nat.le_of_ble_eq_true rfl)
    · rw [if_neg hc] at hf
      refine sp_aload_n (i := 0) (q := 78) hX dX12_readExpression_77 rfl rfl rfl ?_
      obtain ⟨σ5, h4, hf⟩ := sp_bv_so hf
      refine sp_callVv (As := []) (rest := []) (q := 81) hX (cnX12_stepOn (sp_st hX)  h4) cwX12_233 atM_0 rfl rfl rfl rfl rfl (by unfold rmX12_stepOn rmX12_readExpression; dsimp only; simp; try omega) (by unfold rmX12_stepOn rmX12_readExpression; dsimp only; simp; try omega) (Nat.le_of_ble_eq_true rfl) (Nat.le_of_ble_eq_true rfl) (Nat.le_of_ble_eq_true rfl) dX12_readExpression_78 rfl ?_
      refine sp_aload_n (i := 0) (q := 82) hX dX12_readExpression_81 rfl rfl rfl ?_
      refine sp_iload_n (i := 1) (q := 83) hX dX12_readExpression_82 rfl rfl rfl ?_
      obtain ⟨σ7, h6, hf⟩ := sp_bv_so hf
      refine sp_callVv (As := [.int z1]) (rest := []) (q := 86) hX (cnX12_readAnd (sp_st hX) hke  h6) cwX12_275 atM_0 rfl rfl rfl rfl rfl (by unfold rmX12_readAnd rmX12_readExpression; dsimp only; simp; try omega) (by unfold rmX12_readAnd rmX12_readExpression; dsimp only; simp; try omega) (Nat.le_of_ble_eq_true rfl) (Nat.le_of_ble_eq_true rfl) (Nat.le_of_ble_eq_true rfl) dX12_readExpression_83 rfl ?_
      refine sp_aload_n (i := 0) (q := 87) hX dX12_readExpression_86 rfl rfl rfl ?_
      refine sp_bipush (v := -27) (q := 89) hX dX12_readExpression_87 lb_m27 rfl ?_
      obtain ⟨σ9, h8, hf⟩ := sp_bv_so hf
      refine sp_callVv (As := [.int ((-27 : Int32))]) (rest := []) (q := 92) hX (cnX12_lay (sp_st hX)  h8) cwX12_246 atM_0 rfl rfl rfl rfl rfl (by unfold rmX12_lay rmX12_readExpression; dsimp only; simp; try omega) (by unfold rmX12_lay rmX12_readExpression; dsimp only; simp; try omega) (Nat.le_of_ble_eq_true rfl) (Nat.le_of_ble_eq_true rfl) (Nat.le_of_ble_eq_true rfl) dX12_readExpression_89 rfl ?_
      refine sp_goto (tgt := 67) hX dX12_readExpression_92 (by decide) ?_
      exact ih σ9 z1 hf
set_option maxRecDepth 100000 in
set_option maxHeartbeats 4000000 in
theorem hX12_readExpressionB_62 {d : Nat} {X : sp_X} (hX : sp_OK shM X cX12_readExpression RX12 3 (rmX12_readExpression (d + 1))) {τ : sp_St} (hR : sp_Rv shM X τ 0 0) {n : Nat} {ke : sp_St → Int32 → Option (sp_St)} (hke : ∀ (σ : sp_St) (a : Int32) (τ : sp_St), ke σ a = some τ → sp_Cv shM (sx_l X) (sx_w X) yX12_readExpression cX12_readExpression 3 (rmX12_readExpression d) 0 0 σ [.ref ((sx_w X).2.1 0), .int a] τ)   {σ : sp_St} {z1 : Int32} (hf : X12_readExpressionB_62 n ke σ z1 = some τ) : sp_GG shM X σ 3 [some (.ref (sx_ad X 0)), some (.int z1), none] [] 62 0 0 := by
  unfold X12_readExpressionB_62 at hf
  refine sp_aload_n (i := 0) (q := 63) hX dX12_readExpression_62 rfl rfl rfl ?_
  refine sp_iload_n (i := 1) (q := 64) hX dX12_readExpression_63 rfl rfl rfl ?_
  obtain ⟨σ2, h1, hf⟩ := sp_bv_so hf
  refine sp_callVv (As := [.int z1]) (rest := []) (q := 67) hX (cnX12_readAnd (sp_st hX) hke  h1) cwX12_275 atM_0 rfl rfl rfl rfl rfl (by unfold rmX12_readAnd rmX12_readExpression; dsimp only; simp; try omega) (by unfold rmX12_readAnd rmX12_readExpression; dsimp only; simp; try omega) (Nat.le_of_ble_eq_true rfl) (Nat.le_of_ble_eq_true rfl) (Nat.le_of_ble_eq_true rfl) dX12_readExpression_64 rfl ?_
  exact hX12_readExpressionB_67 hX hR hke n σ2 z1 hf
set_option maxRecDepth 100000 in
set_option maxHeartbeats 4000000 in
theorem hX12_readExpressionB_38 {d : Nat} {X : sp_X} (hX : sp_OK shM X cX12_readExpression RX12 3 (rmX12_readExpression (d + 1))) {τ : sp_St} (hR : sp_Rv shM X τ 0 0) {n : Nat} {ke : sp_St → Int32 → Option (sp_St)} (hke : ∀ (σ : sp_St) (a : Int32) (τ : sp_St), ke σ a = some τ → sp_Cv shM (sx_l X) (sx_w X) yX12_readExpression cX12_readExpression 3 (rmX12_readExpression d) 0 0 σ [.ref ((sx_w X).2.1 0), .int a] τ)   {σ : sp_St} {z1 : Int32} {zs0 : Int32} (hf : X12_readExpressionB_38 n ke σ z1 zs0 = some τ) : sp_GG shM X σ 3 [some (.ref (sx_ad X 0)), some (.int z1), none] [.int zs0] 38 0 0 := by
  unfold X12_readExpressionB_38 at hf
  refine sp_istore_n (i := 2) (lv' := [some (.ref (sx_ad X 0)), some (.int z1), some (.int zs0)]) (q := 39) hX dX12_readExpression_38 rfl (Nat.le_of_ble_eq_true rfl) rfl rfl rfl ?_
  refine sp_iload_n (i := 2) (q := 40) hX dX12_readExpression_39 rfl rfl rfl ?_
  refine sp_if_ne (tgt := 51) (q := 43) hX dX12_readExpression_40 (by decide) rfl (fun hc => ?_) (fun hc => ?_)
  · rw [if_neg hc] at hf
    refine sp_iload_n (i := 1) (q := 52) hX dX12_readExpression_51 rfl rfl rfl ?_
    refine sp_bipush (v := 6) (q := 54) hX dX12_readExpression_52 lb_6 rfl ?_
    refine sp_icmp_ne (tgt := 62) (q := 57) hX dX12_readExpression_54 (by decide) rfl (fun hc => ?_) (fun hc => ?_)
    · rw [if_neg hc] at hf
      refine sp_drop (lv' := [some (.ref (sx_ad X 0)), some (.int z1), none]) (And.intro rfl (And.intro rfl trivial)) ?_
      exact hX12_readExpressionB_62 hX hR hke hf
    · rw [if_pos hc] at hf
      refine sp_aload_n (i := 0) (q := 58) hX dX12_readExpression_57 rfl rfl rfl ?_
      refine sp_iconst (v := 2) (q := 59) hX dX12_readExpression_58 li_2 rfl ?_
      obtain ⟨σ2, h1, hf⟩ := sp_bv_so hf
      refine sp_callVv (As := [.int ((2 : Int32))]) (rest := []) (q := 62) hX (cnX12_amiss (sp_st hX)  h1) cwX12_229 atM_0 rfl rfl rfl rfl rfl (by unfold rmX12_amiss rmX12_readExpression; dsimp only; simp; try omega) (by unfold rmX12_amiss rmX12_readExpression; dsimp only; simp; try omega) (Nat.le_of_ble_eq_true rfl) (Nat.le_of_ble_eq_true rfl) (Nat.le_of_ble_eq_true rfl) dX12_readExpression_59 rfl ?_
      refine sp_drop (lv' := [some (.ref (sx_ad X 0)), some (.int z1), none]) (And.intro rfl (And.intro rfl trivial)) ?_
      exact hX12_readExpressionB_62 hX hR hke hf
  · rw [if_pos hc] at hf
    refine sp_aload_n (i := 0) (q := 44) hX dX12_readExpression_43 rfl rfl rfl ?_
    refine sp_iconst (v := 1) (q := 45) hX dX12_readExpression_44 li_1 rfl ?_
    obtain ⟨σ4, h3, hf⟩ := sp_bv_so hf
    refine sp_callVv (As := [.int ((1 : Int32))]) (rest := []) (q := 48) hX (cnX12_amiss (sp_st hX)  h3) cwX12_229 atM_0 rfl rfl rfl rfl rfl (by unfold rmX12_amiss rmX12_readExpression; dsimp only; simp; try omega) (by unfold rmX12_amiss rmX12_readExpression; dsimp only; simp; try omega) (Nat.le_of_ble_eq_true rfl) (Nat.le_of_ble_eq_true rfl) (Nat.le_of_ble_eq_true rfl) dX12_readExpression_45 rfl ?_
    refine sp_goto (tgt := 62) hX dX12_readExpression_48 (by decide) ?_
    refine sp_drop (lv' := [some (.ref (sx_ad X 0)), some (.int z1), none]) (And.intro rfl (And.intro rfl trivial)) ?_
    exact hX12_readExpressionB_62 hX hR hke hf
set_option maxRecDepth 100000 in
set_option maxHeartbeats 4000000 in
theorem hX12_readExpressionB_33 {d : Nat} {X : sp_X} (hX : sp_OK shM X cX12_readExpression RX12 3 (rmX12_readExpression (d + 1))) {τ : sp_St} (hR : sp_Rv shM X τ 0 0) {n : Nat} {ke : sp_St → Int32 → Option (sp_St)} (hke : ∀ (σ : sp_St) (a : Int32) (τ : sp_St), ke σ a = some τ → sp_Cv shM (sx_l X) (sx_w X) yX12_readExpression cX12_readExpression 3 (rmX12_readExpression d) 0 0 σ [.ref ((sx_w X).2.1 0), .int a] τ)   {σ : sp_St} {z1 : Int32} (hf : X12_readExpressionB_33 n ke σ z1 = some τ) : sp_GG shM X σ 3 [some (.ref (sx_ad X 0)), some (.int z1), none] [] 33 0 0 := by
  unfold X12_readExpressionB_33 at hf
  refine sp_iconst (v := 1) (q := 34) hX dX12_readExpression_33 li_1 rfl ?_
  refine sp_goto (tgt := 38) hX dX12_readExpression_34 (by decide) ?_
  exact hX12_readExpressionB_38 hX hR hke hf
set_option maxRecDepth 100000 in
set_option maxHeartbeats 4000000 in
theorem hX12_readExpressionB {d : Nat} {X : sp_X} (hX : sp_OK shM X cX12_readExpression RX12 3 (rmX12_readExpression (d + 1))) {τ : sp_St} (hR : sp_Rv shM X τ 0 0) {n : Nat} {ke : sp_St → Int32 → Option (sp_St)} (hke : ∀ (σ : sp_St) (a : Int32) (τ : sp_St), ke σ a = some τ → sp_Cv shM (sx_l X) (sx_w X) yX12_readExpression cX12_readExpression 3 (rmX12_readExpression d) 0 0 σ [.ref ((sx_w X).2.1 0), .int a] τ) {σ : sp_St} {a1 : Int32}  (hf : X12_readExpressionB n ke σ a1 = some τ) : sp_GG shM X σ 3 [some (.ref (sx_ad X 0)), some (.int a1), none] [] 0 0 0 := by
  unfold X12_readExpressionB at hf
  refine sp_aload_n (i := 0) (q := 1) hX dX12_readExpression_0 rfl rfl rfl ?_
  refine sp_geti (q := 4) hX flX12_209 fkX12_22 atM_0 dX12_readExpression_1 rfl ?_
  refine sp_if_eq (tgt := 8) (q := 7) hX dX12_readExpression_4 (by decide) rfl (fun hc => ?_) (fun hc => ?_)
  · rw [if_pos hc] at hf
    refine sp_aload_n (i := 0) (q := 9) hX dX12_readExpression_8 rfl rfl rfl ?_
    refine sp_geti (q := 12) hX flX12_183 fkX12_18 atM_0 dX12_readExpression_9 rfl ?_
    refine sp_iconst (v := 2) (q := 13) hX dX12_readExpression_12 li_2 rfl ?_
    refine sp_icmp_eq (tgt := 33) (q := 16) hX dX12_readExpression_13 (by decide) rfl (fun hc => ?_) (fun hc => ?_)
    · rw [if_pos hc] at hf
      exact hX12_readExpressionB_33 hX hR hke hf
    · rw [if_neg hc] at hf
      refine sp_aload_n (i := 0) (q := 17) hX dX12_readExpression_16 rfl rfl rfl ?_
      refine sp_geti (q := 20) hX flX12_183 fkX12_18 atM_0 dX12_readExpression_17 rfl ?_
      refine sp_iconst (v := 1) (q := 21) hX dX12_readExpression_20 li_1 rfl ?_
      refine sp_icmp_eq (tgt := 33) (q := 24) hX dX12_readExpression_21 (by decide) rfl (fun hc => ?_) (fun hc => ?_)
      · rw [if_pos hc] at hf
        exact hX12_readExpressionB_33 hX hR hke hf
      · rw [if_neg hc] at hf
        refine sp_aload_n (i := 0) (q := 25) hX dX12_readExpression_24 rfl rfl rfl ?_
        refine sp_bipush (v := 40) (q := 27) hX dX12_readExpression_25 lb_40 rfl ?_
        obtain ⟨σ2, v3, h1, hf⟩ := sp_bd_so hf
        refine sp_callVi (As := [.int ((40 : Int32))]) (rest := []) (q := 30) hX (cnX12_isMarked (sp_st hX)  h1) cwX12_226 atM_0 rfl rfl rfl rfl rfl (by unfold rmX12_isMarked rmX12_readExpression; dsimp only; simp; try omega) (by unfold rmX12_isMarked rmX12_readExpression; dsimp only; simp; try omega) (Nat.le_of_ble_eq_true rfl) (Nat.le_of_ble_eq_true rfl) (Nat.le_of_ble_eq_true rfl) dX12_readExpression_27 rfl ?_
        refine sp_if_eq (tgt := 37) (q := 33) hX dX12_readExpression_30 (by decide) rfl (fun hc => ?_) (fun hc => ?_)
        · rw [if_pos hc] at hf
          refine sp_iconst (v := 0) (q := 38) hX dX12_readExpression_37 li_0 rfl ?_
          exact hX12_readExpressionB_38 hX hR hke hf
        · rw [if_neg hc] at hf
          exact hX12_readExpressionB_33 hX hR hke hf
  · rw [if_neg hc] at hf
    exact sp_vret hX hR dX12_readExpression_7 hf (Nat.le_of_ble_eq_true rfl) (Nat.le_of_ble_eq_true rfl)
set_option maxRecDepth 100000 in
set_option maxHeartbeats 4000000 in
theorem cnX12_readExpressionB {l : Launch} (hst : l.stackTraces = false) {w : sp_Wd} {n : Nat} {d : Nat} {ke : sp_St → Int32 → Option (sp_St)} (hke : ∀ (σ : sp_St) (a : Int32) (τ : sp_St), ke σ a = some τ → sp_Cv shM l w yX12_readExpression cX12_readExpression 3 (rmX12_readExpression d) 0 0 σ [.ref (w.2.1 0), .int a] τ) {σ : sp_St} {a1 : Int32} {τ : sp_St}  (hf : X12_readExpressionB n ke σ a1 = some τ) : sp_Cv shM l w yX12_readExpression cX12_readExpression 3 (rmX12_readExpression (d + 1)) 0 0 σ [.ref (w.2.1 0), .int a1] τ :=
  sp_cv (own := RX12) (by decide) rfl hst (Nat.le_of_ble_eq_true rfl) rfl (fun X hX hw hl hR => by subst hw; subst hl; exact hX12_readExpressionB hX hR hke  hf)
def X12_readExpression : Nat → Nat → sp_St → Int32 → Option sp_St
  | 0, _, _, _ => none
  | d + 1, n, σ, a => X12_readExpressionB n (X12_readExpression d n) σ a
theorem cnX12_readExpression {l : Launch} (hst : l.stackTraces = false) {w : sp_Wd} : ∀ (d : Nat) {n : Nat} {σ : sp_St} {a1 : Int32} {τ : sp_St}, X12_readExpression d n σ a1 = some τ → sp_Cv shM l w yX12_readExpression cX12_readExpression 3 (rmX12_readExpression d) 0 0 σ [.ref (w.2.1 0), .int a1] τ := by
  intro d
  induction d with
  | zero =>
    intro n σ a1 τ hf
    rw [X12_readExpression] at hf
    cases hf
  | succ d ih =>
    intro n σ a1 τ hf
    rw [X12_readExpression] at hf
    exact cnX12_readExpressionB hst (fun σ a τ h => ih h) hf
def rmX12_sayRule : Room := { frames := 111, cells := 0, slots := 0, locals := 5222 }
def X12_sayRule_21 (n : Nat) (σ : sp_St) (zcs0 : Nat) : Option (sp_St) :=
  sp_pl (sp_sr σ 0 2 zcs0) fun σ1 =>
  sp_bv (X12_readExpression 8 n σ1 ((0 : Int32))) fun σ4 =>
  some σ4
def X12_sayRule (n : Nat)  (σ : sp_St) (a1 : Int32) : Option (sp_St) :=
  sp_ck (sp_zb a1) <|
  sp_pl (sp_si σ 0 25 a1) fun σ1 =>
  if a1 = 0 then
    X12_sayRule_21 n σ1 1
  else
    X12_sayRule_21 n σ1 2
set_option maxRecDepth 100000 in
set_option maxHeartbeats 4000000 in
theorem hX12_sayRule_21 {X : sp_X} (hX : sp_OK shM X cX12_sayRule RX12 2 rmX12_sayRule) {τ : sp_St} (hR : sp_Rv shM X τ 0 0) {n : Nat}    {σ : sp_St} {zcs0 : Nat} (hzs0 : sp_ar shM zcs0 4 (sp_vl zcs0)) (hf : X12_sayRule_21 n σ zcs0 = some τ) : sp_GG shM X σ 2 [some (.ref (sx_ad X 0)), none] [.ref (sx_ad X zcs0), .ref (sx_ad X 0)] 21 0 0 := by
  unfold X12_sayRule_21 at hf
  obtain ⟨σ1, e2, hf⟩ := sp_pl_some hf
  refine sp_putr (q := 24) hX fpX12_30 fkX12_2 atM_0 (fun _ => rfl) (fun _ => rfl) dX12_sayRule_21 rfl ?_
  refine sp_nms e2 ?_
  refine sp_aload_n (i := 0) (q := 25) hX dX12_sayRule_24 rfl rfl rfl ?_
  refine sp_iconst (v := 0) (q := 26) hX dX12_sayRule_25 li_0 rfl ?_
  obtain ⟨σ4, h3, hf⟩ := sp_bv_so hf
  refine sp_callVv (As := [.int ((0 : Int32))]) (rest := []) (q := 29) hX (cnX12_readExpression (sp_st hX) 8 h3) cwX12_256 atM_0 rfl rfl rfl rfl rfl (Nat.le_of_ble_eq_true rfl) (Nat.le_of_ble_eq_true rfl) (Nat.le_of_ble_eq_true rfl) (Nat.le_of_ble_eq_true rfl) (Nat.le_of_ble_eq_true rfl) dX12_sayRule_26 rfl ?_
  exact sp_vret hX hR dX12_sayRule_29 hf (Nat.le_of_ble_eq_true rfl) (Nat.le_of_ble_eq_true rfl)
set_option maxRecDepth 100000 in
set_option maxHeartbeats 4000000 in
theorem hX12_sayRule {X : sp_X} (hX : sp_OK shM X cX12_sayRule RX12 2 rmX12_sayRule) {τ : sp_St} (hR : sp_Rv shM X τ 0 0) {n : Nat}  {σ : sp_St} {a1 : Int32}  (hf : X12_sayRule n σ a1 = some τ) : sp_GG shM X σ 2 [some (.ref (sx_ad X 0)), some (.int a1)] [] 0 0 0 := by
  unfold X12_sayRule at hf
  refine sp_aload_n (i := 0) (q := 1) hX dX12_sayRule_0 rfl rfl rfl ?_
  refine sp_iload_n (i := 1) (q := 2) hX dX12_sayRule_1 rfl rfl rfl ?_
  obtain ⟨h3, hf⟩ := sp_ck_some hf
  obtain ⟨σ1, e2, hf⟩ := sp_pl_some hf
  refine sp_putz (q := 5) hX fpX12_239 fkX12_25 atM_0 h3 dX12_sayRule_2 rfl ?_
  refine sp_nms e2 ?_
  refine sp_aload_n (i := 0) (q := 6) hX dX12_sayRule_5 rfl rfl rfl ?_
  refine sp_iload_n (i := 1) (q := 7) hX dX12_sayRule_6 rfl rfl rfl ?_
  refine sp_if_eq (tgt := 17) (q := 10) hX dX12_sayRule_7 (by decide) rfl (fun hc => ?_) (fun hc => ?_)
  · rw [if_pos hc] at hf
    refine sp_aload_n (i := 0) (q := 18) hX dX12_sayRule_17 rfl rfl rfl ?_
    refine sp_gets (t := 1) (q := 21) hX flX12_23 fkX12_0 atM_0 srM_0_0 dX12_sayRule_18 rfl ?_
    refine sp_drop (lv' := [some (.ref (sx_ad X 0)), none]) (And.intro rfl trivial) ?_
    exact hX12_sayRule_21 hX hR arM_1 hf
  · rw [if_neg hc] at hf
    refine sp_aload_n (i := 0) (q := 11) hX dX12_sayRule_10 rfl rfl rfl ?_
    refine sp_gets (t := 2) (q := 14) hX flX12_27 fkX12_1 atM_0 srM_0_1 dX12_sayRule_11 rfl ?_
    refine sp_goto (tgt := 21) hX dX12_sayRule_14 (by decide) ?_
    refine sp_drop (lv' := [some (.ref (sx_ad X 0)), none]) (And.intro rfl trivial) ?_
    exact hX12_sayRule_21 hX hR arM_2 hf
set_option maxRecDepth 100000 in
set_option maxHeartbeats 4000000 in
theorem cnX12_sayRule {l : Launch} (hst : l.stackTraces = false) {w : sp_Wd} {n : Nat}  {σ : sp_St} {a1 : Int32} {τ : sp_St}  (hf : X12_sayRule n σ a1 = some τ) : sp_Cv shM l w yX12_sayRule cX12_sayRule 2 rmX12_sayRule 0 0 σ [.ref (w.2.1 0), .int a1] τ :=
  sp_cv (own := RX12) (by decide) rfl hst (Nat.le_of_ble_eq_true rfl) rfl (fun X hX hw hl hR => by subst hw; subst hl; exact hX12_sayRule hX hR   hf)
def rmX12_readLine : Room := { frames := 112, cells := 0, slots := 0, locals := 5243 }
def X12_readLine_165 (n : Nat) (σ : sp_St) (z1 : Int32) (z2 : Int32) : Option (sp_St × Int32) :=
  sp_bv (X12_mark n σ ((59 : Int32))) fun σ2 =>
  some (σ2, z1 ||| z2)
def X12_readLine_70 (n : Nat) (σ : sp_St) (z1 : Int32) (z2 : Int32) : Option (sp_St × Int32) :=
  if z2 = ((1 : Int32)) then
    sp_bd (X12_readNumber n σ ((1 : Int32)) ((99 : Int32))) fun σ7 v8 =>
    sp_pl (sp_sa σ7 3 ((9 : Int32)).toNatClampNeg v8) fun σ9 =>
    X12_readLine_165 n σ9 z1 z2
  else
    sp_pl (if z2 = ((4 : Int32)) then ((1 : Int32)) else ((0 : Int32))) fun v1 =>
    sp_bv (X12_sayRule n σ v1) fun σ4 =>
    X12_readLine_165 n σ4 z1 z2
def X12_readLine_55 (n : Nat) (σ : sp_St) (z1 : Int32) (z2 : Int32) : Option (sp_St × Int32) :=
  if z2 ≤ 0 then
    sp_bd (X12_is n σ 12) fun σ2 v3 =>
    if v3 = 0 then
      sp_bd (X12_is n σ2 13) fun σ5 v6 =>
      if v6 = 0 then
        sp_bd (X12_is n σ5 14) fun σ8 v9 =>
        if v9 = 0 then
          sp_bv (X12_amiss n σ8 ((1 : Int32))) fun σ11 =>
          X12_readLine_165 n σ11 z1 z2
        else
          sp_bv (X12_sayBlade n σ8) fun σ13 =>
          X12_readLine_165 n σ13 z1 z2
      else
        sp_bv (X12_sayThroat n σ5) fun σ15 =>
        X12_readLine_165 n σ15 z1 z2
    else
      sp_bv (X12_sayFeud n σ2) fun σ17 =>
      X12_readLine_165 n σ17 z1 z2
  else
    if (σ.1 0 22) = 0 then
      sp_bv (X12_stepOn n σ) fun σ19 =>
      X12_readLine_70 n σ19 z1 z2
    else
      X12_readLine_70 n σ z1 z2
def X12_readLine_43 (n : Nat) (σ : sp_St) (z1 : Int32) (zs0 : Int32) : Option (sp_St × Int32) :=
  if (zs0 &&& z1) = 0 then
    X12_readLine_55 n σ z1 zs0
  else
    sp_bv (X12_amiss n σ ((5 : Int32))) fun σ2 =>
    X12_readLine_55 n σ2 z1 zs0
def X12_readLine (n : Nat)  (σ : sp_St) (a1 : Int32) : Option (sp_St × Int32) :=
  sp_bd (X12_is n σ 9) fun σ2 v3 =>
  if v3 = 0 then
    sp_bd (X12_is n σ2 10) fun σ5 v6 =>
    if v6 = 0 then
      sp_bd (X12_is n σ5 11) fun σ8 v9 =>
      if v9 = 0 then
        X12_readLine_43 n σ8 a1 ((0 : Int32))
      else
        X12_readLine_43 n σ8 a1 ((4 : Int32))
    else
      X12_readLine_43 n σ5 a1 ((2 : Int32))
  else
    X12_readLine_43 n σ2 a1 ((1 : Int32))
set_option maxRecDepth 100000 in
set_option maxHeartbeats 4000000 in
theorem hX12_readLine_165 {X : sp_X} (hX : sp_OK shM X cX12_readLine RX12 3 rmX12_readLine) {τ : sp_St} {r : Int32} (hR : sp_Ri shM X (some .int) τ r 0 0) {n : Nat}    {σ : sp_St} {z1 : Int32} {z2 : Int32} (hf : X12_readLine_165 n σ z1 z2 = some (τ, r)) : sp_GG shM X σ 3 [some (.ref (sx_ad X 0)), some (.int z1), some (.int z2)] [] 165 0 0 := by
  unfold X12_readLine_165 at hf
  refine sp_aload_n (i := 0) (q := 166) hX dX12_readLine_165 rfl rfl rfl ?_
  refine sp_bipush (v := 59) (q := 168) hX dX12_readLine_166 lb_59 rfl ?_
  obtain ⟨σ2, h1, hf⟩ := sp_bv_so hf
  refine sp_callVv (As := [.int ((59 : Int32))]) (rest := []) (q := 171) hX (cnX12_mark (sp_st hX)  h1) cwX12_253 atM_0 rfl rfl rfl rfl rfl (Nat.le_of_ble_eq_true rfl) (Nat.le_of_ble_eq_true rfl) (Nat.le_of_ble_eq_true rfl) (Nat.le_of_ble_eq_true rfl) (Nat.le_of_ble_eq_true rfl) dX12_readLine_168 rfl ?_
  refine sp_iload_n (i := 1) (q := 172) hX dX12_readLine_171 rfl rfl rfl ?_
  refine sp_iload_n (i := 2) (q := 173) hX dX12_readLine_172 rfl rfl rfl ?_
  refine sp_ior (q := 174) hX dX12_readLine_173 rfl ?_
  exact sp_iret hX hR dX12_readLine_174 hf (Nat.le_of_ble_eq_true rfl) (Nat.le_of_ble_eq_true rfl)
set_option maxRecDepth 100000 in
set_option maxHeartbeats 4000000 in
theorem hX12_readLine_70 {X : sp_X} (hX : sp_OK shM X cX12_readLine RX12 3 rmX12_readLine) {τ : sp_St} {r : Int32} (hR : sp_Ri shM X (some .int) τ r 0 0) {n : Nat}    {σ : sp_St} {z1 : Int32} {z2 : Int32} (hf : X12_readLine_70 n σ z1 z2 = some (τ, r)) : sp_GG shM X σ 3 [some (.ref (sx_ad X 0)), some (.int z1), some (.int z2)] [] 70 0 0 := by
  unfold X12_readLine_70 at hf
  refine sp_iload_n (i := 2) (q := 71) hX dX12_readLine_70 rfl rfl rfl ?_
  refine sp_iconst (v := 1) (q := 72) hX dX12_readLine_71 li_1 rfl ?_
  refine sp_icmp_ne (tgt := 92) (q := 75) hX dX12_readLine_72 (by decide) rfl (fun hc => ?_) (fun hc => ?_)
  · rw [if_neg hc] at hf
    refine sp_aload_n (i := 0) (q := 93) hX dX12_readLine_92 rfl rfl rfl ?_
    refine sp_iload_n (i := 2) (q := 94) hX dX12_readLine_93 rfl rfl rfl ?_
    refine sp_iconst (v := 4) (q := 95) hX dX12_readLine_94 li_4 rfl ?_
    obtain ⟨v1, e2, hf⟩ := sp_pl_some hf
    have hj5 : sp_GG shM X σ 3 [some (.ref (sx_ad X 0)), some (.int z1), some (.int z2)] [.int v1, .ref (sx_ad X 0)] 103 0 0 := by
      obtain ⟨σ4, h3, hf⟩ := sp_bv_so hf
      refine sp_callVv (As := [.int v1]) (rest := []) (q := 106) hX (cnX12_sayRule (sp_st hX)  h3) cwX12_293 atM_0 rfl rfl rfl rfl rfl (Nat.le_of_ble_eq_true rfl) (Nat.le_of_ble_eq_true rfl) (Nat.le_of_ble_eq_true rfl) (Nat.le_of_ble_eq_true rfl) (Nat.le_of_ble_eq_true rfl) dX12_readLine_103 rfl ?_
      refine sp_goto (tgt := 165) hX dX12_readLine_106 (by decide) ?_
      exact hX12_readLine_165 hX hR hf
    refine sp_icmp_ne (tgt := 102) (q := 98) hX dX12_readLine_95 (by decide) rfl (fun hc => ?_) (fun hc => ?_)
    · refine sp_iconst (v := 0) (q := 103) hX dX12_readLine_102 li_0 rfl ?_
      exact sp_nmi (by rw [e2, if_neg hc]) hj5
    · refine sp_iconst (v := 1) (q := 99) hX dX12_readLine_98 li_1 rfl ?_
      refine sp_goto (tgt := 103) hX dX12_readLine_99 (by decide) ?_
      exact sp_nmi (by rw [e2, if_pos hc]) hj5
  · rw [if_pos hc] at hf
    refine sp_aload_n (i := 0) (q := 76) hX dX12_readLine_75 rfl rfl rfl ?_
    refine sp_gets (t := 3) (q := 79) hX flX12_33 fkX12_4 atM_0 srM_0_4 dX12_readLine_76 rfl ?_
    refine sp_bipush (v := 9) (q := 81) hX dX12_readLine_79 lb_9 rfl ?_
    refine sp_aload_n (i := 0) (q := 82) hX dX12_readLine_81 rfl rfl rfl ?_
    refine sp_iconst (v := 1) (q := 83) hX dX12_readLine_82 li_1 rfl ?_
    refine sp_bipush (v := 99) (q := 85) hX dX12_readLine_83 lb_99 rfl ?_
    obtain ⟨σ7, v8, h6, hf⟩ := sp_bd_so hf
    refine sp_callVi (As := [.int ((1 : Int32)), .int ((99 : Int32))]) (rest := [.int ((9 : Int32)), .ref (sx_ad X 3)]) (q := 88) hX (cnX12_readNumber (sp_st hX)  h6) cwX12_243 atM_0 rfl rfl rfl rfl rfl (Nat.le_of_ble_eq_true rfl) (Nat.le_of_ble_eq_true rfl) (Nat.le_of_ble_eq_true rfl) (Nat.le_of_ble_eq_true rfl) (Nat.le_of_ble_eq_true rfl) dX12_readLine_85 rfl ?_
    obtain ⟨σ9, e10, hf⟩ := sp_pl_some hf
    refine sp_iast (q := 89) hX arM_3 (by decide) dX12_readLine_88 rfl ?_
    refine sp_nms e10 ?_
    refine sp_goto (tgt := 165) hX dX12_readLine_89 (by decide) ?_
    exact hX12_readLine_165 hX hR hf
set_option maxRecDepth 100000 in
set_option maxHeartbeats 4000000 in
theorem hX12_readLine_55 {X : sp_X} (hX : sp_OK shM X cX12_readLine RX12 3 rmX12_readLine) {τ : sp_St} {r : Int32} (hR : sp_Ri shM X (some .int) τ r 0 0) {n : Nat}    {σ : sp_St} {z1 : Int32} {z2 : Int32} (hf : X12_readLine_55 n σ z1 z2 = some (τ, r)) : sp_GG shM X σ 3 [some (.ref (sx_ad X 0)), some (.int z1), some (.int z2)] [] 55 0 0 := by
  unfold X12_readLine_55 at hf
  refine sp_iload_n (i := 2) (q := 56) hX dX12_readLine_55 rfl rfl rfl ?_
  refine sp_if_le (tgt := 109) (q := 59) hX dX12_readLine_56 (by decide) rfl (fun hc => ?_) (fun hc => ?_)
  · rw [if_pos hc] at hf
    refine sp_aload_n (i := 0) (q := 110) hX dX12_readLine_109 rfl rfl rfl ?_
    refine sp_ldcSw (i := 12) (tx := "feud") (q := 113) hX (by decide) dX12_readLine_110 rfl ?_
    obtain ⟨σ2, v3, h1, hf⟩ := sp_bd_so hf
    refine sp_callVi (As := [.ref ((sx_w X).2.2.1 0 12)]) (rest := []) (q := 116) hX (cnX12_is (sp_st hX) (by decide) h1) cwX12_222 atM_0 rfl rfl rfl rfl rfl (Nat.le_of_ble_eq_true rfl) (Nat.le_of_ble_eq_true rfl) (Nat.le_of_ble_eq_true rfl) (Nat.le_of_ble_eq_true rfl) (Nat.le_of_ble_eq_true rfl) dX12_readLine_113 rfl ?_
    refine sp_if_eq (tgt := 126) (q := 119) hX dX12_readLine_116 (by decide) rfl (fun hc => ?_) (fun hc => ?_)
    · rw [if_pos hc] at hf
      refine sp_aload_n (i := 0) (q := 127) hX dX12_readLine_126 rfl rfl rfl ?_
      refine sp_ldcSw (i := 13) (tx := "swallower") (q := 130) hX (by decide) dX12_readLine_127 rfl ?_
      obtain ⟨σ5, v6, h4, hf⟩ := sp_bd_so hf
      refine sp_callVi (As := [.ref ((sx_w X).2.2.1 0 13)]) (rest := []) (q := 133) hX (cnX12_is (sp_st hX) (by decide) h4) cwX12_222 atM_0 rfl rfl rfl rfl rfl (Nat.le_of_ble_eq_true rfl) (Nat.le_of_ble_eq_true rfl) (Nat.le_of_ble_eq_true rfl) (Nat.le_of_ble_eq_true rfl) (Nat.le_of_ble_eq_true rfl) dX12_readLine_130 rfl ?_
      refine sp_if_eq (tgt := 143) (q := 136) hX dX12_readLine_133 (by decide) rfl (fun hc => ?_) (fun hc => ?_)
      · rw [if_pos hc] at hf
        refine sp_aload_n (i := 0) (q := 144) hX dX12_readLine_143 rfl rfl rfl ?_
        refine sp_ldcSw (i := 14) (tx := "blade") (q := 147) hX (by decide) dX12_readLine_144 rfl ?_
        obtain ⟨σ8, v9, h7, hf⟩ := sp_bd_so hf
        refine sp_callVi (As := [.ref ((sx_w X).2.2.1 0 14)]) (rest := []) (q := 150) hX (cnX12_is (sp_st hX) (by decide) h7) cwX12_222 atM_0 rfl rfl rfl rfl rfl (Nat.le_of_ble_eq_true rfl) (Nat.le_of_ble_eq_true rfl) (Nat.le_of_ble_eq_true rfl) (Nat.le_of_ble_eq_true rfl) (Nat.le_of_ble_eq_true rfl) dX12_readLine_147 rfl ?_
        refine sp_if_eq (tgt := 160) (q := 153) hX dX12_readLine_150 (by decide) rfl (fun hc => ?_) (fun hc => ?_)
        · rw [if_pos hc] at hf
          refine sp_aload_n (i := 0) (q := 161) hX dX12_readLine_160 rfl rfl rfl ?_
          refine sp_iconst (v := 1) (q := 162) hX dX12_readLine_161 li_1 rfl ?_
          obtain ⟨σ11, h10, hf⟩ := sp_bv_so hf
          refine sp_callVv (As := [.int ((1 : Int32))]) (rest := []) (q := 165) hX (cnX12_amiss (sp_st hX)  h10) cwX12_229 atM_0 rfl rfl rfl rfl rfl (Nat.le_of_ble_eq_true rfl) (Nat.le_of_ble_eq_true rfl) (Nat.le_of_ble_eq_true rfl) (Nat.le_of_ble_eq_true rfl) (Nat.le_of_ble_eq_true rfl) dX12_readLine_162 rfl ?_
          exact hX12_readLine_165 hX hR hf
        · rw [if_neg hc] at hf
          refine sp_aload_n (i := 0) (q := 154) hX dX12_readLine_153 rfl rfl rfl ?_
          obtain ⟨σ13, h12, hf⟩ := sp_bv_so hf
          refine sp_callVv (As := []) (rest := []) (q := 157) hX (cnX12_sayBlade (sp_st hX)  h12) cwX12_309 atM_0 rfl rfl rfl rfl rfl (Nat.le_of_ble_eq_true rfl) (Nat.le_of_ble_eq_true rfl) (Nat.le_of_ble_eq_true rfl) (Nat.le_of_ble_eq_true rfl) (Nat.le_of_ble_eq_true rfl) dX12_readLine_154 rfl ?_
          refine sp_goto (tgt := 165) hX dX12_readLine_157 (by decide) ?_
          exact hX12_readLine_165 hX hR hf
      · rw [if_neg hc] at hf
        refine sp_aload_n (i := 0) (q := 137) hX dX12_readLine_136 rfl rfl rfl ?_
        obtain ⟨σ15, h14, hf⟩ := sp_bv_so hf
        refine sp_callVv (As := []) (rest := []) (q := 140) hX (cnX12_sayThroat (sp_st hX)  h14) cwX12_304 atM_0 rfl rfl rfl rfl rfl (Nat.le_of_ble_eq_true rfl) (Nat.le_of_ble_eq_true rfl) (Nat.le_of_ble_eq_true rfl) (Nat.le_of_ble_eq_true rfl) (Nat.le_of_ble_eq_true rfl) dX12_readLine_137 rfl ?_
        refine sp_goto (tgt := 165) hX dX12_readLine_140 (by decide) ?_
        exact hX12_readLine_165 hX hR hf
    · rw [if_neg hc] at hf
      refine sp_aload_n (i := 0) (q := 120) hX dX12_readLine_119 rfl rfl rfl ?_
      obtain ⟨σ17, h16, hf⟩ := sp_bv_so hf
      refine sp_callVv (As := []) (rest := []) (q := 123) hX (cnX12_sayFeud (sp_st hX)  h16) cwX12_299 atM_0 rfl rfl rfl rfl rfl (Nat.le_of_ble_eq_true rfl) (Nat.le_of_ble_eq_true rfl) (Nat.le_of_ble_eq_true rfl) (Nat.le_of_ble_eq_true rfl) (Nat.le_of_ble_eq_true rfl) dX12_readLine_120 rfl ?_
      refine sp_goto (tgt := 165) hX dX12_readLine_123 (by decide) ?_
      exact hX12_readLine_165 hX hR hf
  · rw [if_neg hc] at hf
    refine sp_aload_n (i := 0) (q := 60) hX dX12_readLine_59 rfl rfl rfl ?_
    refine sp_geti (q := 63) hX flX12_209 fkX12_22 atM_0 dX12_readLine_60 rfl ?_
    refine sp_if_ne (tgt := 70) (q := 66) hX dX12_readLine_63 (by decide) rfl (fun hc => ?_) (fun hc => ?_)
    · rw [if_neg hc] at hf
      exact hX12_readLine_70 hX hR hf
    · rw [if_pos hc] at hf
      refine sp_aload_n (i := 0) (q := 67) hX dX12_readLine_66 rfl rfl rfl ?_
      obtain ⟨σ19, h18, hf⟩ := sp_bv_so hf
      refine sp_callVv (As := []) (rest := []) (q := 70) hX (cnX12_stepOn (sp_st hX)  h18) cwX12_233 atM_0 rfl rfl rfl rfl rfl (Nat.le_of_ble_eq_true rfl) (Nat.le_of_ble_eq_true rfl) (Nat.le_of_ble_eq_true rfl) (Nat.le_of_ble_eq_true rfl) (Nat.le_of_ble_eq_true rfl) dX12_readLine_67 rfl ?_
      exact hX12_readLine_70 hX hR hf
set_option maxRecDepth 100000 in
set_option maxHeartbeats 4000000 in
theorem hX12_readLine_43 {X : sp_X} (hX : sp_OK shM X cX12_readLine RX12 3 rmX12_readLine) {τ : sp_St} {r : Int32} (hR : sp_Ri shM X (some .int) τ r 0 0) {n : Nat}    {σ : sp_St} {z1 : Int32} {zs0 : Int32} (hf : X12_readLine_43 n σ z1 zs0 = some (τ, r)) : sp_GG shM X σ 3 [some (.ref (sx_ad X 0)), some (.int z1), none] [.int zs0] 43 0 0 := by
  unfold X12_readLine_43 at hf
  refine sp_istore_n (i := 2) (lv' := [some (.ref (sx_ad X 0)), some (.int z1), some (.int zs0)]) (q := 44) hX dX12_readLine_43 rfl (Nat.le_of_ble_eq_true rfl) rfl rfl rfl ?_
  refine sp_iload_n (i := 2) (q := 45) hX dX12_readLine_44 rfl rfl rfl ?_
  refine sp_iload_n (i := 1) (q := 46) hX dX12_readLine_45 rfl rfl rfl ?_
  refine sp_iand (q := 47) hX dX12_readLine_46 rfl ?_
  refine sp_if_eq (tgt := 55) (q := 50) hX dX12_readLine_47 (by decide) rfl (fun hc => ?_) (fun hc => ?_)
  · rw [if_pos hc] at hf
    exact hX12_readLine_55 hX hR hf
  · rw [if_neg hc] at hf
    refine sp_aload_n (i := 0) (q := 51) hX dX12_readLine_50 rfl rfl rfl ?_
    refine sp_iconst (v := 5) (q := 52) hX dX12_readLine_51 li_5 rfl ?_
    obtain ⟨σ2, h1, hf⟩ := sp_bv_so hf
    refine sp_callVv (As := [.int ((5 : Int32))]) (rest := []) (q := 55) hX (cnX12_amiss (sp_st hX)  h1) cwX12_229 atM_0 rfl rfl rfl rfl rfl (Nat.le_of_ble_eq_true rfl) (Nat.le_of_ble_eq_true rfl) (Nat.le_of_ble_eq_true rfl) (Nat.le_of_ble_eq_true rfl) (Nat.le_of_ble_eq_true rfl) dX12_readLine_52 rfl ?_
    exact hX12_readLine_55 hX hR hf
set_option maxRecDepth 100000 in
set_option maxHeartbeats 4000000 in
theorem hX12_readLine {X : sp_X} (hX : sp_OK shM X cX12_readLine RX12 3 rmX12_readLine) {τ : sp_St} {r : Int32} (hR : sp_Ri shM X (some .int) τ r 0 0) {n : Nat}  {σ : sp_St} {a1 : Int32}  (hf : X12_readLine n σ a1 = some (τ, r)) : sp_GG shM X σ 3 [some (.ref (sx_ad X 0)), some (.int a1), none] [] 0 0 0 := by
  unfold X12_readLine at hf
  refine sp_aload_n (i := 0) (q := 1) hX dX12_readLine_0 rfl rfl rfl ?_
  refine sp_ldcSw (i := 9) (tx := "patience") (q := 4) hX (by decide) dX12_readLine_1 rfl ?_
  obtain ⟨σ2, v3, h1, hf⟩ := sp_bd_so hf
  refine sp_callVi (As := [.ref ((sx_w X).2.2.1 0 9)]) (rest := []) (q := 7) hX (cnX12_is (sp_st hX) (by decide) h1) cwX12_222 atM_0 rfl rfl rfl rfl rfl (Nat.le_of_ble_eq_true rfl) (Nat.le_of_ble_eq_true rfl) (Nat.le_of_ble_eq_true rfl) (Nat.le_of_ble_eq_true rfl) (Nat.le_of_ble_eq_true rfl) dX12_readLine_4 rfl ?_
  refine sp_if_eq (tgt := 14) (q := 10) hX dX12_readLine_7 (by decide) rfl (fun hc => ?_) (fun hc => ?_)
  · rw [if_pos hc] at hf
    refine sp_aload_n (i := 0) (q := 15) hX dX12_readLine_14 rfl rfl rfl ?_
    refine sp_ldcSw (i := 10) (tx := "cools") (q := 18) hX (by decide) dX12_readLine_15 rfl ?_
    obtain ⟨σ5, v6, h4, hf⟩ := sp_bd_so hf
    refine sp_callVi (As := [.ref ((sx_w X).2.2.1 0 10)]) (rest := []) (q := 21) hX (cnX12_is (sp_st hX) (by decide) h4) cwX12_222 atM_0 rfl rfl rfl rfl rfl (Nat.le_of_ble_eq_true rfl) (Nat.le_of_ble_eq_true rfl) (Nat.le_of_ble_eq_true rfl) (Nat.le_of_ble_eq_true rfl) (Nat.le_of_ble_eq_true rfl) dX12_readLine_18 rfl ?_
    refine sp_if_eq (tgt := 28) (q := 24) hX dX12_readLine_21 (by decide) rfl (fun hc => ?_) (fun hc => ?_)
    · rw [if_pos hc] at hf
      refine sp_aload_n (i := 0) (q := 29) hX dX12_readLine_28 rfl rfl rfl ?_
      refine sp_ldcSw (i := 11) (tx := "rises") (q := 32) hX (by decide) dX12_readLine_29 rfl ?_
      obtain ⟨σ8, v9, h7, hf⟩ := sp_bd_so hf
      refine sp_callVi (As := [.ref ((sx_w X).2.2.1 0 11)]) (rest := []) (q := 35) hX (cnX12_is (sp_st hX) (by decide) h7) cwX12_222 atM_0 rfl rfl rfl rfl rfl (Nat.le_of_ble_eq_true rfl) (Nat.le_of_ble_eq_true rfl) (Nat.le_of_ble_eq_true rfl) (Nat.le_of_ble_eq_true rfl) (Nat.le_of_ble_eq_true rfl) dX12_readLine_32 rfl ?_
      refine sp_if_eq (tgt := 42) (q := 38) hX dX12_readLine_35 (by decide) rfl (fun hc => ?_) (fun hc => ?_)
      · rw [if_pos hc] at hf
        refine sp_iconst (v := 0) (q := 43) hX dX12_readLine_42 li_0 rfl ?_
        exact hX12_readLine_43 hX hR hf
      · rw [if_neg hc] at hf
        refine sp_iconst (v := 4) (q := 39) hX dX12_readLine_38 li_4 rfl ?_
        refine sp_goto (tgt := 43) hX dX12_readLine_39 (by decide) ?_
        exact hX12_readLine_43 hX hR hf
    · rw [if_neg hc] at hf
      refine sp_iconst (v := 2) (q := 25) hX dX12_readLine_24 li_2 rfl ?_
      refine sp_goto (tgt := 43) hX dX12_readLine_25 (by decide) ?_
      exact hX12_readLine_43 hX hR hf
  · rw [if_neg hc] at hf
    refine sp_iconst (v := 1) (q := 11) hX dX12_readLine_10 li_1 rfl ?_
    refine sp_goto (tgt := 43) hX dX12_readLine_11 (by decide) ?_
    exact hX12_readLine_43 hX hR hf
set_option maxRecDepth 100000 in
set_option maxHeartbeats 4000000 in
theorem cnX12_readLine {l : Launch} (hst : l.stackTraces = false) {w : sp_Wd} {n : Nat}  {σ : sp_St} {a1 : Int32} {τ : sp_St} {r : Int32}  (hf : X12_readLine n σ a1 = some (τ, r)) : sp_Ci shM l w yX12_readLine cX12_readLine 3 (some .int) rmX12_readLine 0 0 σ [.ref (w.2.1 0), .int a1] τ r :=
  sp_ci (own := RX12) (by decide) rfl hst (Nat.le_of_ble_eq_true rfl) rfl (fun X hX hw hl hR => by subst hw; subst hl; exact hX12_readLine hX hR   hf)
