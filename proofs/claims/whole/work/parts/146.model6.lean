def rmX12_grudge : Room := { frames := 2, cells := 0, slots := 0, locals := 45 }
def X12_grudge_61 (n : Nat) (σ : sp_St) (z2 : Int32) : Option (sp_St × Int32) :=
  some (σ, z2)
def X12_grudge_53 (n : Nat) (k22 : sp_St → Int32 → Int32 → Int32 → Option (sp_St × Int32)) (σ : sp_St) (z1 : Int32) (z3 : Int32) (zs0 : Int32) (zs1 : Int32) : Option (sp_St × Int32) :=
  sp_pl (zs1 + zs0) fun x1 =>
  sp_pl (z3 + 1) fun x3 =>
  k22 σ z1 x1 x3
def X12_grudge_22 (n : Nat) : Nat → sp_St → Int32 → Int32 → Int32 → Option (sp_St × Int32)
  | 0, _, _, _, _ => none
  | f + 1, σ, z1, z2, z3 =>
    if (sp_g σ 3 ((2 : Int32))) ≤ z3 then
      X12_grudge_61 n σ z2
    else
      sp_ck (sp_in z3 20) <|
      if (sp_g σ 7 z3) = z1 then
        sp_ck (sp_in z3 10) <|
        X12_grudge_53 n (X12_grudge_22 n f) σ z1 z3 (sp_g σ 14 z3) z2
      else
        X12_grudge_53 n (X12_grudge_22 n f) σ z1 z3 ((0 : Int32)) z2
def X12_grudge (n : Nat)  (σ : sp_St) (a1 : Int32) : Option (sp_St × Int32) :=
  sp_pl (sp_si σ 0 3 ((0 : Int32))) fun σ1 =>
  sp_bd (X12_isHouse n σ1 a1) fun σ4 v5 =>
  if v5 = 0 then
    sp_bd (X12_fail n σ4 ((1 : Int32))) fun σ11 v12 =>
    some (σ11, v12)
  else
    sp_pl ((0 : Int32)) fun x6 =>
    sp_pl ((0 : Int32)) fun x8 =>
    X12_grudge_22 n n σ4 a1 x6 x8
set_option maxRecDepth 100000 in
set_option maxHeartbeats 4000000 in
theorem hX12_grudge_61 {X : sp_X} (hX : sp_OK shM X cX12_grudge RX12 4 rmX12_grudge) {τ : sp_St} {r : Int32} (hR : sp_Ri shM X (some .int) τ r 0 0) {n : Nat}    {σ : sp_St} {z2 : Int32} (hf : X12_grudge_61 n σ z2 = some (τ, r)) : sp_GG shM X σ 4 [none, none, some (.int z2), none] [] 61 0 0 := by
  unfold X12_grudge_61 at hf
  refine sp_iload_n (i := 2) (q := 62) hX dX12_grudge_61 rfl rfl rfl ?_
  exact sp_iret hX hR dX12_grudge_62 hf (Nat.le_of_ble_eq_true rfl) (Nat.le_of_ble_eq_true rfl)
set_option maxRecDepth 100000 in
set_option maxHeartbeats 4000000 in
theorem hX12_grudge_53 {X : sp_X} (hX : sp_OK shM X cX12_grudge RX12 4 rmX12_grudge) {τ : sp_St} {r : Int32} (hR : sp_Ri shM X (some .int) τ r 0 0) {n : Nat}   {k22 : sp_St → Int32 → Int32 → Int32 → Option (sp_St × Int32)} (hk22 : ∀ (σ : sp_St) (z1 : Int32) (z2 : Int32) (z3 : Int32), k22 σ z1 z2 z3 = some (τ, r) → sp_GG shM X σ 4 [some (.ref (sx_ad X 0)), some (.int z1), some (.int z2), some (.int z3)] [] 22 0 0) {σ : sp_St} {z1 : Int32} {z3 : Int32} {zs0 : Int32} {zs1 : Int32} (hf : X12_grudge_53 n k22 σ z1 z3 zs0 zs1 = some (τ, r)) : sp_GG shM X σ 4 [some (.ref (sx_ad X 0)), some (.int z1), none, some (.int z3)] [.int zs0, .int zs1] 53 0 0 := by
  unfold X12_grudge_53 at hf
  refine sp_iadd (q := 54) hX dX12_grudge_53 rfl ?_
  obtain ⟨x1, e2, hf⟩ := sp_pl_some hf
  refine sp_nmi e2 ?_
  refine sp_istore_n (i := 2) (lv' := [some (.ref (sx_ad X 0)), some (.int z1), some (.int x1), some (.int z3)]) (q := 55) hX dX12_grudge_54 rfl (Nat.le_of_ble_eq_true rfl) rfl rfl rfl ?_
  obtain ⟨x3, e4, hf⟩ := sp_pl_some hf
  refine sp_iinc (i := 3) (v := x3) (lv' := [some (.ref (sx_ad X 0)), some (.int z1), some (.int x1), some (.int x3)]) (q := 58) hX dX12_grudge_55 rfl (by rw [e4, li_1]) (Nat.le_of_ble_eq_true rfl) rfl rfl rfl ?_
  refine sp_goto (tgt := 22) hX dX12_grudge_58 (by decide) ?_
  exact hk22 σ z1 x1 x3 hf
set_option maxRecDepth 100000 in
set_option maxHeartbeats 4000000 in
theorem hX12_grudge_22 {X : sp_X} (hX : sp_OK shM X cX12_grudge RX12 4 rmX12_grudge) {τ : sp_St} {r : Int32} (hR : sp_Ri shM X (some .int) τ r 0 0) {n : Nat}    : ∀ (f : Nat) (σ : sp_St) (z1 : Int32) (z2 : Int32) (z3 : Int32), X12_grudge_22 n f σ z1 z2 z3 = some (τ, r) → sp_GG shM X σ 4 [some (.ref (sx_ad X 0)), some (.int z1), some (.int z2), some (.int z3)] [] 22 0 0 := by
  intro f
  induction f with
  | zero =>
    intro σ z1 z2 z3 hf
    rw [X12_grudge_22] at hf
    cases hf
  | succ f ih =>
    intro σ z1 z2 z3 hf
    rw [X12_grudge_22] at hf
    refine sp_iload_n (i := 3) (q := 23) hX dX12_grudge_22 rfl rfl rfl ?_
    refine sp_aload_n (i := 0) (q := 24) hX dX12_grudge_23 rfl rfl rfl ?_
    refine sp_gets (t := 3) (q := 27) hX flX12_33 fkX12_4 atM_0 srM_0_4 dX12_grudge_24 rfl ?_
    refine sp_iconst (v := 2) (q := 28) hX dX12_grudge_27 li_2 rfl ?_
    refine sp_iald (q := 29) hX arM_3 (by decide) dX12_grudge_28 rfl ?_
    refine sp_icmp_ge (tgt := 61) (q := 32) hX dX12_grudge_29 (by decide) rfl (fun hc => ?_) (fun hc => ?_)
    · rw [if_pos hc] at hf
      refine sp_drop (lv' := [none, none, some (.int z2), none]) (And.intro rfl trivial) ?_
      exact hX12_grudge_61 hX hR hf
    · rw [if_neg hc] at hf
      refine sp_iload_n (i := 2) (q := 33) hX dX12_grudge_32 rfl rfl rfl ?_
      refine sp_aload_n (i := 0) (q := 34) hX dX12_grudge_33 rfl rfl rfl ?_
      refine sp_gets (t := 7) (q := 37) hX flX12_46 fkX12_8 atM_0 srM_0_8 dX12_grudge_34 rfl ?_
      refine sp_iload_n (i := 3) (q := 38) hX dX12_grudge_37 rfl rfl rfl ?_
      obtain ⟨h1, hf⟩ := sp_ck_some hf
      refine sp_iald (q := 39) hX arM_7 h1 dX12_grudge_38 rfl ?_
      refine sp_iload_n (i := 1) (q := 40) hX dX12_grudge_39 rfl rfl rfl ?_
      refine sp_icmp_ne (tgt := 52) (q := 43) hX dX12_grudge_40 (by decide) rfl (fun hc => ?_) (fun hc => ?_)
      · rw [if_neg hc] at hf
        refine sp_iconst (v := 0) (q := 53) hX dX12_grudge_52 li_0 rfl ?_
        refine sp_drop (lv' := [some (.ref (sx_ad X 0)), some (.int z1), none, some (.int z3)]) (And.intro rfl (And.intro rfl (And.intro rfl trivial))) ?_
        exact hX12_grudge_53 hX hR ih hf
      · rw [if_pos hc] at hf
        refine sp_aload_n (i := 0) (q := 44) hX dX12_grudge_43 rfl rfl rfl ?_
        refine sp_gets (t := 14) (q := 47) hX flX12_70 fkX12_26 atM_0 srM_0_26 dX12_grudge_44 rfl ?_
        refine sp_iload_n (i := 3) (q := 48) hX dX12_grudge_47 rfl rfl rfl ?_
        obtain ⟨h2, hf⟩ := sp_ck_some hf
        refine sp_iald (q := 49) hX arM_14 h2 dX12_grudge_48 rfl ?_
        refine sp_goto (tgt := 53) hX dX12_grudge_49 (by decide) ?_
        refine sp_drop (lv' := [some (.ref (sx_ad X 0)), some (.int z1), none, some (.int z3)]) (And.intro rfl (And.intro rfl (And.intro rfl trivial))) ?_
        exact hX12_grudge_53 hX hR ih hf
set_option maxRecDepth 100000 in
set_option maxHeartbeats 4000000 in
theorem hX12_grudge {X : sp_X} (hX : sp_OK shM X cX12_grudge RX12 4 rmX12_grudge) {τ : sp_St} {r : Int32} (hR : sp_Ri shM X (some .int) τ r 0 0) {n : Nat}  {σ : sp_St} {a1 : Int32}  (hf : X12_grudge n σ a1 = some (τ, r)) : sp_GG shM X σ 4 [some (.ref (sx_ad X 0)), some (.int a1), none, none] [] 0 0 0 := by
  unfold X12_grudge at hf
  refine sp_aload_n (i := 0) (q := 1) hX dX12_grudge_0 rfl rfl rfl ?_
  refine sp_iconst (v := 0) (q := 2) hX dX12_grudge_1 li_0 rfl ?_
  obtain ⟨σ1, e2, hf⟩ := sp_pl_some hf
  refine sp_puti (q := 5) hX fpX12_158 fkX12_3 atM_0 dX12_grudge_2 rfl ?_
  refine sp_nms e2 ?_
  refine sp_iload_n (i := 1) (q := 6) hX dX12_grudge_5 rfl rfl rfl ?_
  obtain ⟨σ4, v5, h3, hf⟩ := sp_bd_so hf
  refine sp_callSi (As := [.int a1]) (rest := []) (q := 9) hX (cnX12_isHouse (sp_st hX)  h3) cwX12_408 rfl rfl rfl rfl (Nat.le_of_ble_eq_true rfl) (Nat.le_of_ble_eq_true rfl) (Nat.le_of_ble_eq_true rfl) (Nat.le_of_ble_eq_true rfl) (Nat.le_of_ble_eq_true rfl) dX12_grudge_6 rfl ?_
  refine sp_if_ne (tgt := 18) (q := 12) hX dX12_grudge_9 (by decide) rfl (fun hc => ?_) (fun hc => ?_)
  · rw [if_neg hc] at hf
    refine sp_iconst (v := 0) (q := 19) hX dX12_grudge_18 li_0 rfl ?_
    obtain ⟨x6, e7, hf⟩ := sp_pl_some hf
    refine sp_nmi e7 ?_
    refine sp_istore_n (i := 2) (lv' := [some (.ref (sx_ad X 0)), some (.int a1), some (.int x6), none]) (q := 20) hX dX12_grudge_19 rfl (Nat.le_of_ble_eq_true rfl) rfl rfl rfl ?_
    refine sp_iconst (v := 0) (q := 21) hX dX12_grudge_20 li_0 rfl ?_
    obtain ⟨x8, e9, hf⟩ := sp_pl_some hf
    refine sp_nmi e9 ?_
    refine sp_istore_n (i := 3) (lv' := [some (.ref (sx_ad X 0)), some (.int a1), some (.int x6), some (.int x8)]) (q := 22) hX dX12_grudge_21 rfl (Nat.le_of_ble_eq_true rfl) rfl rfl rfl ?_
    exact hX12_grudge_22 hX hR n σ4 a1 x6 x8 hf
  · rw [if_pos hc] at hf
    refine sp_aload_n (i := 0) (q := 13) hX dX12_grudge_12 rfl rfl rfl ?_
    refine sp_iconst (v := 1) (q := 14) hX dX12_grudge_13 li_1 rfl ?_
    obtain ⟨σ11, v12, h10, hf⟩ := sp_bd_so hf
    refine sp_callVi (As := [.int ((1 : Int32))]) (rest := []) (q := 17) hX (cnX12_fail (sp_st hX)  h10) cwX12_312 atM_0 rfl rfl rfl rfl rfl (Nat.le_of_ble_eq_true rfl) (Nat.le_of_ble_eq_true rfl) (Nat.le_of_ble_eq_true rfl) (Nat.le_of_ble_eq_true rfl) (Nat.le_of_ble_eq_true rfl) dX12_grudge_14 rfl ?_
    exact sp_iret hX hR dX12_grudge_17 hf (Nat.le_of_ble_eq_true rfl) (Nat.le_of_ble_eq_true rfl)
set_option maxRecDepth 100000 in
set_option maxHeartbeats 4000000 in
theorem cnX12_grudge {l : Launch} (hst : l.stackTraces = false) {w : sp_Wd} {n : Nat}  {σ : sp_St} {a1 : Int32} {τ : sp_St} {r : Int32}  (hf : X12_grudge n σ a1 = some (τ, r)) : sp_Ci shM l w yX12_grudge cX12_grudge 4 (some .int) rmX12_grudge 0 0 σ [.ref (w.2.1 0), .int a1] τ r :=
  sp_ci (own := RX12) (by decide) rfl hst (Nat.le_of_ble_eq_true rfl) rfl (fun X hX hw hl hR => by subst hw; subst hl; exact hX12_grudge hX hR   hf)
def rmX12_foes : Room := { frames := 2, cells := 0, slots := 0, locals := 45 }
def X12_foes_40 (n : Nat) (σ : sp_St) (zs0 : Int32) : Option (sp_St × Int32) :=
  some (σ, zs0)
def X12_foes_35 (n : Nat) (σ : sp_St) : Option (sp_St × Int32) :=
  sp_bd (X12_fail n σ ((1 : Int32))) fun σ2 v3 =>
  X12_foes_40 n σ2 v3
def X12_foes (n : Nat)  (σ : sp_St) (a1 : Int32) (a2 : Int32) : Option (sp_St × Int32) :=
  sp_pl (sp_si σ 0 3 ((0 : Int32))) fun σ1 =>
  sp_bd (X12_isHouse n σ1 a1) fun σ4 v5 =>
  if v5 = 0 then
    X12_foes_35 n σ4
  else
    sp_bd (X12_isHouse n σ4 a2) fun σ7 v8 =>
    if v8 = 0 then
      X12_foes_35 n σ7
    else
      sp_ck (sp_in a1 6) <|
      sp_ck (sp_in a2 6) <|
      X12_foes_40 n σ7 ((sp_g σ7 19 a1) &&& (sp_g σ7 19 a2))
set_option maxRecDepth 100000 in
set_option maxHeartbeats 4000000 in
theorem hX12_foes_40 {X : sp_X} (hX : sp_OK shM X cX12_foes RX12 3 rmX12_foes) {τ : sp_St} {r : Int32} (hR : sp_Ri shM X (some .int) τ r 0 0) {n : Nat}    {σ : sp_St} {zs0 : Int32} (hf : X12_foes_40 n σ zs0 = some (τ, r)) : sp_GG shM X σ 3 [none, none, none] [.int zs0] 40 0 0 := by
  unfold X12_foes_40 at hf
  exact sp_iret hX hR dX12_foes_40 hf (Nat.le_of_ble_eq_true rfl) (Nat.le_of_ble_eq_true rfl)
set_option maxRecDepth 100000 in
set_option maxHeartbeats 4000000 in
theorem hX12_foes_35 {X : sp_X} (hX : sp_OK shM X cX12_foes RX12 3 rmX12_foes) {τ : sp_St} {r : Int32} (hR : sp_Ri shM X (some .int) τ r 0 0) {n : Nat}    {σ : sp_St} (hf : X12_foes_35 n σ = some (τ, r)) : sp_GG shM X σ 3 [some (.ref (sx_ad X 0)), none, none] [] 35 0 0 := by
  unfold X12_foes_35 at hf
  refine sp_aload_n (i := 0) (q := 36) hX dX12_foes_35 rfl rfl rfl ?_
  refine sp_iconst (v := 1) (q := 37) hX dX12_foes_36 li_1 rfl ?_
  obtain ⟨σ2, v3, h1, hf⟩ := sp_bd_so hf
  refine sp_callVi (As := [.int ((1 : Int32))]) (rest := []) (q := 40) hX (cnX12_fail (sp_st hX)  h1) cwX12_312 atM_0 rfl rfl rfl rfl rfl (Nat.le_of_ble_eq_true rfl) (Nat.le_of_ble_eq_true rfl) (Nat.le_of_ble_eq_true rfl) (Nat.le_of_ble_eq_true rfl) (Nat.le_of_ble_eq_true rfl) dX12_foes_37 rfl ?_
  refine sp_drop (lv' := [none, none, none]) trivial ?_
  exact hX12_foes_40 hX hR hf
set_option maxRecDepth 100000 in
set_option maxHeartbeats 4000000 in
theorem hX12_foes {X : sp_X} (hX : sp_OK shM X cX12_foes RX12 3 rmX12_foes) {τ : sp_St} {r : Int32} (hR : sp_Ri shM X (some .int) τ r 0 0) {n : Nat}  {σ : sp_St} {a1 : Int32} {a2 : Int32}  (hf : X12_foes n σ a1 a2 = some (τ, r)) : sp_GG shM X σ 3 [some (.ref (sx_ad X 0)), some (.int a1), some (.int a2)] [] 0 0 0 := by
  unfold X12_foes at hf
  refine sp_aload_n (i := 0) (q := 1) hX dX12_foes_0 rfl rfl rfl ?_
  refine sp_iconst (v := 0) (q := 2) hX dX12_foes_1 li_0 rfl ?_
  obtain ⟨σ1, e2, hf⟩ := sp_pl_some hf
  refine sp_puti (q := 5) hX fpX12_158 fkX12_3 atM_0 dX12_foes_2 rfl ?_
  refine sp_nms e2 ?_
  refine sp_iload_n (i := 1) (q := 6) hX dX12_foes_5 rfl rfl rfl ?_
  obtain ⟨σ4, v5, h3, hf⟩ := sp_bd_so hf
  refine sp_callSi (As := [.int a1]) (rest := []) (q := 9) hX (cnX12_isHouse (sp_st hX)  h3) cwX12_408 rfl rfl rfl rfl (Nat.le_of_ble_eq_true rfl) (Nat.le_of_ble_eq_true rfl) (Nat.le_of_ble_eq_true rfl) (Nat.le_of_ble_eq_true rfl) (Nat.le_of_ble_eq_true rfl) dX12_foes_6 rfl ?_
  refine sp_if_eq (tgt := 35) (q := 12) hX dX12_foes_9 (by decide) rfl (fun hc => ?_) (fun hc => ?_)
  · rw [if_pos hc] at hf
    refine sp_drop (lv' := [some (.ref (sx_ad X 0)), none, none]) (And.intro rfl trivial) ?_
    exact hX12_foes_35 hX hR hf
  · rw [if_neg hc] at hf
    refine sp_iload_n (i := 2) (q := 13) hX dX12_foes_12 rfl rfl rfl ?_
    obtain ⟨σ7, v8, h6, hf⟩ := sp_bd_so hf
    refine sp_callSi (As := [.int a2]) (rest := []) (q := 16) hX (cnX12_isHouse (sp_st hX)  h6) cwX12_408 rfl rfl rfl rfl (Nat.le_of_ble_eq_true rfl) (Nat.le_of_ble_eq_true rfl) (Nat.le_of_ble_eq_true rfl) (Nat.le_of_ble_eq_true rfl) (Nat.le_of_ble_eq_true rfl) dX12_foes_13 rfl ?_
    refine sp_if_eq (tgt := 35) (q := 19) hX dX12_foes_16 (by decide) rfl (fun hc => ?_) (fun hc => ?_)
    · rw [if_pos hc] at hf
      refine sp_drop (lv' := [some (.ref (sx_ad X 0)), none, none]) (And.intro rfl trivial) ?_
      exact hX12_foes_35 hX hR hf
    · rw [if_neg hc] at hf
      refine sp_aload_n (i := 0) (q := 20) hX dX12_foes_19 rfl rfl rfl ?_
      refine sp_gets (t := 19) (q := 23) hX flX12_84 fkX12_31 atM_0 srM_0_31 dX12_foes_20 rfl ?_
      refine sp_iload_n (i := 1) (q := 24) hX dX12_foes_23 rfl rfl rfl ?_
      obtain ⟨h9, hf⟩ := sp_ck_some hf
      refine sp_iald (q := 25) hX arM_19 h9 dX12_foes_24 rfl ?_
      refine sp_aload_n (i := 0) (q := 26) hX dX12_foes_25 rfl rfl rfl ?_
      refine sp_gets (t := 19) (q := 29) hX flX12_84 fkX12_31 atM_0 srM_0_31 dX12_foes_26 rfl ?_
      refine sp_iload_n (i := 2) (q := 30) hX dX12_foes_29 rfl rfl rfl ?_
      obtain ⟨h10, hf⟩ := sp_ck_some hf
      refine sp_iald (q := 31) hX arM_19 h10 dX12_foes_30 rfl ?_
      refine sp_iand (q := 32) hX dX12_foes_31 rfl ?_
      refine sp_goto (tgt := 40) hX dX12_foes_32 (by decide) ?_
      refine sp_drop (lv' := [none, none, none]) trivial ?_
      exact hX12_foes_40 hX hR hf
set_option maxRecDepth 100000 in
set_option maxHeartbeats 4000000 in
theorem cnX12_foes {l : Launch} (hst : l.stackTraces = false) {w : sp_Wd} {n : Nat}  {σ : sp_St} {a1 : Int32} {a2 : Int32} {τ : sp_St} {r : Int32}  (hf : X12_foes n σ a1 a2 = some (τ, r)) : sp_Ci shM l w yX12_foes cX12_foes 3 (some .int) rmX12_foes 0 0 σ [.ref (w.2.1 0), .int a1, .int a2] τ r :=
  sp_ci (own := RX12) (by decide) rfl hst (Nat.le_of_ble_eq_true rfl) rfl (fun X hX hw hl hR => by subst hw; subst hl; exact hX12_foes hX hR   hf)
def rmX12_parts : Room := { frames := 1, cells := 0, slots := 0, locals := 21 }
def X12_parts_110 (n : Nat) (σ : sp_St) (z2 : Int32) : Option (sp_St × Int32) :=
  some (σ, z2)
def X12_parts_104 (n : Nat) (k11 : sp_St → Int32 → Int32 → Int32 → Option (sp_St × Int32)) (σ : sp_St) (z1 : Int32) (z2 : Int32) (z3 : Int32) : Option (sp_St × Int32) :=
  sp_pl (z3 + 1) fun x1 =>
  k11 σ z1 z2 x1
def X12_parts_96 (n : Nat) (k11 : sp_St → Int32 → Int32 → Int32 → Option (sp_St × Int32)) (σ : sp_St) (z1 : Int32) (z2 : Int32) (z3 : Int32) (z4 : Int32) : Option (sp_St × Int32) :=
  sp_pl (z1 ||| z4) fun x1 =>
  sp_pl (z2 + 1) fun x3 =>
  X12_parts_104 n k11 σ x1 x3 z3
def X12_parts_90 (n : Nat) (k11 : sp_St → Int32 → Int32 → Int32 → Option (sp_St × Int32)) (k45 : sp_St → Int32 → Int32 → Int32 → Int32 → Int32 → Option (sp_St × Int32)) (σ : sp_St) (z1 : Int32) (z2 : Int32) (z3 : Int32) (z4 : Int32) (z5 : Int32) : Option (sp_St × Int32) :=
  sp_pl (z5 + 1) fun x1 =>
  k45 σ z1 z2 z3 z4 x1
def X12_parts_84 (n : Nat) (k11 : sp_St → Int32 → Int32 → Int32 → Option (sp_St × Int32)) (k45 : sp_St → Int32 → Int32 → Int32 → Int32 → Int32 → Option (sp_St × Int32)) (k55 : sp_St → Int32 → Int32 → Int32 → Int32 → Int32 → Int32 → Option (sp_St × Int32)) (σ : sp_St) (z1 : Int32) (z2 : Int32) (z3 : Int32) (z4 : Int32) (z5 : Int32) (z6 : Int32) : Option (sp_St × Int32) :=
  sp_pl (z6 + 1) fun x1 =>
  k55 σ z1 z2 z3 z4 z5 x1
def X12_parts_55 (n : Nat) (k11 : sp_St → Int32 → Int32 → Int32 → Option (sp_St × Int32)) (k45 : sp_St → Int32 → Int32 → Int32 → Int32 → Int32 → Option (sp_St × Int32)) : Nat → sp_St → Int32 → Int32 → Int32 → Int32 → Int32 → Int32 → Option (sp_St × Int32)
  | 0, _, _, _, _, _, _, _ => none
  | f + 1, σ, z1, z2, z3, z4, z5, z6 =>
    if ((6 : Int32)) ≤ z6 then
      X12_parts_90 n k11 k45 σ z1 z2 z3 z4 z5
    else
      sp_bd (X12_isOf n σ z4 z6) fun σ2 v3 =>
      if v3 = 0 then
        X12_parts_84 n k11 k45 (X12_parts_55 n k11 k45 f) σ2 z1 z2 z3 z4 z5 z6
      else
        sp_ck (sp_in z6 6) <|
        sp_pl (z4 ||| (sp_g σ2 19 z6)) fun x5 =>
        X12_parts_84 n k11 k45 (X12_parts_55 n k11 k45 f) σ2 z1 z2 z3 x5 z5 z6
def X12_parts_45 (n : Nat) (k11 : sp_St → Int32 → Int32 → Int32 → Option (sp_St × Int32)) : Nat → sp_St → Int32 → Int32 → Int32 → Int32 → Int32 → Option (sp_St × Int32)
  | 0, _, _, _, _, _, _ => none
  | f + 1, σ, z1, z2, z3, z4, z5 =>
    if ((6 : Int32)) ≤ z5 then
      X12_parts_96 n k11 σ z1 z2 z3 z4
    else
      sp_pl ((0 : Int32)) fun x1 =>
      X12_parts_55 n k11 (X12_parts_45 n k11 f) n σ z1 z2 z3 z4 z5 x1
def X12_parts_11 (n : Nat) : Nat → sp_St → Int32 → Int32 → Int32 → Option (sp_St × Int32)
  | 0, _, _, _, _ => none
  | f + 1, σ, z1, z2, z3 =>
    if ((6 : Int32)) ≤ z3 then
      X12_parts_110 n σ z2
    else
      sp_ck (sp_in z3 6) <|
      if (sp_g σ 19 z3) = 0 then
        X12_parts_104 n (X12_parts_11 n f) σ z1 z2 z3
      else
        sp_bd (X12_isOf n σ z1 z3) fun σ3 v4 =>
        if v4 = 0 then
          sp_pl (((1 : Int32)) <<< (z3 &&& 31)) fun x5 =>
          sp_pl ((0 : Int32)) fun x7 =>
          X12_parts_45 n (X12_parts_11 n f) n σ3 z1 z2 z3 x5 x7
        else
          X12_parts_104 n (X12_parts_11 n f) σ3 z1 z2 z3
def X12_parts (n : Nat)  (σ : sp_St)  : Option (sp_St × Int32) :=
  sp_pl (sp_si σ 0 3 ((0 : Int32))) fun σ1 =>
  sp_pl ((0 : Int32)) fun x3 =>
  sp_pl ((0 : Int32)) fun x5 =>
  sp_pl ((0 : Int32)) fun x7 =>
  X12_parts_11 n n σ1 x3 x5 x7
set_option maxRecDepth 100000 in
set_option maxHeartbeats 4000000 in
theorem hX12_parts_110 {X : sp_X} (hX : sp_OK shM X cX12_parts RX12 7 rmX12_parts) {τ : sp_St} {r : Int32} (hR : sp_Ri shM X (some .int) τ r 0 0) {n : Nat}    {σ : sp_St} {z2 : Int32} (hf : X12_parts_110 n σ z2 = some (τ, r)) : sp_GG shM X σ 7 [none, none, some (.int z2), none, none, none, none] [] 110 0 0 := by
  unfold X12_parts_110 at hf
  refine sp_iload_n (i := 2) (q := 111) hX dX12_parts_110 rfl rfl rfl ?_
  exact sp_iret hX hR dX12_parts_111 hf (Nat.le_of_ble_eq_true rfl) (Nat.le_of_ble_eq_true rfl)
set_option maxRecDepth 100000 in
set_option maxHeartbeats 4000000 in
theorem hX12_parts_104 {X : sp_X} (hX : sp_OK shM X cX12_parts RX12 7 rmX12_parts) {τ : sp_St} {r : Int32} (hR : sp_Ri shM X (some .int) τ r 0 0) {n : Nat}   {k11 : sp_St → Int32 → Int32 → Int32 → Option (sp_St × Int32)} (hk11 : ∀ (σ : sp_St) (z1 : Int32) (z2 : Int32) (z3 : Int32), k11 σ z1 z2 z3 = some (τ, r) → sp_GG shM X σ 7 [some (.ref (sx_ad X 0)), some (.int z1), some (.int z2), some (.int z3), none, none, none] [] 11 0 0) {σ : sp_St} {z1 : Int32} {z2 : Int32} {z3 : Int32} (hf : X12_parts_104 n k11 σ z1 z2 z3 = some (τ, r)) : sp_GG shM X σ 7 [some (.ref (sx_ad X 0)), some (.int z1), some (.int z2), some (.int z3), none, none, none] [] 104 0 0 := by
  unfold X12_parts_104 at hf
  obtain ⟨x1, e2, hf⟩ := sp_pl_some hf
  refine sp_iinc (i := 3) (v := x1) (lv' := [some (.ref (sx_ad X 0)), some (.int z1), some (.int z2), some (.int x1), none, none, none]) (q := 107) hX dX12_parts_104 rfl (by rw [e2, li_1]) (Nat.le_of_ble_eq_true rfl) rfl rfl rfl ?_
  refine sp_goto (tgt := 11) hX dX12_parts_107 (by decide) ?_
  exact hk11 σ z1 z2 x1 hf
set_option maxRecDepth 100000 in
set_option maxHeartbeats 4000000 in
theorem hX12_parts_96 {X : sp_X} (hX : sp_OK shM X cX12_parts RX12 7 rmX12_parts) {τ : sp_St} {r : Int32} (hR : sp_Ri shM X (some .int) τ r 0 0) {n : Nat}   {k11 : sp_St → Int32 → Int32 → Int32 → Option (sp_St × Int32)} (hk11 : ∀ (σ : sp_St) (z1 : Int32) (z2 : Int32) (z3 : Int32), k11 σ z1 z2 z3 = some (τ, r) → sp_GG shM X σ 7 [some (.ref (sx_ad X 0)), some (.int z1), some (.int z2), some (.int z3), none, none, none] [] 11 0 0) {σ : sp_St} {z1 : Int32} {z2 : Int32} {z3 : Int32} {z4 : Int32} (hf : X12_parts_96 n k11 σ z1 z2 z3 z4 = some (τ, r)) : sp_GG shM X σ 7 [some (.ref (sx_ad X 0)), some (.int z1), some (.int z2), some (.int z3), some (.int z4), none, none] [] 96 0 0 := by
  unfold X12_parts_96 at hf
  refine sp_iload_n (i := 1) (q := 97) hX dX12_parts_96 rfl rfl rfl ?_
  refine sp_iload (i := 4) (q := 99) hX dX12_parts_97 rfl rfl ?_
  refine sp_ior (q := 100) hX dX12_parts_99 rfl ?_
  obtain ⟨x1, e2, hf⟩ := sp_pl_some hf
  refine sp_nmi e2 ?_
  refine sp_istore_n (i := 1) (lv' := [some (.ref (sx_ad X 0)), some (.int x1), some (.int z2), some (.int z3), some (.int z4), none, none]) (q := 101) hX dX12_parts_100 rfl (Nat.le_of_ble_eq_true rfl) rfl rfl rfl ?_
  obtain ⟨x3, e4, hf⟩ := sp_pl_some hf
  refine sp_iinc (i := 2) (v := x3) (lv' := [some (.ref (sx_ad X 0)), some (.int x1), some (.int x3), some (.int z3), some (.int z4), none, none]) (q := 104) hX dX12_parts_101 rfl (by rw [e4, li_1]) (Nat.le_of_ble_eq_true rfl) rfl rfl rfl ?_
  refine sp_drop (lv' := [some (.ref (sx_ad X 0)), some (.int x1), some (.int x3), some (.int z3), none, none, none]) (And.intro rfl (And.intro rfl (And.intro rfl (And.intro rfl trivial)))) ?_
  exact hX12_parts_104 hX hR hk11 hf
set_option maxRecDepth 100000 in
set_option maxHeartbeats 4000000 in
theorem hX12_parts_90 {X : sp_X} (hX : sp_OK shM X cX12_parts RX12 7 rmX12_parts) {τ : sp_St} {r : Int32} (hR : sp_Ri shM X (some .int) τ r 0 0) {n : Nat}   {k11 : sp_St → Int32 → Int32 → Int32 → Option (sp_St × Int32)} (hk11 : ∀ (σ : sp_St) (z1 : Int32) (z2 : Int32) (z3 : Int32), k11 σ z1 z2 z3 = some (τ, r) → sp_GG shM X σ 7 [some (.ref (sx_ad X 0)), some (.int z1), some (.int z2), some (.int z3), none, none, none] [] 11 0 0) {k45 : sp_St → Int32 → Int32 → Int32 → Int32 → Int32 → Option (sp_St × Int32)} (hk45 : ∀ (σ : sp_St) (z1 : Int32) (z2 : Int32) (z3 : Int32) (z4 : Int32) (z5 : Int32), k45 σ z1 z2 z3 z4 z5 = some (τ, r) → sp_GG shM X σ 7 [some (.ref (sx_ad X 0)), some (.int z1), some (.int z2), some (.int z3), some (.int z4), some (.int z5), none] [] 45 0 0) {σ : sp_St} {z1 : Int32} {z2 : Int32} {z3 : Int32} {z4 : Int32} {z5 : Int32} (hf : X12_parts_90 n k11 k45 σ z1 z2 z3 z4 z5 = some (τ, r)) : sp_GG shM X σ 7 [some (.ref (sx_ad X 0)), some (.int z1), some (.int z2), some (.int z3), some (.int z4), some (.int z5), none] [] 90 0 0 := by
  unfold X12_parts_90 at hf
  obtain ⟨x1, e2, hf⟩ := sp_pl_some hf
  refine sp_iinc (i := 5) (v := x1) (lv' := [some (.ref (sx_ad X 0)), some (.int z1), some (.int z2), some (.int z3), some (.int z4), some (.int x1), none]) (q := 93) hX dX12_parts_90 rfl (by rw [e2, li_1]) (Nat.le_of_ble_eq_true rfl) rfl rfl rfl ?_
  refine sp_goto (tgt := 45) hX dX12_parts_93 (by decide) ?_
  exact hk45 σ z1 z2 z3 z4 x1 hf
set_option maxRecDepth 100000 in
set_option maxHeartbeats 4000000 in
theorem hX12_parts_84 {X : sp_X} (hX : sp_OK shM X cX12_parts RX12 7 rmX12_parts) {τ : sp_St} {r : Int32} (hR : sp_Ri shM X (some .int) τ r 0 0) {n : Nat}   {k11 : sp_St → Int32 → Int32 → Int32 → Option (sp_St × Int32)} (hk11 : ∀ (σ : sp_St) (z1 : Int32) (z2 : Int32) (z3 : Int32), k11 σ z1 z2 z3 = some (τ, r) → sp_GG shM X σ 7 [some (.ref (sx_ad X 0)), some (.int z1), some (.int z2), some (.int z3), none, none, none] [] 11 0 0) {k45 : sp_St → Int32 → Int32 → Int32 → Int32 → Int32 → Option (sp_St × Int32)} (hk45 : ∀ (σ : sp_St) (z1 : Int32) (z2 : Int32) (z3 : Int32) (z4 : Int32) (z5 : Int32), k45 σ z1 z2 z3 z4 z5 = some (τ, r) → sp_GG shM X σ 7 [some (.ref (sx_ad X 0)), some (.int z1), some (.int z2), some (.int z3), some (.int z4), some (.int z5), none] [] 45 0 0) {k55 : sp_St → Int32 → Int32 → Int32 → Int32 → Int32 → Int32 → Option (sp_St × Int32)} (hk55 : ∀ (σ : sp_St) (z1 : Int32) (z2 : Int32) (z3 : Int32) (z4 : Int32) (z5 : Int32) (z6 : Int32), k55 σ z1 z2 z3 z4 z5 z6 = some (τ, r) → sp_GG shM X σ 7 [some (.ref (sx_ad X 0)), some (.int z1), some (.int z2), some (.int z3), some (.int z4), some (.int z5), some (.int z6)] [] 55 0 0) {σ : sp_St} {z1 : Int32} {z2 : Int32} {z3 : Int32} {z4 : Int32} {z5 : Int32} {z6 : Int32} (hf : X12_parts_84 n k11 k45 k55 σ z1 z2 z3 z4 z5 z6 = some (τ, r)) : sp_GG shM X σ 7 [some (.ref (sx_ad X 0)), some (.int z1), some (.int z2), some (.int z3), some (.int z4), some (.int z5), some (.int z6)] [] 84 0 0 := by
  unfold X12_parts_84 at hf
  obtain ⟨x1, e2, hf⟩ := sp_pl_some hf
  refine sp_iinc (i := 6) (v := x1) (lv' := [some (.ref (sx_ad X 0)), some (.int z1), some (.int z2), some (.int z3), some (.int z4), some (.int z5), some (.int x1)]) (q := 87) hX dX12_parts_84 rfl (by rw [e2, li_1]) (Nat.le_of_ble_eq_true rfl) rfl rfl rfl ?_
  refine sp_goto (tgt := 55) hX dX12_parts_87 (by decide) ?_
  exact hk55 σ z1 z2 z3 z4 z5 x1 hf
set_option maxRecDepth 100000 in
set_option maxHeartbeats 4000000 in
theorem hX12_parts_55 {X : sp_X} (hX : sp_OK shM X cX12_parts RX12 7 rmX12_parts) {τ : sp_St} {r : Int32} (hR : sp_Ri shM X (some .int) τ r 0 0) {n : Nat}   {k11 : sp_St → Int32 → Int32 → Int32 → Option (sp_St × Int32)} (hk11 : ∀ (σ : sp_St) (z1 : Int32) (z2 : Int32) (z3 : Int32), k11 σ z1 z2 z3 = some (τ, r) → sp_GG shM X σ 7 [some (.ref (sx_ad X 0)), some (.int z1), some (.int z2), some (.int z3), none, none, none] [] 11 0 0) {k45 : sp_St → Int32 → Int32 → Int32 → Int32 → Int32 → Option (sp_St × Int32)} (hk45 : ∀ (σ : sp_St) (z1 : Int32) (z2 : Int32) (z3 : Int32) (z4 : Int32) (z5 : Int32), k45 σ z1 z2 z3 z4 z5 = some (τ, r) → sp_GG shM X σ 7 [some (.ref (sx_ad X 0)), some (.int z1), some (.int z2), some (.int z3), some (.int z4), some (.int z5), none] [] 45 0 0) : ∀ (f : Nat) (σ : sp_St) (z1 : Int32) (z2 : Int32) (z3 : Int32) (z4 : Int32) (z5 : Int32) (z6 : Int32), X12_parts_55 n k11 k45 f σ z1 z2 z3 z4 z5 z6 = some (τ, r) → sp_GG shM X σ 7 [some (.ref (sx_ad X 0)), some (.int z1), some (.int z2), some (.int z3), some (.int z4), some (.int z5), some (.int z6)] [] 55 0 0 := by
  intro f
  induction f with
  | zero =>
    intro σ z1 z2 z3 z4 z5 z6 hf
    rw [X12_parts_55] at hf
    cases hf
  | succ f ih =>
    intro σ z1 z2 z3 z4 z5 z6 hf
    rw [X12_parts_55] at hf
    refine sp_iload (i := 6) (q := 57) hX dX12_parts_55 rfl rfl ?_
    refine sp_bipush (v := 6) (q := 59) hX dX12_parts_57 lb_6 rfl ?_
    refine sp_icmp_ge (tgt := 90) (q := 62) hX dX12_parts_59 (by decide) rfl (fun hc => ?_) (fun hc => ?_)
    · rw [if_pos hc] at hf
      refine sp_drop (lv' := [some (.ref (sx_ad X 0)), some (.int z1), some (.int z2), some (.int z3), some (.int z4), some (.int z5), none]) (And.intro rfl (And.intro rfl (And.intro rfl (And.intro rfl (And.intro rfl (And.intro rfl trivial)))))) ?_
      exact hX12_parts_90 hX hR hk11 hk45 hf
    · rw [if_neg hc] at hf
      refine sp_iload (i := 4) (q := 64) hX dX12_parts_62 rfl rfl ?_
      refine sp_iload (i := 6) (q := 66) hX dX12_parts_64 rfl rfl ?_
      obtain ⟨σ2, v3, h1, hf⟩ := sp_bd_so hf
      refine sp_callSi (As := [.int z4, .int z6]) (rest := []) (q := 69) hX (cnX12_isOf (sp_st hX)  h1) cwX12_284 rfl rfl rfl rfl (Nat.le_of_ble_eq_true rfl) (Nat.le_of_ble_eq_true rfl) (Nat.le_of_ble_eq_true rfl) (Nat.le_of_ble_eq_true rfl) (Nat.le_of_ble_eq_true rfl) dX12_parts_66 rfl ?_
      refine sp_if_eq (tgt := 84) (q := 72) hX dX12_parts_69 (by decide) rfl (fun hc => ?_) (fun hc => ?_)
      · rw [if_pos hc] at hf
        exact hX12_parts_84 hX hR hk11 hk45 ih hf
      · rw [if_neg hc] at hf
        refine sp_iload (i := 4) (q := 74) hX dX12_parts_72 rfl rfl ?_
        refine sp_aload_n (i := 0) (q := 75) hX dX12_parts_74 rfl rfl rfl ?_
        refine sp_gets (t := 19) (q := 78) hX flX12_84 fkX12_31 atM_0 srM_0_31 dX12_parts_75 rfl ?_
        refine sp_iload (i := 6) (q := 80) hX dX12_parts_78 rfl rfl ?_
        obtain ⟨h4, hf⟩ := sp_ck_some hf
        refine sp_iald (q := 81) hX arM_19 h4 dX12_parts_80 rfl ?_
        refine sp_ior (q := 82) hX dX12_parts_81 rfl ?_
        obtain ⟨x5, e6, hf⟩ := sp_pl_some hf
        refine sp_nmi e6 ?_
        refine sp_istore (i := 4) (lv' := [some (.ref (sx_ad X 0)), some (.int z1), some (.int z2), some (.int z3), some (.int x5), some (.int z5), some (.int z6)]) (q := 84) hX dX12_parts_82 (Nat.le_of_ble_eq_true rfl) rfl rfl rfl ?_
        exact hX12_parts_84 hX hR hk11 hk45 ih hf
set_option maxRecDepth 100000 in
set_option maxHeartbeats 4000000 in
theorem hX12_parts_45 {X : sp_X} (hX : sp_OK shM X cX12_parts RX12 7 rmX12_parts) {τ : sp_St} {r : Int32} (hR : sp_Ri shM X (some .int) τ r 0 0) {n : Nat}   {k11 : sp_St → Int32 → Int32 → Int32 → Option (sp_St × Int32)} (hk11 : ∀ (σ : sp_St) (z1 : Int32) (z2 : Int32) (z3 : Int32), k11 σ z1 z2 z3 = some (τ, r) → sp_GG shM X σ 7 [some (.ref (sx_ad X 0)), some (.int z1), some (.int z2), some (.int z3), none, none, none] [] 11 0 0) : ∀ (f : Nat) (σ : sp_St) (z1 : Int32) (z2 : Int32) (z3 : Int32) (z4 : Int32) (z5 : Int32), X12_parts_45 n k11 f σ z1 z2 z3 z4 z5 = some (τ, r) → sp_GG shM X σ 7 [some (.ref (sx_ad X 0)), some (.int z1), some (.int z2), some (.int z3), some (.int z4), some (.int z5), none] [] 45 0 0 := by
  intro f
  induction f with
  | zero =>
    intro σ z1 z2 z3 z4 z5 hf
    rw [X12_parts_45] at hf
    cases hf
  | succ f ih =>
    intro σ z1 z2 z3 z4 z5 hf
    rw [X12_parts_45] at hf
    refine sp_iload (i := 5) (q := 47) hX dX12_parts_45 rfl rfl ?_
    refine sp_bipush (v := 6) (q := 49) hX dX12_parts_47 lb_6 rfl ?_
    refine sp_icmp_ge (tgt := 96) (q := 52) hX dX12_parts_49 (by decide) rfl (fun hc => ?_) (fun hc => ?_)
    · rw [if_pos hc] at hf
      refine sp_drop (lv' := [some (.ref (sx_ad X 0)), some (.int z1), some (.int z2), some (.int z3), some (.int z4), none, none]) (And.intro rfl (And.intro rfl (And.intro rfl (And.intro rfl (And.intro rfl trivial))))) ?_
      exact hX12_parts_96 hX hR hk11 hf
    · rw [if_neg hc] at hf
      refine sp_iconst (v := 0) (q := 53) hX dX12_parts_52 li_0 rfl ?_
      obtain ⟨x1, e2, hf⟩ := sp_pl_some hf
      refine sp_nmi e2 ?_
      refine sp_istore (i := 6) (lv' := [some (.ref (sx_ad X 0)), some (.int z1), some (.int z2), some (.int z3), some (.int z4), some (.int z5), some (.int x1)]) (q := 55) hX dX12_parts_53 (Nat.le_of_ble_eq_true rfl) rfl rfl rfl ?_
      exact hX12_parts_55 hX hR hk11 ih n σ z1 z2 z3 z4 z5 x1 hf
set_option maxRecDepth 100000 in
set_option maxHeartbeats 4000000 in
theorem hX12_parts_11 {X : sp_X} (hX : sp_OK shM X cX12_parts RX12 7 rmX12_parts) {τ : sp_St} {r : Int32} (hR : sp_Ri shM X (some .int) τ r 0 0) {n : Nat}    : ∀ (f : Nat) (σ : sp_St) (z1 : Int32) (z2 : Int32) (z3 : Int32), X12_parts_11 n f σ z1 z2 z3 = some (τ, r) → sp_GG shM X σ 7 [some (.ref (sx_ad X 0)), some (.int z1), some (.int z2), some (.int z3), none, none, none] [] 11 0 0 := by
  intro f
  induction f with
  | zero =>
    intro σ z1 z2 z3 hf
    rw [X12_parts_11] at hf
    cases hf
  | succ f ih =>
    intro σ z1 z2 z3 hf
    rw [X12_parts_11] at hf
    refine sp_iload_n (i := 3) (q := 12) hX dX12_parts_11 rfl rfl rfl ?_
    refine sp_bipush (v := 6) (q := 14) hX dX12_parts_12 lb_6 rfl ?_
    refine sp_icmp_ge (tgt := 110) (q := 17) hX dX12_parts_14 (by decide) rfl (fun hc => ?_) (fun hc => ?_)
    · rw [if_pos hc] at hf
      refine sp_drop (lv' := [none, none, some (.int z2), none, none, none, none]) (And.intro rfl trivial) ?_
      exact hX12_parts_110 hX hR hf
    · rw [if_neg hc] at hf
      refine sp_aload_n (i := 0) (q := 18) hX dX12_parts_17 rfl rfl rfl ?_
      refine sp_gets (t := 19) (q := 21) hX flX12_84 fkX12_31 atM_0 srM_0_31 dX12_parts_18 rfl ?_
      refine sp_iload_n (i := 3) (q := 22) hX dX12_parts_21 rfl rfl rfl ?_
      obtain ⟨h1, hf⟩ := sp_ck_some hf
      refine sp_iald (q := 23) hX arM_19 h1 dX12_parts_22 rfl ?_
      refine sp_if_eq (tgt := 104) (q := 26) hX dX12_parts_23 (by decide) rfl (fun hc => ?_) (fun hc => ?_)
      · rw [if_pos hc] at hf
        exact hX12_parts_104 hX hR ih hf
      · rw [if_neg hc] at hf
        refine sp_iload_n (i := 1) (q := 27) hX dX12_parts_26 rfl rfl rfl ?_
        refine sp_iload_n (i := 3) (q := 28) hX dX12_parts_27 rfl rfl rfl ?_
        obtain ⟨σ3, v4, h2, hf⟩ := sp_bd_so hf
        refine sp_callSi (As := [.int z1, .int z3]) (rest := []) (q := 31) hX (cnX12_isOf (sp_st hX)  h2) cwX12_284 rfl rfl rfl rfl (Nat.le_of_ble_eq_true rfl) (Nat.le_of_ble_eq_true rfl) (Nat.le_of_ble_eq_true rfl) (Nat.le_of_ble_eq_true rfl) (Nat.le_of_ble_eq_true rfl) dX12_parts_28 rfl ?_
        refine sp_if_eq (tgt := 37) (q := 34) hX dX12_parts_31 (by decide) rfl (fun hc => ?_) (fun hc => ?_)
        · rw [if_pos hc] at hf
          refine sp_iconst (v := 1) (q := 38) hX dX12_parts_37 li_1 rfl ?_
          refine sp_iload_n (i := 3) (q := 39) hX dX12_parts_38 rfl rfl rfl ?_
          refine sp_ishl (q := 40) hX dX12_parts_39 rfl ?_
          obtain ⟨x5, e6, hf⟩ := sp_pl_some hf
          refine sp_nmi e6 ?_
          refine sp_istore (i := 4) (lv' := [some (.ref (sx_ad X 0)), some (.int z1), some (.int z2), some (.int z3), some (.int x5), none, none]) (q := 42) hX dX12_parts_40 (Nat.le_of_ble_eq_true rfl) rfl rfl rfl ?_
          refine sp_iconst (v := 0) (q := 43) hX dX12_parts_42 li_0 rfl ?_
          obtain ⟨x7, e8, hf⟩ := sp_pl_some hf
          refine sp_nmi e8 ?_
          refine sp_istore (i := 5) (lv' := [some (.ref (sx_ad X 0)), some (.int z1), some (.int z2), some (.int z3), some (.int x5), some (.int x7), none]) (q := 45) hX dX12_parts_43 (Nat.le_of_ble_eq_true rfl) rfl rfl rfl ?_
          exact hX12_parts_45 hX hR ih n σ3 z1 z2 z3 x5 x7 hf
        · rw [if_neg hc] at hf
          refine sp_goto (tgt := 104) hX dX12_parts_34 (by decide) ?_
          exact hX12_parts_104 hX hR ih hf
set_option maxRecDepth 100000 in
set_option maxHeartbeats 4000000 in
theorem hX12_parts {X : sp_X} (hX : sp_OK shM X cX12_parts RX12 7 rmX12_parts) {τ : sp_St} {r : Int32} (hR : sp_Ri shM X (some .int) τ r 0 0) {n : Nat}  {σ : sp_St}   (hf : X12_parts n σ = some (τ, r)) : sp_GG shM X σ 7 [some (.ref (sx_ad X 0)), none, none, none, none, none, none] [] 0 0 0 := by
  unfold X12_parts at hf
  refine sp_aload_n (i := 0) (q := 1) hX dX12_parts_0 rfl rfl rfl ?_
  refine sp_iconst (v := 0) (q := 2) hX dX12_parts_1 li_0 rfl ?_
  obtain ⟨σ1, e2, hf⟩ := sp_pl_some hf
  refine sp_puti (q := 5) hX fpX12_158 fkX12_3 atM_0 dX12_parts_2 rfl ?_
  refine sp_nms e2 ?_
  refine sp_iconst (v := 0) (q := 6) hX dX12_parts_5 li_0 rfl ?_
  obtain ⟨x3, e4, hf⟩ := sp_pl_some hf
  refine sp_nmi e4 ?_
  refine sp_istore_n (i := 1) (lv' := [some (.ref (sx_ad X 0)), some (.int x3), none, none, none, none, none]) (q := 7) hX dX12_parts_6 rfl (Nat.le_of_ble_eq_true rfl) rfl rfl rfl ?_
  refine sp_iconst (v := 0) (q := 8) hX dX12_parts_7 li_0 rfl ?_
  obtain ⟨x5, e6, hf⟩ := sp_pl_some hf
  refine sp_nmi e6 ?_
  refine sp_istore_n (i := 2) (lv' := [some (.ref (sx_ad X 0)), some (.int x3), some (.int x5), none, none, none, none]) (q := 9) hX dX12_parts_8 rfl (Nat.le_of_ble_eq_true rfl) rfl rfl rfl ?_
  refine sp_iconst (v := 0) (q := 10) hX dX12_parts_9 li_0 rfl ?_
  obtain ⟨x7, e8, hf⟩ := sp_pl_some hf
  refine sp_nmi e8 ?_
  refine sp_istore_n (i := 3) (lv' := [some (.ref (sx_ad X 0)), some (.int x3), some (.int x5), some (.int x7), none, none, none]) (q := 11) hX dX12_parts_10 rfl (Nat.le_of_ble_eq_true rfl) rfl rfl rfl ?_
  exact hX12_parts_11 hX hR n σ1 x3 x5 x7 hf
set_option maxRecDepth 100000 in
set_option maxHeartbeats 4000000 in
theorem cnX12_parts {l : Launch} (hst : l.stackTraces = false) {w : sp_Wd} {n : Nat}  {σ : sp_St}  {τ : sp_St} {r : Int32}  (hf : X12_parts n σ = some (τ, r)) : sp_Ci shM l w yX12_parts cX12_parts 7 (some .int) rmX12_parts 0 0 σ [.ref (w.2.1 0)] τ r :=
  sp_ci (own := RX12) (by decide) rfl hst (Nat.le_of_ble_eq_true rfl) rfl (fun X hX hw hl hR => by subst hw; subst hl; exact hX12_parts hX hR   hf)
def rmX12_calm : Room := { frames := 7, cells := 0, slots := 0, locals := 154 }
def X12_calm (n : Nat)  (σ : sp_St) (a1 : Int32) : Option (sp_St × Int32) :=
  sp_pl (sp_si σ 0 3 ((0 : Int32))) fun σ1 =>
  sp_bd (X12_isIn n σ1 a1.toInt64 ((0 : Int64)) ((60 : Int64))) fun σ4 v5 =>
  if v5 = 0 then
    sp_bd (X12_fail n σ4 ((1 : Int32))) fun σ16 v17 =>
    some (σ16, v17)
  else
    sp_bv (X12_pack n σ4 25 88 ((0 : Int32))) fun σ7 =>
    sp_bv (X12_goOn n σ7 a1) fun σ9 =>
    sp_bd (X12_whereSet n σ9 ((2 : Int32))) fun σ11 v12 =>
    sp_bv (X12_unpack n σ11 25 88 ((0 : Int32))) fun σ14 =>
    some (σ14, v12)
set_option maxRecDepth 100000 in
set_option maxHeartbeats 4000000 in
theorem hX12_calm {X : sp_X} (hX : sp_OK shM X cX12_calm RX12 3 rmX12_calm) {τ : sp_St} {r : Int32} (hR : sp_Ri shM X (some .int) τ r 0 0) {n : Nat}  {σ : sp_St} {a1 : Int32}  (hf : X12_calm n σ a1 = some (τ, r)) : sp_GG shM X σ 3 [some (.ref (sx_ad X 0)), some (.int a1), none] [] 0 0 0 := by
  unfold X12_calm at hf
  refine sp_aload_n (i := 0) (q := 1) hX dX12_calm_0 rfl rfl rfl ?_
  refine sp_iconst (v := 0) (q := 2) hX dX12_calm_1 li_0 rfl ?_
  obtain ⟨σ1, e2, hf⟩ := sp_pl_some hf
  refine sp_puti (q := 5) hX fpX12_158 fkX12_3 atM_0 dX12_calm_2 rfl ?_
  refine sp_nms e2 ?_
  refine sp_iload_n (i := 1) (q := 6) hX dX12_calm_5 rfl rfl rfl ?_
  refine sp_i2l (q := 7) hX dX12_calm_6 rfl ?_
  refine sp_lconst (v := 0) (q := 8) hX dX12_calm_7 (by decide) rfl ?_
  refine sp_ldc2 (v := 60) (q := 11) hX wd_2097 dX12_calm_8 rfl ?_
  obtain ⟨σ4, v5, h3, hf⟩ := sp_bd_so hf
  refine sp_callSi (As := [.long a1.toInt64, .long ((0 : Int64)), .long ((60 : Int64))]) (rest := []) (q := 14) hX (cnX12_isIn (sp_st hX)  h3) cwX12_161 rfl rfl rfl rfl (Nat.le_of_ble_eq_true rfl) (Nat.le_of_ble_eq_true rfl) (Nat.le_of_ble_eq_true rfl) (Nat.le_of_ble_eq_true rfl) (Nat.le_of_ble_eq_true rfl) dX12_calm_11 rfl ?_
  refine sp_if_ne (tgt := 23) (q := 17) hX dX12_calm_14 (by decide) rfl (fun hc => ?_) (fun hc => ?_)
  · rw [if_neg hc] at hf
    refine sp_aload_n (i := 0) (q := 24) hX dX12_calm_23 rfl rfl rfl ?_
    refine sp_aload_n (i := 0) (q := 25) hX dX12_calm_24 rfl rfl rfl ?_
    refine sp_gets (t := 25) (q := 28) hX flX12_102 fkX12_41 atM_0 srM_0_41 dX12_calm_25 rfl ?_
    refine sp_iconst (v := 0) (q := 29) hX dX12_calm_28 li_0 rfl ?_
    obtain ⟨σ7, h6, hf⟩ := sp_bv_so hf
    refine sp_callVv (As := [.ref (sx_ad X 25), .int ((0 : Int32))]) (rest := []) (q := 32) hX (cnX12_pack (sp_st hX) arM_25 h6) cwX12_414 atM_0 rfl rfl rfl rfl rfl (Nat.le_of_ble_eq_true rfl) (Nat.le_of_ble_eq_true rfl) (Nat.le_of_ble_eq_true rfl) (Nat.le_of_ble_eq_true rfl) (Nat.le_of_ble_eq_true rfl) dX12_calm_29 rfl ?_
    refine sp_aload_n (i := 0) (q := 33) hX dX12_calm_32 rfl rfl rfl ?_
    refine sp_iload_n (i := 1) (q := 34) hX dX12_calm_33 rfl rfl rfl ?_
    obtain ⟨σ9, h8, hf⟩ := sp_bv_so hf
    refine sp_callVv (As := [.int a1]) (rest := []) (q := 37) hX (cnX12_goOn (sp_st hX)  h8) cwX12_426 atM_0 rfl rfl rfl rfl rfl (Nat.le_of_ble_eq_true rfl) (Nat.le_of_ble_eq_true rfl) (Nat.le_of_ble_eq_true rfl) (Nat.le_of_ble_eq_true rfl) (Nat.le_of_ble_eq_true rfl) dX12_calm_34 rfl ?_
    refine sp_aload_n (i := 0) (q := 38) hX dX12_calm_37 rfl rfl rfl ?_
    refine sp_iconst (v := 2) (q := 39) hX dX12_calm_38 li_2 rfl ?_
    obtain ⟨σ11, v12, h10, hf⟩ := sp_bd_so hf
    refine sp_callVi (As := [.int ((2 : Int32))]) (rest := []) (q := 42) hX (cnX12_whereSet (sp_st hX)  h10) cwX12_348 atM_0 rfl rfl rfl rfl rfl (Nat.le_of_ble_eq_true rfl) (Nat.le_of_ble_eq_true rfl) (Nat.le_of_ble_eq_true rfl) (Nat.le_of_ble_eq_true rfl) (Nat.le_of_ble_eq_true rfl) dX12_calm_39 rfl ?_
    refine sp_istore_n (i := 2) (lv' := [some (.ref (sx_ad X 0)), some (.int a1), some (.int v12)]) (q := 43) hX dX12_calm_42 rfl (Nat.le_of_ble_eq_true rfl) rfl rfl rfl ?_
    refine sp_aload_n (i := 0) (q := 44) hX dX12_calm_43 rfl rfl rfl ?_
    refine sp_aload_n (i := 0) (q := 45) hX dX12_calm_44 rfl rfl rfl ?_
    refine sp_gets (t := 25) (q := 48) hX flX12_102 fkX12_41 atM_0 srM_0_41 dX12_calm_45 rfl ?_
    refine sp_iconst (v := 0) (q := 49) hX dX12_calm_48 li_0 rfl ?_
    obtain ⟨σ14, h13, hf⟩ := sp_bv_so hf
    refine sp_callVv (As := [.ref (sx_ad X 25), .int ((0 : Int32))]) (rest := []) (q := 52) hX (cnX12_unpack (sp_st hX) arM_25 h13) cwX12_432 atM_0 rfl rfl rfl rfl rfl (Nat.le_of_ble_eq_true rfl) (Nat.le_of_ble_eq_true rfl) (Nat.le_of_ble_eq_true rfl) (Nat.le_of_ble_eq_true rfl) (Nat.le_of_ble_eq_true rfl) dX12_calm_49 rfl ?_
    refine sp_iload_n (i := 2) (q := 53) hX dX12_calm_52 rfl rfl rfl ?_
    exact sp_iret hX hR dX12_calm_53 hf (Nat.le_of_ble_eq_true rfl) (Nat.le_of_ble_eq_true rfl)
  · rw [if_pos hc] at hf
    refine sp_aload_n (i := 0) (q := 18) hX dX12_calm_17 rfl rfl rfl ?_
    refine sp_iconst (v := 1) (q := 19) hX dX12_calm_18 li_1 rfl ?_
    obtain ⟨σ16, v17, h15, hf⟩ := sp_bd_so hf
    refine sp_callVi (As := [.int ((1 : Int32))]) (rest := []) (q := 22) hX (cnX12_fail (sp_st hX)  h15) cwX12_312 atM_0 rfl rfl rfl rfl rfl (Nat.le_of_ble_eq_true rfl) (Nat.le_of_ble_eq_true rfl) (Nat.le_of_ble_eq_true rfl) (Nat.le_of_ble_eq_true rfl) (Nat.le_of_ble_eq_true rfl) dX12_calm_19 rfl ?_
    exact sp_iret hX hR dX12_calm_22 hf (Nat.le_of_ble_eq_true rfl) (Nat.le_of_ble_eq_true rfl)
set_option maxRecDepth 100000 in
set_option maxHeartbeats 4000000 in
theorem cnX12_calm {l : Launch} (hst : l.stackTraces = false) {w : sp_Wd} {n : Nat}  {σ : sp_St} {a1 : Int32} {τ : sp_St} {r : Int32}  (hf : X12_calm n σ a1 = some (τ, r)) : sp_Ci shM l w yX12_calm cX12_calm 3 (some .int) rmX12_calm 0 0 σ [.ref (w.2.1 0), .int a1] τ r :=
  sp_ci (own := RX12) (by decide) rfl hst (Nat.le_of_ble_eq_true rfl) rfl (fun X hX hw hl hR => by subst hw; subst hl; exact hX12_calm hX hR   hf)
def rmX12_lacks : Room := { frames := 3, cells := 0, slots := 0, locals := 65 }
def X12_lacks_81 (n : Nat) (σ : sp_St) (z2 : Int32) : Option (sp_St × Int32) :=
  some (σ, z2)
def X12_lacks_44 (n : Nat) : Nat → sp_St → Int32 → Int32 → Int32 → Option (sp_St × Int32)
  | 0, _, _, _, _ => none
  | f + 1, σ, z1, z2, z3 =>
    if (sp_g σ 3 ((1 : Int32))) ≤ z3 then
      X12_lacks_81 n σ z2
    else
      sp_ck (sp_in z1 20) <|
      sp_bd (X12_leftOf n σ z3) fun σ3 v4 =>
      sp_pl (sp_max ((0 : Int32)) ((sp_g σ 8 z1) - v4)) fun v5 =>
      sp_pl (sp_min z2 v5) fun v7 =>
      sp_pl (z3 + 1) fun x9 =>
      X12_lacks_44 n f σ3 z1 v7 x9
def X12_lacks_37 (n : Nat) (σ : sp_St) : Option (sp_St × Int32) :=
  some (σ, (-1 : Int32))
def X12_lacks (n : Nat)  (σ : sp_St) (a1 : Int32) : Option (sp_St × Int32) :=
  sp_pl (sp_si σ 0 3 ((0 : Int32))) fun σ1 =>
  sp_bd (X12_isBlade n σ1 a1) fun σ4 v5 =>
  if v5 = 0 then
    sp_bd (X12_fail n σ4 ((1 : Int32))) fun σ12 v13 =>
    some (σ12, v13)
  else
    sp_ck (sp_in a1 10) <|
    if (sp_g σ4 15 a1) = 0 then
      if (sp_g σ4 3 ((1 : Int32))) = 0 then
        X12_lacks_37 n σ4
      else
        sp_pl ((100000 : Int32)) fun x7 =>
        sp_pl ((0 : Int32)) fun x9 =>
        X12_lacks_44 n n σ4 a1 x7 x9
    else
      X12_lacks_37 n σ4
set_option maxRecDepth 100000 in
set_option maxHeartbeats 4000000 in
theorem hX12_lacks_81 {X : sp_X} (hX : sp_OK shM X cX12_lacks RX12 4 rmX12_lacks) {τ : sp_St} {r : Int32} (hR : sp_Ri shM X (some .int) τ r 0 0) {n : Nat}    {σ : sp_St} {z2 : Int32} (hf : X12_lacks_81 n σ z2 = some (τ, r)) : sp_GG shM X σ 4 [none, none, some (.int z2), none] [] 81 0 0 := by
  unfold X12_lacks_81 at hf
  refine sp_iload_n (i := 2) (q := 82) hX dX12_lacks_81 rfl rfl rfl ?_
  exact sp_iret hX hR dX12_lacks_82 hf (Nat.le_of_ble_eq_true rfl) (Nat.le_of_ble_eq_true rfl)
set_option maxRecDepth 100000 in
set_option maxHeartbeats 4000000 in
theorem hX12_lacks_44 {X : sp_X} (hX : sp_OK shM X cX12_lacks RX12 4 rmX12_lacks) {τ : sp_St} {r : Int32} (hR : sp_Ri shM X (some .int) τ r 0 0) {n : Nat}    : ∀ (f : Nat) (σ : sp_St) (z1 : Int32) (z2 : Int32) (z3 : Int32), X12_lacks_44 n f σ z1 z2 z3 = some (τ, r) → sp_GG shM X σ 4 [some (.ref (sx_ad X 0)), some (.int z1), some (.int z2), some (.int z3)] [] 44 0 0 := by
  intro f
  induction f with
  | zero =>
    intro σ z1 z2 z3 hf
    rw [X12_lacks_44] at hf
    cases hf
  | succ f ih =>
    intro σ z1 z2 z3 hf
    rw [X12_lacks_44] at hf
    refine sp_iload_n (i := 3) (q := 45) hX dX12_lacks_44 rfl rfl rfl ?_
    refine sp_aload_n (i := 0) (q := 46) hX dX12_lacks_45 rfl rfl rfl ?_
    refine sp_gets (t := 3) (q := 49) hX flX12_33 fkX12_4 atM_0 srM_0_4 dX12_lacks_46 rfl ?_
    refine sp_iconst (v := 1) (q := 50) hX dX12_lacks_49 li_1 rfl ?_
    refine sp_iald (q := 51) hX arM_3 (by decide) dX12_lacks_50 rfl ?_
    refine sp_icmp_ge (tgt := 81) (q := 54) hX dX12_lacks_51 (by decide) rfl (fun hc => ?_) (fun hc => ?_)
    · rw [if_pos hc] at hf
      refine sp_drop (lv' := [none, none, some (.int z2), none]) (And.intro rfl trivial) ?_
      exact hX12_lacks_81 hX hR hf
    · rw [if_neg hc] at hf
      refine sp_iload_n (i := 2) (q := 55) hX dX12_lacks_54 rfl rfl rfl ?_
      refine sp_iconst (v := 0) (q := 56) hX dX12_lacks_55 li_0 rfl ?_
      refine sp_aload_n (i := 0) (q := 57) hX dX12_lacks_56 rfl rfl rfl ?_
      refine sp_gets (t := 8) (q := 60) hX flX12_49 fkX12_9 atM_0 srM_0_9 dX12_lacks_57 rfl ?_
      refine sp_iload_n (i := 1) (q := 61) hX dX12_lacks_60 rfl rfl rfl ?_
      obtain ⟨h1, hf⟩ := sp_ck_some hf
      refine sp_iald (q := 62) hX arM_8 h1 dX12_lacks_61 rfl ?_
      refine sp_aload_n (i := 0) (q := 63) hX dX12_lacks_62 rfl rfl rfl ?_
      refine sp_iload_n (i := 3) (q := 64) hX dX12_lacks_63 rfl rfl rfl ?_
      obtain ⟨σ3, v4, h2, hf⟩ := sp_bd_so hf
      refine sp_callVi (As := [.int z3]) (rest := [.int (sp_g σ 8 z1), .int ((0 : Int32)), .int z2]) (q := 67) hX (cnX12_leftOf (sp_st hX)  h2) cwX12_405 atM_0 rfl rfl rfl rfl rfl (Nat.le_of_ble_eq_true rfl) (Nat.le_of_ble_eq_true rfl) (Nat.le_of_ble_eq_true rfl) (Nat.le_of_ble_eq_true rfl) (Nat.le_of_ble_eq_true rfl) dX12_lacks_64 rfl ?_
      refine sp_isub (q := 68) hX dX12_lacks_67 rfl ?_
      obtain ⟨v5, e6, hf⟩ := sp_pl_some hf
      refine sp_mmax (q := 71) hX wd_1991 wd_656 wd_144 wd_657 (Nat.le_of_ble_eq_true rfl) (Nat.le_of_ble_eq_true rfl) (Nat.le_of_ble_eq_true rfl) (Nat.le_of_ble_eq_true rfl) dX12_lacks_68 rfl ?_
      refine sp_nmi e6 ?_
      obtain ⟨v7, e8, hf⟩ := sp_pl_some hf
      refine sp_mmin (q := 74) hX wd_1825 wd_607 wd_144 wd_608 (Nat.le_of_ble_eq_true rfl) (Nat.le_of_ble_eq_true rfl) (Nat.le_of_ble_eq_true rfl) (Nat.le_of_ble_eq_true rfl) dX12_lacks_71 rfl ?_
      refine sp_nmi e8 ?_
      refine sp_istore_n (i := 2) (lv' := [some (.ref (sx_ad X 0)), some (.int z1), some (.int v7), some (.int z3)]) (q := 75) hX dX12_lacks_74 rfl (Nat.le_of_ble_eq_true rfl) rfl rfl rfl ?_
      obtain ⟨x9, e10, hf⟩ := sp_pl_some hf
      refine sp_iinc (i := 3) (v := x9) (lv' := [some (.ref (sx_ad X 0)), some (.int z1), some (.int v7), some (.int x9)]) (q := 78) hX dX12_lacks_75 rfl (by rw [e10, li_1]) (Nat.le_of_ble_eq_true rfl) rfl rfl rfl ?_
      refine sp_goto (tgt := 44) hX dX12_lacks_78 (by decide) ?_
      exact ih σ3 z1 v7 x9 hf
set_option maxRecDepth 100000 in
set_option maxHeartbeats 4000000 in
theorem hX12_lacks_37 {X : sp_X} (hX : sp_OK shM X cX12_lacks RX12 4 rmX12_lacks) {τ : sp_St} {r : Int32} (hR : sp_Ri shM X (some .int) τ r 0 0) {n : Nat}    {σ : sp_St} (hf : X12_lacks_37 n σ = some (τ, r)) : sp_GG shM X σ 4 [none, none, none, none] [] 37 0 0 := by
  unfold X12_lacks_37 at hf
  refine sp_iconst (v := -1) (q := 38) hX dX12_lacks_37 li_m1 rfl ?_
  exact sp_iret hX hR dX12_lacks_38 hf (Nat.le_of_ble_eq_true rfl) (Nat.le_of_ble_eq_true rfl)
set_option maxRecDepth 100000 in
set_option maxHeartbeats 4000000 in
theorem hX12_lacks {X : sp_X} (hX : sp_OK shM X cX12_lacks RX12 4 rmX12_lacks) {τ : sp_St} {r : Int32} (hR : sp_Ri shM X (some .int) τ r 0 0) {n : Nat}  {σ : sp_St} {a1 : Int32}  (hf : X12_lacks n σ a1 = some (τ, r)) : sp_GG shM X σ 4 [some (.ref (sx_ad X 0)), some (.int a1), none, none] [] 0 0 0 := by
  unfold X12_lacks at hf
  refine sp_aload_n (i := 0) (q := 1) hX dX12_lacks_0 rfl rfl rfl ?_
  refine sp_iconst (v := 0) (q := 2) hX dX12_lacks_1 li_0 rfl ?_
  obtain ⟨σ1, e2, hf⟩ := sp_pl_some hf
  refine sp_puti (q := 5) hX fpX12_158 fkX12_3 atM_0 dX12_lacks_2 rfl ?_
  refine sp_nms e2 ?_
  refine sp_aload_n (i := 0) (q := 6) hX dX12_lacks_5 rfl rfl rfl ?_
  refine sp_iload_n (i := 1) (q := 7) hX dX12_lacks_6 rfl rfl rfl ?_
  obtain ⟨σ4, v5, h3, hf⟩ := sp_bd_so hf
  refine sp_callVi (As := [.int a1]) (rest := []) (q := 10) hX (cnX12_isBlade (sp_st hX)  h3) cwX12_399 atM_0 rfl rfl rfl rfl rfl (Nat.le_of_ble_eq_true rfl) (Nat.le_of_ble_eq_true rfl) (Nat.le_of_ble_eq_true rfl) (Nat.le_of_ble_eq_true rfl) (Nat.le_of_ble_eq_true rfl) dX12_lacks_7 rfl ?_
  refine sp_if_ne (tgt := 19) (q := 13) hX dX12_lacks_10 (by decide) rfl (fun hc => ?_) (fun hc => ?_)
  · rw [if_neg hc] at hf
    refine sp_aload_n (i := 0) (q := 20) hX dX12_lacks_19 rfl rfl rfl ?_
    refine sp_gets (t := 15) (q := 23) hX flX12_72 fkX12_27 atM_0 srM_0_27 dX12_lacks_20 rfl ?_
    refine sp_iload_n (i := 1) (q := 24) hX dX12_lacks_23 rfl rfl rfl ?_
    obtain ⟨h6, hf⟩ := sp_ck_some hf
    refine sp_iald (q := 25) hX arM_15 h6 dX12_lacks_24 rfl ?_
    refine sp_if_ne (tgt := 37) (q := 28) hX dX12_lacks_25 (by decide) rfl (fun hc => ?_) (fun hc => ?_)
    · rw [if_neg hc] at hf
      refine sp_drop (lv' := [none, none, none, none]) trivial ?_
      exact hX12_lacks_37 hX hR hf
    · rw [if_pos hc] at hf
      refine sp_aload_n (i := 0) (q := 29) hX dX12_lacks_28 rfl rfl rfl ?_
      refine sp_gets (t := 3) (q := 32) hX flX12_33 fkX12_4 atM_0 srM_0_4 dX12_lacks_29 rfl ?_
      refine sp_iconst (v := 1) (q := 33) hX dX12_lacks_32 li_1 rfl ?_
      refine sp_iald (q := 34) hX arM_3 (by decide) dX12_lacks_33 rfl ?_
      refine sp_if_ne (tgt := 39) (q := 37) hX dX12_lacks_34 (by decide) rfl (fun hc => ?_) (fun hc => ?_)
      · rw [if_neg hc] at hf
        refine sp_ldc (v := 100000) (q := 41) hX wd_1824 dX12_lacks_39 rfl ?_
        obtain ⟨x7, e8, hf⟩ := sp_pl_some hf
        refine sp_nmi e8 ?_
        refine sp_istore_n (i := 2) (lv' := [some (.ref (sx_ad X 0)), some (.int a1), some (.int x7), none]) (q := 42) hX dX12_lacks_41 rfl (Nat.le_of_ble_eq_true rfl) rfl rfl rfl ?_
        refine sp_iconst (v := 0) (q := 43) hX dX12_lacks_42 li_0 rfl ?_
        obtain ⟨x9, e10, hf⟩ := sp_pl_some hf
        refine sp_nmi e10 ?_
        refine sp_istore_n (i := 3) (lv' := [some (.ref (sx_ad X 0)), some (.int a1), some (.int x7), some (.int x9)]) (q := 44) hX dX12_lacks_43 rfl (Nat.le_of_ble_eq_true rfl) rfl rfl rfl ?_
        exact hX12_lacks_44 hX hR n σ4 a1 x7 x9 hf
      · rw [if_pos hc] at hf
        refine sp_drop (lv' := [none, none, none, none]) trivial ?_
        exact hX12_lacks_37 hX hR hf
  · rw [if_pos hc] at hf
    refine sp_aload_n (i := 0) (q := 14) hX dX12_lacks_13 rfl rfl rfl ?_
    refine sp_iconst (v := 1) (q := 15) hX dX12_lacks_14 li_1 rfl ?_
    obtain ⟨σ12, v13, h11, hf⟩ := sp_bd_so hf
    refine sp_callVi (As := [.int ((1 : Int32))]) (rest := []) (q := 18) hX (cnX12_fail (sp_st hX)  h11) cwX12_312 atM_0 rfl rfl rfl rfl rfl (Nat.le_of_ble_eq_true rfl) (Nat.le_of_ble_eq_true rfl) (Nat.le_of_ble_eq_true rfl) (Nat.le_of_ble_eq_true rfl) (Nat.le_of_ble_eq_true rfl) dX12_lacks_15 rfl ?_
    exact sp_iret hX hR dX12_lacks_18 hf (Nat.le_of_ble_eq_true rfl) (Nat.le_of_ble_eq_true rfl)
set_option maxRecDepth 100000 in
set_option maxHeartbeats 4000000 in
theorem cnX12_lacks {l : Launch} (hst : l.stackTraces = false) {w : sp_Wd} {n : Nat}  {σ : sp_St} {a1 : Int32} {τ : sp_St} {r : Int32}  (hf : X12_lacks n σ a1 = some (τ, r)) : sp_Ci shM l w yX12_lacks cX12_lacks 4 (some .int) rmX12_lacks 0 0 σ [.ref (w.2.1 0), .int a1] τ r :=
  sp_ci (own := RX12) (by decide) rfl hst (Nat.le_of_ble_eq_true rfl) rfl (fun X hX hw hl hR => by subst hw; subst hl; exact hX12_lacks hX hR   hf)
def rmX12_above : Room := { frames := 2, cells := 0, slots := 0, locals := 47 }
def X12_above_41 (n : Nat) (σ : sp_St) (zs0 : Int32) : Option (sp_St × Int32) :=
  some (σ, zs0)
def X12_above (n : Nat)  (σ : sp_St) (a1 : Int32) : Option (sp_St × Int32) :=
  sp_pl (sp_si σ 0 3 ((0 : Int32))) fun σ1 =>
  sp_bd (X12_isBlade n σ1 a1) fun σ4 v5 =>
  if v5 = 0 then
    sp_bd (X12_fail n σ4 ((1 : Int32))) fun σ14 v15 =>
    some (σ14, v15)
  else
    sp_ck (sp_in a1 10) <|
    if (sp_g σ4 15 a1) = ((1 : Int32)) then
      sp_bd (X12_aboveSet n σ4 a1) fun σ8 v9 =>
      sp_bd (X12_bitsOf n σ8 v9) fun σ11 v12 =>
      X12_above_41 n σ11 v12
    else
      X12_above_41 n σ4 ((-1 : Int32))
set_option maxRecDepth 100000 in
set_option maxHeartbeats 4000000 in
theorem hX12_above_41 {X : sp_X} (hX : sp_OK shM X cX12_above RX12 2 rmX12_above) {τ : sp_St} {r : Int32} (hR : sp_Ri shM X (some .int) τ r 0 0) {n : Nat}    {σ : sp_St} {zs0 : Int32} (hf : X12_above_41 n σ zs0 = some (τ, r)) : sp_GG shM X σ 2 [none, none] [.int zs0] 41 0 0 := by
  unfold X12_above_41 at hf
  exact sp_iret hX hR dX12_above_41 hf (Nat.le_of_ble_eq_true rfl) (Nat.le_of_ble_eq_true rfl)
set_option maxRecDepth 100000 in
set_option maxHeartbeats 4000000 in
theorem hX12_above {X : sp_X} (hX : sp_OK shM X cX12_above RX12 2 rmX12_above) {τ : sp_St} {r : Int32} (hR : sp_Ri shM X (some .int) τ r 0 0) {n : Nat}  {σ : sp_St} {a1 : Int32}  (hf : X12_above n σ a1 = some (τ, r)) : sp_GG shM X σ 2 [some (.ref (sx_ad X 0)), some (.int a1)] [] 0 0 0 := by
  unfold X12_above at hf
  refine sp_aload_n (i := 0) (q := 1) hX dX12_above_0 rfl rfl rfl ?_
  refine sp_iconst (v := 0) (q := 2) hX dX12_above_1 li_0 rfl ?_
  obtain ⟨σ1, e2, hf⟩ := sp_pl_some hf
  refine sp_puti (q := 5) hX fpX12_158 fkX12_3 atM_0 dX12_above_2 rfl ?_
  refine sp_nms e2 ?_
  refine sp_aload_n (i := 0) (q := 6) hX dX12_above_5 rfl rfl rfl ?_
  refine sp_iload_n (i := 1) (q := 7) hX dX12_above_6 rfl rfl rfl ?_
  obtain ⟨σ4, v5, h3, hf⟩ := sp_bd_so hf
  refine sp_callVi (As := [.int a1]) (rest := []) (q := 10) hX (cnX12_isBlade (sp_st hX)  h3) cwX12_399 atM_0 rfl rfl rfl rfl rfl (Nat.le_of_ble_eq_true rfl) (Nat.le_of_ble_eq_true rfl) (Nat.le_of_ble_eq_true rfl) (Nat.le_of_ble_eq_true rfl) (Nat.le_of_ble_eq_true rfl) dX12_above_7 rfl ?_
  refine sp_if_ne (tgt := 19) (q := 13) hX dX12_above_10 (by decide) rfl (fun hc => ?_) (fun hc => ?_)
  · rw [if_neg hc] at hf
    refine sp_aload_n (i := 0) (q := 20) hX dX12_above_19 rfl rfl rfl ?_
    refine sp_gets (t := 15) (q := 23) hX flX12_72 fkX12_27 atM_0 srM_0_27 dX12_above_20 rfl ?_
    refine sp_iload_n (i := 1) (q := 24) hX dX12_above_23 rfl rfl rfl ?_
    obtain ⟨h6, hf⟩ := sp_ck_some hf
    refine sp_iald (q := 25) hX arM_15 h6 dX12_above_24 rfl ?_
    refine sp_iconst (v := 1) (q := 26) hX dX12_above_25 li_1 rfl ?_
    refine sp_icmp_ne (tgt := 40) (q := 29) hX dX12_above_26 (by decide) rfl (fun hc => ?_) (fun hc => ?_)
    · rw [if_neg hc] at hf
      refine sp_iconst (v := -1) (q := 41) hX dX12_above_40 li_m1 rfl ?_
      refine sp_drop (lv' := [none, none]) trivial ?_
      exact hX12_above_41 hX hR hf
    · rw [if_pos hc] at hf
      refine sp_aload_n (i := 0) (q := 30) hX dX12_above_29 rfl rfl rfl ?_
      refine sp_iload_n (i := 1) (q := 31) hX dX12_above_30 rfl rfl rfl ?_
      obtain ⟨σ8, v9, h7, hf⟩ := sp_bd_so hf
      refine sp_callVi (As := [.int a1]) (rest := []) (q := 34) hX (cnX12_aboveSet (sp_st hX)  h7) cwX12_361 atM_0 rfl rfl rfl rfl rfl (Nat.le_of_ble_eq_true rfl) (Nat.le_of_ble_eq_true rfl) (Nat.le_of_ble_eq_true rfl) (Nat.le_of_ble_eq_true rfl) (Nat.le_of_ble_eq_true rfl) dX12_above_31 rfl ?_
      obtain ⟨σ11, v12, h10, hf⟩ := sp_bd_so hf
      refine sp_callSi (As := [.int v9]) (rest := []) (q := 37) hX (cnX12_bitsOf (sp_st hX)  h10) cwX12_364 rfl rfl rfl rfl (Nat.le_of_ble_eq_true rfl) (Nat.le_of_ble_eq_true rfl) (Nat.le_of_ble_eq_true rfl) (Nat.le_of_ble_eq_true rfl) (Nat.le_of_ble_eq_true rfl) dX12_above_34 rfl ?_
      refine sp_goto (tgt := 41) hX dX12_above_37 (by decide) ?_
      refine sp_drop (lv' := [none, none]) trivial ?_
      exact hX12_above_41 hX hR hf
  · rw [if_pos hc] at hf
    refine sp_aload_n (i := 0) (q := 14) hX dX12_above_13 rfl rfl rfl ?_
    refine sp_iconst (v := 1) (q := 15) hX dX12_above_14 li_1 rfl ?_
    obtain ⟨σ14, v15, h13, hf⟩ := sp_bd_so hf
    refine sp_callVi (As := [.int ((1 : Int32))]) (rest := []) (q := 18) hX (cnX12_fail (sp_st hX)  h13) cwX12_312 atM_0 rfl rfl rfl rfl rfl (Nat.le_of_ble_eq_true rfl) (Nat.le_of_ble_eq_true rfl) (Nat.le_of_ble_eq_true rfl) (Nat.le_of_ble_eq_true rfl) (Nat.le_of_ble_eq_true rfl) dX12_above_15 rfl ?_
    exact sp_iret hX hR dX12_above_18 hf (Nat.le_of_ble_eq_true rfl) (Nat.le_of_ble_eq_true rfl)
set_option maxRecDepth 100000 in
set_option maxHeartbeats 4000000 in
theorem cnX12_above {l : Launch} (hst : l.stackTraces = false) {w : sp_Wd} {n : Nat}  {σ : sp_St} {a1 : Int32} {τ : sp_St} {r : Int32}  (hf : X12_above n σ a1 = some (τ, r)) : sp_Ci shM l w yX12_above cX12_above 2 (some .int) rmX12_above 0 0 σ [.ref (w.2.1 0), .int a1] τ r :=
  sp_ci (own := RX12) (by decide) rfl hst (Nat.le_of_ble_eq_true rfl) rfl (fun X hX hw hl hR => by subst hw; subst hl; exact hX12_above hX hR   hf)
def rmX12_hiccup : Room := { frames := 2, cells := 0, slots := 0, locals := 46 }
def X12_hiccup_50 (n : Nat) (σ : sp_St) (zs0 : Int32) : Option (sp_St × Int32) :=
  some (σ, zs0)
def X12_hiccup (n : Nat)  (σ : sp_St) (a1 : Int32) : Option (sp_St × Int32) :=
  sp_pl (sp_si σ 0 3 ((0 : Int32))) fun σ1 =>
  sp_bd (X12_isThroat n σ1 a1) fun σ4 v5 =>
  if v5 = 0 then
    sp_bd (X12_fail n σ4 ((1 : Int32))) fun σ11 v12 =>
    some (σ11, v12)
  else
    sp_ck (sp_in a1 10) <|
    if (sp_g σ4 6 a1) = 0 then
      X12_hiccup_50 n σ4 ((-1 : Int32))
    else
      sp_ck (sp_in a1 10) <|
      sp_ck (sp_in a1 10) <|
      sp_ck (!decide ((sp_g σ4 6 a1) = 0)) <|
      X12_hiccup_50 n σ4 ((sp_g σ4 6 a1) - ((σ4.1 0 33) - (σ4.1 0 33) / (sp_g σ4 6 a1) * (sp_g σ4 6 a1)))
set_option maxRecDepth 100000 in
set_option maxHeartbeats 4000000 in
theorem hX12_hiccup_50 {X : sp_X} (hX : sp_OK shM X cX12_hiccup RX12 2 rmX12_hiccup) {τ : sp_St} {r : Int32} (hR : sp_Ri shM X (some .int) τ r 0 0) {n : Nat}    {σ : sp_St} {zs0 : Int32} (hf : X12_hiccup_50 n σ zs0 = some (τ, r)) : sp_GG shM X σ 2 [none, none] [.int zs0] 50 0 0 := by
  unfold X12_hiccup_50 at hf
  exact sp_iret hX hR dX12_hiccup_50 hf (Nat.le_of_ble_eq_true rfl) (Nat.le_of_ble_eq_true rfl)
set_option maxRecDepth 100000 in
set_option maxHeartbeats 4000000 in
theorem hX12_hiccup {X : sp_X} (hX : sp_OK shM X cX12_hiccup RX12 2 rmX12_hiccup) {τ : sp_St} {r : Int32} (hR : sp_Ri shM X (some .int) τ r 0 0) {n : Nat}  {σ : sp_St} {a1 : Int32}  (hf : X12_hiccup n σ a1 = some (τ, r)) : sp_GG shM X σ 2 [some (.ref (sx_ad X 0)), some (.int a1)] [] 0 0 0 := by
  unfold X12_hiccup at hf
  refine sp_aload_n (i := 0) (q := 1) hX dX12_hiccup_0 rfl rfl rfl ?_
  refine sp_iconst (v := 0) (q := 2) hX dX12_hiccup_1 li_0 rfl ?_
  obtain ⟨σ1, e2, hf⟩ := sp_pl_some hf
  refine sp_puti (q := 5) hX fpX12_158 fkX12_3 atM_0 dX12_hiccup_2 rfl ?_
  refine sp_nms e2 ?_
  refine sp_aload_n (i := 0) (q := 6) hX dX12_hiccup_5 rfl rfl rfl ?_
  refine sp_iload_n (i := 1) (q := 7) hX dX12_hiccup_6 rfl rfl rfl ?_
  obtain ⟨σ4, v5, h3, hf⟩ := sp_bd_so hf
  refine sp_callVi (As := [.int a1]) (rest := []) (q := 10) hX (cnX12_isThroat (sp_st hX)  h3) cwX12_402 atM_0 rfl rfl rfl rfl rfl (Nat.le_of_ble_eq_true rfl) (Nat.le_of_ble_eq_true rfl) (Nat.le_of_ble_eq_true rfl) (Nat.le_of_ble_eq_true rfl) (Nat.le_of_ble_eq_true rfl) dX12_hiccup_7 rfl ?_
  refine sp_if_ne (tgt := 19) (q := 13) hX dX12_hiccup_10 (by decide) rfl (fun hc => ?_) (fun hc => ?_)
  · rw [if_neg hc] at hf
    refine sp_aload_n (i := 0) (q := 20) hX dX12_hiccup_19 rfl rfl rfl ?_
    refine sp_gets (t := 6) (q := 23) hX flX12_43 fkX12_7 atM_0 srM_0_7 dX12_hiccup_20 rfl ?_
    refine sp_iload_n (i := 1) (q := 24) hX dX12_hiccup_23 rfl rfl rfl ?_
    obtain ⟨h6, hf⟩ := sp_ck_some hf
    refine sp_iald (q := 25) hX arM_6 h6 dX12_hiccup_24 rfl ?_
    refine sp_if_ne (tgt := 32) (q := 28) hX dX12_hiccup_25 (by decide) rfl (fun hc => ?_) (fun hc => ?_)
    · rw [if_neg hc] at hf
      refine sp_aload_n (i := 0) (q := 33) hX dX12_hiccup_32 rfl rfl rfl ?_
      refine sp_gets (t := 6) (q := 36) hX flX12_43 fkX12_7 atM_0 srM_0_7 dX12_hiccup_33 rfl ?_
      refine sp_iload_n (i := 1) (q := 37) hX dX12_hiccup_36 rfl rfl rfl ?_
      obtain ⟨h7, hf⟩ := sp_ck_some hf
      refine sp_iald (q := 38) hX arM_6 h7 dX12_hiccup_37 rfl ?_
      refine sp_aload_n (i := 0) (q := 39) hX dX12_hiccup_38 rfl rfl rfl ?_
      refine sp_geti (q := 42) hX flX12_325 fkX12_33 atM_0 dX12_hiccup_39 rfl ?_
      refine sp_aload_n (i := 0) (q := 43) hX dX12_hiccup_42 rfl rfl rfl ?_
      refine sp_gets (t := 6) (q := 46) hX flX12_43 fkX12_7 atM_0 srM_0_7 dX12_hiccup_43 rfl ?_
      refine sp_iload_n (i := 1) (q := 47) hX dX12_hiccup_46 rfl rfl rfl ?_
      obtain ⟨h8, hf⟩ := sp_ck_some hf
      refine sp_iald (q := 48) hX arM_6 h8 dX12_hiccup_47 rfl ?_
      obtain ⟨h9, hf⟩ := sp_ck_some hf
      refine sp_irem (q := 49) hX dX12_hiccup_48 (sp_nz h9) rfl ?_
      refine sp_isub (q := 50) hX dX12_hiccup_49 rfl ?_
      refine sp_drop (lv' := [none, none]) trivial ?_
      exact hX12_hiccup_50 hX hR hf
    · rw [if_pos hc] at hf
      refine sp_iconst (v := -1) (q := 29) hX dX12_hiccup_28 li_m1 rfl ?_
      refine sp_goto (tgt := 50) hX dX12_hiccup_29 (by decide) ?_
      refine sp_drop (lv' := [none, none]) trivial ?_
      exact hX12_hiccup_50 hX hR hf
  · rw [if_pos hc] at hf
    refine sp_aload_n (i := 0) (q := 14) hX dX12_hiccup_13 rfl rfl rfl ?_
    refine sp_iconst (v := 1) (q := 15) hX dX12_hiccup_14 li_1 rfl ?_
    obtain ⟨σ11, v12, h10, hf⟩ := sp_bd_so hf
    refine sp_callVi (As := [.int ((1 : Int32))]) (rest := []) (q := 18) hX (cnX12_fail (sp_st hX)  h10) cwX12_312 atM_0 rfl rfl rfl rfl rfl (Nat.le_of_ble_eq_true rfl) (Nat.le_of_ble_eq_true rfl) (Nat.le_of_ble_eq_true rfl) (Nat.le_of_ble_eq_true rfl) (Nat.le_of_ble_eq_true rfl) dX12_hiccup_15 rfl ?_
    exact sp_iret hX hR dX12_hiccup_18 hf (Nat.le_of_ble_eq_true rfl) (Nat.le_of_ble_eq_true rfl)
set_option maxRecDepth 100000 in
set_option maxHeartbeats 4000000 in
theorem cnX12_hiccup {l : Launch} (hst : l.stackTraces = false) {w : sp_Wd} {n : Nat}  {σ : sp_St} {a1 : Int32} {τ : sp_St} {r : Int32}  (hf : X12_hiccup n σ a1 = some (τ, r)) : sp_Ci shM l w yX12_hiccup cX12_hiccup 2 (some .int) rmX12_hiccup 0 0 σ [.ref (w.2.1 0), .int a1] τ r :=
  sp_ci (own := RX12) (by decide) rfl hst (Nat.le_of_ble_eq_true rfl) rfl (fun X hX hw hl hR => by subst hw; subst hl; exact hX12_hiccup hX hR   hf)
def rmX12_see : Room := { frames := 2, cells := 0, slots := 0, locals := 46 }
def X12_see_52 (n : Nat) (σ : sp_St) : Option (sp_St × Int32) :=
  sp_bd (X12_refuse n σ ((2 : Int32))) fun σ2 v3 =>
  some (σ2, v3)
def X12_see (n : Nat)  (σ : sp_St) (a1 : Int32) (a2 : Int32) (a3 : Int32) : Option (sp_St × Int32) :=
  sp_pl (sp_si σ 0 3 ((0 : Int32))) fun σ1 =>
  sp_bd (X12_isBlade n σ1 a1) fun σ4 v5 =>
  if v5 = 0 then
    sp_bd (X12_fail n σ4 ((1 : Int32))) fun σ24 v25 =>
    some (σ24, v25)
  else
    if (σ4.1 0 36) = ((8 : Int32)) then
      X12_see_52 n σ4
    else
      sp_bd (X12_isIn n σ4 a2.toInt64 ((0 : Int64)) ((30 : Int64))) fun σ7 v8 =>
      if v8 = 0 then
        X12_see_52 n σ7
      else
        sp_bd (X12_isIn n σ7 a3.toInt64 ((0 : Int64)) ((99 : Int64))) fun σ10 v11 =>
        if v11 = 0 then
          X12_see_52 n σ10
        else
          sp_ck (sp_in (σ10.1 0 36) 8) <|
          sp_pl (sp_sa σ10 29 (σ10.1 0 36).toNatClampNeg a1) fun σ13 =>
          sp_ck (sp_in (σ13.1 0 36) 8) <|
          sp_pl (sp_sa σ13 30 (σ13.1 0 36).toNatClampNeg a2) fun σ16 =>
          sp_ck (sp_in (σ16.1 0 36) 8) <|
          sp_pl (sp_sa σ16 31 (σ16.1 0 36).toNatClampNeg a3) fun σ19 =>
          sp_pl (sp_si σ19 0 36 ((σ19.1 0 36) + ((1 : Int32)))) fun σ21 =>
          some (σ21, σ21.1 0 36)
set_option maxRecDepth 100000 in
set_option maxHeartbeats 4000000 in
theorem hX12_see_52 {X : sp_X} (hX : sp_OK shM X cX12_see RX12 4 rmX12_see) {τ : sp_St} {r : Int32} (hR : sp_Ri shM X (some .int) τ r 0 0) {n : Nat}    {σ : sp_St} (hf : X12_see_52 n σ = some (τ, r)) : sp_GG shM X σ 4 [some (.ref (sx_ad X 0)), none, none, none] [] 52 0 0 := by
  unfold X12_see_52 at hf
  refine sp_aload_n (i := 0) (q := 53) hX dX12_see_52 rfl rfl rfl ?_
  refine sp_iconst (v := 2) (q := 54) hX dX12_see_53 li_2 rfl ?_
  obtain ⟨σ2, v3, h1, hf⟩ := sp_bd_so hf
  refine sp_callVi (As := [.int ((2 : Int32))]) (rest := []) (q := 57) hX (cnX12_refuse (sp_st hX)  h1) cwX12_420 atM_0 rfl rfl rfl rfl rfl (Nat.le_of_ble_eq_true rfl) (Nat.le_of_ble_eq_true rfl) (Nat.le_of_ble_eq_true rfl) (Nat.le_of_ble_eq_true rfl) (Nat.le_of_ble_eq_true rfl) dX12_see_54 rfl ?_
  exact sp_iret hX hR dX12_see_57 hf (Nat.le_of_ble_eq_true rfl) (Nat.le_of_ble_eq_true rfl)
set_option maxRecDepth 100000 in
set_option maxHeartbeats 4000000 in
theorem hX12_see {X : sp_X} (hX : sp_OK shM X cX12_see RX12 4 rmX12_see) {τ : sp_St} {r : Int32} (hR : sp_Ri shM X (some .int) τ r 0 0) {n : Nat}  {σ : sp_St} {a1 : Int32} {a2 : Int32} {a3 : Int32}  (hf : X12_see n σ a1 a2 a3 = some (τ, r)) : sp_GG shM X σ 4 [some (.ref (sx_ad X 0)), some (.int a1), some (.int a2), some (.int a3)] [] 0 0 0 := by
  unfold X12_see at hf
  refine sp_aload_n (i := 0) (q := 1) hX dX12_see_0 rfl rfl rfl ?_
  refine sp_iconst (v := 0) (q := 2) hX dX12_see_1 li_0 rfl ?_
  obtain ⟨σ1, e2, hf⟩ := sp_pl_some hf
  refine sp_puti (q := 5) hX fpX12_158 fkX12_3 atM_0 dX12_see_2 rfl ?_
  refine sp_nms e2 ?_
  refine sp_aload_n (i := 0) (q := 6) hX dX12_see_5 rfl rfl rfl ?_
  refine sp_iload_n (i := 1) (q := 7) hX dX12_see_6 rfl rfl rfl ?_
  obtain ⟨σ4, v5, h3, hf⟩ := sp_bd_so hf
  refine sp_callVi (As := [.int a1]) (rest := []) (q := 10) hX (cnX12_isBlade (sp_st hX)  h3) cwX12_399 atM_0 rfl rfl rfl rfl rfl (Nat.le_of_ble_eq_true rfl) (Nat.le_of_ble_eq_true rfl) (Nat.le_of_ble_eq_true rfl) (Nat.le_of_ble_eq_true rfl) (Nat.le_of_ble_eq_true rfl) dX12_see_7 rfl ?_
  refine sp_if_ne (tgt := 19) (q := 13) hX dX12_see_10 (by decide) rfl (fun hc => ?_) (fun hc => ?_)
  · rw [if_neg hc] at hf
    refine sp_aload_n (i := 0) (q := 20) hX dX12_see_19 rfl rfl rfl ?_
    refine sp_geti (q := 23) hX flX12_333 fkX12_36 atM_0 dX12_see_20 rfl ?_
    refine sp_bipush (v := 8) (q := 25) hX dX12_see_23 lb_8 rfl ?_
    refine sp_icmp_eq (tgt := 52) (q := 28) hX dX12_see_25 (by decide) rfl (fun hc => ?_) (fun hc => ?_)
    · rw [if_pos hc] at hf
      refine sp_drop (lv' := [some (.ref (sx_ad X 0)), none, none, none]) (And.intro rfl trivial) ?_
      exact hX12_see_52 hX hR hf
    · rw [if_neg hc] at hf
      refine sp_iload_n (i := 2) (q := 29) hX dX12_see_28 rfl rfl rfl ?_
      refine sp_i2l (q := 30) hX dX12_see_29 rfl ?_
      refine sp_lconst (v := 0) (q := 31) hX dX12_see_30 (by decide) rfl ?_
      refine sp_ldc2 (v := 30) (q := 34) hX wd_2195 dX12_see_31 rfl ?_
      obtain ⟨σ7, v8, h6, hf⟩ := sp_bd_so hf
      refine sp_callSi (As := [.long a2.toInt64, .long ((0 : Int64)), .long ((30 : Int64))]) (rest := []) (q := 37) hX (cnX12_isIn (sp_st hX)  h6) cwX12_161 rfl rfl rfl rfl (Nat.le_of_ble_eq_true rfl) (Nat.le_of_ble_eq_true rfl) (Nat.le_of_ble_eq_true rfl) (Nat.le_of_ble_eq_true rfl) (Nat.le_of_ble_eq_true rfl) dX12_see_34 rfl ?_
      refine sp_if_eq (tgt := 52) (q := 40) hX dX12_see_37 (by decide) rfl (fun hc => ?_) (fun hc => ?_)
      · rw [if_pos hc] at hf
        refine sp_drop (lv' := [some (.ref (sx_ad X 0)), none, none, none]) (And.intro rfl trivial) ?_
        exact hX12_see_52 hX hR hf
      · rw [if_neg hc] at hf
        refine sp_iload_n (i := 3) (q := 41) hX dX12_see_40 rfl rfl rfl ?_
        refine sp_i2l (q := 42) hX dX12_see_41 rfl ?_
        refine sp_lconst (v := 0) (q := 43) hX dX12_see_42 (by decide) rfl ?_
        refine sp_ldc2 (v := 99) (q := 46) hX wd_2196 dX12_see_43 rfl ?_
        obtain ⟨σ10, v11, h9, hf⟩ := sp_bd_so hf
        refine sp_callSi (As := [.long a3.toInt64, .long ((0 : Int64)), .long ((99 : Int64))]) (rest := []) (q := 49) hX (cnX12_isIn (sp_st hX)  h9) cwX12_161 rfl rfl rfl rfl (Nat.le_of_ble_eq_true rfl) (Nat.le_of_ble_eq_true rfl) (Nat.le_of_ble_eq_true rfl) (Nat.le_of_ble_eq_true rfl) (Nat.le_of_ble_eq_true rfl) dX12_see_46 rfl ?_
        refine sp_if_ne (tgt := 58) (q := 52) hX dX12_see_49 (by decide) rfl (fun hc => ?_) (fun hc => ?_)
        · rw [if_neg hc] at hf
          refine sp_aload_n (i := 0) (q := 59) hX dX12_see_58 rfl rfl rfl ?_
          refine sp_gets (t := 29) (q := 62) hX flX12_116 fkX12_45 atM_0 srM_0_45 dX12_see_59 rfl ?_
          refine sp_aload_n (i := 0) (q := 63) hX dX12_see_62 rfl rfl rfl ?_
          refine sp_geti (q := 66) hX flX12_333 fkX12_36 atM_0 dX12_see_63 rfl ?_
          refine sp_iload_n (i := 1) (q := 67) hX dX12_see_66 rfl rfl rfl ?_
          obtain ⟨h12, hf⟩ := sp_ck_some hf
          obtain ⟨σ13, e14, hf⟩ := sp_pl_some hf
          refine sp_iast (q := 68) hX arM_29 h12 dX12_see_67 rfl ?_
          refine sp_nms e14 ?_
          refine sp_aload_n (i := 0) (q := 69) hX dX12_see_68 rfl rfl rfl ?_
          refine sp_gets (t := 30) (q := 72) hX flX12_119 fkX12_46 atM_0 srM_0_46 dX12_see_69 rfl ?_
          refine sp_aload_n (i := 0) (q := 73) hX dX12_see_72 rfl rfl rfl ?_
          refine sp_geti (q := 76) hX flX12_333 fkX12_36 atM_0 dX12_see_73 rfl ?_
          refine sp_iload_n (i := 2) (q := 77) hX dX12_see_76 rfl rfl rfl ?_
          obtain ⟨h15, hf⟩ := sp_ck_some hf
          obtain ⟨σ16, e17, hf⟩ := sp_pl_some hf
          refine sp_iast (q := 78) hX arM_30 h15 dX12_see_77 rfl ?_
          refine sp_nms e17 ?_
          refine sp_aload_n (i := 0) (q := 79) hX dX12_see_78 rfl rfl rfl ?_
          refine sp_gets (t := 31) (q := 82) hX flX12_122 fkX12_47 atM_0 srM_0_47 dX12_see_79 rfl ?_
          refine sp_aload_n (i := 0) (q := 83) hX dX12_see_82 rfl rfl rfl ?_
          refine sp_geti (q := 86) hX flX12_333 fkX12_36 atM_0 dX12_see_83 rfl ?_
          refine sp_iload_n (i := 3) (q := 87) hX dX12_see_86 rfl rfl rfl ?_
          obtain ⟨h18, hf⟩ := sp_ck_some hf
          obtain ⟨σ19, e20, hf⟩ := sp_pl_some hf
          refine sp_iast (q := 88) hX arM_31 h18 dX12_see_87 rfl ?_
          refine sp_nms e20 ?_
          refine sp_aload_n (i := 0) (q := 89) hX dX12_see_88 rfl rfl rfl ?_
          refine sp_dup (q := 90) hX dX12_see_89 rfl rfl ?_
          refine sp_geti (q := 93) hX flX12_333 fkX12_36 atM_0 dX12_see_90 rfl ?_
          refine sp_iconst (v := 1) (q := 94) hX dX12_see_93 li_1 rfl ?_
          refine sp_iadd (q := 95) hX dX12_see_94 rfl ?_
          obtain ⟨σ21, e22, hf⟩ := sp_pl_some hf
          refine sp_puti (q := 98) hX fpX12_333 fkX12_36 atM_0 dX12_see_95 rfl ?_
          refine sp_nms e22 ?_
          refine sp_aload_n (i := 0) (q := 99) hX dX12_see_98 rfl rfl rfl ?_
          refine sp_geti (q := 102) hX flX12_333 fkX12_36 atM_0 dX12_see_99 rfl ?_
          exact sp_iret hX hR dX12_see_102 hf (Nat.le_of_ble_eq_true rfl) (Nat.le_of_ble_eq_true rfl)
        · rw [if_pos hc] at hf
          refine sp_drop (lv' := [some (.ref (sx_ad X 0)), none, none, none]) (And.intro rfl trivial) ?_
          exact hX12_see_52 hX hR hf
  · rw [if_pos hc] at hf
    refine sp_aload_n (i := 0) (q := 14) hX dX12_see_13 rfl rfl rfl ?_
    refine sp_iconst (v := 1) (q := 15) hX dX12_see_14 li_1 rfl ?_
    obtain ⟨σ24, v25, h23, hf⟩ := sp_bd_so hf
    refine sp_callVi (As := [.int ((1 : Int32))]) (rest := []) (q := 18) hX (cnX12_fail (sp_st hX)  h23) cwX12_312 atM_0 rfl rfl rfl rfl rfl (Nat.le_of_ble_eq_true rfl) (Nat.le_of_ble_eq_true rfl) (Nat.le_of_ble_eq_true rfl) (Nat.le_of_ble_eq_true rfl) (Nat.le_of_ble_eq_true rfl) dX12_see_15 rfl ?_
    exact sp_iret hX hR dX12_see_18 hf (Nat.le_of_ble_eq_true rfl) (Nat.le_of_ble_eq_true rfl)
set_option maxRecDepth 100000 in
set_option maxHeartbeats 4000000 in
theorem cnX12_see {l : Launch} (hst : l.stackTraces = false) {w : sp_Wd} {n : Nat}  {σ : sp_St} {a1 : Int32} {a2 : Int32} {a3 : Int32} {τ : sp_St} {r : Int32}  (hf : X12_see n σ a1 a2 a3 = some (τ, r)) : sp_Ci shM l w yX12_see cX12_see 4 (some .int) rmX12_see 0 0 σ [.ref (w.2.1 0), .int a1, .int a2, .int a3] τ r :=
  sp_ci (own := RX12) (by decide) rfl hst (Nat.le_of_ble_eq_true rfl) rfl (fun X hX hw hl hR => by subst hw; subst hl; exact hX12_see hX hR   hf)
def rmX12_isAsSeen : Room := { frames := 6, cells := 0, slots := 0, locals := 132 }
def X12_isAsSeen_122 (n : Nat) (σ : sp_St) (z2 : Int32) : Option (sp_St × Int32) :=
  sp_bv (X12_unpack n σ 32 88 ((0 : Int32))) fun σ2 =>
  sp_ck (sp_zb z2) <|
  some (σ2, z2)
def X12_isAsSeen_112 (n : Nat) (k42 : sp_St → Int32 → Int32 → Int32 → Option (sp_St × Int32)) (σ : sp_St) (z1 : Int32) (z2 : Int32) (z3 : Int32) : Option (sp_St × Int32) :=
  sp_bv (X12_aDay n σ) fun σ2 =>
  sp_pl (z3 + 1) fun x3 =>
  k42 σ2 z1 z2 x3
def X12_isAsSeen_105 (n : Nat) (k42 : sp_St → Int32 → Int32 → Int32 → Option (sp_St × Int32)) (k54 : sp_St → Int32 → Int32 → Int32 → Int32 → Option (sp_St × Int32)) (σ : sp_St) (z1 : Int32) (z3 : Int32) (z4 : Int32) (zs0 : Int32) : Option (sp_St × Int32) :=
  sp_pl (z4 + 1) fun x1 =>
  k54 σ z1 zs0 z3 x1
def X12_isAsSeen_104 (n : Nat) (k42 : sp_St → Int32 → Int32 → Int32 → Option (sp_St × Int32)) (k54 : sp_St → Int32 → Int32 → Int32 → Int32 → Option (sp_St × Int32)) (σ : sp_St) (z1 : Int32) (z3 : Int32) (z4 : Int32) : Option (sp_St × Int32) :=
  X12_isAsSeen_105 n k42 k54 σ z1 z3 z4 ((0 : Int32))
def X12_isAsSeen_100 (n : Nat) (k42 : sp_St → Int32 → Int32 → Int32 → Option (sp_St × Int32)) (k54 : sp_St → Int32 → Int32 → Int32 → Int32 → Option (sp_St × Int32)) (σ : sp_St) (z1 : Int32) (z3 : Int32) (z4 : Int32) : Option (sp_St × Int32) :=
  X12_isAsSeen_105 n k42 k54 σ z1 z3 z4 ((1 : Int32))
def X12_isAsSeen_54 (n : Nat) (k42 : sp_St → Int32 → Int32 → Int32 → Option (sp_St × Int32)) : Nat → sp_St → Int32 → Int32 → Int32 → Int32 → Option (sp_St × Int32)
  | 0, _, _, _, _, _ => none
  | f + 1, σ, z1, z2, z3, z4 =>
    if (σ.1 0 36) ≤ z4 then
      X12_isAsSeen_112 n k42 σ z1 z2 z3
    else
      if z2 = 0 then
        X12_isAsSeen_104 n k42 (X12_isAsSeen_54 n k42 f) σ z1 z3 z4
      else
        sp_ck (sp_in z4 8) <|
        if (sp_g σ 30 z4) = z3 then
          sp_ck (sp_in z4 8) <|
          sp_ck (sp_in (sp_g σ 29 z4) 10) <|
          sp_ck (sp_in z4 8) <|
          if (sp_g σ 14 (sp_g σ 29 z4)) = (sp_g σ 31 z4) then
            X12_isAsSeen_100 n k42 (X12_isAsSeen_54 n k42 f) σ z1 z3 z4
          else
            X12_isAsSeen_104 n k42 (X12_isAsSeen_54 n k42 f) σ z1 z3 z4
        else
          X12_isAsSeen_100 n k42 (X12_isAsSeen_54 n k42 f) σ z1 z3 z4
def X12_isAsSeen_42 (n : Nat) : Nat → sp_St → Int32 → Int32 → Int32 → Option (sp_St × Int32)
  | 0, _, _, _, _ => none
  | f + 1, σ, z1, z2, z3 =>
    if z1 < z3 then
      X12_isAsSeen_122 n σ z2
    else
      if z2 = 0 then
        X12_isAsSeen_122 n σ z2
      else
        sp_pl ((0 : Int32)) fun x1 =>
        X12_isAsSeen_54 n (X12_isAsSeen_42 n f) n σ z1 z2 z3 x1
def X12_isAsSeen_29 (n : Nat) (σ : sp_St) (z1 : Int32) : Option (sp_St × Int32) :=
  sp_bv (X12_pack n σ 32 88 ((0 : Int32))) fun σ2 =>
  sp_pl ((1 : Int32)) fun x3 =>
  sp_pl ((0 : Int32)) fun x5 =>
  X12_isAsSeen_42 n n σ2 z1 x3 x5
def X12_isAsSeen_4 (n : Nat) : Nat → sp_St → Int32 → Int32 → Option (sp_St × Int32)
  | 0, _, _, _ => none
  | f + 1, σ, z1, z2 =>
    if (σ.1 0 36) ≤ z2 then
      X12_isAsSeen_29 n σ z1
    else
      sp_ck (sp_in z2 8) <|
      sp_pl (sp_max z1 (sp_g σ 30 z2)) fun v2 =>
      sp_pl (z2 + 1) fun x4 =>
      X12_isAsSeen_4 n f σ v2 x4
def X12_isAsSeen (n : Nat)  (σ : sp_St)  : Option (sp_St × Int32) :=
  sp_pl ((-1 : Int32)) fun x1 =>
  sp_pl ((0 : Int32)) fun x3 =>
  X12_isAsSeen_4 n n σ x1 x3
set_option maxRecDepth 100000 in
set_option maxHeartbeats 4000000 in
theorem hX12_isAsSeen_122 {X : sp_X} (hX : sp_OK shM X cX12_isAsSeen RX12 5 rmX12_isAsSeen) {τ : sp_St} {r : Int32} (hR : sp_Ri shM X (some .boolean) τ r 0 0) {n : Nat}    {σ : sp_St} {z2 : Int32} (hf : X12_isAsSeen_122 n σ z2 = some (τ, r)) : sp_GG shM X σ 5 [some (.ref (sx_ad X 0)), none, some (.int z2), none, none] [] 122 0 0 := by
  unfold X12_isAsSeen_122 at hf
  refine sp_aload_n (i := 0) (q := 123) hX dX12_isAsSeen_122 rfl rfl rfl ?_
  refine sp_aload_n (i := 0) (q := 124) hX dX12_isAsSeen_123 rfl rfl rfl ?_
  refine sp_gets (t := 32) (q := 127) hX flX12_125 fkX12_48 atM_0 srM_0_48 dX12_isAsSeen_124 rfl ?_
  refine sp_iconst (v := 0) (q := 128) hX dX12_isAsSeen_127 li_0 rfl ?_
  obtain ⟨σ2, h1, hf⟩ := sp_bv_so hf
  refine sp_callVv (As := [.ref (sx_ad X 32), .int ((0 : Int32))]) (rest := []) (q := 131) hX (cnX12_unpack (sp_st hX) arM_32 h1) cwX12_432 atM_0 rfl rfl rfl rfl rfl (Nat.le_of_ble_eq_true rfl) (Nat.le_of_ble_eq_true rfl) (Nat.le_of_ble_eq_true rfl) (Nat.le_of_ble_eq_true rfl) (Nat.le_of_ble_eq_true rfl) dX12_isAsSeen_128 rfl ?_
  refine sp_iload_n (i := 2) (q := 132) hX dX12_isAsSeen_131 rfl rfl rfl ?_
  obtain ⟨h3, hf⟩ := sp_ck_some hf
  exact sp_zret hX hR h3 dX12_isAsSeen_132 hf (Nat.le_of_ble_eq_true rfl) (Nat.le_of_ble_eq_true rfl)
set_option maxRecDepth 100000 in
set_option maxHeartbeats 4000000 in
theorem hX12_isAsSeen_112 {X : sp_X} (hX : sp_OK shM X cX12_isAsSeen RX12 5 rmX12_isAsSeen) {τ : sp_St} {r : Int32} (hR : sp_Ri shM X (some .boolean) τ r 0 0) {n : Nat}   {k42 : sp_St → Int32 → Int32 → Int32 → Option (sp_St × Int32)} (hk42 : ∀ (σ : sp_St) (z1 : Int32) (z2 : Int32) (z3 : Int32), k42 σ z1 z2 z3 = some (τ, r) → sp_GG shM X σ 5 [some (.ref (sx_ad X 0)), some (.int z1), some (.int z2), some (.int z3), none] [] 42 0 0) {σ : sp_St} {z1 : Int32} {z2 : Int32} {z3 : Int32} (hf : X12_isAsSeen_112 n k42 σ z1 z2 z3 = some (τ, r)) : sp_GG shM X σ 5 [some (.ref (sx_ad X 0)), some (.int z1), some (.int z2), some (.int z3), none] [] 112 0 0 := by
  unfold X12_isAsSeen_112 at hf
  refine sp_aload_n (i := 0) (q := 113) hX dX12_isAsSeen_112 rfl rfl rfl ?_
  obtain ⟨σ2, h1, hf⟩ := sp_bv_so hf
  refine sp_callVv (As := []) (rest := []) (q := 116) hX (cnX12_aDay (sp_st hX)  h1) cwX12_393 atM_0 rfl rfl rfl rfl rfl (Nat.le_of_ble_eq_true rfl) (Nat.le_of_ble_eq_true rfl) (Nat.le_of_ble_eq_true rfl) (Nat.le_of_ble_eq_true rfl) (Nat.le_of_ble_eq_true rfl) dX12_isAsSeen_113 rfl ?_
  obtain ⟨x3, e4, hf⟩ := sp_pl_some hf
  refine sp_iinc (i := 3) (v := x3) (lv' := [some (.ref (sx_ad X 0)), some (.int z1), some (.int z2), some (.int x3), none]) (q := 119) hX dX12_isAsSeen_116 rfl (by rw [e4, li_1]) (Nat.le_of_ble_eq_true rfl) rfl rfl rfl ?_
  refine sp_goto (tgt := 42) hX dX12_isAsSeen_119 (by decide) ?_
  exact hk42 σ2 z1 z2 x3 hf
set_option maxRecDepth 100000 in
set_option maxHeartbeats 4000000 in
theorem hX12_isAsSeen_105 {X : sp_X} (hX : sp_OK shM X cX12_isAsSeen RX12 5 rmX12_isAsSeen) {τ : sp_St} {r : Int32} (hR : sp_Ri shM X (some .boolean) τ r 0 0) {n : Nat}   {k42 : sp_St → Int32 → Int32 → Int32 → Option (sp_St × Int32)} (hk42 : ∀ (σ : sp_St) (z1 : Int32) (z2 : Int32) (z3 : Int32), k42 σ z1 z2 z3 = some (τ, r) → sp_GG shM X σ 5 [some (.ref (sx_ad X 0)), some (.int z1), some (.int z2), some (.int z3), none] [] 42 0 0) {k54 : sp_St → Int32 → Int32 → Int32 → Int32 → Option (sp_St × Int32)} (hk54 : ∀ (σ : sp_St) (z1 : Int32) (z2 : Int32) (z3 : Int32) (z4 : Int32), k54 σ z1 z2 z3 z4 = some (τ, r) → sp_GG shM X σ 5 [some (.ref (sx_ad X 0)), some (.int z1), some (.int z2), some (.int z3), some (.int z4)] [] 54 0 0) {σ : sp_St} {z1 : Int32} {z3 : Int32} {z4 : Int32} {zs0 : Int32} (hf : X12_isAsSeen_105 n k42 k54 σ z1 z3 z4 zs0 = some (τ, r)) : sp_GG shM X σ 5 [some (.ref (sx_ad X 0)), some (.int z1), none, some (.int z3), some (.int z4)] [.int zs0] 105 0 0 := by
  unfold X12_isAsSeen_105 at hf
  refine sp_istore_n (i := 2) (lv' := [some (.ref (sx_ad X 0)), some (.int z1), some (.int zs0), some (.int z3), some (.int z4)]) (q := 106) hX dX12_isAsSeen_105 rfl (Nat.le_of_ble_eq_true rfl) rfl rfl rfl ?_
  obtain ⟨x1, e2, hf⟩ := sp_pl_some hf
  refine sp_iinc (i := 4) (v := x1) (lv' := [some (.ref (sx_ad X 0)), some (.int z1), some (.int zs0), some (.int z3), some (.int x1)]) (q := 109) hX dX12_isAsSeen_106 rfl (by rw [e2, li_1]) (Nat.le_of_ble_eq_true rfl) rfl rfl rfl ?_
  refine sp_goto (tgt := 54) hX dX12_isAsSeen_109 (by decide) ?_
  exact hk54 σ z1 zs0 z3 x1 hf
set_option maxRecDepth 100000 in
set_option maxHeartbeats 4000000 in
theorem hX12_isAsSeen_104 {X : sp_X} (hX : sp_OK shM X cX12_isAsSeen RX12 5 rmX12_isAsSeen) {τ : sp_St} {r : Int32} (hR : sp_Ri shM X (some .boolean) τ r 0 0) {n : Nat}   {k42 : sp_St → Int32 → Int32 → Int32 → Option (sp_St × Int32)} (hk42 : ∀ (σ : sp_St) (z1 : Int32) (z2 : Int32) (z3 : Int32), k42 σ z1 z2 z3 = some (τ, r) → sp_GG shM X σ 5 [some (.ref (sx_ad X 0)), some (.int z1), some (.int z2), some (.int z3), none] [] 42 0 0) {k54 : sp_St → Int32 → Int32 → Int32 → Int32 → Option (sp_St × Int32)} (hk54 : ∀ (σ : sp_St) (z1 : Int32) (z2 : Int32) (z3 : Int32) (z4 : Int32), k54 σ z1 z2 z3 z4 = some (τ, r) → sp_GG shM X σ 5 [some (.ref (sx_ad X 0)), some (.int z1), some (.int z2), some (.int z3), some (.int z4)] [] 54 0 0) {σ : sp_St} {z1 : Int32} {z3 : Int32} {z4 : Int32} (hf : X12_isAsSeen_104 n k42 k54 σ z1 z3 z4 = some (τ, r)) : sp_GG shM X σ 5 [some (.ref (sx_ad X 0)), some (.int z1), none, some (.int z3), some (.int z4)] [] 104 0 0 := by
  unfold X12_isAsSeen_104 at hf
  refine sp_iconst (v := 0) (q := 105) hX dX12_isAsSeen_104 li_0 rfl ?_
  exact hX12_isAsSeen_105 hX hR hk42 hk54 hf
set_option maxRecDepth 100000 in
set_option maxHeartbeats 4000000 in
theorem hX12_isAsSeen_100 {X : sp_X} (hX : sp_OK shM X cX12_isAsSeen RX12 5 rmX12_isAsSeen) {τ : sp_St} {r : Int32} (hR : sp_Ri shM X (some .boolean) τ r 0 0) {n : Nat}   {k42 : sp_St → Int32 → Int32 → Int32 → Option (sp_St × Int32)} (hk42 : ∀ (σ : sp_St) (z1 : Int32) (z2 : Int32) (z3 : Int32), k42 σ z1 z2 z3 = some (τ, r) → sp_GG shM X σ 5 [some (.ref (sx_ad X 0)), some (.int z1), some (.int z2), some (.int z3), none] [] 42 0 0) {k54 : sp_St → Int32 → Int32 → Int32 → Int32 → Option (sp_St × Int32)} (hk54 : ∀ (σ : sp_St) (z1 : Int32) (z2 : Int32) (z3 : Int32) (z4 : Int32), k54 σ z1 z2 z3 z4 = some (τ, r) → sp_GG shM X σ 5 [some (.ref (sx_ad X 0)), some (.int z1), some (.int z2), some (.int z3), some (.int z4)] [] 54 0 0) {σ : sp_St} {z1 : Int32} {z3 : Int32} {z4 : Int32} (hf : X12_isAsSeen_100 n k42 k54 σ z1 z3 z4 = some (τ, r)) : sp_GG shM X σ 5 [some (.ref (sx_ad X 0)), some (.int z1), none, some (.int z3), some (.int z4)] [] 100 0 0 := by
  unfold X12_isAsSeen_100 at hf
  refine sp_iconst (v := 1) (q := 101) hX dX12_isAsSeen_100 li_1 rfl ?_
  refine sp_goto (tgt := 105) hX dX12_isAsSeen_101 (by decide) ?_
  exact hX12_isAsSeen_105 hX hR hk42 hk54 hf
set_option maxRecDepth 100000 in
set_option maxHeartbeats 4000000 in
theorem hX12_isAsSeen_54 {X : sp_X} (hX : sp_OK shM X cX12_isAsSeen RX12 5 rmX12_isAsSeen) {τ : sp_St} {r : Int32} (hR : sp_Ri shM X (some .boolean) τ r 0 0) {n : Nat}   {k42 : sp_St → Int32 → Int32 → Int32 → Option (sp_St × Int32)} (hk42 : ∀ (σ : sp_St) (z1 : Int32) (z2 : Int32) (z3 : Int32), k42 σ z1 z2 z3 = some (τ, r) → sp_GG shM X σ 5 [some (.ref (sx_ad X 0)), some (.int z1), some (.int z2), some (.int z3), none] [] 42 0 0) : ∀ (f : Nat) (σ : sp_St) (z1 : Int32) (z2 : Int32) (z3 : Int32) (z4 : Int32), X12_isAsSeen_54 n k42 f σ z1 z2 z3 z4 = some (τ, r) → sp_GG shM X σ 5 [some (.ref (sx_ad X 0)), some (.int z1), some (.int z2), some (.int z3), some (.int z4)] [] 54 0 0 := by
  intro f
  induction f with
  | zero =>
    intro σ z1 z2 z3 z4 hf
    rw [X12_isAsSeen_54] at hf
    cases hf
  | succ f ih =>
    intro σ z1 z2 z3 z4 hf
    rw [X12_isAsSeen_54] at hf
    refine sp_iload (i := 4) (q := 56) hX dX12_isAsSeen_54 rfl rfl ?_
    refine sp_aload_n (i := 0) (q := 57) hX dX12_isAsSeen_56 rfl rfl rfl ?_
    refine sp_geti (q := 60) hX flX12_333 fkX12_36 atM_0 dX12_isAsSeen_57 rfl ?_
    refine sp_icmp_ge (tgt := 112) (q := 63) hX dX12_isAsSeen_60 (by decide) rfl (fun hc => ?_) (fun hc => ?_)
    · rw [if_pos hc] at hf
      refine sp_drop (lv' := [some (.ref (sx_ad X 0)), some (.int z1), some (.int z2), some (.int z3), none]) (And.intro rfl (And.intro rfl (And.intro rfl (And.intro rfl trivial)))) ?_
      exact hX12_isAsSeen_112 hX hR hk42 hf
    · rw [if_neg hc] at hf
      refine sp_iload_n (i := 2) (q := 64) hX dX12_isAsSeen_63 rfl rfl rfl ?_
      refine sp_if_eq (tgt := 104) (q := 67) hX dX12_isAsSeen_64 (by decide) rfl (fun hc => ?_) (fun hc => ?_)
      · rw [if_pos hc] at hf
        refine sp_drop (lv' := [some (.ref (sx_ad X 0)), some (.int z1), none, some (.int z3), some (.int z4)]) (And.intro rfl (And.intro rfl (And.intro rfl (And.intro rfl trivial)))) ?_
        exact hX12_isAsSeen_104 hX hR hk42 ih hf
      · rw [if_neg hc] at hf
        refine sp_aload_n (i := 0) (q := 68) hX dX12_isAsSeen_67 rfl rfl rfl ?_
        refine sp_gets (t := 30) (q := 71) hX flX12_119 fkX12_46 atM_0 srM_0_46 dX12_isAsSeen_68 rfl ?_
        refine sp_iload (i := 4) (q := 73) hX dX12_isAsSeen_71 rfl rfl ?_
        obtain ⟨h1, hf⟩ := sp_ck_some hf
        refine sp_iald (q := 74) hX arM_30 h1 dX12_isAsSeen_73 rfl ?_
        refine sp_iload_n (i := 3) (q := 75) hX dX12_isAsSeen_74 rfl rfl rfl ?_
        refine sp_icmp_ne (tgt := 100) (q := 78) hX dX12_isAsSeen_75 (by decide) rfl (fun hc => ?_) (fun hc => ?_)
        · rw [if_neg hc] at hf
          refine sp_drop (lv' := [some (.ref (sx_ad X 0)), some (.int z1), none, some (.int z3), some (.int z4)]) (And.intro rfl (And.intro rfl (And.intro rfl (And.intro rfl trivial)))) ?_
          exact hX12_isAsSeen_100 hX hR hk42 ih hf
        · rw [if_pos hc] at hf
          refine sp_aload_n (i := 0) (q := 79) hX dX12_isAsSeen_78 rfl rfl rfl ?_
          refine sp_gets (t := 14) (q := 82) hX flX12_70 fkX12_26 atM_0 srM_0_26 dX12_isAsSeen_79 rfl ?_
          refine sp_aload_n (i := 0) (q := 83) hX dX12_isAsSeen_82 rfl rfl rfl ?_
          refine sp_gets (t := 29) (q := 86) hX flX12_116 fkX12_45 atM_0 srM_0_45 dX12_isAsSeen_83 rfl ?_
          refine sp_iload (i := 4) (q := 88) hX dX12_isAsSeen_86 rfl rfl ?_
          obtain ⟨h2, hf⟩ := sp_ck_some hf
          refine sp_iald (q := 89) hX arM_29 h2 dX12_isAsSeen_88 rfl ?_
          obtain ⟨h3, hf⟩ := sp_ck_some hf
          refine sp_iald (q := 90) hX arM_14 h3 dX12_isAsSeen_89 rfl ?_
          refine sp_aload_n (i := 0) (q := 91) hX dX12_isAsSeen_90 rfl rfl rfl ?_
          refine sp_gets (t := 31) (q := 94) hX flX12_122 fkX12_47 atM_0 srM_0_47 dX12_isAsSeen_91 rfl ?_
          refine sp_iload (i := 4) (q := 96) hX dX12_isAsSeen_94 rfl rfl ?_
          obtain ⟨h4, hf⟩ := sp_ck_some hf
          refine sp_iald (q := 97) hX arM_31 h4 dX12_isAsSeen_96 rfl ?_
          refine sp_icmp_ne (tgt := 104) (q := 100) hX dX12_isAsSeen_97 (by decide) rfl (fun hc => ?_) (fun hc => ?_)
          · rw [if_neg hc] at hf
            refine sp_drop (lv' := [some (.ref (sx_ad X 0)), some (.int z1), none, some (.int z3), some (.int z4)]) (And.intro rfl (And.intro rfl (And.intro rfl (And.intro rfl trivial)))) ?_
            exact hX12_isAsSeen_104 hX hR hk42 ih hf
          · rw [if_pos hc] at hf
            refine sp_drop (lv' := [some (.ref (sx_ad X 0)), some (.int z1), none, some (.int z3), some (.int z4)]) (And.intro rfl (And.intro rfl (And.intro rfl (And.intro rfl trivial)))) ?_
            exact hX12_isAsSeen_100 hX hR hk42 ih hf
set_option maxRecDepth 100000 in
set_option maxHeartbeats 4000000 in
theorem hX12_isAsSeen_42 {X : sp_X} (hX : sp_OK shM X cX12_isAsSeen RX12 5 rmX12_isAsSeen) {τ : sp_St} {r : Int32} (hR : sp_Ri shM X (some .boolean) τ r 0 0) {n : Nat}    : ∀ (f : Nat) (σ : sp_St) (z1 : Int32) (z2 : Int32) (z3 : Int32), X12_isAsSeen_42 n f σ z1 z2 z3 = some (τ, r) → sp_GG shM X σ 5 [some (.ref (sx_ad X 0)), some (.int z1), some (.int z2), some (.int z3), none] [] 42 0 0 := by
  intro f
  induction f with
  | zero =>
    intro σ z1 z2 z3 hf
    rw [X12_isAsSeen_42] at hf
    cases hf
  | succ f ih =>
    intro σ z1 z2 z3 hf
    rw [X12_isAsSeen_42] at hf
    refine sp_iload_n (i := 3) (q := 43) hX dX12_isAsSeen_42 rfl rfl rfl ?_
    refine sp_iload_n (i := 1) (q := 44) hX dX12_isAsSeen_43 rfl rfl rfl ?_
    refine sp_icmp_gt (tgt := 122) (q := 47) hX dX12_isAsSeen_44 (by decide) rfl (fun hc => ?_) (fun hc => ?_)
    · rw [if_pos hc] at hf
      refine sp_drop (lv' := [some (.ref (sx_ad X 0)), none, some (.int z2), none, none]) (And.intro rfl (And.intro rfl trivial)) ?_
      exact hX12_isAsSeen_122 hX hR hf
    · rw [if_neg hc] at hf
      refine sp_iload_n (i := 2) (q := 48) hX dX12_isAsSeen_47 rfl rfl rfl ?_
      refine sp_if_eq (tgt := 122) (q := 51) hX dX12_isAsSeen_48 (by decide) rfl (fun hc => ?_) (fun hc => ?_)
      · rw [if_pos hc] at hf
        refine sp_drop (lv' := [some (.ref (sx_ad X 0)), none, some (.int z2), none, none]) (And.intro rfl (And.intro rfl trivial)) ?_
        exact hX12_isAsSeen_122 hX hR hf
      · rw [if_neg hc] at hf
        refine sp_iconst (v := 0) (q := 52) hX dX12_isAsSeen_51 li_0 rfl ?_
        obtain ⟨x1, e2, hf⟩ := sp_pl_some hf
        refine sp_nmi e2 ?_
        refine sp_istore (i := 4) (lv' := [some (.ref (sx_ad X 0)), some (.int z1), some (.int z2), some (.int z3), some (.int x1)]) (q := 54) hX dX12_isAsSeen_52 (Nat.le_of_ble_eq_true rfl) rfl rfl rfl ?_
        exact hX12_isAsSeen_54 hX hR ih n σ z1 z2 z3 x1 hf
set_option maxRecDepth 100000 in
set_option maxHeartbeats 4000000 in
theorem hX12_isAsSeen_29 {X : sp_X} (hX : sp_OK shM X cX12_isAsSeen RX12 5 rmX12_isAsSeen) {τ : sp_St} {r : Int32} (hR : sp_Ri shM X (some .boolean) τ r 0 0) {n : Nat}    {σ : sp_St} {z1 : Int32} (hf : X12_isAsSeen_29 n σ z1 = some (τ, r)) : sp_GG shM X σ 5 [some (.ref (sx_ad X 0)), some (.int z1), none, none, none] [] 29 0 0 := by
  unfold X12_isAsSeen_29 at hf
  refine sp_aload_n (i := 0) (q := 30) hX dX12_isAsSeen_29 rfl rfl rfl ?_
  refine sp_aload_n (i := 0) (q := 31) hX dX12_isAsSeen_30 rfl rfl rfl ?_
  refine sp_gets (t := 32) (q := 34) hX flX12_125 fkX12_48 atM_0 srM_0_48 dX12_isAsSeen_31 rfl ?_
  refine sp_iconst (v := 0) (q := 35) hX dX12_isAsSeen_34 li_0 rfl ?_
  obtain ⟨σ2, h1, hf⟩ := sp_bv_so hf
  refine sp_callVv (As := [.ref (sx_ad X 32), .int ((0 : Int32))]) (rest := []) (q := 38) hX (cnX12_pack (sp_st hX) arM_32 h1) cwX12_414 atM_0 rfl rfl rfl rfl rfl (Nat.le_of_ble_eq_true rfl) (Nat.le_of_ble_eq_true rfl) (Nat.le_of_ble_eq_true rfl) (Nat.le_of_ble_eq_true rfl) (Nat.le_of_ble_eq_true rfl) dX12_isAsSeen_35 rfl ?_
  refine sp_iconst (v := 1) (q := 39) hX dX12_isAsSeen_38 li_1 rfl ?_
  obtain ⟨x3, e4, hf⟩ := sp_pl_some hf
  refine sp_nmi e4 ?_
  refine sp_istore_n (i := 2) (lv' := [some (.ref (sx_ad X 0)), some (.int z1), some (.int x3), none, none]) (q := 40) hX dX12_isAsSeen_39 rfl (Nat.le_of_ble_eq_true rfl) rfl rfl rfl ?_
  refine sp_iconst (v := 0) (q := 41) hX dX12_isAsSeen_40 li_0 rfl ?_
  obtain ⟨x5, e6, hf⟩ := sp_pl_some hf
  refine sp_nmi e6 ?_
  refine sp_istore_n (i := 3) (lv' := [some (.ref (sx_ad X 0)), some (.int z1), some (.int x3), some (.int x5), none]) (q := 42) hX dX12_isAsSeen_41 rfl (Nat.le_of_ble_eq_true rfl) rfl rfl rfl ?_
  exact hX12_isAsSeen_42 hX hR n σ2 z1 x3 x5 hf
set_option maxRecDepth 100000 in
set_option maxHeartbeats 4000000 in
theorem hX12_isAsSeen_4 {X : sp_X} (hX : sp_OK shM X cX12_isAsSeen RX12 5 rmX12_isAsSeen) {τ : sp_St} {r : Int32} (hR : sp_Ri shM X (some .boolean) τ r 0 0) {n : Nat}    : ∀ (f : Nat) (σ : sp_St) (z1 : Int32) (z2 : Int32), X12_isAsSeen_4 n f σ z1 z2 = some (τ, r) → sp_GG shM X σ 5 [some (.ref (sx_ad X 0)), some (.int z1), some (.int z2), none, none] [] 4 0 0 := by
  intro f
  induction f with
  | zero =>
    intro σ z1 z2 hf
    rw [X12_isAsSeen_4] at hf
    cases hf
  | succ f ih =>
    intro σ z1 z2 hf
    rw [X12_isAsSeen_4] at hf
    refine sp_iload_n (i := 2) (q := 5) hX dX12_isAsSeen_4 rfl rfl rfl ?_
    refine sp_aload_n (i := 0) (q := 6) hX dX12_isAsSeen_5 rfl rfl rfl ?_
    refine sp_geti (q := 9) hX flX12_333 fkX12_36 atM_0 dX12_isAsSeen_6 rfl ?_
    refine sp_icmp_ge (tgt := 29) (q := 12) hX dX12_isAsSeen_9 (by decide) rfl (fun hc => ?_) (fun hc => ?_)
    · rw [if_pos hc] at hf
      refine sp_drop (lv' := [some (.ref (sx_ad X 0)), some (.int z1), none, none, none]) (And.intro rfl (And.intro rfl trivial)) ?_
      exact hX12_isAsSeen_29 hX hR hf
    · rw [if_neg hc] at hf
      refine sp_iload_n (i := 1) (q := 13) hX dX12_isAsSeen_12 rfl rfl rfl ?_
      refine sp_aload_n (i := 0) (q := 14) hX dX12_isAsSeen_13 rfl rfl rfl ?_
      refine sp_gets (t := 30) (q := 17) hX flX12_119 fkX12_46 atM_0 srM_0_46 dX12_isAsSeen_14 rfl ?_
      refine sp_iload_n (i := 2) (q := 18) hX dX12_isAsSeen_17 rfl rfl rfl ?_
      obtain ⟨h1, hf⟩ := sp_ck_some hf
      refine sp_iald (q := 19) hX arM_30 h1 dX12_isAsSeen_18 rfl ?_
      obtain ⟨v2, e3, hf⟩ := sp_pl_some hf
      refine sp_mmax (q := 22) hX wd_1991 wd_656 wd_144 wd_657 (Nat.le_of_ble_eq_true rfl) (Nat.le_of_ble_eq_true rfl) (Nat.le_of_ble_eq_true rfl) (Nat.le_of_ble_eq_true rfl) dX12_isAsSeen_19 rfl ?_
      refine sp_nmi e3 ?_
      refine sp_istore_n (i := 1) (lv' := [some (.ref (sx_ad X 0)), some (.int v2), some (.int z2), none, none]) (q := 23) hX dX12_isAsSeen_22 rfl (Nat.le_of_ble_eq_true rfl) rfl rfl rfl ?_
      obtain ⟨x4, e5, hf⟩ := sp_pl_some hf
      refine sp_iinc (i := 2) (v := x4) (lv' := [some (.ref (sx_ad X 0)), some (.int v2), some (.int x4), none, none]) (q := 26) hX dX12_isAsSeen_23 rfl (by rw [e5, li_1]) (Nat.le_of_ble_eq_true rfl) rfl rfl rfl ?_
      refine sp_goto (tgt := 4) hX dX12_isAsSeen_26 (by decide) ?_
      exact ih σ v2 x4 hf
set_option maxRecDepth 100000 in
set_option maxHeartbeats 4000000 in
theorem hX12_isAsSeen {X : sp_X} (hX : sp_OK shM X cX12_isAsSeen RX12 5 rmX12_isAsSeen) {τ : sp_St} {r : Int32} (hR : sp_Ri shM X (some .boolean) τ r 0 0) {n : Nat}  {σ : sp_St}   (hf : X12_isAsSeen n σ = some (τ, r)) : sp_GG shM X σ 5 [some (.ref (sx_ad X 0)), none, none, none, none] [] 0 0 0 := by
  unfold X12_isAsSeen at hf
  refine sp_iconst (v := -1) (q := 1) hX dX12_isAsSeen_0 li_m1 rfl ?_
  obtain ⟨x1, e2, hf⟩ := sp_pl_some hf
  refine sp_nmi e2 ?_
  refine sp_istore_n (i := 1) (lv' := [some (.ref (sx_ad X 0)), some (.int x1), none, none, none]) (q := 2) hX dX12_isAsSeen_1 rfl (Nat.le_of_ble_eq_true rfl) rfl rfl rfl ?_
  refine sp_iconst (v := 0) (q := 3) hX dX12_isAsSeen_2 li_0 rfl ?_
  obtain ⟨x3, e4, hf⟩ := sp_pl_some hf
  refine sp_nmi e4 ?_
  refine sp_istore_n (i := 2) (lv' := [some (.ref (sx_ad X 0)), some (.int x1), some (.int x3), none, none]) (q := 4) hX dX12_isAsSeen_3 rfl (Nat.le_of_ble_eq_true rfl) rfl rfl rfl ?_
  exact hX12_isAsSeen_4 hX hR n σ x1 x3 hf
set_option maxRecDepth 100000 in
set_option maxHeartbeats 4000000 in
theorem cnX12_isAsSeen {l : Launch} (hst : l.stackTraces = false) {w : sp_Wd} {n : Nat}  {σ : sp_St}  {τ : sp_St} {r : Int32}  (hf : X12_isAsSeen n σ = some (τ, r)) : sp_Ci shM l w yX12_isAsSeen cX12_isAsSeen 5 (some .boolean) rmX12_isAsSeen 0 0 σ [.ref (w.2.1 0)] τ r :=
  sp_ci (own := RX12) (by decide) rfl hst (Nat.le_of_ble_eq_true rfl) rfl (fun X hX hw hl hR => by subst hw; subst hl; exact hX12_isAsSeen hX hR   hf)
def rmX12_tellFits : Room := { frames := 7, cells := 0, slots := 0, locals := 156 }
def X12_tellFits_85 (n : Nat) (k7 : sp_St → Int32 → Option (sp_St)) (σ : sp_St) (z1 : Int32) (z2 : Int32) : Option (sp_St) :=
  sp_ck (sp_in z1 10) <|
  sp_pl (sp_sa σ 14 z1.toNatClampNeg z2) fun σ2 =>
  sp_pl (z1 + 1) fun x4 =>
  k7 σ2 x4
def X12_tellFits_79 (n : Nat) (k7 : sp_St → Int32 → Option (sp_St)) (k26 : sp_St → Int32 → Int32 → Int32 → Option (sp_St)) (σ : sp_St) (z1 : Int32) (z2 : Int32) (z3 : Int32) : Option (sp_St) :=
  sp_pl (z3 + 1) fun x1 =>
  k26 σ z1 z2 x1
def X12_tellFits_26 (n : Nat) (k7 : sp_St → Int32 → Option (sp_St)) : Nat → sp_St → Int32 → Int32 → Int32 → Option (sp_St)
  | 0, _, _, _, _ => none
  | f + 1, σ, z1, z2, z3 =>
    if ((99 : Int32)) < z3 then
      X12_tellFits_85 n k7 σ z1 z2
    else
      sp_ck (sp_in z1 10) <|
      sp_pl (sp_sa σ 14 z1.toNatClampNeg z3) fun σ2 =>
      if z3 = z2 then
        X12_tellFits_79 n k7 (X12_tellFits_26 n k7 f) σ2 z1 z2 z3
      else
        sp_bd (X12_isAsSeen n σ2) fun σ5 v6 =>
        if v6 = 0 then
          X12_tellFits_79 n k7 (X12_tellFits_26 n k7 f) σ5 z1 z2 z3
        else
          sp_ck (sp_in (σ5.1 0 51) 1000) <|
          sp_pl (sp_sa σ5 33 (σ5.1 0 51).toNatClampNeg ((((100 : Int32)) * z1) + z3)) fun σ8 =>
          sp_pl (sp_si σ8 0 51 ((σ8.1 0 51) + ((1 : Int32)))) fun σ10 =>
          X12_tellFits_79 n k7 (X12_tellFits_26 n k7 f) σ10 z1 z2 z3
def X12_tellFits_7 (n : Nat) : Nat → sp_St → Int32 → Option (sp_St)
  | 0, _, _ => none
  | f + 1, σ, z1 =>
    if (sp_g σ 3 ((2 : Int32))) ≤ z1 then
      some σ
    else
      sp_ck (sp_in z1 10) <|
      sp_pl (sp_g σ 14 z1) fun x2 =>
      sp_pl ((0 : Int32)) fun x4 =>
      X12_tellFits_26 n (X12_tellFits_7 n f) n σ z1 x2 x4
def X12_tellFits (n : Nat)  (σ : sp_St)  : Option (sp_St) :=
  sp_pl (sp_si σ 0 51 ((0 : Int32))) fun σ1 =>
  sp_pl ((0 : Int32)) fun x3 =>
  X12_tellFits_7 n n σ1 x3
set_option maxRecDepth 100000 in
set_option maxHeartbeats 4000000 in
theorem hX12_tellFits_85 {X : sp_X} (hX : sp_OK shM X cX12_tellFits RX12 4 rmX12_tellFits) {τ : sp_St} (hR : sp_Rv shM X τ 0 0) {n : Nat}   {k7 : sp_St → Int32 → Option (sp_St)} (hk7 : ∀ (σ : sp_St) (z1 : Int32), k7 σ z1 = some τ → sp_GG shM X σ 4 [some (.ref (sx_ad X 0)), some (.int z1), none, none] [] 7 0 0) {σ : sp_St} {z1 : Int32} {z2 : Int32} (hf : X12_tellFits_85 n k7 σ z1 z2 = some τ) : sp_GG shM X σ 4 [some (.ref (sx_ad X 0)), some (.int z1), some (.int z2), none] [] 85 0 0 := by
  unfold X12_tellFits_85 at hf
  refine sp_aload_n (i := 0) (q := 86) hX dX12_tellFits_85 rfl rfl rfl ?_
  refine sp_gets (t := 14) (q := 89) hX flX12_70 fkX12_26 atM_0 srM_0_26 dX12_tellFits_86 rfl ?_
  refine sp_iload_n (i := 1) (q := 90) hX dX12_tellFits_89 rfl rfl rfl ?_
  refine sp_iload_n (i := 2) (q := 91) hX dX12_tellFits_90 rfl rfl rfl ?_
  obtain ⟨h1, hf⟩ := sp_ck_some hf
  obtain ⟨σ2, e3, hf⟩ := sp_pl_some hf
  refine sp_iast (q := 92) hX arM_14 h1 dX12_tellFits_91 rfl ?_
  refine sp_nms e3 ?_
  obtain ⟨x4, e5, hf⟩ := sp_pl_some hf
  refine sp_iinc (i := 1) (v := x4) (lv' := [some (.ref (sx_ad X 0)), some (.int x4), some (.int z2), none]) (q := 95) hX dX12_tellFits_92 rfl (by rw [e5, li_1]) (Nat.le_of_ble_eq_true rfl) rfl rfl rfl ?_
  refine sp_goto (tgt := 7) hX dX12_tellFits_95 (by decide) ?_
  refine sp_drop (lv' := [some (.ref (sx_ad X 0)), some (.int x4), none, none]) (And.intro rfl (And.intro rfl trivial)) ?_
  exact hk7 σ2 x4 hf
set_option maxRecDepth 100000 in
set_option maxHeartbeats 4000000 in
theorem hX12_tellFits_79 {X : sp_X} (hX : sp_OK shM X cX12_tellFits RX12 4 rmX12_tellFits) {τ : sp_St} (hR : sp_Rv shM X τ 0 0) {n : Nat}   {k7 : sp_St → Int32 → Option (sp_St)} (hk7 : ∀ (σ : sp_St) (z1 : Int32), k7 σ z1 = some τ → sp_GG shM X σ 4 [some (.ref (sx_ad X 0)), some (.int z1), none, none] [] 7 0 0) {k26 : sp_St → Int32 → Int32 → Int32 → Option (sp_St)} (hk26 : ∀ (σ : sp_St) (z1 : Int32) (z2 : Int32) (z3 : Int32), k26 σ z1 z2 z3 = some τ → sp_GG shM X σ 4 [some (.ref (sx_ad X 0)), some (.int z1), some (.int z2), some (.int z3)] [] 26 0 0) {σ : sp_St} {z1 : Int32} {z2 : Int32} {z3 : Int32} (hf : X12_tellFits_79 n k7 k26 σ z1 z2 z3 = some τ) : sp_GG shM X σ 4 [some (.ref (sx_ad X 0)), some (.int z1), some (.int z2), some (.int z3)] [] 79 0 0 := by
  unfold X12_tellFits_79 at hf
  obtain ⟨x1, e2, hf⟩ := sp_pl_some hf
  refine sp_iinc (i := 3) (v := x1) (lv' := [some (.ref (sx_ad X 0)), some (.int z1), some (.int z2), some (.int x1)]) (q := 82) hX dX12_tellFits_79 rfl (by rw [e2, li_1]) (Nat.le_of_ble_eq_true rfl) rfl rfl rfl ?_
  refine sp_goto (tgt := 26) hX dX12_tellFits_82 (by decide) ?_
  exact hk26 σ z1 z2 x1 hf
set_option maxRecDepth 100000 in
set_option maxHeartbeats 4000000 in
theorem hX12_tellFits_26 {X : sp_X} (hX : sp_OK shM X cX12_tellFits RX12 4 rmX12_tellFits) {τ : sp_St} (hR : sp_Rv shM X τ 0 0) {n : Nat}   {k7 : sp_St → Int32 → Option (sp_St)} (hk7 : ∀ (σ : sp_St) (z1 : Int32), k7 σ z1 = some τ → sp_GG shM X σ 4 [some (.ref (sx_ad X 0)), some (.int z1), none, none] [] 7 0 0) : ∀ (f : Nat) (σ : sp_St) (z1 : Int32) (z2 : Int32) (z3 : Int32), X12_tellFits_26 n k7 f σ z1 z2 z3 = some τ → sp_GG shM X σ 4 [some (.ref (sx_ad X 0)), some (.int z1), some (.int z2), some (.int z3)] [] 26 0 0 := by
  intro f
  induction f with
  | zero =>
    intro σ z1 z2 z3 hf
    rw [X12_tellFits_26] at hf
    cases hf
  | succ f ih =>
    intro σ z1 z2 z3 hf
    rw [X12_tellFits_26] at hf
    refine sp_iload_n (i := 3) (q := 27) hX dX12_tellFits_26 rfl rfl rfl ?_
    refine sp_bipush (v := 99) (q := 29) hX dX12_tellFits_27 lb_99 rfl ?_
    refine sp_icmp_gt (tgt := 85) (q := 32) hX dX12_tellFits_29 (by decide) rfl (fun hc => ?_) (fun hc => ?_)
    · rw [if_pos hc] at hf
      refine sp_drop (lv' := [some (.ref (sx_ad X 0)), some (.int z1), some (.int z2), none]) (And.intro rfl (And.intro rfl (And.intro rfl trivial))) ?_
      exact hX12_tellFits_85 hX hR hk7 hf
    · rw [if_neg hc] at hf
      refine sp_aload_n (i := 0) (q := 33) hX dX12_tellFits_32 rfl rfl rfl ?_
      refine sp_gets (t := 14) (q := 36) hX flX12_70 fkX12_26 atM_0 srM_0_26 dX12_tellFits_33 rfl ?_
      refine sp_iload_n (i := 1) (q := 37) hX dX12_tellFits_36 rfl rfl rfl ?_
      refine sp_iload_n (i := 3) (q := 38) hX dX12_tellFits_37 rfl rfl rfl ?_
      obtain ⟨h1, hf⟩ := sp_ck_some hf
      obtain ⟨σ2, e3, hf⟩ := sp_pl_some hf
      refine sp_iast (q := 39) hX arM_14 h1 dX12_tellFits_38 rfl ?_
      refine sp_nms e3 ?_
      refine sp_iload_n (i := 3) (q := 40) hX dX12_tellFits_39 rfl rfl rfl ?_
      refine sp_iload_n (i := 2) (q := 41) hX dX12_tellFits_40 rfl rfl rfl ?_
      refine sp_icmp_eq (tgt := 79) (q := 44) hX dX12_tellFits_41 (by decide) rfl (fun hc => ?_) (fun hc => ?_)
      · rw [if_pos hc] at hf
        exact hX12_tellFits_79 hX hR hk7 ih hf
      · rw [if_neg hc] at hf
        refine sp_aload_n (i := 0) (q := 45) hX dX12_tellFits_44 rfl rfl rfl ?_
        obtain ⟨σ5, v6, h4, hf⟩ := sp_bd_so hf
        refine sp_callVi (As := []) (rest := []) (q := 48) hX (cnX12_isAsSeen (sp_st hX)  h4) cwX12_464 atM_0 rfl rfl rfl rfl rfl (Nat.le_of_ble_eq_true rfl) (Nat.le_of_ble_eq_true rfl) (Nat.le_of_ble_eq_true rfl) (Nat.le_of_ble_eq_true rfl) (Nat.le_of_ble_eq_true rfl) dX12_tellFits_45 rfl ?_
        refine sp_if_ne (tgt := 54) (q := 51) hX dX12_tellFits_48 (by decide) rfl (fun hc => ?_) (fun hc => ?_)
        · rw [if_neg hc] at hf
          refine sp_aload_n (i := 0) (q := 55) hX dX12_tellFits_54 rfl rfl rfl ?_
          refine sp_gets (t := 33) (q := 58) hX flX12_128 fkX12_49 atM_0 srM_0_49 dX12_tellFits_55 rfl ?_
          refine sp_aload_n (i := 0) (q := 59) hX dX12_tellFits_58 rfl rfl rfl ?_
          refine sp_geti (q := 62) hX flX12_461 fkX12_51 atM_0 dX12_tellFits_59 rfl ?_
          refine sp_bipush (v := 100) (q := 64) hX dX12_tellFits_62 lb_100 rfl ?_
          refine sp_iload_n (i := 1) (q := 65) hX dX12_tellFits_64 rfl rfl rfl ?_
          refine sp_imul (q := 66) hX dX12_tellFits_65 rfl ?_
          refine sp_iload_n (i := 3) (q := 67) hX dX12_tellFits_66 rfl rfl rfl ?_
          refine sp_iadd (q := 68) hX dX12_tellFits_67 rfl ?_
          obtain ⟨h7, hf⟩ := sp_ck_some hf
          obtain ⟨σ8, e9, hf⟩ := sp_pl_some hf
          refine sp_iast (q := 69) hX arM_33 h7 dX12_tellFits_68 rfl ?_
          refine sp_nms e9 ?_
          refine sp_aload_n (i := 0) (q := 70) hX dX12_tellFits_69 rfl rfl rfl ?_
          refine sp_dup (q := 71) hX dX12_tellFits_70 rfl rfl ?_
          refine sp_geti (q := 74) hX flX12_461 fkX12_51 atM_0 dX12_tellFits_71 rfl ?_
          refine sp_iconst (v := 1) (q := 75) hX dX12_tellFits_74 li_1 rfl ?_
          refine sp_iadd (q := 76) hX dX12_tellFits_75 rfl ?_
          obtain ⟨σ10, e11, hf⟩ := sp_pl_some hf
          refine sp_puti (q := 79) hX fpX12_461 fkX12_51 atM_0 dX12_tellFits_76 rfl ?_
          refine sp_nms e11 ?_
          exact hX12_tellFits_79 hX hR hk7 ih hf
        · rw [if_pos hc] at hf
          refine sp_goto (tgt := 79) hX dX12_tellFits_51 (by decide) ?_
          exact hX12_tellFits_79 hX hR hk7 ih hf
set_option maxRecDepth 100000 in
set_option maxHeartbeats 4000000 in
theorem hX12_tellFits_7 {X : sp_X} (hX : sp_OK shM X cX12_tellFits RX12 4 rmX12_tellFits) {τ : sp_St} (hR : sp_Rv shM X τ 0 0) {n : Nat}    : ∀ (f : Nat) (σ : sp_St) (z1 : Int32), X12_tellFits_7 n f σ z1 = some τ → sp_GG shM X σ 4 [some (.ref (sx_ad X 0)), some (.int z1), none, none] [] 7 0 0 := by
  intro f
  induction f with
  | zero =>
    intro σ z1 hf
    rw [X12_tellFits_7] at hf
    cases hf
  | succ f ih =>
    intro σ z1 hf
    rw [X12_tellFits_7] at hf
    refine sp_iload_n (i := 1) (q := 8) hX dX12_tellFits_7 rfl rfl rfl ?_
    refine sp_aload_n (i := 0) (q := 9) hX dX12_tellFits_8 rfl rfl rfl ?_
    refine sp_gets (t := 3) (q := 12) hX flX12_33 fkX12_4 atM_0 srM_0_4 dX12_tellFits_9 rfl ?_
    refine sp_iconst (v := 2) (q := 13) hX dX12_tellFits_12 li_2 rfl ?_
    refine sp_iald (q := 14) hX arM_3 (by decide) dX12_tellFits_13 rfl ?_
    refine sp_icmp_ge (tgt := 98) (q := 17) hX dX12_tellFits_14 (by decide) rfl (fun hc => ?_) (fun hc => ?_)
    · rw [if_pos hc] at hf
      exact sp_vret hX hR dX12_tellFits_98 hf (Nat.le_of_ble_eq_true rfl) (Nat.le_of_ble_eq_true rfl)
    · rw [if_neg hc] at hf
      refine sp_aload_n (i := 0) (q := 18) hX dX12_tellFits_17 rfl rfl rfl ?_
      refine sp_gets (t := 14) (q := 21) hX flX12_70 fkX12_26 atM_0 srM_0_26 dX12_tellFits_18 rfl ?_
      refine sp_iload_n (i := 1) (q := 22) hX dX12_tellFits_21 rfl rfl rfl ?_
      obtain ⟨h1, hf⟩ := sp_ck_some hf
      refine sp_iald (q := 23) hX arM_14 h1 dX12_tellFits_22 rfl ?_
      obtain ⟨x2, e3, hf⟩ := sp_pl_some hf
      refine sp_nmi e3 ?_
      refine sp_istore_n (i := 2) (lv' := [some (.ref (sx_ad X 0)), some (.int z1), some (.int x2), none]) (q := 24) hX dX12_tellFits_23 rfl (Nat.le_of_ble_eq_true rfl) rfl rfl rfl ?_
      refine sp_iconst (v := 0) (q := 25) hX dX12_tellFits_24 li_0 rfl ?_
      obtain ⟨x4, e5, hf⟩ := sp_pl_some hf
      refine sp_nmi e5 ?_
      refine sp_istore_n (i := 3) (lv' := [some (.ref (sx_ad X 0)), some (.int z1), some (.int x2), some (.int x4)]) (q := 26) hX dX12_tellFits_25 rfl (Nat.le_of_ble_eq_true rfl) rfl rfl rfl ?_
      exact hX12_tellFits_26 hX hR ih n σ z1 x2 x4 hf
set_option maxRecDepth 100000 in
set_option maxHeartbeats 4000000 in
theorem hX12_tellFits {X : sp_X} (hX : sp_OK shM X cX12_tellFits RX12 4 rmX12_tellFits) {τ : sp_St} (hR : sp_Rv shM X τ 0 0) {n : Nat}  {σ : sp_St}   (hf : X12_tellFits n σ = some τ) : sp_GG shM X σ 4 [some (.ref (sx_ad X 0)), none, none, none] [] 0 0 0 := by
  unfold X12_tellFits at hf
  refine sp_aload_n (i := 0) (q := 1) hX dX12_tellFits_0 rfl rfl rfl ?_
  refine sp_iconst (v := 0) (q := 2) hX dX12_tellFits_1 li_0 rfl ?_
  obtain ⟨σ1, e2, hf⟩ := sp_pl_some hf
  refine sp_puti (q := 5) hX fpX12_461 fkX12_51 atM_0 dX12_tellFits_2 rfl ?_
  refine sp_nms e2 ?_
  refine sp_iconst (v := 0) (q := 6) hX dX12_tellFits_5 li_0 rfl ?_
  obtain ⟨x3, e4, hf⟩ := sp_pl_some hf
  refine sp_nmi e4 ?_
  refine sp_istore_n (i := 1) (lv' := [some (.ref (sx_ad X 0)), some (.int x3), none, none]) (q := 7) hX dX12_tellFits_6 rfl (Nat.le_of_ble_eq_true rfl) rfl rfl rfl ?_
  exact hX12_tellFits_7 hX hR n σ1 x3 hf
set_option maxRecDepth 100000 in
set_option maxHeartbeats 4000000 in
theorem cnX12_tellFits {l : Launch} (hst : l.stackTraces = false) {w : sp_Wd} {n : Nat}  {σ : sp_St}  {τ : sp_St}  (hf : X12_tellFits n σ = some τ) : sp_Cv shM l w yX12_tellFits cX12_tellFits 4 rmX12_tellFits 0 0 σ [.ref (w.2.1 0)] τ :=
  sp_cv (own := RX12) (by decide) rfl hst (Nat.le_of_ble_eq_true rfl) rfl (fun X hX hw hl hR => by subst hw; subst hl; exact hX12_tellFits hX hR   hf)
def rmX12_wrong : Room := { frames := 8, cells := 0, slots := 0, locals := 179 }
def X12_wrong_73 (n : Nat) (σ : sp_St) (zs0 : Int32) : Option (sp_St × Int32) :=
  some (σ, zs0)
def X12_wrong (n : Nat)  (σ : sp_St) (a1 : Int32) : Option (sp_St × Int32) :=
  sp_pl (sp_si σ 0 3 ((0 : Int32))) fun σ1 =>
  sp_bd (X12_isIn n σ1 a1.toInt64 ((0 : Int64)) ((2 : Int64))) fun σ4 v5 =>
  if v5 = 0 then
    sp_bd (X12_fail n σ4 ((1 : Int32))) fun σ15 v16 =>
    some (σ15, v16)
  else
    if a1 = ((2 : Int32)) then
      sp_bd (X12_isAsSeen n σ4) fun σ9 v10 =>
      sp_pl (if v10 = 0 then ((0 : Int32)) else ((1 : Int32))) fun v11 =>
      some (σ9, v11)
    else
      sp_bv (X12_tellFits n σ4) fun σ7 =>
      if a1 = 0 then
        X12_wrong_73 n σ7 (σ7.1 0 51)
      else
        if (σ7.1 0 51) = 0 then
          X12_wrong_73 n σ7 ((-1 : Int32))
        else
          X12_wrong_73 n σ7 (sp_g σ7 33 ((0 : Int32)))
set_option maxRecDepth 100000 in
set_option maxHeartbeats 4000000 in
theorem hX12_wrong_73 {X : sp_X} (hX : sp_OK shM X cX12_wrong RX12 2 rmX12_wrong) {τ : sp_St} {r : Int32} (hR : sp_Ri shM X (some .int) τ r 0 0) {n : Nat}    {σ : sp_St} {zs0 : Int32} (hf : X12_wrong_73 n σ zs0 = some (τ, r)) : sp_GG shM X σ 2 [none, none] [.int zs0] 73 0 0 := by
  unfold X12_wrong_73 at hf
  exact sp_iret hX hR dX12_wrong_73 hf (Nat.le_of_ble_eq_true rfl) (Nat.le_of_ble_eq_true rfl)
set_option maxRecDepth 100000 in
set_option maxHeartbeats 4000000 in
theorem hX12_wrong {X : sp_X} (hX : sp_OK shM X cX12_wrong RX12 2 rmX12_wrong) {τ : sp_St} {r : Int32} (hR : sp_Ri shM X (some .int) τ r 0 0) {n : Nat}  {σ : sp_St} {a1 : Int32}  (hf : X12_wrong n σ a1 = some (τ, r)) : sp_GG shM X σ 2 [some (.ref (sx_ad X 0)), some (.int a1)] [] 0 0 0 := by
  unfold X12_wrong at hf
  refine sp_aload_n (i := 0) (q := 1) hX dX12_wrong_0 rfl rfl rfl ?_
  refine sp_iconst (v := 0) (q := 2) hX dX12_wrong_1 li_0 rfl ?_
  obtain ⟨σ1, e2, hf⟩ := sp_pl_some hf
  refine sp_puti (q := 5) hX fpX12_158 fkX12_3 atM_0 dX12_wrong_2 rfl ?_
  refine sp_nms e2 ?_
  refine sp_iload_n (i := 1) (q := 6) hX dX12_wrong_5 rfl rfl rfl ?_
  refine sp_i2l (q := 7) hX dX12_wrong_6 rfl ?_
  refine sp_lconst (v := 0) (q := 8) hX dX12_wrong_7 (by decide) rfl ?_
  refine sp_ldc2 (v := 2) (q := 11) hX wd_2201 dX12_wrong_8 rfl ?_
  obtain ⟨σ4, v5, h3, hf⟩ := sp_bd_so hf
  refine sp_callSi (As := [.long a1.toInt64, .long ((0 : Int64)), .long ((2 : Int64))]) (rest := []) (q := 14) hX (cnX12_isIn (sp_st hX)  h3) cwX12_161 rfl rfl rfl rfl (Nat.le_of_ble_eq_true rfl) (Nat.le_of_ble_eq_true rfl) (Nat.le_of_ble_eq_true rfl) (Nat.le_of_ble_eq_true rfl) (Nat.le_of_ble_eq_true rfl) dX12_wrong_11 rfl ?_
  refine sp_if_ne (tgt := 23) (q := 17) hX dX12_wrong_14 (by decide) rfl (fun hc => ?_) (fun hc => ?_)
  · rw [if_neg hc] at hf
    refine sp_iload_n (i := 1) (q := 24) hX dX12_wrong_23 rfl rfl rfl ?_
    refine sp_iconst (v := 2) (q := 25) hX dX12_wrong_24 li_2 rfl ?_
    refine sp_icmp_ne (tgt := 41) (q := 28) hX dX12_wrong_25 (by decide) rfl (fun hc => ?_) (fun hc => ?_)
    · rw [if_neg hc] at hf
      refine sp_aload_n (i := 0) (q := 42) hX dX12_wrong_41 rfl rfl rfl ?_
      obtain ⟨σ7, h6, hf⟩ := sp_bv_so hf
      refine sp_callVv (As := []) (rest := []) (q := 45) hX (cnX12_tellFits (sp_st hX)  h6) cwX12_470 atM_0 rfl rfl rfl rfl rfl (Nat.le_of_ble_eq_true rfl) (Nat.le_of_ble_eq_true rfl) (Nat.le_of_ble_eq_true rfl) (Nat.le_of_ble_eq_true rfl) (Nat.le_of_ble_eq_true rfl) dX12_wrong_42 rfl ?_
      refine sp_iload_n (i := 1) (q := 46) hX dX12_wrong_45 rfl rfl rfl ?_
      refine sp_if_ne (tgt := 56) (q := 49) hX dX12_wrong_46 (by decide) rfl (fun hc => ?_) (fun hc => ?_)
      · rw [if_neg hc] at hf
        refine sp_aload_n (i := 0) (q := 57) hX dX12_wrong_56 rfl rfl rfl ?_
        refine sp_geti (q := 60) hX flX12_461 fkX12_51 atM_0 dX12_wrong_57 rfl ?_
        refine sp_if_ne (tgt := 67) (q := 63) hX dX12_wrong_60 (by decide) rfl (fun hc => ?_) (fun hc => ?_)
        · rw [if_neg hc] at hf
          refine sp_aload_n (i := 0) (q := 68) hX dX12_wrong_67 rfl rfl rfl ?_
          refine sp_gets (t := 33) (q := 71) hX flX12_128 fkX12_49 atM_0 srM_0_49 dX12_wrong_68 rfl ?_
          refine sp_iconst (v := 0) (q := 72) hX dX12_wrong_71 li_0 rfl ?_
          refine sp_iald (q := 73) hX arM_33 (by decide) dX12_wrong_72 rfl ?_
          refine sp_drop (lv' := [none, none]) trivial ?_
          exact hX12_wrong_73 hX hR hf
        · rw [if_pos hc] at hf
          refine sp_iconst (v := -1) (q := 64) hX dX12_wrong_63 li_m1 rfl ?_
          refine sp_goto (tgt := 73) hX dX12_wrong_64 (by decide) ?_
          refine sp_drop (lv' := [none, none]) trivial ?_
          exact hX12_wrong_73 hX hR hf
      · rw [if_pos hc] at hf
        refine sp_aload_n (i := 0) (q := 50) hX dX12_wrong_49 rfl rfl rfl ?_
        refine sp_geti (q := 53) hX flX12_461 fkX12_51 atM_0 dX12_wrong_50 rfl ?_
        refine sp_goto (tgt := 73) hX dX12_wrong_53 (by decide) ?_
        refine sp_drop (lv' := [none, none]) trivial ?_
        exact hX12_wrong_73 hX hR hf
    · rw [if_pos hc] at hf
      refine sp_aload_n (i := 0) (q := 29) hX dX12_wrong_28 rfl rfl rfl ?_
      obtain ⟨σ9, v10, h8, hf⟩ := sp_bd_so hf
      refine sp_callVi (As := []) (rest := []) (q := 32) hX (cnX12_isAsSeen (sp_st hX)  h8) cwX12_464 atM_0 rfl rfl rfl rfl rfl (Nat.le_of_ble_eq_true rfl) (Nat.le_of_ble_eq_true rfl) (Nat.le_of_ble_eq_true rfl) (Nat.le_of_ble_eq_true rfl) (Nat.le_of_ble_eq_true rfl) dX12_wrong_29 rfl ?_
      obtain ⟨v11, e12, hf⟩ := sp_pl_some hf
      have hj13 : sp_GG shM X σ9 2 [some (.ref (sx_ad X 0)), some (.int a1)] [.int v11] 40 0 0 := by
        exact sp_iret hX hR dX12_wrong_40 hf (Nat.le_of_ble_eq_true rfl) (Nat.le_of_ble_eq_true rfl)
      refine sp_if_eq (tgt := 39) (q := 35) hX dX12_wrong_32 (by decide) rfl (fun hc => ?_) (fun hc => ?_)
      · refine sp_iconst (v := 0) (q := 40) hX dX12_wrong_39 li_0 rfl ?_
        exact sp_nmi (by rw [e12, if_pos hc]) hj13
      · refine sp_iconst (v := 1) (q := 36) hX dX12_wrong_35 li_1 rfl ?_
        refine sp_goto (tgt := 40) hX dX12_wrong_36 (by decide) ?_
        exact sp_nmi (by rw [e12, if_neg hc]) hj13
  · rw [if_pos hc] at hf
    refine sp_aload_n (i := 0) (q := 18) hX dX12_wrong_17 rfl rfl rfl ?_
    refine sp_iconst (v := 1) (q := 19) hX dX12_wrong_18 li_1 rfl ?_
    obtain ⟨σ15, v16, h14, hf⟩ := sp_bd_so hf
    refine sp_callVi (As := [.int ((1 : Int32))]) (rest := []) (q := 22) hX (cnX12_fail (sp_st hX)  h14) cwX12_312 atM_0 rfl rfl rfl rfl rfl (Nat.le_of_ble_eq_true rfl) (Nat.le_of_ble_eq_true rfl) (Nat.le_of_ble_eq_true rfl) (Nat.le_of_ble_eq_true rfl) (Nat.le_of_ble_eq_true rfl) dX12_wrong_19 rfl ?_
    exact sp_iret hX hR dX12_wrong_22 hf (Nat.le_of_ble_eq_true rfl) (Nat.le_of_ble_eq_true rfl)
set_option maxRecDepth 100000 in
set_option maxHeartbeats 4000000 in
theorem cnX12_wrong {l : Launch} (hst : l.stackTraces = false) {w : sp_Wd} {n : Nat}  {σ : sp_St} {a1 : Int32} {τ : sp_St} {r : Int32}  (hf : X12_wrong n σ a1 = some (τ, r)) : sp_Ci shM l w yX12_wrong cX12_wrong 2 (some .int) rmX12_wrong 0 0 σ [.ref (w.2.1 0), .int a1] τ r :=
  sp_ci (own := RX12) (by decide) rfl hst (Nat.le_of_ble_eq_true rfl) rfl (fun X hX hw hl hR => by subst hw; subst hl; exact hX12_wrong hX hR   hf)
