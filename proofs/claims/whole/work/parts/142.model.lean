def rmX12_thrown : Room := { frames := 0, cells := 0, slots := 0, locals := 0 }
def X12_thrown (n : Nat)  (σ : sp_St)  : Option (sp_St × Int32) :=
  some (σ, σ.1 0 3)
set_option maxRecDepth 100000 in
set_option maxHeartbeats 4000000 in
theorem hX12_thrown {X : sp_X} (hX : sp_OK shM X cX12_thrown RX12 1 rmX12_thrown) {τ : sp_St} {r : Int32} (hR : sp_Ri shM X (some .int) τ r 0 0) {n : Nat}  {σ : sp_St}   (hf : X12_thrown n σ = some (τ, r)) : sp_GG shM X σ 1 [some (.ref (sx_ad X 0))] [] 0 0 0 := by
  unfold X12_thrown at hf
  refine sp_aload_n (i := 0) (q := 1) hX dX12_thrown_0 rfl rfl rfl ?_
  refine sp_geti (q := 4) hX flX12_158 fkX12_3 atM_0 dX12_thrown_1 rfl ?_
  exact sp_iret hX hR dX12_thrown_4 hf (Nat.le_of_ble_eq_true rfl) (Nat.le_of_ble_eq_true rfl)
set_option maxRecDepth 100000 in
set_option maxHeartbeats 4000000 in
theorem cnX12_thrown {l : Launch} (hst : l.stackTraces = false) {w : sp_Wd} {n : Nat}  {σ : sp_St}  {τ : sp_St} {r : Int32}  (hf : X12_thrown n σ = some (τ, r)) : sp_Ci shM l w yX12_thrown cX12_thrown 1 (some .int) rmX12_thrown 0 0 σ [.ref (w.2.1 0)] τ r :=
  sp_ci (own := RX12) (by decide) rfl hst (Nat.le_of_ble_eq_true rfl) rfl (fun X hX hw hl hR => by subst hw; subst hl; exact hX12_thrown hX hR   hf)
def rmX12_fail : Room := { frames := 0, cells := 0, slots := 0, locals := 0 }
def X12_fail (n : Nat)  (σ : sp_St) (a1 : Int32) : Option (sp_St × Int32) :=
  sp_pl (sp_si σ 0 3 a1) fun σ1 =>
  some (σ1, (0 : Int32))
set_option maxRecDepth 100000 in
set_option maxHeartbeats 4000000 in
theorem hX12_fail {X : sp_X} (hX : sp_OK shM X cX12_fail RX12 2 rmX12_fail) {τ : sp_St} {r : Int32} (hR : sp_Ri shM X (some .int) τ r 0 0) {n : Nat}  {σ : sp_St} {a1 : Int32}  (hf : X12_fail n σ a1 = some (τ, r)) : sp_GG shM X σ 2 [some (.ref (sx_ad X 0)), some (.int a1)] [] 0 0 0 := by
  unfold X12_fail at hf
  refine sp_aload_n (i := 0) (q := 1) hX dX12_fail_0 rfl rfl rfl ?_
  refine sp_iload_n (i := 1) (q := 2) hX dX12_fail_1 rfl rfl rfl ?_
  obtain ⟨σ1, e2, hf⟩ := sp_pl_some hf
  refine sp_puti (q := 5) hX fpX12_158 fkX12_3 atM_0 dX12_fail_2 rfl ?_
  refine sp_nms e2 ?_
  refine sp_iconst (v := 0) (q := 6) hX dX12_fail_5 li_0 rfl ?_
  exact sp_iret hX hR dX12_fail_6 hf (Nat.le_of_ble_eq_true rfl) (Nat.le_of_ble_eq_true rfl)
set_option maxRecDepth 100000 in
set_option maxHeartbeats 4000000 in
theorem cnX12_fail {l : Launch} (hst : l.stackTraces = false) {w : sp_Wd} {n : Nat}  {σ : sp_St} {a1 : Int32} {τ : sp_St} {r : Int32}  (hf : X12_fail n σ a1 = some (τ, r)) : sp_Ci shM l w yX12_fail cX12_fail 2 (some .int) rmX12_fail 0 0 σ [.ref (w.2.1 0), .int a1] τ r :=
  sp_ci (own := RX12) (by decide) rfl hst (Nat.le_of_ble_eq_true rfl) rfl (fun X hX hw hl hR => by subst hw; subst hl; exact hX12_fail hX hR   hf)
def rmX12_failing : Room := { frames := 0, cells := 0, slots := 0, locals := 0 }
def X12_failing (n : Nat)  (σ : sp_St) (a1 : Int32) : Option (sp_St × Int32) :=
  sp_pl (sp_si σ 0 3 a1) fun σ1 =>
  some (σ1, (0 : Int32))
set_option maxRecDepth 100000 in
set_option maxHeartbeats 4000000 in
theorem hX12_failing {X : sp_X} (hX : sp_OK shM X cX12_failing RX12 2 rmX12_failing) {τ : sp_St} {r : Int32} (hR : sp_Ri shM X (some .boolean) τ r 0 0) {n : Nat}  {σ : sp_St} {a1 : Int32}  (hf : X12_failing n σ a1 = some (τ, r)) : sp_GG shM X σ 2 [some (.ref (sx_ad X 0)), some (.int a1)] [] 0 0 0 := by
  unfold X12_failing at hf
  refine sp_aload_n (i := 0) (q := 1) hX dX12_failing_0 rfl rfl rfl ?_
  refine sp_iload_n (i := 1) (q := 2) hX dX12_failing_1 rfl rfl rfl ?_
  obtain ⟨σ1, e2, hf⟩ := sp_pl_some hf
  refine sp_puti (q := 5) hX fpX12_158 fkX12_3 atM_0 dX12_failing_2 rfl ?_
  refine sp_nms e2 ?_
  refine sp_iconst (v := 0) (q := 6) hX dX12_failing_5 li_0 rfl ?_
  exact sp_zret hX hR (by decide) dX12_failing_6 hf (Nat.le_of_ble_eq_true rfl) (Nat.le_of_ble_eq_true rfl)
set_option maxRecDepth 100000 in
set_option maxHeartbeats 4000000 in
theorem cnX12_failing {l : Launch} (hst : l.stackTraces = false) {w : sp_Wd} {n : Nat}  {σ : sp_St} {a1 : Int32} {τ : sp_St} {r : Int32}  (hf : X12_failing n σ a1 = some (τ, r)) : sp_Ci shM l w yX12_failing cX12_failing 2 (some .boolean) rmX12_failing 0 0 σ [.ref (w.2.1 0), .int a1] τ r :=
  sp_ci (own := RX12) (by decide) rfl hst (Nat.le_of_ble_eq_true rfl) rfl (fun X hX hw hl hR => by subst hw; subst hl; exact hX12_failing hX hR   hf)
def rmX12_isIn : Room := { frames := 0, cells := 0, slots := 0, locals := 0 }
def X12_isIn_18 (n : Nat) (σ : sp_St) (zs0 : Int32) : Option (sp_St × Int32) :=
  sp_ck (sp_zb zs0) <|
  some (σ, zs0)
def X12_isIn_17 (n : Nat) (σ : sp_St) : Option (sp_St × Int32) :=
  X12_isIn_18 n σ ((0 : Int32))
def X12_isIn (n : Nat)  (σ : sp_St) (a0 : Int64) (a2 : Int64) (a4 : Int64) : Option (sp_St × Int32) :=
  if (lg_cmp a0 a2) < 0 then
    X12_isIn_17 n σ
  else
    if 0 < (lg_cmp a0 a4) then
      X12_isIn_17 n σ
    else
      X12_isIn_18 n σ ((1 : Int32))
set_option maxRecDepth 100000 in
set_option maxHeartbeats 4000000 in
theorem hX12_isIn_18 {X : sp_X} (hX : sp_OK shM X cX12_isIn RX12 6 rmX12_isIn) {τ : sp_St} {r : Int32} (hR : sp_Ri shM X (some .boolean) τ r 0 0) {n : Nat}    {σ : sp_St} {zs0 : Int32} (hf : X12_isIn_18 n σ zs0 = some (τ, r)) : sp_GG shM X σ 6 [none, none, none, none, none, none] [.int zs0] 18 0 0 := by
  unfold X12_isIn_18 at hf
  obtain ⟨h1, hf⟩ := sp_ck_some hf
  exact sp_zret hX hR h1 dX12_isIn_18 hf (Nat.le_of_ble_eq_true rfl) (Nat.le_of_ble_eq_true rfl)
set_option maxRecDepth 100000 in
set_option maxHeartbeats 4000000 in
theorem hX12_isIn_17 {X : sp_X} (hX : sp_OK shM X cX12_isIn RX12 6 rmX12_isIn) {τ : sp_St} {r : Int32} (hR : sp_Ri shM X (some .boolean) τ r 0 0) {n : Nat}    {σ : sp_St} (hf : X12_isIn_17 n σ = some (τ, r)) : sp_GG shM X σ 6 [none, none, none, none, none, none] [] 17 0 0 := by
  unfold X12_isIn_17 at hf
  refine sp_iconst (v := 0) (q := 18) hX dX12_isIn_17 li_0 rfl ?_
  exact hX12_isIn_18 hX hR hf
set_option maxRecDepth 100000 in
set_option maxHeartbeats 4000000 in
theorem hX12_isIn {X : sp_X} (hX : sp_OK shM X cX12_isIn RX12 6 rmX12_isIn) {τ : sp_St} {r : Int32} (hR : sp_Ri shM X (some .boolean) τ r 0 0) {n : Nat}  {σ : sp_St} {a0 : Int64} {a2 : Int64} {a4 : Int64}  (hf : X12_isIn n σ a0 a2 a4 = some (τ, r)) : sp_GG shM X σ 6 [some (.long a0), none, some (.long a2), none, some (.long a4), none] [] 0 0 0 := by
  unfold X12_isIn at hf
  refine sp_lload_n (i := 0) (q := 1) hX dX12_isIn_0 rfl rfl rfl ?_
  refine sp_lload_n (i := 2) (q := 2) hX dX12_isIn_1 rfl rfl rfl ?_
  refine sp_lcmp (q := 3) hX dX12_isIn_2 rfl ?_
  refine sp_if_lt (tgt := 17) (q := 6) hX dX12_isIn_3 (by decide) rfl (fun hc => ?_) (fun hc => ?_)
  · rw [if_pos hc] at hf
    refine sp_drop (lv' := [none, none, none, none, none, none]) trivial ?_
    exact hX12_isIn_17 hX hR hf
  · rw [if_neg hc] at hf
    refine sp_lload_n (i := 0) (q := 7) hX dX12_isIn_6 rfl rfl rfl ?_
    refine sp_lload (i := 4) (q := 9) hX dX12_isIn_7 rfl rfl ?_
    refine sp_lcmp (q := 10) hX dX12_isIn_9 rfl ?_
    refine sp_if_gt (tgt := 17) (q := 13) hX dX12_isIn_10 (by decide) rfl (fun hc => ?_) (fun hc => ?_)
    · rw [if_pos hc] at hf
      refine sp_drop (lv' := [none, none, none, none, none, none]) trivial ?_
      exact hX12_isIn_17 hX hR hf
    · rw [if_neg hc] at hf
      refine sp_iconst (v := 1) (q := 14) hX dX12_isIn_13 li_1 rfl ?_
      refine sp_goto (tgt := 18) hX dX12_isIn_14 (by decide) ?_
      refine sp_drop (lv' := [none, none, none, none, none, none]) trivial ?_
      exact hX12_isIn_18 hX hR hf
set_option maxRecDepth 100000 in
set_option maxHeartbeats 4000000 in
theorem cnX12_isIn {l : Launch} (hst : l.stackTraces = false) {w : sp_Wd} {n : Nat}  {σ : sp_St} {a0 : Int64} {a2 : Int64} {a4 : Int64} {τ : sp_St} {r : Int32}  (hf : X12_isIn n σ a0 a2 a4 = some (τ, r)) : sp_Ci shM l w yX12_isIn cX12_isIn 6 (some .boolean) rmX12_isIn 0 0 σ [.long a0, .long a2, .long a4] τ r :=
  sp_ci (own := RX12) (by decide) rfl hst (Nat.le_of_ble_eq_true rfl) rfl (fun X hX hw hl hR => by subst hw; subst hl; exact hX12_isIn hX hR   hf)
def rmX12_isOf : Room := { frames := 0, cells := 0, slots := 0, locals := 0 }
def X12_isOf (n : Nat)  (σ : sp_St) (a0 : Int32) (a1 : Int32) : Option (sp_St × Int32) :=
  sp_pl (if ((a0 >>> (a1 &&& 31)) &&& ((1 : Int32))) = ((1 : Int32)) then ((1 : Int32)) else ((0 : Int32))) fun v1 =>
  sp_ck (sp_zb v1) <|
  some (σ, v1)
set_option maxRecDepth 100000 in
set_option maxHeartbeats 4000000 in
theorem hX12_isOf {X : sp_X} (hX : sp_OK shM X cX12_isOf RX12 2 rmX12_isOf) {τ : sp_St} {r : Int32} (hR : sp_Ri shM X (some .boolean) τ r 0 0) {n : Nat}  {σ : sp_St} {a0 : Int32} {a1 : Int32}  (hf : X12_isOf n σ a0 a1 = some (τ, r)) : sp_GG shM X σ 2 [some (.int a0), some (.int a1)] [] 0 0 0 := by
  unfold X12_isOf at hf
  refine sp_iload_n (i := 0) (q := 1) hX dX12_isOf_0 rfl rfl rfl ?_
  refine sp_iload_n (i := 1) (q := 2) hX dX12_isOf_1 rfl rfl rfl ?_
  refine sp_ishr (q := 3) hX dX12_isOf_2 rfl ?_
  refine sp_iconst (v := 1) (q := 4) hX dX12_isOf_3 li_1 rfl ?_
  refine sp_iand (q := 5) hX dX12_isOf_4 rfl ?_
  refine sp_iconst (v := 1) (q := 6) hX dX12_isOf_5 li_1 rfl ?_
  obtain ⟨v1, e2, hf⟩ := sp_pl_some hf
  have hj4 : sp_GG shM X σ 2 [some (.int a0), some (.int a1)] [.int v1] 14 0 0 := by
    obtain ⟨h3, hf⟩ := sp_ck_some hf
    exact sp_zret hX hR h3 dX12_isOf_14 hf (Nat.le_of_ble_eq_true rfl) (Nat.le_of_ble_eq_true rfl)
  refine sp_icmp_ne (tgt := 13) (q := 9) hX dX12_isOf_6 (by decide) rfl (fun hc => ?_) (fun hc => ?_)
  · refine sp_iconst (v := 0) (q := 14) hX dX12_isOf_13 li_0 rfl ?_
    exact sp_nmi (by rw [e2, if_neg hc]) hj4
  · refine sp_iconst (v := 1) (q := 10) hX dX12_isOf_9 li_1 rfl ?_
    refine sp_goto (tgt := 14) hX dX12_isOf_10 (by decide) ?_
    exact sp_nmi (by rw [e2, if_pos hc]) hj4
set_option maxRecDepth 100000 in
set_option maxHeartbeats 4000000 in
theorem cnX12_isOf {l : Launch} (hst : l.stackTraces = false) {w : sp_Wd} {n : Nat}  {σ : sp_St} {a0 : Int32} {a1 : Int32} {τ : sp_St} {r : Int32}  (hf : X12_isOf n σ a0 a1 = some (τ, r)) : sp_Ci shM l w yX12_isOf cX12_isOf 2 (some .boolean) rmX12_isOf 0 0 σ [.int a0, .int a1] τ r :=
  sp_ci (own := RX12) (by decide) rfl hst (Nat.le_of_ble_eq_true rfl) rfl (fun X hX hw hl hR => by subst hw; subst hl; exact hX12_isOf hX hR   hf)
def rmX12_bitsOf : Room := { frames := 0, cells := 0, slots := 0, locals := 0 }
def X12_bitsOf_20 (n : Nat) (σ : sp_St) (z1 : Int32) : Option (sp_St × Int32) :=
  some (σ, z1)
def X12_bitsOf_4 (n : Nat) : Nat → sp_St → Int32 → Int32 → Option (sp_St × Int32)
  | 0, _, _, _ => none
  | f + 1, σ, z1, z2 =>
    if z2 = 0 then
      X12_bitsOf_20 n σ z1
    else
      sp_pl (z1 + 1) fun x1 =>
      sp_pl (z2 &&& (z2 - ((1 : Int32)))) fun x3 =>
      X12_bitsOf_4 n f σ x1 x3
def X12_bitsOf (n : Nat)  (σ : sp_St) (a0 : Int32) : Option (sp_St × Int32) :=
  sp_pl ((0 : Int32)) fun x1 =>
  X12_bitsOf_4 n n σ x1 a0
set_option maxRecDepth 100000 in
set_option maxHeartbeats 4000000 in
theorem hX12_bitsOf_20 {X : sp_X} (hX : sp_OK shM X cX12_bitsOf RX12 3 rmX12_bitsOf) {τ : sp_St} {r : Int32} (hR : sp_Ri shM X (some .int) τ r 0 0) {n : Nat}    {σ : sp_St} {z1 : Int32} (hf : X12_bitsOf_20 n σ z1 = some (τ, r)) : sp_GG shM X σ 3 [none, some (.int z1), none] [] 20 0 0 := by
  unfold X12_bitsOf_20 at hf
  refine sp_iload_n (i := 1) (q := 21) hX dX12_bitsOf_20 rfl rfl rfl ?_
  exact sp_iret hX hR dX12_bitsOf_21 hf (Nat.le_of_ble_eq_true rfl) (Nat.le_of_ble_eq_true rfl)
set_option maxRecDepth 100000 in
set_option maxHeartbeats 4000000 in
theorem hX12_bitsOf_4 {X : sp_X} (hX : sp_OK shM X cX12_bitsOf RX12 3 rmX12_bitsOf) {τ : sp_St} {r : Int32} (hR : sp_Ri shM X (some .int) τ r 0 0) {n : Nat}    : ∀ (f : Nat) (σ : sp_St) (z1 : Int32) (z2 : Int32), X12_bitsOf_4 n f σ z1 z2 = some (τ, r) → sp_GG shM X σ 3 [none, some (.int z1), some (.int z2)] [] 4 0 0 := by
  intro f
  induction f with
  | zero =>
    intro σ z1 z2 hf
    rw [X12_bitsOf_4] at hf
    cases hf
  | succ f ih =>
    intro σ z1 z2 hf
    rw [X12_bitsOf_4] at hf
    refine sp_iload_n (i := 2) (q := 5) hX dX12_bitsOf_4 rfl rfl rfl ?_
    refine sp_if_eq (tgt := 20) (q := 8) hX dX12_bitsOf_5 (by decide) rfl (fun hc => ?_) (fun hc => ?_)
    · rw [if_pos hc] at hf
      refine sp_drop (lv' := [none, some (.int z1), none]) (And.intro rfl trivial) ?_
      exact hX12_bitsOf_20 hX hR hf
    · rw [if_neg hc] at hf
      obtain ⟨x1, e2, hf⟩ := sp_pl_some hf
      refine sp_iinc (i := 1) (v := x1) (lv' := [none, some (.int x1), some (.int z2)]) (q := 11) hX dX12_bitsOf_8 rfl (by rw [e2, li_1]) (Nat.le_of_ble_eq_true rfl) rfl rfl rfl ?_
      refine sp_iload_n (i := 2) (q := 12) hX dX12_bitsOf_11 rfl rfl rfl ?_
      refine sp_iload_n (i := 2) (q := 13) hX dX12_bitsOf_12 rfl rfl rfl ?_
      refine sp_iconst (v := 1) (q := 14) hX dX12_bitsOf_13 li_1 rfl ?_
      refine sp_isub (q := 15) hX dX12_bitsOf_14 rfl ?_
      refine sp_iand (q := 16) hX dX12_bitsOf_15 rfl ?_
      obtain ⟨x3, e4, hf⟩ := sp_pl_some hf
      refine sp_nmi e4 ?_
      refine sp_istore_n (i := 2) (lv' := [none, some (.int x1), some (.int x3)]) (q := 17) hX dX12_bitsOf_16 rfl (Nat.le_of_ble_eq_true rfl) rfl rfl rfl ?_
      refine sp_goto (tgt := 4) hX dX12_bitsOf_17 (by decide) ?_
      exact ih σ x1 x3 hf
set_option maxRecDepth 100000 in
set_option maxHeartbeats 4000000 in
theorem hX12_bitsOf {X : sp_X} (hX : sp_OK shM X cX12_bitsOf RX12 3 rmX12_bitsOf) {τ : sp_St} {r : Int32} (hR : sp_Ri shM X (some .int) τ r 0 0) {n : Nat}  {σ : sp_St} {a0 : Int32}  (hf : X12_bitsOf n σ a0 = some (τ, r)) : sp_GG shM X σ 3 [some (.int a0), none, none] [] 0 0 0 := by
  unfold X12_bitsOf at hf
  refine sp_iconst (v := 0) (q := 1) hX dX12_bitsOf_0 li_0 rfl ?_
  obtain ⟨x1, e2, hf⟩ := sp_pl_some hf
  refine sp_nmi e2 ?_
  refine sp_istore_n (i := 1) (lv' := [some (.int a0), some (.int x1), none]) (q := 2) hX dX12_bitsOf_1 rfl (Nat.le_of_ble_eq_true rfl) rfl rfl rfl ?_
  refine sp_iload_n (i := 0) (q := 3) hX dX12_bitsOf_2 rfl rfl rfl ?_
  refine sp_istore_n (i := 2) (lv' := [some (.int a0), some (.int x1), some (.int a0)]) (q := 4) hX dX12_bitsOf_3 rfl (Nat.le_of_ble_eq_true rfl) rfl rfl rfl ?_
  refine sp_drop (lv' := [none, some (.int x1), some (.int a0)]) (And.intro rfl (And.intro rfl trivial)) ?_
  exact hX12_bitsOf_4 hX hR n σ x1 a0 hf
set_option maxRecDepth 100000 in
set_option maxHeartbeats 4000000 in
theorem cnX12_bitsOf {l : Launch} (hst : l.stackTraces = false) {w : sp_Wd} {n : Nat}  {σ : sp_St} {a0 : Int32} {τ : sp_St} {r : Int32}  (hf : X12_bitsOf n σ a0 = some (τ, r)) : sp_Ci shM l w yX12_bitsOf cX12_bitsOf 3 (some .int) rmX12_bitsOf 0 0 σ [.int a0] τ r :=
  sp_ci (own := RX12) (by decide) rfl hst (Nat.le_of_ble_eq_true rfl) rfl (fun X hX hw hl hR => by subst hw; subst hl; exact hX12_bitsOf hX hR   hf)
def rmX12_isBlade : Room := { frames := 1, cells := 0, slots := 0, locals := 25 }
def X12_isBlade (n : Nat)  (σ : sp_St) (a1 : Int32) : Option (sp_St × Int32) :=
  sp_bd (X12_isIn n σ a1.toInt64 ((0 : Int64)) (((sp_g σ 3 ((2 : Int32))) - ((1 : Int32))).toInt64)) fun σ2 v3 =>
  sp_ck (sp_zb v3) <|
  some (σ2, v3)
set_option maxRecDepth 100000 in
set_option maxHeartbeats 4000000 in
theorem hX12_isBlade {X : sp_X} (hX : sp_OK shM X cX12_isBlade RX12 2 rmX12_isBlade) {τ : sp_St} {r : Int32} (hR : sp_Ri shM X (some .boolean) τ r 0 0) {n : Nat}  {σ : sp_St} {a1 : Int32}  (hf : X12_isBlade n σ a1 = some (τ, r)) : sp_GG shM X σ 2 [some (.ref (sx_ad X 0)), some (.int a1)] [] 0 0 0 := by
  unfold X12_isBlade at hf
  refine sp_iload_n (i := 1) (q := 1) hX dX12_isBlade_0 rfl rfl rfl ?_
  refine sp_i2l (q := 2) hX dX12_isBlade_1 rfl ?_
  refine sp_lconst (v := 0) (q := 3) hX dX12_isBlade_2 (by decide) rfl ?_
  refine sp_aload_n (i := 0) (q := 4) hX dX12_isBlade_3 rfl rfl rfl ?_
  refine sp_gets (t := 3) (q := 7) hX flX12_33 fkX12_4 atM_0 srM_0_4 dX12_isBlade_4 rfl ?_
  refine sp_iconst (v := 2) (q := 8) hX dX12_isBlade_7 li_2 rfl ?_
  refine sp_iald (q := 9) hX arM_3 (by decide) dX12_isBlade_8 rfl ?_
  refine sp_iconst (v := 1) (q := 10) hX dX12_isBlade_9 li_1 rfl ?_
  refine sp_isub (q := 11) hX dX12_isBlade_10 rfl ?_
  refine sp_i2l (q := 12) hX dX12_isBlade_11 rfl ?_
  obtain ⟨σ2, v3, h1, hf⟩ := sp_bd_so hf
  refine sp_callSi (As := [.long a1.toInt64, .long ((0 : Int64)), .long (((sp_g σ 3 ((2 : Int32))) - ((1 : Int32))).toInt64)]) (rest := []) (q := 15) hX (cnX12_isIn (sp_st hX)  h1) cwX12_161 rfl rfl rfl rfl (Nat.le_of_ble_eq_true rfl) (Nat.le_of_ble_eq_true rfl) (Nat.le_of_ble_eq_true rfl) (Nat.le_of_ble_eq_true rfl) (Nat.le_of_ble_eq_true rfl) dX12_isBlade_12 rfl ?_
  obtain ⟨h4, hf⟩ := sp_ck_some hf
  exact sp_zret hX hR h4 dX12_isBlade_15 hf (Nat.le_of_ble_eq_true rfl) (Nat.le_of_ble_eq_true rfl)
set_option maxRecDepth 100000 in
set_option maxHeartbeats 4000000 in
theorem cnX12_isBlade {l : Launch} (hst : l.stackTraces = false) {w : sp_Wd} {n : Nat}  {σ : sp_St} {a1 : Int32} {τ : sp_St} {r : Int32}  (hf : X12_isBlade n σ a1 = some (τ, r)) : sp_Ci shM l w yX12_isBlade cX12_isBlade 2 (some .boolean) rmX12_isBlade 0 0 σ [.ref (w.2.1 0), .int a1] τ r :=
  sp_ci (own := RX12) (by decide) rfl hst (Nat.le_of_ble_eq_true rfl) rfl (fun X hX hw hl hR => by subst hw; subst hl; exact hX12_isBlade hX hR   hf)
def rmX12_isThroat : Room := { frames := 1, cells := 0, slots := 0, locals := 25 }
def X12_isThroat (n : Nat)  (σ : sp_St) (a1 : Int32) : Option (sp_St × Int32) :=
  sp_bd (X12_isIn n σ a1.toInt64 ((0 : Int64)) (((sp_g σ 3 ((1 : Int32))) - ((1 : Int32))).toInt64)) fun σ2 v3 =>
  sp_ck (sp_zb v3) <|
  some (σ2, v3)
set_option maxRecDepth 100000 in
set_option maxHeartbeats 4000000 in
theorem hX12_isThroat {X : sp_X} (hX : sp_OK shM X cX12_isThroat RX12 2 rmX12_isThroat) {τ : sp_St} {r : Int32} (hR : sp_Ri shM X (some .boolean) τ r 0 0) {n : Nat}  {σ : sp_St} {a1 : Int32}  (hf : X12_isThroat n σ a1 = some (τ, r)) : sp_GG shM X σ 2 [some (.ref (sx_ad X 0)), some (.int a1)] [] 0 0 0 := by
  unfold X12_isThroat at hf
  refine sp_iload_n (i := 1) (q := 1) hX dX12_isThroat_0 rfl rfl rfl ?_
  refine sp_i2l (q := 2) hX dX12_isThroat_1 rfl ?_
  refine sp_lconst (v := 0) (q := 3) hX dX12_isThroat_2 (by decide) rfl ?_
  refine sp_aload_n (i := 0) (q := 4) hX dX12_isThroat_3 rfl rfl rfl ?_
  refine sp_gets (t := 3) (q := 7) hX flX12_33 fkX12_4 atM_0 srM_0_4 dX12_isThroat_4 rfl ?_
  refine sp_iconst (v := 1) (q := 8) hX dX12_isThroat_7 li_1 rfl ?_
  refine sp_iald (q := 9) hX arM_3 (by decide) dX12_isThroat_8 rfl ?_
  refine sp_iconst (v := 1) (q := 10) hX dX12_isThroat_9 li_1 rfl ?_
  refine sp_isub (q := 11) hX dX12_isThroat_10 rfl ?_
  refine sp_i2l (q := 12) hX dX12_isThroat_11 rfl ?_
  obtain ⟨σ2, v3, h1, hf⟩ := sp_bd_so hf
  refine sp_callSi (As := [.long a1.toInt64, .long ((0 : Int64)), .long (((sp_g σ 3 ((1 : Int32))) - ((1 : Int32))).toInt64)]) (rest := []) (q := 15) hX (cnX12_isIn (sp_st hX)  h1) cwX12_161 rfl rfl rfl rfl (Nat.le_of_ble_eq_true rfl) (Nat.le_of_ble_eq_true rfl) (Nat.le_of_ble_eq_true rfl) (Nat.le_of_ble_eq_true rfl) (Nat.le_of_ble_eq_true rfl) dX12_isThroat_12 rfl ?_
  obtain ⟨h4, hf⟩ := sp_ck_some hf
  exact sp_zret hX hR h4 dX12_isThroat_15 hf (Nat.le_of_ble_eq_true rfl) (Nat.le_of_ble_eq_true rfl)
set_option maxRecDepth 100000 in
set_option maxHeartbeats 4000000 in
theorem cnX12_isThroat {l : Launch} (hst : l.stackTraces = false) {w : sp_Wd} {n : Nat}  {σ : sp_St} {a1 : Int32} {τ : sp_St} {r : Int32}  (hf : X12_isThroat n σ a1 = some (τ, r)) : sp_Ci shM l w yX12_isThroat cX12_isThroat 2 (some .boolean) rmX12_isThroat 0 0 σ [.ref (w.2.1 0), .int a1] τ r :=
  sp_ci (own := RX12) (by decide) rfl hst (Nat.le_of_ble_eq_true rfl) rfl (fun X hX hw hl hR => by subst hw; subst hl; exact hX12_isThroat hX hR   hf)
def rmX12_isHouse : Room := { frames := 1, cells := 0, slots := 0, locals := 25 }
def X12_isHouse (n : Nat)  (σ : sp_St) (a0 : Int32) : Option (sp_St × Int32) :=
  sp_bd (X12_isIn n σ a0.toInt64 ((0 : Int64)) ((5 : Int64))) fun σ2 v3 =>
  sp_ck (sp_zb v3) <|
  some (σ2, v3)
set_option maxRecDepth 100000 in
set_option maxHeartbeats 4000000 in
theorem hX12_isHouse {X : sp_X} (hX : sp_OK shM X cX12_isHouse RX12 1 rmX12_isHouse) {τ : sp_St} {r : Int32} (hR : sp_Ri shM X (some .boolean) τ r 0 0) {n : Nat}  {σ : sp_St} {a0 : Int32}  (hf : X12_isHouse n σ a0 = some (τ, r)) : sp_GG shM X σ 1 [some (.int a0)] [] 0 0 0 := by
  unfold X12_isHouse at hf
  refine sp_iload_n (i := 0) (q := 1) hX dX12_isHouse_0 rfl rfl rfl ?_
  refine sp_i2l (q := 2) hX dX12_isHouse_1 rfl ?_
  refine sp_lconst (v := 0) (q := 3) hX dX12_isHouse_2 (by decide) rfl ?_
  refine sp_ldc2 (v := 5) (q := 6) hX wd_2019 dX12_isHouse_3 rfl ?_
  obtain ⟨σ2, v3, h1, hf⟩ := sp_bd_so hf
  refine sp_callSi (As := [.long a0.toInt64, .long ((0 : Int64)), .long ((5 : Int64))]) (rest := []) (q := 9) hX (cnX12_isIn (sp_st hX)  h1) cwX12_161 rfl rfl rfl rfl (Nat.le_of_ble_eq_true rfl) (Nat.le_of_ble_eq_true rfl) (Nat.le_of_ble_eq_true rfl) (Nat.le_of_ble_eq_true rfl) (Nat.le_of_ble_eq_true rfl) dX12_isHouse_6 rfl ?_
  obtain ⟨h4, hf⟩ := sp_ck_some hf
  exact sp_zret hX hR h4 dX12_isHouse_9 hf (Nat.le_of_ble_eq_true rfl) (Nat.le_of_ble_eq_true rfl)
set_option maxRecDepth 100000 in
set_option maxHeartbeats 4000000 in
theorem cnX12_isHouse {l : Launch} (hst : l.stackTraces = false) {w : sp_Wd} {n : Nat}  {σ : sp_St} {a0 : Int32} {τ : sp_St} {r : Int32}  (hf : X12_isHouse n σ a0 = some (τ, r)) : sp_Ci shM l w yX12_isHouse cX12_isHouse 1 (some .boolean) rmX12_isHouse 0 0 σ [.int a0] τ r :=
  sp_ci (own := RX12) (by decide) rfl hst (Nat.le_of_ble_eq_true rfl) rfl (fun X hX hw hl hR => by subst hw; subst hl; exact hX12_isHouse hX hR   hf)
def rmX12_feed : Room := { frames := 0, cells := 0, slots := 0, locals := 0 }
def X12_feed_120 (n : Nat) (σ : sp_St) : Option (sp_St × Int32) :=
  some (σ, σ.1 0 15)
def X12_feed_76 (n : Nat) (k23 : sp_St → Int32 → Int32 → Int32 → Int32 → Int32 → Int32 → Option (sp_St × Int32)) (σ : sp_St) (z1 : Int32) (z2 : Int32) (z3 : Int32) (z4 : Int32) (z5 : Int32) (z6 : Int32) (zs0 : Int32) : Option (sp_St × Int32) :=
  sp_ck (!decide (((4 : Int32)) = 0)) <|
  sp_ck (sp_in (σ.1 0 15) 700) <|
  sp_pl (sp_sa σ 13 (σ.1 0 15).toNatClampNeg ((zs0 >>> ((((24 : Int32)) - (((8 : Int32)) * (z6 - z6 / ((4 : Int32)) * ((4 : Int32))))) &&& 31)) &&& ((255 : Int32)))) fun σ3 =>
  sp_pl (sp_si σ3 0 15 ((σ3.1 0 15) + ((1 : Int32)))) fun σ5 =>
  sp_pl (z6 + 1) fun x7 =>
  k23 σ5 z1 z2 z3 z4 z5 x7
def X12_feed_23 (n : Nat) : Nat → sp_St → Int32 → Int32 → Int32 → Int32 → Int32 → Int32 → Option (sp_St × Int32)
  | 0, _, _, _, _, _, _, _ => none
  | f + 1, σ, z1, z2, z3, z4, z5, z6 =>
    if ((20 : Int32)) ≤ z6 then
      X12_feed_120 n σ
    else
      if ((4 : Int32)) ≤ z6 then
        if ((8 : Int32)) ≤ z6 then
          if ((12 : Int32)) ≤ z6 then
            if ((16 : Int32)) ≤ z6 then
              X12_feed_76 n (X12_feed_23 n f) σ z1 z2 z3 z4 z5 z6 z5
            else
              X12_feed_76 n (X12_feed_23 n f) σ z1 z2 z3 z4 z5 z6 z4
          else
            X12_feed_76 n (X12_feed_23 n f) σ z1 z2 z3 z4 z5 z6 z3
        else
          X12_feed_76 n (X12_feed_23 n f) σ z1 z2 z3 z4 z5 z6 z2
      else
        X12_feed_76 n (X12_feed_23 n f) σ z1 z2 z3 z4 z5 z6 z1
def X12_feed (n : Nat)  (σ : sp_St) (a1 : Int32) (a2 : Int32) (a3 : Int32) (a4 : Int32) (a5 : Int32) : Option (sp_St × Int32) :=
  sp_pl (sp_si σ 0 3 ((0 : Int32))) fun σ1 =>
  if ((σ1.1 0 15) + ((20 : Int32))) ≤ ((700 : Int32)) then
    sp_pl ((0 : Int32)) fun x3 =>
    X12_feed_23 n n σ1 a1 a2 a3 a4 a5 x3
  else
    some (σ1, (-1 : Int32))
set_option maxRecDepth 100000 in
set_option maxHeartbeats 4000000 in
theorem hX12_feed_120 {X : sp_X} (hX : sp_OK shM X cX12_feed RX12 8 rmX12_feed) {τ : sp_St} {r : Int32} (hR : sp_Ri shM X (some .int) τ r 0 0) {n : Nat}    {σ : sp_St} (hf : X12_feed_120 n σ = some (τ, r)) : sp_GG shM X σ 8 [some (.ref (sx_ad X 0)), none, none, none, none, none, none, none] [] 120 0 0 := by
  unfold X12_feed_120 at hf
  refine sp_aload_n (i := 0) (q := 121) hX dX12_feed_120 rfl rfl rfl ?_
  refine sp_geti (q := 124) hX flX12_167 fkX12_15 atM_0 dX12_feed_121 rfl ?_
  exact sp_iret hX hR dX12_feed_124 hf (Nat.le_of_ble_eq_true rfl) (Nat.le_of_ble_eq_true rfl)
set_option maxRecDepth 100000 in
set_option maxHeartbeats 4000000 in
theorem hX12_feed_76 {X : sp_X} (hX : sp_OK shM X cX12_feed RX12 8 rmX12_feed) {τ : sp_St} {r : Int32} (hR : sp_Ri shM X (some .int) τ r 0 0) {n : Nat}   {k23 : sp_St → Int32 → Int32 → Int32 → Int32 → Int32 → Int32 → Option (sp_St × Int32)} (hk23 : ∀ (σ : sp_St) (z1 : Int32) (z2 : Int32) (z3 : Int32) (z4 : Int32) (z5 : Int32) (z6 : Int32), k23 σ z1 z2 z3 z4 z5 z6 = some (τ, r) → sp_GG shM X σ 8 [some (.ref (sx_ad X 0)), some (.int z1), some (.int z2), some (.int z3), some (.int z4), some (.int z5), some (.int z6), none] [] 23 0 0) {σ : sp_St} {z1 : Int32} {z2 : Int32} {z3 : Int32} {z4 : Int32} {z5 : Int32} {z6 : Int32} {zs0 : Int32} (hf : X12_feed_76 n k23 σ z1 z2 z3 z4 z5 z6 zs0 = some (τ, r)) : sp_GG shM X σ 8 [some (.ref (sx_ad X 0)), some (.int z1), some (.int z2), some (.int z3), some (.int z4), some (.int z5), some (.int z6), none] [.int zs0] 76 0 0 := by
  unfold X12_feed_76 at hf
  refine sp_istore (i := 7) (lv' := [some (.ref (sx_ad X 0)), some (.int z1), some (.int z2), some (.int z3), some (.int z4), some (.int z5), some (.int z6), some (.int zs0)]) (q := 78) hX dX12_feed_76 (Nat.le_of_ble_eq_true rfl) rfl rfl rfl ?_
  refine sp_aload_n (i := 0) (q := 79) hX dX12_feed_78 rfl rfl rfl ?_
  refine sp_gets (t := 13) (q := 82) hX flX12_63 fkX12_14 atM_0 srM_0_14 dX12_feed_79 rfl ?_
  refine sp_aload_n (i := 0) (q := 83) hX dX12_feed_82 rfl rfl rfl ?_
  refine sp_geti (q := 86) hX flX12_167 fkX12_15 atM_0 dX12_feed_83 rfl ?_
  refine sp_iload (i := 7) (q := 88) hX dX12_feed_86 rfl rfl ?_
  refine sp_bipush (v := 24) (q := 90) hX dX12_feed_88 lb_24 rfl ?_
  refine sp_bipush (v := 8) (q := 92) hX dX12_feed_90 lb_8 rfl ?_
  refine sp_iload (i := 6) (q := 94) hX dX12_feed_92 rfl rfl ?_
  refine sp_iconst (v := 4) (q := 95) hX dX12_feed_94 li_4 rfl ?_
  obtain ⟨h1, hf⟩ := sp_ck_some hf
  refine sp_irem (q := 96) hX dX12_feed_95 (sp_nz h1) rfl ?_
  refine sp_imul (q := 97) hX dX12_feed_96 rfl ?_
  refine sp_isub (q := 98) hX dX12_feed_97 rfl ?_
  refine sp_ishr (q := 99) hX dX12_feed_98 rfl ?_
  refine sp_sipush (v := 255) (q := 102) hX dX12_feed_99 ls_255 rfl ?_
  refine sp_iand (q := 103) hX dX12_feed_102 rfl ?_
  obtain ⟨h2, hf⟩ := sp_ck_some hf
  obtain ⟨σ3, e4, hf⟩ := sp_pl_some hf
  refine sp_iast (q := 104) hX arM_13 h2 dX12_feed_103 rfl ?_
  refine sp_nms e4 ?_
  refine sp_aload_n (i := 0) (q := 105) hX dX12_feed_104 rfl rfl rfl ?_
  refine sp_dup (q := 106) hX dX12_feed_105 rfl rfl ?_
  refine sp_geti (q := 109) hX flX12_167 fkX12_15 atM_0 dX12_feed_106 rfl ?_
  refine sp_iconst (v := 1) (q := 110) hX dX12_feed_109 li_1 rfl ?_
  refine sp_iadd (q := 111) hX dX12_feed_110 rfl ?_
  obtain ⟨σ5, e6, hf⟩ := sp_pl_some hf
  refine sp_puti (q := 114) hX fpX12_167 fkX12_15 atM_0 dX12_feed_111 rfl ?_
  refine sp_nms e6 ?_
  obtain ⟨x7, e8, hf⟩ := sp_pl_some hf
  refine sp_iinc (i := 6) (v := x7) (lv' := [some (.ref (sx_ad X 0)), some (.int z1), some (.int z2), some (.int z3), some (.int z4), some (.int z5), some (.int x7), some (.int zs0)]) (q := 117) hX dX12_feed_114 rfl (by rw [e8, li_1]) (Nat.le_of_ble_eq_true rfl) rfl rfl rfl ?_
  refine sp_goto (tgt := 23) hX dX12_feed_117 (by decide) ?_
  refine sp_drop (lv' := [some (.ref (sx_ad X 0)), some (.int z1), some (.int z2), some (.int z3), some (.int z4), some (.int z5), some (.int x7), none]) (And.intro rfl (And.intro rfl (And.intro rfl (And.intro rfl (And.intro rfl (And.intro rfl (And.intro rfl trivial))))))) ?_
  exact hk23 σ5 z1 z2 z3 z4 z5 x7 hf
set_option maxRecDepth 100000 in
set_option maxHeartbeats 4000000 in
theorem hX12_feed_23 {X : sp_X} (hX : sp_OK shM X cX12_feed RX12 8 rmX12_feed) {τ : sp_St} {r : Int32} (hR : sp_Ri shM X (some .int) τ r 0 0) {n : Nat}    : ∀ (f : Nat) (σ : sp_St) (z1 : Int32) (z2 : Int32) (z3 : Int32) (z4 : Int32) (z5 : Int32) (z6 : Int32), X12_feed_23 n f σ z1 z2 z3 z4 z5 z6 = some (τ, r) → sp_GG shM X σ 8 [some (.ref (sx_ad X 0)), some (.int z1), some (.int z2), some (.int z3), some (.int z4), some (.int z5), some (.int z6), none] [] 23 0 0 := by
  intro f
  induction f with
  | zero =>
    intro σ z1 z2 z3 z4 z5 z6 hf
    rw [X12_feed_23] at hf
    cases hf
  | succ f ih =>
    intro σ z1 z2 z3 z4 z5 z6 hf
    rw [X12_feed_23] at hf
    refine sp_iload (i := 6) (q := 25) hX dX12_feed_23 rfl rfl ?_
    refine sp_bipush (v := 20) (q := 27) hX dX12_feed_25 lb_20 rfl ?_
    refine sp_icmp_ge (tgt := 120) (q := 30) hX dX12_feed_27 (by decide) rfl (fun hc => ?_) (fun hc => ?_)
    · rw [if_pos hc] at hf
      refine sp_drop (lv' := [some (.ref (sx_ad X 0)), none, none, none, none, none, none, none]) (And.intro rfl trivial) ?_
      exact hX12_feed_120 hX hR hf
    · rw [if_neg hc] at hf
      refine sp_iload (i := 6) (q := 32) hX dX12_feed_30 rfl rfl ?_
      refine sp_iconst (v := 4) (q := 33) hX dX12_feed_32 li_4 rfl ?_
      refine sp_icmp_ge (tgt := 40) (q := 36) hX dX12_feed_33 (by decide) rfl (fun hc => ?_) (fun hc => ?_)
      · rw [if_pos hc] at hf
        refine sp_iload (i := 6) (q := 42) hX dX12_feed_40 rfl rfl ?_
        refine sp_bipush (v := 8) (q := 44) hX dX12_feed_42 lb_8 rfl ?_
        refine sp_icmp_ge (tgt := 51) (q := 47) hX dX12_feed_44 (by decide) rfl (fun hc => ?_) (fun hc => ?_)
        · rw [if_pos hc] at hf
          refine sp_iload (i := 6) (q := 53) hX dX12_feed_51 rfl rfl ?_
          refine sp_bipush (v := 12) (q := 55) hX dX12_feed_53 lb_12 rfl ?_
          refine sp_icmp_ge (tgt := 62) (q := 58) hX dX12_feed_55 (by decide) rfl (fun hc => ?_) (fun hc => ?_)
          · rw [if_pos hc] at hf
            refine sp_iload (i := 6) (q := 64) hX dX12_feed_62 rfl rfl ?_
            refine sp_bipush (v := 16) (q := 66) hX dX12_feed_64 lb_16 rfl ?_
            refine sp_icmp_ge (tgt := 74) (q := 69) hX dX12_feed_66 (by decide) rfl (fun hc => ?_) (fun hc => ?_)
            · rw [if_pos hc] at hf
              refine sp_iload (i := 5) (q := 76) hX dX12_feed_74 rfl rfl ?_
              exact hX12_feed_76 hX hR ih hf
            · rw [if_neg hc] at hf
              refine sp_iload (i := 4) (q := 71) hX dX12_feed_69 rfl rfl ?_
              refine sp_goto (tgt := 76) hX dX12_feed_71 (by decide) ?_
              exact hX12_feed_76 hX hR ih hf
          · rw [if_neg hc] at hf
            refine sp_iload_n (i := 3) (q := 59) hX dX12_feed_58 rfl rfl rfl ?_
            refine sp_goto (tgt := 76) hX dX12_feed_59 (by decide) ?_
            exact hX12_feed_76 hX hR ih hf
        · rw [if_neg hc] at hf
          refine sp_iload_n (i := 2) (q := 48) hX dX12_feed_47 rfl rfl rfl ?_
          refine sp_goto (tgt := 76) hX dX12_feed_48 (by decide) ?_
          exact hX12_feed_76 hX hR ih hf
      · rw [if_neg hc] at hf
        refine sp_iload_n (i := 1) (q := 37) hX dX12_feed_36 rfl rfl rfl ?_
        refine sp_goto (tgt := 76) hX dX12_feed_37 (by decide) ?_
        exact hX12_feed_76 hX hR ih hf
set_option maxRecDepth 100000 in
set_option maxHeartbeats 4000000 in
theorem hX12_feed {X : sp_X} (hX : sp_OK shM X cX12_feed RX12 8 rmX12_feed) {τ : sp_St} {r : Int32} (hR : sp_Ri shM X (some .int) τ r 0 0) {n : Nat}  {σ : sp_St} {a1 : Int32} {a2 : Int32} {a3 : Int32} {a4 : Int32} {a5 : Int32}  (hf : X12_feed n σ a1 a2 a3 a4 a5 = some (τ, r)) : sp_GG shM X σ 8 [some (.ref (sx_ad X 0)), some (.int a1), some (.int a2), some (.int a3), some (.int a4), some (.int a5), none, none] [] 0 0 0 := by
  unfold X12_feed at hf
  refine sp_aload_n (i := 0) (q := 1) hX dX12_feed_0 rfl rfl rfl ?_
  refine sp_iconst (v := 0) (q := 2) hX dX12_feed_1 li_0 rfl ?_
  obtain ⟨σ1, e2, hf⟩ := sp_pl_some hf
  refine sp_puti (q := 5) hX fpX12_158 fkX12_3 atM_0 dX12_feed_2 rfl ?_
  refine sp_nms e2 ?_
  refine sp_aload_n (i := 0) (q := 6) hX dX12_feed_5 rfl rfl rfl ?_
  refine sp_geti (q := 9) hX flX12_167 fkX12_15 atM_0 dX12_feed_6 rfl ?_
  refine sp_bipush (v := 20) (q := 11) hX dX12_feed_9 lb_20 rfl ?_
  refine sp_iadd (q := 12) hX dX12_feed_11 rfl ?_
  refine sp_sipush (v := 700) (q := 15) hX dX12_feed_12 ls_700 rfl ?_
  refine sp_icmp_le (tgt := 20) (q := 18) hX dX12_feed_15 (by decide) rfl (fun hc => ?_) (fun hc => ?_)
  · rw [if_pos hc] at hf
    refine sp_iconst (v := 0) (q := 21) hX dX12_feed_20 li_0 rfl ?_
    obtain ⟨x3, e4, hf⟩ := sp_pl_some hf
    refine sp_nmi e4 ?_
    refine sp_istore (i := 6) (lv' := [some (.ref (sx_ad X 0)), some (.int a1), some (.int a2), some (.int a3), some (.int a4), some (.int a5), some (.int x3), none]) (q := 23) hX dX12_feed_21 (Nat.le_of_ble_eq_true rfl) rfl rfl rfl ?_
    exact hX12_feed_23 hX hR n σ1 a1 a2 a3 a4 a5 x3 hf
  · rw [if_neg hc] at hf
    refine sp_iconst (v := -1) (q := 19) hX dX12_feed_18 li_m1 rfl ?_
    exact sp_iret hX hR dX12_feed_19 hf (Nat.le_of_ble_eq_true rfl) (Nat.le_of_ble_eq_true rfl)
set_option maxRecDepth 100000 in
set_option maxHeartbeats 4000000 in
theorem cnX12_feed {l : Launch} (hst : l.stackTraces = false) {w : sp_Wd} {n : Nat}  {σ : sp_St} {a1 : Int32} {a2 : Int32} {a3 : Int32} {a4 : Int32} {a5 : Int32} {τ : sp_St} {r : Int32}  (hf : X12_feed n σ a1 a2 a3 a4 a5 = some (τ, r)) : sp_Ci shM l w yX12_feed cX12_feed 8 (some .int) rmX12_feed 0 0 σ [.ref (w.2.1 0), .int a1, .int a2, .int a3, .int a4, .int a5] τ r :=
  sp_ci (own := RX12) (by decide) rfl hst (Nat.le_of_ble_eq_true rfl) rfl (fun X hX hw hl hR => by subst hw; subst hl; exact hX12_feed hX hR   hf)
def rmX12_byteAt : Room := { frames := 0, cells := 0, slots := 0, locals := 0 }
def X12_byteAt_18 (n : Nat) (σ : sp_St) (zs0 : Int32) : Option (sp_St × Int32) :=
  some (σ, zs0)
def X12_byteAt (n : Nat)  (σ : sp_St) (a1 : Int32) : Option (sp_St × Int32) :=
  if (σ.1 0 17) ≤ a1 then
    X12_byteAt_18 n σ ((-1 : Int32))
  else
    sp_ck (sp_in a1 700) <|
    X12_byteAt_18 n σ (sp_g σ 13 a1)
set_option maxRecDepth 100000 in
set_option maxHeartbeats 4000000 in
theorem hX12_byteAt_18 {X : sp_X} (hX : sp_OK shM X cX12_byteAt RX12 2 rmX12_byteAt) {τ : sp_St} {r : Int32} (hR : sp_Ri shM X (some .int) τ r 0 0) {n : Nat}    {σ : sp_St} {zs0 : Int32} (hf : X12_byteAt_18 n σ zs0 = some (τ, r)) : sp_GG shM X σ 2 [none, none] [.int zs0] 18 0 0 := by
  unfold X12_byteAt_18 at hf
  exact sp_iret hX hR dX12_byteAt_18 hf (Nat.le_of_ble_eq_true rfl) (Nat.le_of_ble_eq_true rfl)
set_option maxRecDepth 100000 in
set_option maxHeartbeats 4000000 in
theorem hX12_byteAt {X : sp_X} (hX : sp_OK shM X cX12_byteAt RX12 2 rmX12_byteAt) {τ : sp_St} {r : Int32} (hR : sp_Ri shM X (some .int) τ r 0 0) {n : Nat}  {σ : sp_St} {a1 : Int32}  (hf : X12_byteAt n σ a1 = some (τ, r)) : sp_GG shM X σ 2 [some (.ref (sx_ad X 0)), some (.int a1)] [] 0 0 0 := by
  unfold X12_byteAt at hf
  refine sp_iload_n (i := 1) (q := 1) hX dX12_byteAt_0 rfl rfl rfl ?_
  refine sp_aload_n (i := 0) (q := 2) hX dX12_byteAt_1 rfl rfl rfl ?_
  refine sp_geti (q := 5) hX flX12_170 fkX12_17 atM_0 dX12_byteAt_2 rfl ?_
  refine sp_icmp_ge (tgt := 17) (q := 8) hX dX12_byteAt_5 (by decide) rfl (fun hc => ?_) (fun hc => ?_)
  · rw [if_pos hc] at hf
    refine sp_iconst (v := -1) (q := 18) hX dX12_byteAt_17 li_m1 rfl ?_
    refine sp_drop (lv' := [none, none]) trivial ?_
    exact hX12_byteAt_18 hX hR hf
  · rw [if_neg hc] at hf
    refine sp_aload_n (i := 0) (q := 9) hX dX12_byteAt_8 rfl rfl rfl ?_
    refine sp_gets (t := 13) (q := 12) hX flX12_63 fkX12_14 atM_0 srM_0_14 dX12_byteAt_9 rfl ?_
    refine sp_iload_n (i := 1) (q := 13) hX dX12_byteAt_12 rfl rfl rfl ?_
    obtain ⟨h1, hf⟩ := sp_ck_some hf
    refine sp_iald (q := 14) hX arM_13 h1 dX12_byteAt_13 rfl ?_
    refine sp_goto (tgt := 18) hX dX12_byteAt_14 (by decide) ?_
    refine sp_drop (lv' := [none, none]) trivial ?_
    exact hX12_byteAt_18 hX hR hf
set_option maxRecDepth 100000 in
set_option maxHeartbeats 4000000 in
theorem cnX12_byteAt {l : Launch} (hst : l.stackTraces = false) {w : sp_Wd} {n : Nat}  {σ : sp_St} {a1 : Int32} {τ : sp_St} {r : Int32}  (hf : X12_byteAt n σ a1 = some (τ, r)) : sp_Ci shM l w yX12_byteAt cX12_byteAt 2 (some .int) rmX12_byteAt 0 0 σ [.ref (w.2.1 0), .int a1] τ r :=
  sp_ci (own := RX12) (by decide) rfl hst (Nat.le_of_ble_eq_true rfl) rfl (fun X hX hw hl hR => by subst hw; subst hl; exact hX12_byteAt hX hR   hf)
def rmX12_isLetter : Room := { frames := 0, cells := 0, slots := 0, locals := 0 }
def X12_isLetter_17 (n : Nat) (σ : sp_St) (zs0 : Int32) : Option (sp_St × Int32) :=
  sp_ck (sp_zb zs0) <|
  some (σ, zs0)
def X12_isLetter_16 (n : Nat) (σ : sp_St) : Option (sp_St × Int32) :=
  X12_isLetter_17 n σ ((0 : Int32))
def X12_isLetter (n : Nat)  (σ : sp_St) (a0 : Int32) : Option (sp_St × Int32) :=
  if a0 < ((97 : Int32)) then
    X12_isLetter_16 n σ
  else
    if ((122 : Int32)) < a0 then
      X12_isLetter_16 n σ
    else
      X12_isLetter_17 n σ ((1 : Int32))
set_option maxRecDepth 100000 in
set_option maxHeartbeats 4000000 in
theorem hX12_isLetter_17 {X : sp_X} (hX : sp_OK shM X cX12_isLetter RX12 1 rmX12_isLetter) {τ : sp_St} {r : Int32} (hR : sp_Ri shM X (some .boolean) τ r 0 0) {n : Nat}    {σ : sp_St} {zs0 : Int32} (hf : X12_isLetter_17 n σ zs0 = some (τ, r)) : sp_GG shM X σ 1 [none] [.int zs0] 17 0 0 := by
  unfold X12_isLetter_17 at hf
  obtain ⟨h1, hf⟩ := sp_ck_some hf
  exact sp_zret hX hR h1 dX12_isLetter_17 hf (Nat.le_of_ble_eq_true rfl) (Nat.le_of_ble_eq_true rfl)
set_option maxRecDepth 100000 in
set_option maxHeartbeats 4000000 in
theorem hX12_isLetter_16 {X : sp_X} (hX : sp_OK shM X cX12_isLetter RX12 1 rmX12_isLetter) {τ : sp_St} {r : Int32} (hR : sp_Ri shM X (some .boolean) τ r 0 0) {n : Nat}    {σ : sp_St} (hf : X12_isLetter_16 n σ = some (τ, r)) : sp_GG shM X σ 1 [none] [] 16 0 0 := by
  unfold X12_isLetter_16 at hf
  refine sp_iconst (v := 0) (q := 17) hX dX12_isLetter_16 li_0 rfl ?_
  exact hX12_isLetter_17 hX hR hf
set_option maxRecDepth 100000 in
set_option maxHeartbeats 4000000 in
theorem hX12_isLetter {X : sp_X} (hX : sp_OK shM X cX12_isLetter RX12 1 rmX12_isLetter) {τ : sp_St} {r : Int32} (hR : sp_Ri shM X (some .boolean) τ r 0 0) {n : Nat}  {σ : sp_St} {a0 : Int32}  (hf : X12_isLetter n σ a0 = some (τ, r)) : sp_GG shM X σ 1 [some (.int a0)] [] 0 0 0 := by
  unfold X12_isLetter at hf
  refine sp_iload_n (i := 0) (q := 1) hX dX12_isLetter_0 rfl rfl rfl ?_
  refine sp_bipush (v := 97) (q := 3) hX dX12_isLetter_1 lb_97 rfl ?_
  refine sp_icmp_lt (tgt := 16) (q := 6) hX dX12_isLetter_3 (by decide) rfl (fun hc => ?_) (fun hc => ?_)
  · rw [if_pos hc] at hf
    refine sp_drop (lv' := [none]) trivial ?_
    exact hX12_isLetter_16 hX hR hf
  · rw [if_neg hc] at hf
    refine sp_iload_n (i := 0) (q := 7) hX dX12_isLetter_6 rfl rfl rfl ?_
    refine sp_bipush (v := 122) (q := 9) hX dX12_isLetter_7 lb_122 rfl ?_
    refine sp_icmp_gt (tgt := 16) (q := 12) hX dX12_isLetter_9 (by decide) rfl (fun hc => ?_) (fun hc => ?_)
    · rw [if_pos hc] at hf
      refine sp_drop (lv' := [none]) trivial ?_
      exact hX12_isLetter_16 hX hR hf
    · rw [if_neg hc] at hf
      refine sp_iconst (v := 1) (q := 13) hX dX12_isLetter_12 li_1 rfl ?_
      refine sp_goto (tgt := 17) hX dX12_isLetter_13 (by decide) ?_
      refine sp_drop (lv' := [none]) trivial ?_
      exact hX12_isLetter_17 hX hR hf
set_option maxRecDepth 100000 in
set_option maxHeartbeats 4000000 in
theorem cnX12_isLetter {l : Launch} (hst : l.stackTraces = false) {w : sp_Wd} {n : Nat}  {σ : sp_St} {a0 : Int32} {τ : sp_St} {r : Int32}  (hf : X12_isLetter n σ a0 = some (τ, r)) : sp_Ci shM l w yX12_isLetter cX12_isLetter 1 (some .boolean) rmX12_isLetter 0 0 σ [.int a0] τ r :=
  sp_ci (own := RX12) (by decide) rfl hst (Nat.le_of_ble_eq_true rfl) rfl (fun X hX hw hl hR => by subst hw; subst hl; exact hX12_isLetter hX hR   hf)
def rmX12_isDigit : Room := { frames := 0, cells := 0, slots := 0, locals := 0 }
def X12_isDigit_17 (n : Nat) (σ : sp_St) (zs0 : Int32) : Option (sp_St × Int32) :=
  sp_ck (sp_zb zs0) <|
  some (σ, zs0)
def X12_isDigit_16 (n : Nat) (σ : sp_St) : Option (sp_St × Int32) :=
  X12_isDigit_17 n σ ((0 : Int32))
def X12_isDigit (n : Nat)  (σ : sp_St) (a0 : Int32) : Option (sp_St × Int32) :=
  if a0 < ((48 : Int32)) then
    X12_isDigit_16 n σ
  else
    if ((57 : Int32)) < a0 then
      X12_isDigit_16 n σ
    else
      X12_isDigit_17 n σ ((1 : Int32))
set_option maxRecDepth 100000 in
set_option maxHeartbeats 4000000 in
theorem hX12_isDigit_17 {X : sp_X} (hX : sp_OK shM X cX12_isDigit RX12 1 rmX12_isDigit) {τ : sp_St} {r : Int32} (hR : sp_Ri shM X (some .boolean) τ r 0 0) {n : Nat}    {σ : sp_St} {zs0 : Int32} (hf : X12_isDigit_17 n σ zs0 = some (τ, r)) : sp_GG shM X σ 1 [none] [.int zs0] 17 0 0 := by
  unfold X12_isDigit_17 at hf
  obtain ⟨h1, hf⟩ := sp_ck_some hf
  exact sp_zret hX hR h1 dX12_isDigit_17 hf (Nat.le_of_ble_eq_true rfl) (Nat.le_of_ble_eq_true rfl)
set_option maxRecDepth 100000 in
set_option maxHeartbeats 4000000 in
theorem hX12_isDigit_16 {X : sp_X} (hX : sp_OK shM X cX12_isDigit RX12 1 rmX12_isDigit) {τ : sp_St} {r : Int32} (hR : sp_Ri shM X (some .boolean) τ r 0 0) {n : Nat}    {σ : sp_St} (hf : X12_isDigit_16 n σ = some (τ, r)) : sp_GG shM X σ 1 [none] [] 16 0 0 := by
  unfold X12_isDigit_16 at hf
  refine sp_iconst (v := 0) (q := 17) hX dX12_isDigit_16 li_0 rfl ?_
  exact hX12_isDigit_17 hX hR hf
set_option maxRecDepth 100000 in
set_option maxHeartbeats 4000000 in
theorem hX12_isDigit {X : sp_X} (hX : sp_OK shM X cX12_isDigit RX12 1 rmX12_isDigit) {τ : sp_St} {r : Int32} (hR : sp_Ri shM X (some .boolean) τ r 0 0) {n : Nat}  {σ : sp_St} {a0 : Int32}  (hf : X12_isDigit n σ a0 = some (τ, r)) : sp_GG shM X σ 1 [some (.int a0)] [] 0 0 0 := by
  unfold X12_isDigit at hf
  refine sp_iload_n (i := 0) (q := 1) hX dX12_isDigit_0 rfl rfl rfl ?_
  refine sp_bipush (v := 48) (q := 3) hX dX12_isDigit_1 lb_48 rfl ?_
  refine sp_icmp_lt (tgt := 16) (q := 6) hX dX12_isDigit_3 (by decide) rfl (fun hc => ?_) (fun hc => ?_)
  · rw [if_pos hc] at hf
    refine sp_drop (lv' := [none]) trivial ?_
    exact hX12_isDigit_16 hX hR hf
  · rw [if_neg hc] at hf
    refine sp_iload_n (i := 0) (q := 7) hX dX12_isDigit_6 rfl rfl rfl ?_
    refine sp_bipush (v := 57) (q := 9) hX dX12_isDigit_7 lb_57 rfl ?_
    refine sp_icmp_gt (tgt := 16) (q := 12) hX dX12_isDigit_9 (by decide) rfl (fun hc => ?_) (fun hc => ?_)
    · rw [if_pos hc] at hf
      refine sp_drop (lv' := [none]) trivial ?_
      exact hX12_isDigit_16 hX hR hf
    · rw [if_neg hc] at hf
      refine sp_iconst (v := 1) (q := 13) hX dX12_isDigit_12 li_1 rfl ?_
      refine sp_goto (tgt := 17) hX dX12_isDigit_13 (by decide) ?_
      refine sp_drop (lv' := [none]) trivial ?_
      exact hX12_isDigit_17 hX hR hf
set_option maxRecDepth 100000 in
set_option maxHeartbeats 4000000 in
theorem cnX12_isDigit {l : Launch} (hst : l.stackTraces = false) {w : sp_Wd} {n : Nat}  {σ : sp_St} {a0 : Int32} {τ : sp_St} {r : Int32}  (hf : X12_isDigit n σ a0 = some (τ, r)) : sp_Ci shM l w yX12_isDigit cX12_isDigit 1 (some .boolean) rmX12_isDigit 0 0 σ [.int a0] τ r :=
  sp_ci (own := RX12) (by decide) rfl hst (Nat.le_of_ble_eq_true rfl) rfl (fun X hX hw hl hR => by subst hw; subst hl; exact hX12_isDigit hX hR   hf)
def rmX12_isMark : Room := { frames := 0, cells := 0, slots := 0, locals := 0 }
def X12_isMark_59 (n : Nat) (σ : sp_St) (zs0 : Int32) : Option (sp_St × Int32) :=
  sp_ck (sp_zb zs0) <|
  some (σ, zs0)
def X12_isMark_54 (n : Nat) (σ : sp_St) : Option (sp_St × Int32) :=
  X12_isMark_59 n σ ((1 : Int32))
def X12_isMark (n : Nat)  (σ : sp_St) (a0 : Int32) : Option (sp_St × Int32) :=
  if a0 = ((59 : Int32)) then
    X12_isMark_54 n σ
  else
    if a0 = ((40 : Int32)) then
      X12_isMark_54 n σ
    else
      if a0 = ((41 : Int32)) then
        X12_isMark_54 n σ
      else
        if a0 = ((43 : Int32)) then
          X12_isMark_54 n σ
        else
          if a0 = ((45 : Int32)) then
            X12_isMark_54 n σ
          else
            if a0 = ((42 : Int32)) then
              X12_isMark_54 n σ
            else
              if a0 = ((47 : Int32)) then
                X12_isMark_54 n σ
              else
                if a0 = ((60 : Int32)) then
                  X12_isMark_54 n σ
                else
                  if a0 = ((61 : Int32)) then
                    X12_isMark_54 n σ
                  else
                    X12_isMark_59 n σ ((0 : Int32))
set_option maxRecDepth 100000 in
set_option maxHeartbeats 4000000 in
theorem hX12_isMark_59 {X : sp_X} (hX : sp_OK shM X cX12_isMark RX12 1 rmX12_isMark) {τ : sp_St} {r : Int32} (hR : sp_Ri shM X (some .boolean) τ r 0 0) {n : Nat}    {σ : sp_St} {zs0 : Int32} (hf : X12_isMark_59 n σ zs0 = some (τ, r)) : sp_GG shM X σ 1 [none] [.int zs0] 59 0 0 := by
  unfold X12_isMark_59 at hf
  obtain ⟨h1, hf⟩ := sp_ck_some hf
  exact sp_zret hX hR h1 dX12_isMark_59 hf (Nat.le_of_ble_eq_true rfl) (Nat.le_of_ble_eq_true rfl)
set_option maxRecDepth 100000 in
set_option maxHeartbeats 4000000 in
theorem hX12_isMark_54 {X : sp_X} (hX : sp_OK shM X cX12_isMark RX12 1 rmX12_isMark) {τ : sp_St} {r : Int32} (hR : sp_Ri shM X (some .boolean) τ r 0 0) {n : Nat}    {σ : sp_St} (hf : X12_isMark_54 n σ = some (τ, r)) : sp_GG shM X σ 1 [none] [] 54 0 0 := by
  unfold X12_isMark_54 at hf
  refine sp_iconst (v := 1) (q := 55) hX dX12_isMark_54 li_1 rfl ?_
  refine sp_goto (tgt := 59) hX dX12_isMark_55 (by decide) ?_
  exact hX12_isMark_59 hX hR hf
set_option maxRecDepth 100000 in
set_option maxHeartbeats 4000000 in
theorem hX12_isMark {X : sp_X} (hX : sp_OK shM X cX12_isMark RX12 1 rmX12_isMark) {τ : sp_St} {r : Int32} (hR : sp_Ri shM X (some .boolean) τ r 0 0) {n : Nat}  {σ : sp_St} {a0 : Int32}  (hf : X12_isMark n σ a0 = some (τ, r)) : sp_GG shM X σ 1 [some (.int a0)] [] 0 0 0 := by
  unfold X12_isMark at hf
  refine sp_iload_n (i := 0) (q := 1) hX dX12_isMark_0 rfl rfl rfl ?_
  refine sp_bipush (v := 59) (q := 3) hX dX12_isMark_1 lb_59 rfl ?_
  refine sp_icmp_eq (tgt := 54) (q := 6) hX dX12_isMark_3 (by decide) rfl (fun hc => ?_) (fun hc => ?_)
  · rw [if_pos hc] at hf
    refine sp_drop (lv' := [none]) trivial ?_
    exact hX12_isMark_54 hX hR hf
  · rw [if_neg hc] at hf
    refine sp_iload_n (i := 0) (q := 7) hX dX12_isMark_6 rfl rfl rfl ?_
    refine sp_bipush (v := 40) (q := 9) hX dX12_isMark_7 lb_40 rfl ?_
    refine sp_icmp_eq (tgt := 54) (q := 12) hX dX12_isMark_9 (by decide) rfl (fun hc => ?_) (fun hc => ?_)
    · rw [if_pos hc] at hf
      refine sp_drop (lv' := [none]) trivial ?_
      exact hX12_isMark_54 hX hR hf
    · rw [if_neg hc] at hf
      refine sp_iload_n (i := 0) (q := 13) hX dX12_isMark_12 rfl rfl rfl ?_
      refine sp_bipush (v := 41) (q := 15) hX dX12_isMark_13 lb_41 rfl ?_
      refine sp_icmp_eq (tgt := 54) (q := 18) hX dX12_isMark_15 (by decide) rfl (fun hc => ?_) (fun hc => ?_)
      · rw [if_pos hc] at hf
        refine sp_drop (lv' := [none]) trivial ?_
        exact hX12_isMark_54 hX hR hf
      · rw [if_neg hc] at hf
        refine sp_iload_n (i := 0) (q := 19) hX dX12_isMark_18 rfl rfl rfl ?_
        refine sp_bipush (v := 43) (q := 21) hX dX12_isMark_19 lb_43 rfl ?_
        refine sp_icmp_eq (tgt := 54) (q := 24) hX dX12_isMark_21 (by decide) rfl (fun hc => ?_) (fun hc => ?_)
        · rw [if_pos hc] at hf
          refine sp_drop (lv' := [none]) trivial ?_
          exact hX12_isMark_54 hX hR hf
        · rw [if_neg hc] at hf
          refine sp_iload_n (i := 0) (q := 25) hX dX12_isMark_24 rfl rfl rfl ?_
          refine sp_bipush (v := 45) (q := 27) hX dX12_isMark_25 lb_45 rfl ?_
          refine sp_icmp_eq (tgt := 54) (q := 30) hX dX12_isMark_27 (by decide) rfl (fun hc => ?_) (fun hc => ?_)
          · rw [if_pos hc] at hf
            refine sp_drop (lv' := [none]) trivial ?_
            exact hX12_isMark_54 hX hR hf
          · rw [if_neg hc] at hf
            refine sp_iload_n (i := 0) (q := 31) hX dX12_isMark_30 rfl rfl rfl ?_
            refine sp_bipush (v := 42) (q := 33) hX dX12_isMark_31 lb_42 rfl ?_
            refine sp_icmp_eq (tgt := 54) (q := 36) hX dX12_isMark_33 (by decide) rfl (fun hc => ?_) (fun hc => ?_)
            · rw [if_pos hc] at hf
              refine sp_drop (lv' := [none]) trivial ?_
              exact hX12_isMark_54 hX hR hf
            · rw [if_neg hc] at hf
              refine sp_iload_n (i := 0) (q := 37) hX dX12_isMark_36 rfl rfl rfl ?_
              refine sp_bipush (v := 47) (q := 39) hX dX12_isMark_37 lb_47 rfl ?_
              refine sp_icmp_eq (tgt := 54) (q := 42) hX dX12_isMark_39 (by decide) rfl (fun hc => ?_) (fun hc => ?_)
              · rw [if_pos hc] at hf
                refine sp_drop (lv' := [none]) trivial ?_
                exact hX12_isMark_54 hX hR hf
              · rw [if_neg hc] at hf
                refine sp_iload_n (i := 0) (q := 43) hX dX12_isMark_42 rfl rfl rfl ?_
                refine sp_bipush (v := 60) (q := 45) hX dX12_isMark_43 lb_60 rfl ?_
                refine sp_icmp_eq (tgt := 54) (q := 48) hX dX12_isMark_45 (by decide) rfl (fun hc => ?_) (fun hc => ?_)
                · rw [if_pos hc] at hf
                  refine sp_drop (lv' := [none]) trivial ?_
                  exact hX12_isMark_54 hX hR hf
                · rw [if_neg hc] at hf
                  refine sp_iload_n (i := 0) (q := 49) hX dX12_isMark_48 rfl rfl rfl ?_
                  refine sp_bipush (v := 61) (q := 51) hX dX12_isMark_49 lb_61 rfl ?_
                  refine sp_icmp_ne (tgt := 58) (q := 54) hX dX12_isMark_51 (by decide) rfl (fun hc => ?_) (fun hc => ?_)
                  · rw [if_neg hc] at hf
                    refine sp_iconst (v := 0) (q := 59) hX dX12_isMark_58 li_0 rfl ?_
                    refine sp_drop (lv' := [none]) trivial ?_
                    exact hX12_isMark_59 hX hR hf
                  · rw [if_pos hc] at hf
                    refine sp_drop (lv' := [none]) trivial ?_
                    exact hX12_isMark_54 hX hR hf
set_option maxRecDepth 100000 in
set_option maxHeartbeats 4000000 in
theorem cnX12_isMark {l : Launch} (hst : l.stackTraces = false) {w : sp_Wd} {n : Nat}  {σ : sp_St} {a0 : Int32} {τ : sp_St} {r : Int32}  (hf : X12_isMark n σ a0 = some (τ, r)) : sp_Ci shM l w yX12_isMark cX12_isMark 1 (some .boolean) rmX12_isMark 0 0 σ [.int a0] τ r :=
  sp_ci (own := RX12) (by decide) rfl hst (Nat.le_of_ble_eq_true rfl) rfl (fun X hX hw hl hR => by subst hw; subst hl; exact hX12_isMark hX hR   hf)
def rmX12_stepOn : Room := { frames := 1, cells := 0, slots := 0, locals := 24 }
def X12_stepOn_212 (n : Nat) (σ : sp_St) : Option (sp_St) :=
  sp_pl (sp_si σ 0 21 (σ.1 0 16)) fun σ1 =>
  some σ1
def X12_stepOn_178 (n : Nat) (σ : sp_St) : Option (sp_St) :=
  sp_pl (sp_si σ 0 18 ((2 : Int32))) fun σ1 =>
  X12_stepOn_212 n σ1
def X12_stepOn_123 (n : Nat) : Nat → sp_St → Option (sp_St)
  | 0, _ => none
  | f + 1, σ =>
    sp_bd (X12_byteAt n σ (σ.1 0 16)) fun σ2 v3 =>
    sp_bd (X12_isDigit n σ2 v3) fun σ5 v6 =>
    if v6 = 0 then
      X12_stepOn_178 n σ5
    else
      sp_bd (X12_byteAt n σ5 (σ5.1 0 16)) fun σ8 v9 =>
      sp_pl (sp_min ((100000 : Int32)) (((((10 : Int32)) * (σ5.1 0 19)) + v9) - ((48 : Int32)))) fun v10 =>
      sp_pl (sp_si σ8 0 19 v10) fun σ12 =>
      sp_pl (sp_si σ12 0 16 ((σ12.1 0 16) + ((1 : Int32)))) fun σ14 =>
      X12_stepOn_123 n f σ14
def X12_stepOn_103 (n : Nat) (σ : sp_St) : Option (sp_St) :=
  sp_pl (sp_si σ 0 18 ((1 : Int32))) fun σ1 =>
  X12_stepOn_212 n σ1
def X12_stepOn_76 (n : Nat) : Nat → sp_St → Option (sp_St)
  | 0, _ => none
  | f + 1, σ =>
    sp_bd (X12_byteAt n σ (σ.1 0 16)) fun σ2 v3 =>
    sp_bd (X12_isLetter n σ2 v3) fun σ5 v6 =>
    if v6 = 0 then
      X12_stepOn_103 n σ5
    else
      sp_pl (sp_si σ5 0 16 ((σ5.1 0 16) + ((1 : Int32)))) fun σ7 =>
      X12_stepOn_76 n f σ7
def X12_stepOn_39 (n : Nat) (σ : sp_St) : Option (sp_St) :=
  sp_pl (sp_si σ 0 20 (σ.1 0 16)) fun σ1 =>
  sp_bd (X12_byteAt n σ1 (σ1.1 0 16)) fun σ4 v5 =>
  if v5 = ((-1 : Int32)) then
    sp_pl (sp_si σ4 0 18 ((0 : Int32))) fun σ24 =>
    X12_stepOn_212 n σ24
  else
    sp_bd (X12_isLetter n σ4 v5) fun σ7 v8 =>
    if v8 = 0 then
      sp_bd (X12_isDigit n σ7 v5) fun σ10 v11 =>
      if v11 = 0 then
        sp_pl (sp_si σ10 0 16 ((σ10.1 0 16) + ((1 : Int32)))) fun σ12 =>
        sp_bd (X12_isMark n σ12 v5) fun σ15 v16 =>
        sp_pl (if v16 = 0 then ((4 : Int32)) else ((3 : Int32))) fun v17 =>
        sp_pl (sp_si σ15 0 18 v17) fun σ19 =>
        X12_stepOn_212 n σ19
      else
        sp_pl (sp_si σ10 0 19 ((0 : Int32))) fun σ22 =>
        X12_stepOn_123 n n σ22
    else
      X12_stepOn_76 n n σ7
def X12_stepOn_26 (n : Nat) (k0 : sp_St → Option (sp_St)) (σ : sp_St) : Option (sp_St) :=
  sp_pl (sp_si σ 0 16 ((σ.1 0 16) + ((1 : Int32)))) fun σ1 =>
  k0 σ1
def X12_stepOn_0 (n : Nat) : Nat → sp_St → Option (sp_St)
  | 0, _ => none
  | f + 1, σ =>
    sp_bd (X12_byteAt n σ (σ.1 0 16)) fun σ2 v3 =>
    if v3 = ((32 : Int32)) then
      X12_stepOn_26 n (X12_stepOn_0 n f) σ2
    else
      sp_bd (X12_byteAt n σ2 (σ2.1 0 16)) fun σ5 v6 =>
      if v6 = ((10 : Int32)) then
        X12_stepOn_26 n (X12_stepOn_0 n f) σ5
      else
        X12_stepOn_39 n σ5
def X12_stepOn (n : Nat)  (σ : sp_St)  : Option (sp_St) :=
  X12_stepOn_0 n n σ
set_option maxRecDepth 100000 in
set_option maxHeartbeats 4000000 in
theorem hX12_stepOn_212 {X : sp_X} (hX : sp_OK shM X cX12_stepOn RX12 2 rmX12_stepOn) {τ : sp_St} (hR : sp_Rv shM X τ 0 0) {n : Nat}    {σ : sp_St} (hf : X12_stepOn_212 n σ = some τ) : sp_GG shM X σ 2 [some (.ref (sx_ad X 0)), none] [] 212 0 0 := by
  unfold X12_stepOn_212 at hf
  refine sp_aload_n (i := 0) (q := 213) hX dX12_stepOn_212 rfl rfl rfl ?_
  refine sp_aload_n (i := 0) (q := 214) hX dX12_stepOn_213 rfl rfl rfl ?_
  refine sp_geti (q := 217) hX flX12_173 fkX12_16 atM_0 dX12_stepOn_214 rfl ?_
  obtain ⟨σ1, e2, hf⟩ := sp_pl_some hf
  refine sp_puti (q := 220) hX fpX12_206 fkX12_21 atM_0 dX12_stepOn_217 rfl ?_
  refine sp_nms e2 ?_
  exact sp_vret hX hR dX12_stepOn_220 hf (Nat.le_of_ble_eq_true rfl) (Nat.le_of_ble_eq_true rfl)
set_option maxRecDepth 100000 in
set_option maxHeartbeats 4000000 in
theorem hX12_stepOn_178 {X : sp_X} (hX : sp_OK shM X cX12_stepOn RX12 2 rmX12_stepOn) {τ : sp_St} (hR : sp_Rv shM X τ 0 0) {n : Nat}    {σ : sp_St} (hf : X12_stepOn_178 n σ = some τ) : sp_GG shM X σ 2 [some (.ref (sx_ad X 0)), none] [] 178 0 0 := by
  unfold X12_stepOn_178 at hf
  refine sp_aload_n (i := 0) (q := 179) hX dX12_stepOn_178 rfl rfl rfl ?_
  refine sp_iconst (v := 2) (q := 180) hX dX12_stepOn_179 li_2 rfl ?_
  obtain ⟨σ1, e2, hf⟩ := sp_pl_some hf
  refine sp_puti (q := 183) hX fpX12_183 fkX12_18 atM_0 dX12_stepOn_180 rfl ?_
  refine sp_nms e2 ?_
  refine sp_goto (tgt := 212) hX dX12_stepOn_183 (by decide) ?_
  exact hX12_stepOn_212 hX hR hf
set_option maxRecDepth 100000 in
set_option maxHeartbeats 4000000 in
theorem hX12_stepOn_123 {X : sp_X} (hX : sp_OK shM X cX12_stepOn RX12 2 rmX12_stepOn) {τ : sp_St} (hR : sp_Rv shM X τ 0 0) {n : Nat}    : ∀ (f : Nat) (σ : sp_St), X12_stepOn_123 n f σ = some τ → sp_GG shM X σ 2 [some (.ref (sx_ad X 0)), none] [] 123 0 0 := by
  intro f
  induction f with
  | zero =>
    intro σ hf
    rw [X12_stepOn_123] at hf
    cases hf
  | succ f ih =>
    intro σ hf
    rw [X12_stepOn_123] at hf
    refine sp_aload_n (i := 0) (q := 124) hX dX12_stepOn_123 rfl rfl rfl ?_
    refine sp_aload_n (i := 0) (q := 125) hX dX12_stepOn_124 rfl rfl rfl ?_
    refine sp_geti (q := 128) hX flX12_173 fkX12_16 atM_0 dX12_stepOn_125 rfl ?_
    obtain ⟨σ2, v3, h1, hf⟩ := sp_bd_so hf
    refine sp_callVi (As := [.int (σ.1 0 16)]) (rest := []) (q := 131) hX (cnX12_byteAt (sp_st hX)  h1) cwX12_176 atM_0 rfl rfl rfl rfl rfl (Nat.le_of_ble_eq_true rfl) (Nat.le_of_ble_eq_true rfl) (Nat.le_of_ble_eq_true rfl) (Nat.le_of_ble_eq_true rfl) (Nat.le_of_ble_eq_true rfl) dX12_stepOn_128 rfl ?_
    obtain ⟨σ5, v6, h4, hf⟩ := sp_bd_so hf
    refine sp_callSi (As := [.int v3]) (rest := []) (q := 134) hX (cnX12_isDigit (sp_st hX)  h4) cwX12_190 rfl rfl rfl rfl (Nat.le_of_ble_eq_true rfl) (Nat.le_of_ble_eq_true rfl) (Nat.le_of_ble_eq_true rfl) (Nat.le_of_ble_eq_true rfl) (Nat.le_of_ble_eq_true rfl) dX12_stepOn_131 rfl ?_
    refine sp_if_eq (tgt := 178) (q := 137) hX dX12_stepOn_134 (by decide) rfl (fun hc => ?_) (fun hc => ?_)
    · rw [if_pos hc] at hf
      exact hX12_stepOn_178 hX hR hf
    · rw [if_neg hc] at hf
      refine sp_aload_n (i := 0) (q := 138) hX dX12_stepOn_137 rfl rfl rfl ?_
      refine sp_ldc (v := 100000) (q := 140) hX wd_1824 dX12_stepOn_138 rfl ?_
      refine sp_bipush (v := 10) (q := 142) hX dX12_stepOn_140 lb_10 rfl ?_
      refine sp_aload_n (i := 0) (q := 143) hX dX12_stepOn_142 rfl rfl rfl ?_
      refine sp_geti (q := 146) hX flX12_193 fkX12_19 atM_0 dX12_stepOn_143 rfl ?_
      refine sp_imul (q := 147) hX dX12_stepOn_146 rfl ?_
      refine sp_aload_n (i := 0) (q := 148) hX dX12_stepOn_147 rfl rfl rfl ?_
      refine sp_aload_n (i := 0) (q := 149) hX dX12_stepOn_148 rfl rfl rfl ?_
      refine sp_geti (q := 152) hX flX12_173 fkX12_16 atM_0 dX12_stepOn_149 rfl ?_
      obtain ⟨σ8, v9, h7, hf⟩ := sp_bd_so hf
      refine sp_callVi (As := [.int (σ5.1 0 16)]) (rest := [.int (((10 : Int32)) * (σ5.1 0 19)), .int ((100000 : Int32)), .ref (sx_ad X 0)]) (q := 155) hX (cnX12_byteAt (sp_st hX)  h7) cwX12_176 atM_0 rfl rfl rfl rfl rfl (Nat.le_of_ble_eq_true rfl) (Nat.le_of_ble_eq_true rfl) (Nat.le_of_ble_eq_true rfl) (Nat.le_of_ble_eq_true rfl) (Nat.le_of_ble_eq_true rfl) dX12_stepOn_152 rfl ?_
      refine sp_iadd (q := 156) hX dX12_stepOn_155 rfl ?_
      refine sp_bipush (v := 48) (q := 158) hX dX12_stepOn_156 lb_48 rfl ?_
      refine sp_isub (q := 159) hX dX12_stepOn_158 rfl ?_
      obtain ⟨v10, e11, hf⟩ := sp_pl_some hf
      refine sp_mmin (q := 162) hX wd_1825 wd_607 wd_144 wd_608 (Nat.le_of_ble_eq_true rfl) (Nat.le_of_ble_eq_true rfl) (Nat.le_of_ble_eq_true rfl) (Nat.le_of_ble_eq_true rfl) dX12_stepOn_159 rfl ?_
      refine sp_nmi e11 ?_
      obtain ⟨σ12, e13, hf⟩ := sp_pl_some hf
      refine sp_puti (q := 165) hX fpX12_193 fkX12_19 atM_0 dX12_stepOn_162 rfl ?_
      refine sp_nms e13 ?_
      refine sp_aload_n (i := 0) (q := 166) hX dX12_stepOn_165 rfl rfl rfl ?_
      refine sp_dup (q := 167) hX dX12_stepOn_166 rfl rfl ?_
      refine sp_geti (q := 170) hX flX12_173 fkX12_16 atM_0 dX12_stepOn_167 rfl ?_
      refine sp_iconst (v := 1) (q := 171) hX dX12_stepOn_170 li_1 rfl ?_
      refine sp_iadd (q := 172) hX dX12_stepOn_171 rfl ?_
      obtain ⟨σ14, e15, hf⟩ := sp_pl_some hf
      refine sp_puti (q := 175) hX fpX12_173 fkX12_16 atM_0 dX12_stepOn_172 rfl ?_
      refine sp_nms e15 ?_
      refine sp_goto (tgt := 123) hX dX12_stepOn_175 (by decide) ?_
      exact ih σ14 hf
set_option maxRecDepth 100000 in
set_option maxHeartbeats 4000000 in
theorem hX12_stepOn_103 {X : sp_X} (hX : sp_OK shM X cX12_stepOn RX12 2 rmX12_stepOn) {τ : sp_St} (hR : sp_Rv shM X τ 0 0) {n : Nat}    {σ : sp_St} (hf : X12_stepOn_103 n σ = some τ) : sp_GG shM X σ 2 [some (.ref (sx_ad X 0)), none] [] 103 0 0 := by
  unfold X12_stepOn_103 at hf
  refine sp_aload_n (i := 0) (q := 104) hX dX12_stepOn_103 rfl rfl rfl ?_
  refine sp_iconst (v := 1) (q := 105) hX dX12_stepOn_104 li_1 rfl ?_
  obtain ⟨σ1, e2, hf⟩ := sp_pl_some hf
  refine sp_puti (q := 108) hX fpX12_183 fkX12_18 atM_0 dX12_stepOn_105 rfl ?_
  refine sp_nms e2 ?_
  refine sp_goto (tgt := 212) hX dX12_stepOn_108 (by decide) ?_
  exact hX12_stepOn_212 hX hR hf
set_option maxRecDepth 100000 in
set_option maxHeartbeats 4000000 in
theorem hX12_stepOn_76 {X : sp_X} (hX : sp_OK shM X cX12_stepOn RX12 2 rmX12_stepOn) {τ : sp_St} (hR : sp_Rv shM X τ 0 0) {n : Nat}    : ∀ (f : Nat) (σ : sp_St), X12_stepOn_76 n f σ = some τ → sp_GG shM X σ 2 [some (.ref (sx_ad X 0)), none] [] 76 0 0 := by
  intro f
  induction f with
  | zero =>
    intro σ hf
    rw [X12_stepOn_76] at hf
    cases hf
  | succ f ih =>
    intro σ hf
    rw [X12_stepOn_76] at hf
    refine sp_aload_n (i := 0) (q := 77) hX dX12_stepOn_76 rfl rfl rfl ?_
    refine sp_aload_n (i := 0) (q := 78) hX dX12_stepOn_77 rfl rfl rfl ?_
    refine sp_geti (q := 81) hX flX12_173 fkX12_16 atM_0 dX12_stepOn_78 rfl ?_
    obtain ⟨σ2, v3, h1, hf⟩ := sp_bd_so hf
    refine sp_callVi (As := [.int (σ.1 0 16)]) (rest := []) (q := 84) hX (cnX12_byteAt (sp_st hX)  h1) cwX12_176 atM_0 rfl rfl rfl rfl rfl (Nat.le_of_ble_eq_true rfl) (Nat.le_of_ble_eq_true rfl) (Nat.le_of_ble_eq_true rfl) (Nat.le_of_ble_eq_true rfl) (Nat.le_of_ble_eq_true rfl) dX12_stepOn_81 rfl ?_
    obtain ⟨σ5, v6, h4, hf⟩ := sp_bd_so hf
    refine sp_callSi (As := [.int v3]) (rest := []) (q := 87) hX (cnX12_isLetter (sp_st hX)  h4) cwX12_186 rfl rfl rfl rfl (Nat.le_of_ble_eq_true rfl) (Nat.le_of_ble_eq_true rfl) (Nat.le_of_ble_eq_true rfl) (Nat.le_of_ble_eq_true rfl) (Nat.le_of_ble_eq_true rfl) dX12_stepOn_84 rfl ?_
    refine sp_if_eq (tgt := 103) (q := 90) hX dX12_stepOn_87 (by decide) rfl (fun hc => ?_) (fun hc => ?_)
    · rw [if_pos hc] at hf
      exact hX12_stepOn_103 hX hR hf
    · rw [if_neg hc] at hf
      refine sp_aload_n (i := 0) (q := 91) hX dX12_stepOn_90 rfl rfl rfl ?_
      refine sp_dup (q := 92) hX dX12_stepOn_91 rfl rfl ?_
      refine sp_geti (q := 95) hX flX12_173 fkX12_16 atM_0 dX12_stepOn_92 rfl ?_
      refine sp_iconst (v := 1) (q := 96) hX dX12_stepOn_95 li_1 rfl ?_
      refine sp_iadd (q := 97) hX dX12_stepOn_96 rfl ?_
      obtain ⟨σ7, e8, hf⟩ := sp_pl_some hf
      refine sp_puti (q := 100) hX fpX12_173 fkX12_16 atM_0 dX12_stepOn_97 rfl ?_
      refine sp_nms e8 ?_
      refine sp_goto (tgt := 76) hX dX12_stepOn_100 (by decide) ?_
      exact ih σ7 hf
set_option maxRecDepth 100000 in
set_option maxHeartbeats 4000000 in
theorem hX12_stepOn_39 {X : sp_X} (hX : sp_OK shM X cX12_stepOn RX12 2 rmX12_stepOn) {τ : sp_St} (hR : sp_Rv shM X τ 0 0) {n : Nat}    {σ : sp_St} (hf : X12_stepOn_39 n σ = some τ) : sp_GG shM X σ 2 [some (.ref (sx_ad X 0)), none] [] 39 0 0 := by
  unfold X12_stepOn_39 at hf
  refine sp_aload_n (i := 0) (q := 40) hX dX12_stepOn_39 rfl rfl rfl ?_
  refine sp_aload_n (i := 0) (q := 41) hX dX12_stepOn_40 rfl rfl rfl ?_
  refine sp_geti (q := 44) hX flX12_173 fkX12_16 atM_0 dX12_stepOn_41 rfl ?_
  obtain ⟨σ1, e2, hf⟩ := sp_pl_some hf
  refine sp_puti (q := 47) hX fpX12_180 fkX12_20 atM_0 dX12_stepOn_44 rfl ?_
  refine sp_nms e2 ?_
  refine sp_aload_n (i := 0) (q := 48) hX dX12_stepOn_47 rfl rfl rfl ?_
  refine sp_aload_n (i := 0) (q := 49) hX dX12_stepOn_48 rfl rfl rfl ?_
  refine sp_geti (q := 52) hX flX12_173 fkX12_16 atM_0 dX12_stepOn_49 rfl ?_
  obtain ⟨σ4, v5, h3, hf⟩ := sp_bd_so hf
  refine sp_callVi (As := [.int (σ1.1 0 16)]) (rest := []) (q := 55) hX (cnX12_byteAt (sp_st hX)  h3) cwX12_176 atM_0 rfl rfl rfl rfl rfl (Nat.le_of_ble_eq_true rfl) (Nat.le_of_ble_eq_true rfl) (Nat.le_of_ble_eq_true rfl) (Nat.le_of_ble_eq_true rfl) (Nat.le_of_ble_eq_true rfl) dX12_stepOn_52 rfl ?_
  refine sp_istore_n (i := 1) (lv' := [some (.ref (sx_ad X 0)), some (.int v5)]) (q := 56) hX dX12_stepOn_55 rfl (Nat.le_of_ble_eq_true rfl) rfl rfl rfl ?_
  refine sp_iload_n (i := 1) (q := 57) hX dX12_stepOn_56 rfl rfl rfl ?_
  refine sp_iconst (v := -1) (q := 58) hX dX12_stepOn_57 li_m1 rfl ?_
  refine sp_icmp_ne (tgt := 69) (q := 61) hX dX12_stepOn_58 (by decide) rfl (fun hc => ?_) (fun hc => ?_)
  · rw [if_neg hc] at hf
    refine sp_iload_n (i := 1) (q := 70) hX dX12_stepOn_69 rfl rfl rfl ?_
    obtain ⟨σ7, v8, h6, hf⟩ := sp_bd_so hf
    refine sp_callSi (As := [.int v5]) (rest := []) (q := 73) hX (cnX12_isLetter (sp_st hX)  h6) cwX12_186 rfl rfl rfl rfl (Nat.le_of_ble_eq_true rfl) (Nat.le_of_ble_eq_true rfl) (Nat.le_of_ble_eq_true rfl) (Nat.le_of_ble_eq_true rfl) (Nat.le_of_ble_eq_true rfl) dX12_stepOn_70 rfl ?_
    refine sp_if_eq (tgt := 111) (q := 76) hX dX12_stepOn_73 (by decide) rfl (fun hc => ?_) (fun hc => ?_)
    · rw [if_pos hc] at hf
      refine sp_iload_n (i := 1) (q := 112) hX dX12_stepOn_111 rfl rfl rfl ?_
      obtain ⟨σ10, v11, h9, hf⟩ := sp_bd_so hf
      refine sp_callSi (As := [.int v5]) (rest := []) (q := 115) hX (cnX12_isDigit (sp_st hX)  h9) cwX12_190 rfl rfl rfl rfl (Nat.le_of_ble_eq_true rfl) (Nat.le_of_ble_eq_true rfl) (Nat.le_of_ble_eq_true rfl) (Nat.le_of_ble_eq_true rfl) (Nat.le_of_ble_eq_true rfl) dX12_stepOn_112 rfl ?_
      refine sp_if_eq (tgt := 186) (q := 118) hX dX12_stepOn_115 (by decide) rfl (fun hc => ?_) (fun hc => ?_)
      · rw [if_pos hc] at hf
        refine sp_aload_n (i := 0) (q := 187) hX dX12_stepOn_186 rfl rfl rfl ?_
        refine sp_dup (q := 188) hX dX12_stepOn_187 rfl rfl ?_
        refine sp_geti (q := 191) hX flX12_173 fkX12_16 atM_0 dX12_stepOn_188 rfl ?_
        refine sp_iconst (v := 1) (q := 192) hX dX12_stepOn_191 li_1 rfl ?_
        refine sp_iadd (q := 193) hX dX12_stepOn_192 rfl ?_
        obtain ⟨σ12, e13, hf⟩ := sp_pl_some hf
        refine sp_puti (q := 196) hX fpX12_173 fkX12_16 atM_0 dX12_stepOn_193 rfl ?_
        refine sp_nms e13 ?_
        refine sp_aload_n (i := 0) (q := 197) hX dX12_stepOn_196 rfl rfl rfl ?_
        refine sp_iload_n (i := 1) (q := 198) hX dX12_stepOn_197 rfl rfl rfl ?_
        obtain ⟨σ15, v16, h14, hf⟩ := sp_bd_so hf
        refine sp_callSi (As := [.int v5]) (rest := [.ref (sx_ad X 0)]) (q := 201) hX (cnX12_isMark (sp_st hX)  h14) cwX12_203 rfl rfl rfl rfl (Nat.le_of_ble_eq_true rfl) (Nat.le_of_ble_eq_true rfl) (Nat.le_of_ble_eq_true rfl) (Nat.le_of_ble_eq_true rfl) (Nat.le_of_ble_eq_true rfl) dX12_stepOn_198 rfl ?_
        obtain ⟨v17, e18, hf⟩ := sp_pl_some hf
        have hj21 : sp_GG shM X σ15 2 [some (.ref (sx_ad X 0)), some (.int v5)] [.int v17, .ref (sx_ad X 0)] 209 0 0 := by
          obtain ⟨σ19, e20, hf⟩ := sp_pl_some hf
          refine sp_puti (q := 212) hX fpX12_183 fkX12_18 atM_0 dX12_stepOn_209 rfl ?_
          refine sp_nms e20 ?_
          refine sp_drop (lv' := [some (.ref (sx_ad X 0)), none]) (And.intro rfl trivial) ?_
          exact hX12_stepOn_212 hX hR hf
        refine sp_if_eq (tgt := 208) (q := 204) hX dX12_stepOn_201 (by decide) rfl (fun hc => ?_) (fun hc => ?_)
        · refine sp_iconst (v := 4) (q := 209) hX dX12_stepOn_208 li_4 rfl ?_
          exact sp_nmi (by rw [e18, if_pos hc]) hj21
        · refine sp_iconst (v := 3) (q := 205) hX dX12_stepOn_204 li_3 rfl ?_
          refine sp_goto (tgt := 209) hX dX12_stepOn_205 (by decide) ?_
          exact sp_nmi (by rw [e18, if_neg hc]) hj21
      · rw [if_neg hc] at hf
        refine sp_aload_n (i := 0) (q := 119) hX dX12_stepOn_118 rfl rfl rfl ?_
        refine sp_iconst (v := 0) (q := 120) hX dX12_stepOn_119 li_0 rfl ?_
        obtain ⟨σ22, e23, hf⟩ := sp_pl_some hf
        refine sp_puti (q := 123) hX fpX12_193 fkX12_19 atM_0 dX12_stepOn_120 rfl ?_
        refine sp_nms e23 ?_
        refine sp_drop (lv' := [some (.ref (sx_ad X 0)), none]) (And.intro rfl trivial) ?_
        exact hX12_stepOn_123 hX hR n σ22 hf
    · rw [if_neg hc] at hf
      refine sp_drop (lv' := [some (.ref (sx_ad X 0)), none]) (And.intro rfl trivial) ?_
      exact hX12_stepOn_76 hX hR n σ7 hf
  · rw [if_pos hc] at hf
    refine sp_aload_n (i := 0) (q := 62) hX dX12_stepOn_61 rfl rfl rfl ?_
    refine sp_iconst (v := 0) (q := 63) hX dX12_stepOn_62 li_0 rfl ?_
    obtain ⟨σ24, e25, hf⟩ := sp_pl_some hf
    refine sp_puti (q := 66) hX fpX12_183 fkX12_18 atM_0 dX12_stepOn_63 rfl ?_
    refine sp_nms e25 ?_
    refine sp_goto (tgt := 212) hX dX12_stepOn_66 (by decide) ?_
    refine sp_drop (lv' := [some (.ref (sx_ad X 0)), none]) (And.intro rfl trivial) ?_
    exact hX12_stepOn_212 hX hR hf
set_option maxRecDepth 100000 in
set_option maxHeartbeats 4000000 in
theorem hX12_stepOn_26 {X : sp_X} (hX : sp_OK shM X cX12_stepOn RX12 2 rmX12_stepOn) {τ : sp_St} (hR : sp_Rv shM X τ 0 0) {n : Nat}   {k0 : sp_St → Option (sp_St)} (hk0 : ∀ (σ : sp_St), k0 σ = some τ → sp_GG shM X σ 2 [some (.ref (sx_ad X 0)), none] [] 0 0 0) {σ : sp_St} (hf : X12_stepOn_26 n k0 σ = some τ) : sp_GG shM X σ 2 [some (.ref (sx_ad X 0)), none] [] 26 0 0 := by
  unfold X12_stepOn_26 at hf
  refine sp_aload_n (i := 0) (q := 27) hX dX12_stepOn_26 rfl rfl rfl ?_
  refine sp_dup (q := 28) hX dX12_stepOn_27 rfl rfl ?_
  refine sp_geti (q := 31) hX flX12_173 fkX12_16 atM_0 dX12_stepOn_28 rfl ?_
  refine sp_iconst (v := 1) (q := 32) hX dX12_stepOn_31 li_1 rfl ?_
  refine sp_iadd (q := 33) hX dX12_stepOn_32 rfl ?_
  obtain ⟨σ1, e2, hf⟩ := sp_pl_some hf
  refine sp_puti (q := 36) hX fpX12_173 fkX12_16 atM_0 dX12_stepOn_33 rfl ?_
  refine sp_nms e2 ?_
  refine sp_goto (tgt := 0) hX dX12_stepOn_36 (by decide) ?_
  exact hk0 σ1 hf
set_option maxRecDepth 100000 in
set_option maxHeartbeats 4000000 in
theorem hX12_stepOn_0 {X : sp_X} (hX : sp_OK shM X cX12_stepOn RX12 2 rmX12_stepOn) {τ : sp_St} (hR : sp_Rv shM X τ 0 0) {n : Nat}    : ∀ (f : Nat) (σ : sp_St), X12_stepOn_0 n f σ = some τ → sp_GG shM X σ 2 [some (.ref (sx_ad X 0)), none] [] 0 0 0 := by
  intro f
  induction f with
  | zero =>
    intro σ hf
    rw [X12_stepOn_0] at hf
    cases hf
  | succ f ih =>
    intro σ hf
    rw [X12_stepOn_0] at hf
    refine sp_aload_n (i := 0) (q := 1) hX dX12_stepOn_0 rfl rfl rfl ?_
    refine sp_aload_n (i := 0) (q := 2) hX dX12_stepOn_1 rfl rfl rfl ?_
    refine sp_geti (q := 5) hX flX12_173 fkX12_16 atM_0 dX12_stepOn_2 rfl ?_
    obtain ⟨σ2, v3, h1, hf⟩ := sp_bd_so hf
    refine sp_callVi (As := [.int (σ.1 0 16)]) (rest := []) (q := 8) hX (cnX12_byteAt (sp_st hX)  h1) cwX12_176 atM_0 rfl rfl rfl rfl rfl (Nat.le_of_ble_eq_true rfl) (Nat.le_of_ble_eq_true rfl) (Nat.le_of_ble_eq_true rfl) (Nat.le_of_ble_eq_true rfl) (Nat.le_of_ble_eq_true rfl) dX12_stepOn_5 rfl ?_
    refine sp_bipush (v := 32) (q := 10) hX dX12_stepOn_8 lb_32 rfl ?_
    refine sp_icmp_eq (tgt := 26) (q := 13) hX dX12_stepOn_10 (by decide) rfl (fun hc => ?_) (fun hc => ?_)
    · rw [if_pos hc] at hf
      exact hX12_stepOn_26 hX hR ih hf
    · rw [if_neg hc] at hf
      refine sp_aload_n (i := 0) (q := 14) hX dX12_stepOn_13 rfl rfl rfl ?_
      refine sp_aload_n (i := 0) (q := 15) hX dX12_stepOn_14 rfl rfl rfl ?_
      refine sp_geti (q := 18) hX flX12_173 fkX12_16 atM_0 dX12_stepOn_15 rfl ?_
      obtain ⟨σ5, v6, h4, hf⟩ := sp_bd_so hf
      refine sp_callVi (As := [.int (σ2.1 0 16)]) (rest := []) (q := 21) hX (cnX12_byteAt (sp_st hX)  h4) cwX12_176 atM_0 rfl rfl rfl rfl rfl (Nat.le_of_ble_eq_true rfl) (Nat.le_of_ble_eq_true rfl) (Nat.le_of_ble_eq_true rfl) (Nat.le_of_ble_eq_true rfl) (Nat.le_of_ble_eq_true rfl) dX12_stepOn_18 rfl ?_
      refine sp_bipush (v := 10) (q := 23) hX dX12_stepOn_21 lb_10 rfl ?_
      refine sp_icmp_ne (tgt := 39) (q := 26) hX dX12_stepOn_23 (by decide) rfl (fun hc => ?_) (fun hc => ?_)
      · rw [if_neg hc] at hf
        exact hX12_stepOn_39 hX hR hf
      · rw [if_pos hc] at hf
        exact hX12_stepOn_26 hX hR ih hf
set_option maxRecDepth 100000 in
set_option maxHeartbeats 4000000 in
theorem hX12_stepOn {X : sp_X} (hX : sp_OK shM X cX12_stepOn RX12 2 rmX12_stepOn) {τ : sp_St} (hR : sp_Rv shM X τ 0 0) {n : Nat}  {σ : sp_St}   (hf : X12_stepOn n σ = some τ) : sp_GG shM X σ 2 [some (.ref (sx_ad X 0)), none] [] 0 0 0 := by
  unfold X12_stepOn at hf
  exact hX12_stepOn_0 hX hR n σ hf
set_option maxRecDepth 100000 in
set_option maxHeartbeats 4000000 in
theorem cnX12_stepOn {l : Launch} (hst : l.stackTraces = false) {w : sp_Wd} {n : Nat}  {σ : sp_St}  {τ : sp_St}  (hf : X12_stepOn n σ = some τ) : sp_Cv shM l w yX12_stepOn cX12_stepOn 2 rmX12_stepOn 0 0 σ [.ref (w.2.1 0)] τ :=
  sp_cv (own := RX12) (by decide) rfl hst (Nat.le_of_ble_eq_true rfl) rfl (fun X hX hw hl hR => by subst hw; subst hl; exact hX12_stepOn hX hR   hf)
def rmX12_amiss : Room := { frames := 0, cells := 0, slots := 0, locals := 0 }
def X12_amiss (n : Nat)  (σ : sp_St) (a1 : Int32) : Option (sp_St) :=
  if (σ.1 0 22) = 0 then
    sp_pl (sp_si σ 0 22 a1) fun σ1 =>
    sp_pl (sp_si σ1 0 23 (σ1.1 0 20)) fun σ3 =>
    some σ3
  else
    some σ
set_option maxRecDepth 100000 in
set_option maxHeartbeats 4000000 in
theorem hX12_amiss {X : sp_X} (hX : sp_OK shM X cX12_amiss RX12 2 rmX12_amiss) {τ : sp_St} (hR : sp_Rv shM X τ 0 0) {n : Nat}  {σ : sp_St} {a1 : Int32}  (hf : X12_amiss n σ a1 = some τ) : sp_GG shM X σ 2 [some (.ref (sx_ad X 0)), some (.int a1)] [] 0 0 0 := by
  unfold X12_amiss at hf
  refine sp_aload_n (i := 0) (q := 1) hX dX12_amiss_0 rfl rfl rfl ?_
  refine sp_geti (q := 4) hX flX12_209 fkX12_22 atM_0 dX12_amiss_1 rfl ?_
  refine sp_if_eq (tgt := 8) (q := 7) hX dX12_amiss_4 (by decide) rfl (fun hc => ?_) (fun hc => ?_)
  · rw [if_pos hc] at hf
    refine sp_aload_n (i := 0) (q := 9) hX dX12_amiss_8 rfl rfl rfl ?_
    refine sp_iload_n (i := 1) (q := 10) hX dX12_amiss_9 rfl rfl rfl ?_
    obtain ⟨σ1, e2, hf⟩ := sp_pl_some hf
    refine sp_puti (q := 13) hX fpX12_209 fkX12_22 atM_0 dX12_amiss_10 rfl ?_
    refine sp_nms e2 ?_
    refine sp_aload_n (i := 0) (q := 14) hX dX12_amiss_13 rfl rfl rfl ?_
    refine sp_aload_n (i := 0) (q := 15) hX dX12_amiss_14 rfl rfl rfl ?_
    refine sp_geti (q := 18) hX flX12_180 fkX12_20 atM_0 dX12_amiss_15 rfl ?_
    obtain ⟨σ3, e4, hf⟩ := sp_pl_some hf
    refine sp_puti (q := 21) hX fpX12_212 fkX12_23 atM_0 dX12_amiss_18 rfl ?_
    refine sp_nms e4 ?_
    exact sp_vret hX hR dX12_amiss_21 hf (Nat.le_of_ble_eq_true rfl) (Nat.le_of_ble_eq_true rfl)
  · rw [if_neg hc] at hf
    exact sp_vret hX hR dX12_amiss_7 hf (Nat.le_of_ble_eq_true rfl) (Nat.le_of_ble_eq_true rfl)
set_option maxRecDepth 100000 in
set_option maxHeartbeats 4000000 in
theorem cnX12_amiss {l : Launch} (hst : l.stackTraces = false) {w : sp_Wd} {n : Nat}  {σ : sp_St} {a1 : Int32} {τ : sp_St}  (hf : X12_amiss n σ a1 = some τ) : sp_Cv shM l w yX12_amiss cX12_amiss 2 rmX12_amiss 0 0 σ [.ref (w.2.1 0), .int a1] τ :=
  sp_cv (own := RX12) (by decide) rfl hst (Nat.le_of_ble_eq_true rfl) rfl (fun X hX hw hl hR => by subst hw; subst hl; exact hX12_amiss hX hR   hf)
def rmX12_is : Room := { frames := 4, cells := 0, slots := 0, locals := 85 }
def X12_is_82 (n : Nat) (s1 : Nat) (σ : sp_St) (z2 : Int32) : Option (sp_St × Int32) :=
  sp_ck (sp_zb z2) <|
  some (σ, z2)
def X12_is_39 (n : Nat) (s1 : Nat) : Nat → sp_St → Int32 → Int32 → Option (sp_St × Int32)
  | 0, _, _, _ => none
  | f + 1, σ, z2, z3 =>
    if z2 = 0 then
      X12_is_82 n s1 σ z2
    else
      sp_bd (J0_length_8abf5 n σ s1) fun σ2 v3 =>
      if v3 ≤ z3 then
        X12_is_82 n s1 σ2 z2
      else
        sp_bd (J0_charAt_5068e n σ2 s1 z3) fun σ5 v6 =>
        sp_ck (sp_in ((σ5.1 0 20) + z3) 700) <|
        sp_pl (if v6 = (sp_g σ5 13 ((σ5.1 0 20) + z3)) then ((1 : Int32)) else ((0 : Int32))) fun v8 =>
        sp_pl (z3 + 1) fun x10 =>
        X12_is_39 n s1 f σ5 v8 x10
def X12_is_36 (n : Nat) (s1 : Nat) (σ : sp_St) (zs0 : Int32) : Option (sp_St × Int32) :=
  sp_pl ((0 : Int32)) fun x1 =>
  X12_is_39 n s1 n σ zs0 x1
def X12_is_35 (n : Nat) (s1 : Nat) (σ : sp_St) : Option (sp_St × Int32) :=
  X12_is_36 n s1 σ ((0 : Int32))
def X12_is (n : Nat)  (σ : sp_St) (s1 : Nat) : Option (sp_St × Int32) :=
  if (σ.1 0 22) = 0 then
    if (σ.1 0 18) = ((1 : Int32)) then
      sp_bd (J0_length_8abf5 n σ s1) fun σ2 v3 =>
      if v3 = ((σ2.1 0 21) - (σ2.1 0 20)) then
        X12_is_36 n s1 σ2 ((1 : Int32))
      else
        X12_is_35 n s1 σ2
    else
      X12_is_35 n s1 σ
  else
    X12_is_35 n s1 σ
set_option maxRecDepth 100000 in
set_option maxHeartbeats 4000000 in
theorem hX12_is_82 {X : sp_X} (hX : sp_OK shM X cX12_is RX12 4 rmX12_is) {τ : sp_St} {r : Int32} (hR : sp_Ri shM X (some .boolean) τ r 0 0) {n : Nat}  {s1 : Nat} (hs1 : s1 < 16)  {σ : sp_St} {z2 : Int32} (hf : X12_is_82 n s1 σ z2 = some (τ, r)) : sp_GG shM X σ 4 [none, none, some (.int z2), none] [] 82 0 0 := by
  unfold X12_is_82 at hf
  refine sp_iload_n (i := 2) (q := 83) hX dX12_is_82 rfl rfl rfl ?_
  obtain ⟨h1, hf⟩ := sp_ck_some hf
  exact sp_zret hX hR h1 dX12_is_83 hf (Nat.le_of_ble_eq_true rfl) (Nat.le_of_ble_eq_true rfl)
set_option maxRecDepth 100000 in
set_option maxHeartbeats 4000000 in
theorem hX12_is_39 {X : sp_X} (hX : sp_OK shM X cX12_is RX12 4 rmX12_is) {τ : sp_St} {r : Int32} (hR : sp_Ri shM X (some .boolean) τ r 0 0) {n : Nat}  {s1 : Nat} (hs1 : s1 < 16)  : ∀ (f : Nat) (σ : sp_St) (z2 : Int32) (z3 : Int32), X12_is_39 n s1 f σ z2 z3 = some (τ, r) → sp_GG shM X σ 4 [some (.ref (sx_ad X 0)), some (.ref ((sx_w X).2.2.1 0 s1)), some (.int z2), some (.int z3)] [] 39 0 0 := by
  intro f
  induction f with
  | zero =>
    intro σ z2 z3 hf
    rw [X12_is_39] at hf
    cases hf
  | succ f ih =>
    intro σ z2 z3 hf
    rw [X12_is_39] at hf
    refine sp_iload_n (i := 2) (q := 40) hX dX12_is_39 rfl rfl rfl ?_
    refine sp_if_eq (tgt := 82) (q := 43) hX dX12_is_40 (by decide) rfl (fun hc => ?_) (fun hc => ?_)
    · rw [if_pos hc] at hf
      refine sp_drop (lv' := [none, none, some (.int z2), none]) (And.intro rfl trivial) ?_
      exact hX12_is_82 hX hR hs1 hf
    · rw [if_neg hc] at hf
      refine sp_iload_n (i := 3) (q := 44) hX dX12_is_43 rfl rfl rfl ?_
      refine sp_aload_n (i := 1) (q := 45) hX dX12_is_44 rfl rfl rfl ?_
      obtain ⟨σ2, v3, h1, hf⟩ := sp_bd_so hf
      refine sp_callTi (As := []) (rest := [.int z3]) (q := 48) hX (cnJ0_length_8abf5 (sp_st hX) hs1 h1) cwX12_215 hs1 rfl rfl rfl rfl (Nat.le_of_ble_eq_true rfl) (Nat.le_of_ble_eq_true rfl) (Nat.le_of_ble_eq_true rfl) (Nat.le_of_ble_eq_true rfl) (Nat.le_of_ble_eq_true rfl) dX12_is_45 rfl ?_
      refine sp_icmp_ge (tgt := 82) (q := 51) hX dX12_is_48 (by decide) rfl (fun hc => ?_) (fun hc => ?_)
      · rw [if_pos hc] at hf
        refine sp_drop (lv' := [none, none, some (.int z2), none]) (And.intro rfl trivial) ?_
        exact hX12_is_82 hX hR hs1 hf
      · rw [if_neg hc] at hf
        refine sp_aload_n (i := 1) (q := 52) hX dX12_is_51 rfl rfl rfl ?_
        refine sp_iload_n (i := 3) (q := 53) hX dX12_is_52 rfl rfl rfl ?_
        obtain ⟨σ5, v6, h4, hf⟩ := sp_bd_so hf
        refine sp_callTi (As := [.int z3]) (rest := []) (q := 56) hX (cnJ0_charAt_5068e (sp_st hX) hs1 h4) cwX12_218 hs1 rfl rfl rfl rfl (Nat.le_of_ble_eq_true rfl) (Nat.le_of_ble_eq_true rfl) (Nat.le_of_ble_eq_true rfl) (Nat.le_of_ble_eq_true rfl) (Nat.le_of_ble_eq_true rfl) dX12_is_53 rfl ?_
        refine sp_aload_n (i := 0) (q := 57) hX dX12_is_56 rfl rfl rfl ?_
        refine sp_gets (t := 13) (q := 60) hX flX12_63 fkX12_14 atM_0 srM_0_14 dX12_is_57 rfl ?_
        refine sp_aload_n (i := 0) (q := 61) hX dX12_is_60 rfl rfl rfl ?_
        refine sp_geti (q := 64) hX flX12_180 fkX12_20 atM_0 dX12_is_61 rfl ?_
        refine sp_iload_n (i := 3) (q := 65) hX dX12_is_64 rfl rfl rfl ?_
        refine sp_iadd (q := 66) hX dX12_is_65 rfl ?_
        obtain ⟨h7, hf⟩ := sp_ck_some hf
        refine sp_iald (q := 67) hX arM_13 h7 dX12_is_66 rfl ?_
        obtain ⟨v8, e9, hf⟩ := sp_pl_some hf
        have hj12 : sp_GG shM X σ5 4 [some (.ref (sx_ad X 0)), some (.ref ((sx_w X).2.2.1 0 s1)), some (.int z2), some (.int z3)] [.int v8] 75 0 0 := by
          refine sp_istore_n (i := 2) (lv' := [some (.ref (sx_ad X 0)), some (.ref ((sx_w X).2.2.1 0 s1)), some (.int v8), some (.int z3)]) (q := 76) hX dX12_is_75 rfl (Nat.le_of_ble_eq_true rfl) rfl rfl rfl ?_
          obtain ⟨x10, e11, hf⟩ := sp_pl_some hf
          refine sp_iinc (i := 3) (v := x10) (lv' := [some (.ref (sx_ad X 0)), some (.ref ((sx_w X).2.2.1 0 s1)), some (.int v8), some (.int x10)]) (q := 79) hX dX12_is_76 rfl (by rw [e11, li_1]) (Nat.le_of_ble_eq_true rfl) rfl rfl rfl ?_
          refine sp_goto (tgt := 39) hX dX12_is_79 (by decide) ?_
          exact ih σ5 v8 x10 hf
        refine sp_icmp_ne (tgt := 74) (q := 70) hX dX12_is_67 (by decide) rfl (fun hc => ?_) (fun hc => ?_)
        · refine sp_iconst (v := 0) (q := 75) hX dX12_is_74 li_0 rfl ?_
          exact sp_nmi (by rw [e9, if_neg hc]) hj12
        · refine sp_iconst (v := 1) (q := 71) hX dX12_is_70 li_1 rfl ?_
          refine sp_goto (tgt := 75) hX dX12_is_71 (by decide) ?_
          exact sp_nmi (by rw [e9, if_pos hc]) hj12
set_option maxRecDepth 100000 in
set_option maxHeartbeats 4000000 in
theorem hX12_is_36 {X : sp_X} (hX : sp_OK shM X cX12_is RX12 4 rmX12_is) {τ : sp_St} {r : Int32} (hR : sp_Ri shM X (some .boolean) τ r 0 0) {n : Nat}  {s1 : Nat} (hs1 : s1 < 16)  {σ : sp_St} {zs0 : Int32} (hf : X12_is_36 n s1 σ zs0 = some (τ, r)) : sp_GG shM X σ 4 [some (.ref (sx_ad X 0)), some (.ref ((sx_w X).2.2.1 0 s1)), none, none] [.int zs0] 36 0 0 := by
  unfold X12_is_36 at hf
  refine sp_istore_n (i := 2) (lv' := [some (.ref (sx_ad X 0)), some (.ref ((sx_w X).2.2.1 0 s1)), some (.int zs0), none]) (q := 37) hX dX12_is_36 rfl (Nat.le_of_ble_eq_true rfl) rfl rfl rfl ?_
  refine sp_iconst (v := 0) (q := 38) hX dX12_is_37 li_0 rfl ?_
  obtain ⟨x1, e2, hf⟩ := sp_pl_some hf
  refine sp_nmi e2 ?_
  refine sp_istore_n (i := 3) (lv' := [some (.ref (sx_ad X 0)), some (.ref ((sx_w X).2.2.1 0 s1)), some (.int zs0), some (.int x1)]) (q := 39) hX dX12_is_38 rfl (Nat.le_of_ble_eq_true rfl) rfl rfl rfl ?_
  exact hX12_is_39 hX hR hs1 n σ zs0 x1 hf
set_option maxRecDepth 100000 in
set_option maxHeartbeats 4000000 in
theorem hX12_is_35 {X : sp_X} (hX : sp_OK shM X cX12_is RX12 4 rmX12_is) {τ : sp_St} {r : Int32} (hR : sp_Ri shM X (some .boolean) τ r 0 0) {n : Nat}  {s1 : Nat} (hs1 : s1 < 16)  {σ : sp_St} (hf : X12_is_35 n s1 σ = some (τ, r)) : sp_GG shM X σ 4 [some (.ref (sx_ad X 0)), some (.ref ((sx_w X).2.2.1 0 s1)), none, none] [] 35 0 0 := by
  unfold X12_is_35 at hf
  refine sp_iconst (v := 0) (q := 36) hX dX12_is_35 li_0 rfl ?_
  exact hX12_is_36 hX hR hs1 hf
set_option maxRecDepth 100000 in
set_option maxHeartbeats 4000000 in
theorem hX12_is {X : sp_X} (hX : sp_OK shM X cX12_is RX12 4 rmX12_is) {τ : sp_St} {r : Int32} (hR : sp_Ri shM X (some .boolean) τ r 0 0) {n : Nat}  {σ : sp_St} {s1 : Nat} (hs1 : s1 < 16) (hf : X12_is n σ s1 = some (τ, r)) : sp_GG shM X σ 4 [some (.ref (sx_ad X 0)), some (.ref ((sx_w X).2.2.1 0 s1)), none, none] [] 0 0 0 := by
  unfold X12_is at hf
  refine sp_aload_n (i := 0) (q := 1) hX dX12_is_0 rfl rfl rfl ?_
  refine sp_geti (q := 4) hX flX12_209 fkX12_22 atM_0 dX12_is_1 rfl ?_
  refine sp_if_ne (tgt := 35) (q := 7) hX dX12_is_4 (by decide) rfl (fun hc => ?_) (fun hc => ?_)
  · rw [if_neg hc] at hf
    exact hX12_is_35 hX hR hs1 hf
  · rw [if_pos hc] at hf
    refine sp_aload_n (i := 0) (q := 8) hX dX12_is_7 rfl rfl rfl ?_
    refine sp_geti (q := 11) hX flX12_183 fkX12_18 atM_0 dX12_is_8 rfl ?_
    refine sp_iconst (v := 1) (q := 12) hX dX12_is_11 li_1 rfl ?_
    refine sp_icmp_ne (tgt := 35) (q := 15) hX dX12_is_12 (by decide) rfl (fun hc => ?_) (fun hc => ?_)
    · rw [if_neg hc] at hf
      exact hX12_is_35 hX hR hs1 hf
    · rw [if_pos hc] at hf
      refine sp_aload_n (i := 1) (q := 16) hX dX12_is_15 rfl rfl rfl ?_
      obtain ⟨σ2, v3, h1, hf⟩ := sp_bd_so hf
      refine sp_callTi (As := []) (rest := []) (q := 19) hX (cnJ0_length_8abf5 (sp_st hX) hs1 h1) cwX12_215 hs1 rfl rfl rfl rfl (Nat.le_of_ble_eq_true rfl) (Nat.le_of_ble_eq_true rfl) (Nat.le_of_ble_eq_true rfl) (Nat.le_of_ble_eq_true rfl) (Nat.le_of_ble_eq_true rfl) dX12_is_16 rfl ?_
      refine sp_aload_n (i := 0) (q := 20) hX dX12_is_19 rfl rfl rfl ?_
      refine sp_geti (q := 23) hX flX12_206 fkX12_21 atM_0 dX12_is_20 rfl ?_
      refine sp_aload_n (i := 0) (q := 24) hX dX12_is_23 rfl rfl rfl ?_
      refine sp_geti (q := 27) hX flX12_180 fkX12_20 atM_0 dX12_is_24 rfl ?_
      refine sp_isub (q := 28) hX dX12_is_27 rfl ?_
      refine sp_icmp_ne (tgt := 35) (q := 31) hX dX12_is_28 (by decide) rfl (fun hc => ?_) (fun hc => ?_)
      · rw [if_neg hc] at hf
        exact hX12_is_35 hX hR hs1 hf
      · rw [if_pos hc] at hf
        refine sp_iconst (v := 1) (q := 32) hX dX12_is_31 li_1 rfl ?_
        refine sp_goto (tgt := 36) hX dX12_is_32 (by decide) ?_
        exact hX12_is_36 hX hR hs1 hf
set_option maxRecDepth 100000 in
set_option maxHeartbeats 4000000 in
theorem cnX12_is {l : Launch} (hst : l.stackTraces = false) {w : sp_Wd} {n : Nat}  {σ : sp_St} {s1 : Nat} {τ : sp_St} {r : Int32} (hs1 : s1 < 16) (hf : X12_is n σ s1 = some (τ, r)) : sp_Ci shM l w yX12_is cX12_is 4 (some .boolean) rmX12_is 0 0 σ [.ref (w.2.1 0), .ref (w.2.2.1 0 s1)] τ r :=
  sp_ci (own := RX12) (by decide) rfl hst (Nat.le_of_ble_eq_true rfl) rfl (fun X hX hw hl hR => by subst hw; subst hl; exact hX12_is hX hR  hs1 hf)
def rmX12_which : Room := { frames := 5, cells := 0, slots := 0, locals := 108 }
def X12_which_26 (n : Nat) (p1 m1 : Nat) (σ : sp_St) : Option (sp_St × Int32) :=
  some (σ, (-1 : Int32))
def X12_which_18 (n : Nat) (p1 m1 : Nat) (σ : sp_St) (z2 : Int32) : Option (sp_St × Int32) :=
  some (σ, z2)
def X12_which_2 (n : Nat) (p1 m1 : Nat) : Nat → sp_St → Int32 → Option (sp_St × Int32)
  | 0, _, _ => none
  | f + 1, σ, z2 =>
    if (Int32.ofNat m1) ≤ z2 then
      X12_which_26 n p1 m1 σ
    else
      sp_ck (sp_in z2 m1) <|
      sp_pl (shM.2.2.2 p1 z2.toNatClampNeg) fun s2 =>
      sp_ck (decide (s2 < 16)) <|
      sp_bd (X12_is n σ s2) fun σ6 v7 =>
      if v7 = 0 then
        sp_pl (z2 + 1) fun x8 =>
        X12_which_2 n p1 m1 f σ6 x8
      else
        X12_which_18 n p1 m1 σ6 z2
def X12_which (n : Nat)  (σ : sp_St) (p1 m1 : Nat) : Option (sp_St × Int32) :=
  sp_pl ((0 : Int32)) fun x1 =>
  X12_which_2 n p1 m1 n σ x1
set_option maxRecDepth 100000 in
set_option maxHeartbeats 4000000 in
theorem hX12_which_26 {X : sp_X} (hX : sp_OK shM X cX12_which RX12 3 rmX12_which) {τ : sp_St} {r : Int32} (hR : sp_Ri shM X (some .int) τ r 0 0) {n : Nat}  {p1 m1 : Nat} (hp1 : sp_ar shM p1 4 m1)  {σ : sp_St} (hf : X12_which_26 n p1 m1 σ = some (τ, r)) : sp_GG shM X σ 3 [none, none, none] [] 26 0 0 := by
  unfold X12_which_26 at hf
  refine sp_iconst (v := -1) (q := 27) hX dX12_which_26 li_m1 rfl ?_
  exact sp_iret hX hR dX12_which_27 hf (Nat.le_of_ble_eq_true rfl) (Nat.le_of_ble_eq_true rfl)
set_option maxRecDepth 100000 in
set_option maxHeartbeats 4000000 in
theorem hX12_which_18 {X : sp_X} (hX : sp_OK shM X cX12_which RX12 3 rmX12_which) {τ : sp_St} {r : Int32} (hR : sp_Ri shM X (some .int) τ r 0 0) {n : Nat}  {p1 m1 : Nat} (hp1 : sp_ar shM p1 4 m1)  {σ : sp_St} {z2 : Int32} (hf : X12_which_18 n p1 m1 σ z2 = some (τ, r)) : sp_GG shM X σ 3 [none, none, some (.int z2)] [] 18 0 0 := by
  unfold X12_which_18 at hf
  refine sp_iload_n (i := 2) (q := 19) hX dX12_which_18 rfl rfl rfl ?_
  exact sp_iret hX hR dX12_which_19 hf (Nat.le_of_ble_eq_true rfl) (Nat.le_of_ble_eq_true rfl)
set_option maxRecDepth 100000 in
set_option maxHeartbeats 4000000 in
theorem hX12_which_2 {X : sp_X} (hX : sp_OK shM X cX12_which RX12 3 rmX12_which) {τ : sp_St} {r : Int32} (hR : sp_Ri shM X (some .int) τ r 0 0) {n : Nat}  {p1 m1 : Nat} (hp1 : sp_ar shM p1 4 m1)  : ∀ (f : Nat) (σ : sp_St) (z2 : Int32), X12_which_2 n p1 m1 f σ z2 = some (τ, r) → sp_GG shM X σ 3 [some (.ref (sx_ad X 0)), some (.ref (sx_ad X p1)), some (.int z2)] [] 2 0 0 := by
  intro f
  induction f with
  | zero =>
    intro σ z2 hf
    rw [X12_which_2] at hf
    cases hf
  | succ f ih =>
    intro σ z2 hf
    rw [X12_which_2] at hf
    refine sp_iload_n (i := 2) (q := 3) hX dX12_which_2 rfl rfl rfl ?_
    refine sp_aload_n (i := 1) (q := 4) hX dX12_which_3 rfl rfl rfl ?_
    refine sp_alens (v := Int32.ofNat m1) (q := 5) hX hp1 rfl dX12_which_4 rfl ?_
    refine sp_icmp_ge (tgt := 26) (q := 8) hX dX12_which_5 (by decide) rfl (fun hc => ?_) (fun hc => ?_)
    · rw [if_pos hc] at hf
      refine sp_drop (lv' := [none, none, none]) trivial ?_
      exact hX12_which_26 hX hR hp1 hf
    · rw [if_neg hc] at hf
      refine sp_aload_n (i := 0) (q := 9) hX dX12_which_8 rfl rfl rfl ?_
      refine sp_aload_n (i := 1) (q := 10) hX dX12_which_9 rfl rfl rfl ?_
      refine sp_iload_n (i := 2) (q := 11) hX dX12_which_10 rfl rfl rfl ?_
      obtain ⟨h1, hf⟩ := sp_ck_some hf
      obtain ⟨s2, e3, hf⟩ := sp_pl_some hf
      obtain ⟨h4, hf⟩ := sp_ck_some hf
      refine sp_aald (q := 12) hX hp1 h1 dX12_which_11 rfl ?_
      rw [← e3]
      obtain ⟨σ6, v7, h5, hf⟩ := sp_bd_so hf
      refine sp_callVi (As := [.ref ((sx_w X).2.2.1 0 s2)]) (rest := []) (q := 15) hX (cnX12_is (sp_st hX) (of_decide_eq_true h4) h5) cwX12_222 atM_0 rfl rfl rfl rfl rfl (Nat.le_of_ble_eq_true rfl) (Nat.le_of_ble_eq_true rfl) (Nat.le_of_ble_eq_true rfl) (Nat.le_of_ble_eq_true rfl) (Nat.le_of_ble_eq_true rfl) dX12_which_12 rfl ?_
      refine sp_if_eq (tgt := 20) (q := 18) hX dX12_which_15 (by decide) rfl (fun hc => ?_) (fun hc => ?_)
      · rw [if_pos hc] at hf
        obtain ⟨x8, e9, hf⟩ := sp_pl_some hf
        refine sp_iinc (i := 2) (v := x8) (lv' := [some (.ref (sx_ad X 0)), some (.ref (sx_ad X p1)), some (.int x8)]) (q := 23) hX dX12_which_20 rfl (by rw [e9, li_1]) (Nat.le_of_ble_eq_true rfl) rfl rfl rfl ?_
        refine sp_goto (tgt := 2) hX dX12_which_23 (by decide) ?_
        exact ih σ6 x8 hf
      · rw [if_neg hc] at hf
        refine sp_drop (lv' := [none, none, some (.int z2)]) (And.intro rfl trivial) ?_
        exact hX12_which_18 hX hR hp1 hf
set_option maxRecDepth 100000 in
set_option maxHeartbeats 4000000 in
theorem hX12_which {X : sp_X} (hX : sp_OK shM X cX12_which RX12 3 rmX12_which) {τ : sp_St} {r : Int32} (hR : sp_Ri shM X (some .int) τ r 0 0) {n : Nat}  {σ : sp_St} {p1 m1 : Nat} (hp1 : sp_ar shM p1 4 m1) (hf : X12_which n σ p1 m1 = some (τ, r)) : sp_GG shM X σ 3 [some (.ref (sx_ad X 0)), some (.ref (sx_ad X p1)), none] [] 0 0 0 := by
  unfold X12_which at hf
  refine sp_iconst (v := 0) (q := 1) hX dX12_which_0 li_0 rfl ?_
  obtain ⟨x1, e2, hf⟩ := sp_pl_some hf
  refine sp_nmi e2 ?_
  refine sp_istore_n (i := 2) (lv' := [some (.ref (sx_ad X 0)), some (.ref (sx_ad X p1)), some (.int x1)]) (q := 2) hX dX12_which_1 rfl (Nat.le_of_ble_eq_true rfl) rfl rfl rfl ?_
  exact hX12_which_2 hX hR hp1 n σ x1 hf
set_option maxRecDepth 100000 in
set_option maxHeartbeats 4000000 in
theorem cnX12_which {l : Launch} (hst : l.stackTraces = false) {w : sp_Wd} {n : Nat}  {σ : sp_St} {p1 m1 : Nat} {τ : sp_St} {r : Int32} (hp1 : sp_ar shM p1 4 m1) (hf : X12_which n σ p1 m1 = some (τ, r)) : sp_Ci shM l w yX12_which cX12_which 3 (some .int) rmX12_which 0 0 σ [.ref (w.2.1 0), .ref (w.2.1 p1)] τ r :=
  sp_ci (own := RX12) (by decide) rfl hst (Nat.le_of_ble_eq_true rfl) rfl (fun X hX hw hl hR => by subst hw; subst hl; exact hX12_which hX hR  hp1 hf)
def rmX12_isMarked : Room := { frames := 0, cells := 0, slots := 0, locals := 0 }
def X12_isMarked_33 (n : Nat) (σ : sp_St) (zs0 : Int32) : Option (sp_St × Int32) :=
  sp_ck (sp_zb zs0) <|
  some (σ, zs0)
def X12_isMarked_32 (n : Nat) (σ : sp_St) : Option (sp_St × Int32) :=
  X12_isMarked_33 n σ ((0 : Int32))
def X12_isMarked (n : Nat)  (σ : sp_St) (a1 : Int32) : Option (sp_St × Int32) :=
  if (σ.1 0 22) = 0 then
    if (σ.1 0 18) = ((3 : Int32)) then
      sp_ck (sp_in (σ.1 0 20) 700) <|
      if (sp_g σ 13 (σ.1 0 20)) = a1 then
        X12_isMarked_33 n σ ((1 : Int32))
      else
        X12_isMarked_32 n σ
    else
      X12_isMarked_32 n σ
  else
    X12_isMarked_32 n σ
set_option maxRecDepth 100000 in
set_option maxHeartbeats 4000000 in
theorem hX12_isMarked_33 {X : sp_X} (hX : sp_OK shM X cX12_isMarked RX12 2 rmX12_isMarked) {τ : sp_St} {r : Int32} (hR : sp_Ri shM X (some .boolean) τ r 0 0) {n : Nat}    {σ : sp_St} {zs0 : Int32} (hf : X12_isMarked_33 n σ zs0 = some (τ, r)) : sp_GG shM X σ 2 [none, none] [.int zs0] 33 0 0 := by
  unfold X12_isMarked_33 at hf
  obtain ⟨h1, hf⟩ := sp_ck_some hf
  exact sp_zret hX hR h1 dX12_isMarked_33 hf (Nat.le_of_ble_eq_true rfl) (Nat.le_of_ble_eq_true rfl)
set_option maxRecDepth 100000 in
set_option maxHeartbeats 4000000 in
theorem hX12_isMarked_32 {X : sp_X} (hX : sp_OK shM X cX12_isMarked RX12 2 rmX12_isMarked) {τ : sp_St} {r : Int32} (hR : sp_Ri shM X (some .boolean) τ r 0 0) {n : Nat}    {σ : sp_St} (hf : X12_isMarked_32 n σ = some (τ, r)) : sp_GG shM X σ 2 [none, none] [] 32 0 0 := by
  unfold X12_isMarked_32 at hf
  refine sp_iconst (v := 0) (q := 33) hX dX12_isMarked_32 li_0 rfl ?_
  exact hX12_isMarked_33 hX hR hf
set_option maxRecDepth 100000 in
set_option maxHeartbeats 4000000 in
theorem hX12_isMarked {X : sp_X} (hX : sp_OK shM X cX12_isMarked RX12 2 rmX12_isMarked) {τ : sp_St} {r : Int32} (hR : sp_Ri shM X (some .boolean) τ r 0 0) {n : Nat}  {σ : sp_St} {a1 : Int32}  (hf : X12_isMarked n σ a1 = some (τ, r)) : sp_GG shM X σ 2 [some (.ref (sx_ad X 0)), some (.int a1)] [] 0 0 0 := by
  unfold X12_isMarked at hf
  refine sp_aload_n (i := 0) (q := 1) hX dX12_isMarked_0 rfl rfl rfl ?_
  refine sp_geti (q := 4) hX flX12_209 fkX12_22 atM_0 dX12_isMarked_1 rfl ?_
  refine sp_if_ne (tgt := 32) (q := 7) hX dX12_isMarked_4 (by decide) rfl (fun hc => ?_) (fun hc => ?_)
  · rw [if_neg hc] at hf
    refine sp_drop (lv' := [none, none]) trivial ?_
    exact hX12_isMarked_32 hX hR hf
  · rw [if_pos hc] at hf
    refine sp_aload_n (i := 0) (q := 8) hX dX12_isMarked_7 rfl rfl rfl ?_
    refine sp_geti (q := 11) hX flX12_183 fkX12_18 atM_0 dX12_isMarked_8 rfl ?_
    refine sp_iconst (v := 3) (q := 12) hX dX12_isMarked_11 li_3 rfl ?_
    refine sp_icmp_ne (tgt := 32) (q := 15) hX dX12_isMarked_12 (by decide) rfl (fun hc => ?_) (fun hc => ?_)
    · rw [if_neg hc] at hf
      refine sp_drop (lv' := [none, none]) trivial ?_
      exact hX12_isMarked_32 hX hR hf
    · rw [if_pos hc] at hf
      refine sp_aload_n (i := 0) (q := 16) hX dX12_isMarked_15 rfl rfl rfl ?_
      refine sp_gets (t := 13) (q := 19) hX flX12_63 fkX12_14 atM_0 srM_0_14 dX12_isMarked_16 rfl ?_
      refine sp_aload_n (i := 0) (q := 20) hX dX12_isMarked_19 rfl rfl rfl ?_
      refine sp_geti (q := 23) hX flX12_180 fkX12_20 atM_0 dX12_isMarked_20 rfl ?_
      obtain ⟨h1, hf⟩ := sp_ck_some hf
      refine sp_iald (q := 24) hX arM_13 h1 dX12_isMarked_23 rfl ?_
      refine sp_iload_n (i := 1) (q := 25) hX dX12_isMarked_24 rfl rfl rfl ?_
      refine sp_icmp_ne (tgt := 32) (q := 28) hX dX12_isMarked_25 (by decide) rfl (fun hc => ?_) (fun hc => ?_)
      · rw [if_neg hc] at hf
        refine sp_drop (lv' := [none, none]) trivial ?_
        exact hX12_isMarked_32 hX hR hf
      · rw [if_pos hc] at hf
        refine sp_iconst (v := 1) (q := 29) hX dX12_isMarked_28 li_1 rfl ?_
        refine sp_goto (tgt := 33) hX dX12_isMarked_29 (by decide) ?_
        refine sp_drop (lv' := [none, none]) trivial ?_
        exact hX12_isMarked_33 hX hR hf
set_option maxRecDepth 100000 in
set_option maxHeartbeats 4000000 in
theorem cnX12_isMarked {l : Launch} (hst : l.stackTraces = false) {w : sp_Wd} {n : Nat}  {σ : sp_St} {a1 : Int32} {τ : sp_St} {r : Int32}  (hf : X12_isMarked n σ a1 = some (τ, r)) : sp_Ci shM l w yX12_isMarked cX12_isMarked 2 (some .boolean) rmX12_isMarked 0 0 σ [.ref (w.2.1 0), .int a1] τ r :=
  sp_ci (own := RX12) (by decide) rfl hst (Nat.le_of_ble_eq_true rfl) rfl (fun X hX hw hl hR => by subst hw; subst hl; exact hX12_isMarked hX hR   hf)
def rmX12_mark : Room := { frames := 2, cells := 0, slots := 0, locals := 45 }
def X12_mark_31 (n : Nat) (σ : sp_St) : Option (sp_St) :=
  some σ
def X12_mark_20 (n : Nat) (σ : sp_St) : Option (sp_St) :=
  if (σ.1 0 22) = 0 then
    sp_bv (X12_stepOn n σ) fun σ2 =>
    X12_mark_31 n σ2
  else
    X12_mark_31 n σ
def X12_mark (n : Nat)  (σ : sp_St) (a1 : Int32) : Option (sp_St) :=
  if (σ.1 0 22) = 0 then
    sp_bd (X12_isMarked n σ a1) fun σ2 v3 =>
    if v3 = 0 then
      sp_bv (X12_amiss n σ2 ((1 : Int32))) fun σ5 =>
      X12_mark_20 n σ5
    else
      X12_mark_20 n σ2
  else
    X12_mark_20 n σ
set_option maxRecDepth 100000 in
set_option maxHeartbeats 4000000 in
theorem hX12_mark_31 {X : sp_X} (hX : sp_OK shM X cX12_mark RX12 2 rmX12_mark) {τ : sp_St} (hR : sp_Rv shM X τ 0 0) {n : Nat}    {σ : sp_St} (hf : X12_mark_31 n σ = some τ) : sp_GG shM X σ 2 [none, none] [] 31 0 0 := by
  unfold X12_mark_31 at hf
  exact sp_vret hX hR dX12_mark_31 hf (Nat.le_of_ble_eq_true rfl) (Nat.le_of_ble_eq_true rfl)
set_option maxRecDepth 100000 in
set_option maxHeartbeats 4000000 in
theorem hX12_mark_20 {X : sp_X} (hX : sp_OK shM X cX12_mark RX12 2 rmX12_mark) {τ : sp_St} (hR : sp_Rv shM X τ 0 0) {n : Nat}    {σ : sp_St} (hf : X12_mark_20 n σ = some τ) : sp_GG shM X σ 2 [some (.ref (sx_ad X 0)), none] [] 20 0 0 := by
  unfold X12_mark_20 at hf
  refine sp_aload_n (i := 0) (q := 21) hX dX12_mark_20 rfl rfl rfl ?_
  refine sp_geti (q := 24) hX flX12_209 fkX12_22 atM_0 dX12_mark_21 rfl ?_
  refine sp_if_ne (tgt := 31) (q := 27) hX dX12_mark_24 (by decide) rfl (fun hc => ?_) (fun hc => ?_)
  · rw [if_neg hc] at hf
    refine sp_drop (lv' := [none, none]) trivial ?_
    exact hX12_mark_31 hX hR hf
  · rw [if_pos hc] at hf
    refine sp_aload_n (i := 0) (q := 28) hX dX12_mark_27 rfl rfl rfl ?_
    obtain ⟨σ2, h1, hf⟩ := sp_bv_so hf
    refine sp_callVv (As := []) (rest := []) (q := 31) hX (cnX12_stepOn (sp_st hX)  h1) cwX12_233 atM_0 rfl rfl rfl rfl rfl (Nat.le_of_ble_eq_true rfl) (Nat.le_of_ble_eq_true rfl) (Nat.le_of_ble_eq_true rfl) (Nat.le_of_ble_eq_true rfl) (Nat.le_of_ble_eq_true rfl) dX12_mark_28 rfl ?_
    refine sp_drop (lv' := [none, none]) trivial ?_
    exact hX12_mark_31 hX hR hf
set_option maxRecDepth 100000 in
set_option maxHeartbeats 4000000 in
theorem hX12_mark {X : sp_X} (hX : sp_OK shM X cX12_mark RX12 2 rmX12_mark) {τ : sp_St} (hR : sp_Rv shM X τ 0 0) {n : Nat}  {σ : sp_St} {a1 : Int32}  (hf : X12_mark n σ a1 = some τ) : sp_GG shM X σ 2 [some (.ref (sx_ad X 0)), some (.int a1)] [] 0 0 0 := by
  unfold X12_mark at hf
  refine sp_aload_n (i := 0) (q := 1) hX dX12_mark_0 rfl rfl rfl ?_
  refine sp_geti (q := 4) hX flX12_209 fkX12_22 atM_0 dX12_mark_1 rfl ?_
  refine sp_if_ne (tgt := 20) (q := 7) hX dX12_mark_4 (by decide) rfl (fun hc => ?_) (fun hc => ?_)
  · rw [if_neg hc] at hf
    refine sp_drop (lv' := [some (.ref (sx_ad X 0)), none]) (And.intro rfl trivial) ?_
    exact hX12_mark_20 hX hR hf
  · rw [if_pos hc] at hf
    refine sp_aload_n (i := 0) (q := 8) hX dX12_mark_7 rfl rfl rfl ?_
    refine sp_iload_n (i := 1) (q := 9) hX dX12_mark_8 rfl rfl rfl ?_
    obtain ⟨σ2, v3, h1, hf⟩ := sp_bd_so hf
    refine sp_callVi (As := [.int a1]) (rest := []) (q := 12) hX (cnX12_isMarked (sp_st hX)  h1) cwX12_226 atM_0 rfl rfl rfl rfl rfl (Nat.le_of_ble_eq_true rfl) (Nat.le_of_ble_eq_true rfl) (Nat.le_of_ble_eq_true rfl) (Nat.le_of_ble_eq_true rfl) (Nat.le_of_ble_eq_true rfl) dX12_mark_9 rfl ?_
    refine sp_if_ne (tgt := 20) (q := 15) hX dX12_mark_12 (by decide) rfl (fun hc => ?_) (fun hc => ?_)
    · rw [if_neg hc] at hf
      refine sp_drop (lv' := [some (.ref (sx_ad X 0)), none]) (And.intro rfl trivial) ?_
      exact hX12_mark_20 hX hR hf
    · rw [if_pos hc] at hf
      refine sp_aload_n (i := 0) (q := 16) hX dX12_mark_15 rfl rfl rfl ?_
      refine sp_iconst (v := 1) (q := 17) hX dX12_mark_16 li_1 rfl ?_
      obtain ⟨σ5, h4, hf⟩ := sp_bv_so hf
      refine sp_callVv (As := [.int ((1 : Int32))]) (rest := []) (q := 20) hX (cnX12_amiss (sp_st hX)  h4) cwX12_229 atM_0 rfl rfl rfl rfl rfl (Nat.le_of_ble_eq_true rfl) (Nat.le_of_ble_eq_true rfl) (Nat.le_of_ble_eq_true rfl) (Nat.le_of_ble_eq_true rfl) (Nat.le_of_ble_eq_true rfl) dX12_mark_17 rfl ?_
      refine sp_drop (lv' := [some (.ref (sx_ad X 0)), none]) (And.intro rfl trivial) ?_
      exact hX12_mark_20 hX hR hf
set_option maxRecDepth 100000 in
set_option maxHeartbeats 4000000 in
theorem cnX12_mark {l : Launch} (hst : l.stackTraces = false) {w : sp_Wd} {n : Nat}  {σ : sp_St} {a1 : Int32} {τ : sp_St}  (hf : X12_mark n σ a1 = some τ) : sp_Cv shM l w yX12_mark cX12_mark 2 rmX12_mark 0 0 σ [.ref (w.2.1 0), .int a1] τ :=
  sp_cv (own := RX12) (by decide) rfl hst (Nat.le_of_ble_eq_true rfl) rfl (fun X hX hw hl hR => by subst hw; subst hl; exact hX12_mark hX hR   hf)
def rmX12_numberNow : Room := { frames := 1, cells := 0, slots := 0, locals := 21 }
def X12_numberNow_74 (n : Nat) (σ : sp_St) (zs0 : Int32) : Option (sp_St × Int32) :=
  some (σ, zs0)
def X12_numberNow_59 (n : Nat) (σ : sp_St) : Option (sp_St × Int32) :=
  if (σ.1 0 22) = 0 then
    X12_numberNow_74 n σ (σ.1 0 19)
  else
    X12_numberNow_74 n σ ((0 : Int32))
def X12_numberNow_54 (n : Nat) (σ : sp_St) : Option (sp_St × Int32) :=
  sp_bv (X12_amiss n σ ((2 : Int32))) fun σ2 =>
  X12_numberNow_59 n σ2
def X12_numberNow (n : Nat)  (σ : sp_St) (a1 : Int32) (a2 : Int32) : Option (sp_St × Int32) :=
  if (σ.1 0 22) = 0 then
    if (σ.1 0 18) = ((2 : Int32)) then
      if ((4 : Int32)) < ((σ.1 0 21) - (σ.1 0 20)) then
        X12_numberNow_54 n σ
      else
        if (σ.1 0 19) < a1 then
          X12_numberNow_54 n σ
        else
          if (σ.1 0 19) ≤ a2 then
            X12_numberNow_59 n σ
          else
            X12_numberNow_54 n σ
    else
      sp_bv (X12_amiss n σ ((1 : Int32))) fun σ2 =>
      X12_numberNow_59 n σ2
  else
    some (σ, (0 : Int32))
set_option maxRecDepth 100000 in
set_option maxHeartbeats 4000000 in
theorem hX12_numberNow_74 {X : sp_X} (hX : sp_OK shM X cX12_numberNow RX12 3 rmX12_numberNow) {τ : sp_St} {r : Int32} (hR : sp_Ri shM X (some .int) τ r 0 0) {n : Nat}    {σ : sp_St} {zs0 : Int32} (hf : X12_numberNow_74 n σ zs0 = some (τ, r)) : sp_GG shM X σ 3 [none, none, none] [.int zs0] 74 0 0 := by
  unfold X12_numberNow_74 at hf
  exact sp_iret hX hR dX12_numberNow_74 hf (Nat.le_of_ble_eq_true rfl) (Nat.le_of_ble_eq_true rfl)
set_option maxRecDepth 100000 in
set_option maxHeartbeats 4000000 in
theorem hX12_numberNow_59 {X : sp_X} (hX : sp_OK shM X cX12_numberNow RX12 3 rmX12_numberNow) {τ : sp_St} {r : Int32} (hR : sp_Ri shM X (some .int) τ r 0 0) {n : Nat}    {σ : sp_St} (hf : X12_numberNow_59 n σ = some (τ, r)) : sp_GG shM X σ 3 [some (.ref (sx_ad X 0)), none, none] [] 59 0 0 := by
  unfold X12_numberNow_59 at hf
  refine sp_aload_n (i := 0) (q := 60) hX dX12_numberNow_59 rfl rfl rfl ?_
  refine sp_geti (q := 63) hX flX12_209 fkX12_22 atM_0 dX12_numberNow_60 rfl ?_
  refine sp_if_ne (tgt := 73) (q := 66) hX dX12_numberNow_63 (by decide) rfl (fun hc => ?_) (fun hc => ?_)
  · rw [if_neg hc] at hf
    refine sp_iconst (v := 0) (q := 74) hX dX12_numberNow_73 li_0 rfl ?_
    refine sp_drop (lv' := [none, none, none]) trivial ?_
    exact hX12_numberNow_74 hX hR hf
  · rw [if_pos hc] at hf
    refine sp_aload_n (i := 0) (q := 67) hX dX12_numberNow_66 rfl rfl rfl ?_
    refine sp_geti (q := 70) hX flX12_193 fkX12_19 atM_0 dX12_numberNow_67 rfl ?_
    refine sp_goto (tgt := 74) hX dX12_numberNow_70 (by decide) ?_
    refine sp_drop (lv' := [none, none, none]) trivial ?_
    exact hX12_numberNow_74 hX hR hf
set_option maxRecDepth 100000 in
set_option maxHeartbeats 4000000 in
theorem hX12_numberNow_54 {X : sp_X} (hX : sp_OK shM X cX12_numberNow RX12 3 rmX12_numberNow) {τ : sp_St} {r : Int32} (hR : sp_Ri shM X (some .int) τ r 0 0) {n : Nat}    {σ : sp_St} (hf : X12_numberNow_54 n σ = some (τ, r)) : sp_GG shM X σ 3 [some (.ref (sx_ad X 0)), none, none] [] 54 0 0 := by
  unfold X12_numberNow_54 at hf
  refine sp_aload_n (i := 0) (q := 55) hX dX12_numberNow_54 rfl rfl rfl ?_
  refine sp_iconst (v := 2) (q := 56) hX dX12_numberNow_55 li_2 rfl ?_
  obtain ⟨σ2, h1, hf⟩ := sp_bv_so hf
  refine sp_callVv (As := [.int ((2 : Int32))]) (rest := []) (q := 59) hX (cnX12_amiss (sp_st hX)  h1) cwX12_229 atM_0 rfl rfl rfl rfl rfl (Nat.le_of_ble_eq_true rfl) (Nat.le_of_ble_eq_true rfl) (Nat.le_of_ble_eq_true rfl) (Nat.le_of_ble_eq_true rfl) (Nat.le_of_ble_eq_true rfl) dX12_numberNow_56 rfl ?_
  exact hX12_numberNow_59 hX hR hf
set_option maxRecDepth 100000 in
set_option maxHeartbeats 4000000 in
theorem hX12_numberNow {X : sp_X} (hX : sp_OK shM X cX12_numberNow RX12 3 rmX12_numberNow) {τ : sp_St} {r : Int32} (hR : sp_Ri shM X (some .int) τ r 0 0) {n : Nat}  {σ : sp_St} {a1 : Int32} {a2 : Int32}  (hf : X12_numberNow n σ a1 a2 = some (τ, r)) : sp_GG shM X σ 3 [some (.ref (sx_ad X 0)), some (.int a1), some (.int a2)] [] 0 0 0 := by
  unfold X12_numberNow at hf
  refine sp_aload_n (i := 0) (q := 1) hX dX12_numberNow_0 rfl rfl rfl ?_
  refine sp_geti (q := 4) hX flX12_209 fkX12_22 atM_0 dX12_numberNow_1 rfl ?_
  refine sp_if_eq (tgt := 9) (q := 7) hX dX12_numberNow_4 (by decide) rfl (fun hc => ?_) (fun hc => ?_)
  · rw [if_pos hc] at hf
    refine sp_aload_n (i := 0) (q := 10) hX dX12_numberNow_9 rfl rfl rfl ?_
    refine sp_geti (q := 13) hX flX12_183 fkX12_18 atM_0 dX12_numberNow_10 rfl ?_
    refine sp_iconst (v := 2) (q := 14) hX dX12_numberNow_13 li_2 rfl ?_
    refine sp_icmp_eq (tgt := 25) (q := 17) hX dX12_numberNow_14 (by decide) rfl (fun hc => ?_) (fun hc => ?_)
    · rw [if_pos hc] at hf
      refine sp_aload_n (i := 0) (q := 26) hX dX12_numberNow_25 rfl rfl rfl ?_
      refine sp_geti (q := 29) hX flX12_206 fkX12_21 atM_0 dX12_numberNow_26 rfl ?_
      refine sp_aload_n (i := 0) (q := 30) hX dX12_numberNow_29 rfl rfl rfl ?_
      refine sp_geti (q := 33) hX flX12_180 fkX12_20 atM_0 dX12_numberNow_30 rfl ?_
      refine sp_isub (q := 34) hX dX12_numberNow_33 rfl ?_
      refine sp_iconst (v := 4) (q := 35) hX dX12_numberNow_34 li_4 rfl ?_
      refine sp_icmp_gt (tgt := 54) (q := 38) hX dX12_numberNow_35 (by decide) rfl (fun hc => ?_) (fun hc => ?_)
      · rw [if_pos hc] at hf
        refine sp_drop (lv' := [some (.ref (sx_ad X 0)), none, none]) (And.intro rfl trivial) ?_
        exact hX12_numberNow_54 hX hR hf
      · rw [if_neg hc] at hf
        refine sp_aload_n (i := 0) (q := 39) hX dX12_numberNow_38 rfl rfl rfl ?_
        refine sp_geti (q := 42) hX flX12_193 fkX12_19 atM_0 dX12_numberNow_39 rfl ?_
        refine sp_iload_n (i := 1) (q := 43) hX dX12_numberNow_42 rfl rfl rfl ?_
        refine sp_icmp_lt (tgt := 54) (q := 46) hX dX12_numberNow_43 (by decide) rfl (fun hc => ?_) (fun hc => ?_)
        · rw [if_pos hc] at hf
          refine sp_drop (lv' := [some (.ref (sx_ad X 0)), none, none]) (And.intro rfl trivial) ?_
          exact hX12_numberNow_54 hX hR hf
        · rw [if_neg hc] at hf
          refine sp_aload_n (i := 0) (q := 47) hX dX12_numberNow_46 rfl rfl rfl ?_
          refine sp_geti (q := 50) hX flX12_193 fkX12_19 atM_0 dX12_numberNow_47 rfl ?_
          refine sp_iload_n (i := 2) (q := 51) hX dX12_numberNow_50 rfl rfl rfl ?_
          refine sp_icmp_le (tgt := 59) (q := 54) hX dX12_numberNow_51 (by decide) rfl (fun hc => ?_) (fun hc => ?_)
          · rw [if_pos hc] at hf
            refine sp_drop (lv' := [some (.ref (sx_ad X 0)), none, none]) (And.intro rfl trivial) ?_
            exact hX12_numberNow_59 hX hR hf
          · rw [if_neg hc] at hf
            refine sp_drop (lv' := [some (.ref (sx_ad X 0)), none, none]) (And.intro rfl trivial) ?_
            exact hX12_numberNow_54 hX hR hf
    · rw [if_neg hc] at hf
      refine sp_aload_n (i := 0) (q := 18) hX dX12_numberNow_17 rfl rfl rfl ?_
      refine sp_iconst (v := 1) (q := 19) hX dX12_numberNow_18 li_1 rfl ?_
      obtain ⟨σ2, h1, hf⟩ := sp_bv_so hf
      refine sp_callVv (As := [.int ((1 : Int32))]) (rest := []) (q := 22) hX (cnX12_amiss (sp_st hX)  h1) cwX12_229 atM_0 rfl rfl rfl rfl rfl (Nat.le_of_ble_eq_true rfl) (Nat.le_of_ble_eq_true rfl) (Nat.le_of_ble_eq_true rfl) (Nat.le_of_ble_eq_true rfl) (Nat.le_of_ble_eq_true rfl) dX12_numberNow_19 rfl ?_
      refine sp_goto (tgt := 59) hX dX12_numberNow_22 (by decide) ?_
      refine sp_drop (lv' := [some (.ref (sx_ad X 0)), none, none]) (And.intro rfl trivial) ?_
      exact hX12_numberNow_59 hX hR hf
  · rw [if_neg hc] at hf
    refine sp_iconst (v := 0) (q := 8) hX dX12_numberNow_7 li_0 rfl ?_
    exact sp_iret hX hR dX12_numberNow_8 hf (Nat.le_of_ble_eq_true rfl) (Nat.le_of_ble_eq_true rfl)
set_option maxRecDepth 100000 in
set_option maxHeartbeats 4000000 in
theorem cnX12_numberNow {l : Launch} (hst : l.stackTraces = false) {w : sp_Wd} {n : Nat}  {σ : sp_St} {a1 : Int32} {a2 : Int32} {τ : sp_St} {r : Int32}  (hf : X12_numberNow n σ a1 a2 = some (τ, r)) : sp_Ci shM l w yX12_numberNow cX12_numberNow 3 (some .int) rmX12_numberNow 0 0 σ [.ref (w.2.1 0), .int a1, .int a2] τ r :=
  sp_ci (own := RX12) (by decide) rfl hst (Nat.le_of_ble_eq_true rfl) rfl (fun X hX hw hl hR => by subst hw; subst hl; exact hX12_numberNow hX hR   hf)
def rmX12_readNumber : Room := { frames := 2, cells := 0, slots := 0, locals := 45 }
def X12_readNumber_18 (n : Nat) (σ : sp_St) (z3 : Int32) : Option (sp_St × Int32) :=
  some (σ, z3)
def X12_readNumber (n : Nat)  (σ : sp_St) (a1 : Int32) (a2 : Int32) : Option (sp_St × Int32) :=
  sp_bd (X12_numberNow n σ a1 a2) fun σ2 v3 =>
  if (σ2.1 0 22) = 0 then
    sp_bv (X12_stepOn n σ2) fun σ5 =>
    X12_readNumber_18 n σ5 v3
  else
    X12_readNumber_18 n σ2 v3
set_option maxRecDepth 100000 in
set_option maxHeartbeats 4000000 in
theorem hX12_readNumber_18 {X : sp_X} (hX : sp_OK shM X cX12_readNumber RX12 4 rmX12_readNumber) {τ : sp_St} {r : Int32} (hR : sp_Ri shM X (some .int) τ r 0 0) {n : Nat}    {σ : sp_St} {z3 : Int32} (hf : X12_readNumber_18 n σ z3 = some (τ, r)) : sp_GG shM X σ 4 [none, none, none, some (.int z3)] [] 18 0 0 := by
  unfold X12_readNumber_18 at hf
  refine sp_iload_n (i := 3) (q := 19) hX dX12_readNumber_18 rfl rfl rfl ?_
  exact sp_iret hX hR dX12_readNumber_19 hf (Nat.le_of_ble_eq_true rfl) (Nat.le_of_ble_eq_true rfl)
set_option maxRecDepth 100000 in
set_option maxHeartbeats 4000000 in
theorem hX12_readNumber {X : sp_X} (hX : sp_OK shM X cX12_readNumber RX12 4 rmX12_readNumber) {τ : sp_St} {r : Int32} (hR : sp_Ri shM X (some .int) τ r 0 0) {n : Nat}  {σ : sp_St} {a1 : Int32} {a2 : Int32}  (hf : X12_readNumber n σ a1 a2 = some (τ, r)) : sp_GG shM X σ 4 [some (.ref (sx_ad X 0)), some (.int a1), some (.int a2), none] [] 0 0 0 := by
  unfold X12_readNumber at hf
  refine sp_aload_n (i := 0) (q := 1) hX dX12_readNumber_0 rfl rfl rfl ?_
  refine sp_iload_n (i := 1) (q := 2) hX dX12_readNumber_1 rfl rfl rfl ?_
  refine sp_iload_n (i := 2) (q := 3) hX dX12_readNumber_2 rfl rfl rfl ?_
  obtain ⟨σ2, v3, h1, hf⟩ := sp_bd_so hf
  refine sp_callVi (As := [.int a1, .int a2]) (rest := []) (q := 6) hX (cnX12_numberNow (sp_st hX)  h1) cwX12_236 atM_0 rfl rfl rfl rfl rfl (Nat.le_of_ble_eq_true rfl) (Nat.le_of_ble_eq_true rfl) (Nat.le_of_ble_eq_true rfl) (Nat.le_of_ble_eq_true rfl) (Nat.le_of_ble_eq_true rfl) dX12_readNumber_3 rfl ?_
  refine sp_istore_n (i := 3) (lv' := [some (.ref (sx_ad X 0)), some (.int a1), some (.int a2), some (.int v3)]) (q := 7) hX dX12_readNumber_6 rfl (Nat.le_of_ble_eq_true rfl) rfl rfl rfl ?_
  refine sp_aload_n (i := 0) (q := 8) hX dX12_readNumber_7 rfl rfl rfl ?_
  refine sp_geti (q := 11) hX flX12_209 fkX12_22 atM_0 dX12_readNumber_8 rfl ?_
  refine sp_if_ne (tgt := 18) (q := 14) hX dX12_readNumber_11 (by decide) rfl (fun hc => ?_) (fun hc => ?_)
  · rw [if_neg hc] at hf
    refine sp_drop (lv' := [none, none, none, some (.int v3)]) (And.intro rfl trivial) ?_
    exact hX12_readNumber_18 hX hR hf
  · rw [if_pos hc] at hf
    refine sp_aload_n (i := 0) (q := 15) hX dX12_readNumber_14 rfl rfl rfl ?_
    obtain ⟨σ5, h4, hf⟩ := sp_bv_so hf
    refine sp_callVv (As := []) (rest := []) (q := 18) hX (cnX12_stepOn (sp_st hX)  h4) cwX12_233 atM_0 rfl rfl rfl rfl rfl (Nat.le_of_ble_eq_true rfl) (Nat.le_of_ble_eq_true rfl) (Nat.le_of_ble_eq_true rfl) (Nat.le_of_ble_eq_true rfl) (Nat.le_of_ble_eq_true rfl) dX12_readNumber_15 rfl ?_
    refine sp_drop (lv' := [none, none, none, some (.int v3)]) (And.intro rfl trivial) ?_
    exact hX12_readNumber_18 hX hR hf
set_option maxRecDepth 100000 in
set_option maxHeartbeats 4000000 in
theorem cnX12_readNumber {l : Launch} (hst : l.stackTraces = false) {w : sp_Wd} {n : Nat}  {σ : sp_St} {a1 : Int32} {a2 : Int32} {τ : sp_St} {r : Int32}  (hf : X12_readNumber n σ a1 a2 = some (τ, r)) : sp_Ci shM l w yX12_readNumber cX12_readNumber 4 (some .int) rmX12_readNumber 0 0 σ [.ref (w.2.1 0), .int a1, .int a2] τ r :=
  sp_ci (own := RX12) (by decide) rfl hst (Nat.le_of_ble_eq_true rfl) rfl (fun X hX hw hl hR => by subst hw; subst hl; exact hX12_readNumber hX hR   hf)
def rmX12_lay : Room := { frames := 0, cells := 0, slots := 0, locals := 0 }
def X12_lay_42 (n : Nat) (σ : sp_St) (z1 : Int32) (z2 : Int32) (zcs0 : Nat) : Option (sp_St) :=
  sp_ck (sp_in z2 12) <|
  sp_ck (sp_in (((700 : Int32)) + (sp_g σ 3 z2)) 1400) <|
  sp_pl (sp_sa σ zcs0 (((700 : Int32)) + (sp_g σ 3 z2)).toNatClampNeg z1) fun σ3 =>
  sp_ck (sp_in z2 12) <|
  sp_ck (sp_in z2 12) <|
  sp_pl (sp_sa σ3 3 z2.toNatClampNeg ((sp_g σ3 3 z2) + ((1 : Int32)))) fun σ7 =>
  some σ7
def X12_lay (n : Nat)  (σ : sp_St) (a1 : Int32) : Option (sp_St) :=
  if (σ.1 0 22) = 0 then
    sp_pl (if (σ.1 0 25) = 0 then ((4 : Int32)) else ((5 : Int32))) fun v1 =>
    sp_pl (((6 : Int32)) + v1) fun x3 =>
    if (σ.1 0 25) = 0 then
      X12_lay_42 n σ a1 x3 10
    else
      X12_lay_42 n σ a1 x3 11
  else
    some σ
set_option maxRecDepth 100000 in
set_option maxHeartbeats 4000000 in
theorem hX12_lay_42 {X : sp_X} (hX : sp_OK shM X cX12_lay RX12 4 rmX12_lay) {τ : sp_St} (hR : sp_Rv shM X τ 0 0) {n : Nat}    {σ : sp_St} {z1 : Int32} {z2 : Int32} {zcs0 : Nat} (hzs0 : sp_ar shM zcs0 1 1400) (hf : X12_lay_42 n σ z1 z2 zcs0 = some τ) : sp_GG shM X σ 4 [some (.ref (sx_ad X 0)), some (.int z1), some (.int z2), none] [.ref (sx_ad X zcs0)] 42 0 0 := by
  unfold X12_lay_42 at hf
  refine sp_astore_n (i := 3) (lv' := [some (.ref (sx_ad X 0)), some (.int z1), some (.int z2), some (.ref (sx_ad X zcs0))]) (q := 43) hX dX12_lay_42 rfl (Nat.le_of_ble_eq_true rfl) rfl rfl rfl ?_
  refine sp_aload_n (i := 3) (q := 44) hX dX12_lay_43 rfl rfl rfl ?_
  refine sp_sipush (v := 700) (q := 47) hX dX12_lay_44 ls_700 rfl ?_
  refine sp_aload_n (i := 0) (q := 48) hX dX12_lay_47 rfl rfl rfl ?_
  refine sp_gets (t := 3) (q := 51) hX flX12_33 fkX12_4 atM_0 srM_0_4 dX12_lay_48 rfl ?_
  refine sp_iload_n (i := 2) (q := 52) hX dX12_lay_51 rfl rfl rfl ?_
  obtain ⟨h1, hf⟩ := sp_ck_some hf
  refine sp_iald (q := 53) hX arM_3 h1 dX12_lay_52 rfl ?_
  refine sp_iadd (q := 54) hX dX12_lay_53 rfl ?_
  refine sp_iload_n (i := 1) (q := 55) hX dX12_lay_54 rfl rfl rfl ?_
  obtain ⟨h2, hf⟩ := sp_ck_some hf
  obtain ⟨σ3, e4, hf⟩ := sp_pl_some hf
  refine sp_iast (q := 56) hX hzs0 h2 dX12_lay_55 rfl ?_
  refine sp_nms e4 ?_
  refine sp_aload_n (i := 0) (q := 57) hX dX12_lay_56 rfl rfl rfl ?_
  refine sp_gets (t := 3) (q := 60) hX flX12_33 fkX12_4 atM_0 srM_0_4 dX12_lay_57 rfl ?_
  refine sp_iload_n (i := 2) (q := 61) hX dX12_lay_60 rfl rfl rfl ?_
  refine sp_dup2 (q := 62) hX dX12_lay_61 rfl rfl rfl ?_
  obtain ⟨h5, hf⟩ := sp_ck_some hf
  refine sp_iald (q := 63) hX arM_3 h5 dX12_lay_62 rfl ?_
  refine sp_iconst (v := 1) (q := 64) hX dX12_lay_63 li_1 rfl ?_
  refine sp_iadd (q := 65) hX dX12_lay_64 rfl ?_
  obtain ⟨h6, hf⟩ := sp_ck_some hf
  obtain ⟨σ7, e8, hf⟩ := sp_pl_some hf
  refine sp_iast (q := 66) hX arM_3 h6 dX12_lay_65 rfl ?_
  refine sp_nms e8 ?_
  exact sp_vret hX hR dX12_lay_66 hf (Nat.le_of_ble_eq_true rfl) (Nat.le_of_ble_eq_true rfl)
set_option maxRecDepth 100000 in
set_option maxHeartbeats 4000000 in
theorem hX12_lay {X : sp_X} (hX : sp_OK shM X cX12_lay RX12 4 rmX12_lay) {τ : sp_St} (hR : sp_Rv shM X τ 0 0) {n : Nat}  {σ : sp_St} {a1 : Int32}  (hf : X12_lay n σ a1 = some τ) : sp_GG shM X σ 4 [some (.ref (sx_ad X 0)), some (.int a1), none, none] [] 0 0 0 := by
  unfold X12_lay at hf
  refine sp_aload_n (i := 0) (q := 1) hX dX12_lay_0 rfl rfl rfl ?_
  refine sp_geti (q := 4) hX flX12_209 fkX12_22 atM_0 dX12_lay_1 rfl ?_
  refine sp_if_eq (tgt := 8) (q := 7) hX dX12_lay_4 (by decide) rfl (fun hc => ?_) (fun hc => ?_)
  · rw [if_pos hc] at hf
    refine sp_bipush (v := 6) (q := 10) hX dX12_lay_8 lb_6 rfl ?_
    refine sp_aload_n (i := 0) (q := 11) hX dX12_lay_10 rfl rfl rfl ?_
    refine sp_geti (q := 14) hX flX12_239 fkX12_25 atM_0 dX12_lay_11 rfl ?_
    obtain ⟨v1, e2, hf⟩ := sp_pl_some hf
    have hj5 : sp_GG shM X σ 4 [some (.ref (sx_ad X 0)), some (.int a1), none, none] [.int v1, .int ((6 : Int32))] 22 0 0 := by
      refine sp_iadd (q := 23) hX dX12_lay_22 rfl ?_
      obtain ⟨x3, e4, hf⟩ := sp_pl_some hf
      refine sp_nmi e4 ?_
      refine sp_istore_n (i := 2) (lv' := [some (.ref (sx_ad X 0)), some (.int a1), some (.int x3), none]) (q := 24) hX dX12_lay_23 rfl (Nat.le_of_ble_eq_true rfl) rfl rfl rfl ?_
      refine sp_aload_n (i := 0) (q := 25) hX dX12_lay_24 rfl rfl rfl ?_
      refine sp_geti (q := 28) hX flX12_239 fkX12_25 atM_0 dX12_lay_25 rfl ?_
      refine sp_if_eq (tgt := 38) (q := 31) hX dX12_lay_28 (by decide) rfl (fun hc => ?_) (fun hc => ?_)
      · rw [if_pos hc] at hf
        refine sp_aload_n (i := 0) (q := 39) hX dX12_lay_38 rfl rfl rfl ?_
        refine sp_gets (t := 10) (q := 42) hX flX12_54 fkX12_11 atM_0 srM_0_11 dX12_lay_39 rfl ?_
        exact hX12_lay_42 hX hR arM_10 hf
      · rw [if_neg hc] at hf
        refine sp_aload_n (i := 0) (q := 32) hX dX12_lay_31 rfl rfl rfl ?_
        refine sp_gets (t := 11) (q := 35) hX flX12_57 fkX12_12 atM_0 srM_0_12 dX12_lay_32 rfl ?_
        refine sp_goto (tgt := 42) hX dX12_lay_35 (by decide) ?_
        exact hX12_lay_42 hX hR arM_11 hf
    refine sp_if_eq (tgt := 21) (q := 17) hX dX12_lay_14 (by decide) rfl (fun hc => ?_) (fun hc => ?_)
    · refine sp_iconst (v := 4) (q := 22) hX dX12_lay_21 li_4 rfl ?_
      exact sp_nmi (by rw [e2, if_pos hc]) hj5
    · refine sp_iconst (v := 5) (q := 18) hX dX12_lay_17 li_5 rfl ?_
      refine sp_goto (tgt := 22) hX dX12_lay_18 (by decide) ?_
      exact sp_nmi (by rw [e2, if_neg hc]) hj5
  · rw [if_neg hc] at hf
    exact sp_vret hX hR dX12_lay_7 hf (Nat.le_of_ble_eq_true rfl) (Nat.le_of_ble_eq_true rfl)
set_option maxRecDepth 100000 in
set_option maxHeartbeats 4000000 in
theorem cnX12_lay {l : Launch} (hst : l.stackTraces = false) {w : sp_Wd} {n : Nat}  {σ : sp_St} {a1 : Int32} {τ : sp_St}  (hf : X12_lay n σ a1 = some τ) : sp_Cv shM l w yX12_lay cX12_lay 4 rmX12_lay 0 0 σ [.ref (w.2.1 0), .int a1] τ :=
  sp_cv (own := RX12) (by decide) rfl hst (Nat.le_of_ble_eq_true rfl) rfl (fun X hX hw hl hR => by subst hw; subst hl; exact hX12_lay hX hR   hf)
