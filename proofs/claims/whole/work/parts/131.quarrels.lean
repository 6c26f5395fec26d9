def rmX6_between : Room := { frames := 0, cells := 0, slots := 0, locals := 0 }
def X6_between (n : Nat)  (σ : sp_St) (a1 : Int32) (a2 : Int32) : Option (sp_St × Int32) :=
  sp_ck (sp_in (((35 : Int32)) + a1) 50) <|
  sp_pl (if (((sp_g σ 24 (((35 : Int32)) + a1)) >>> (a2 &&& 31)) &&& ((1 : Int32))) = 0 then ((0 : Int32)) else ((1 : Int32))) fun v2 =>
  sp_ck (sp_zb v2) <|
  some (σ, v2)
set_option maxRecDepth 100000 in
set_option maxHeartbeats 4000000 in
theorem hX6_between {X : sp_X} (hX : sp_OK shX X cX6_between RX6 3 rmX6_between) {τ : sp_St} {r : Int32} (hR : sp_Ri shX X (some .boolean) τ r 0 0) {n : Nat}  {σ : sp_St} {a1 : Int32} {a2 : Int32}  (hf : X6_between n σ a1 a2 = some (τ, r)) : sp_GG shX X σ 3 [some (.ref (sx_ad X 66)), some (.int a1), some (.int a2)] [] 0 0 0 := by
  unfold X6_between at hf
  refine sp_aload_n (i := 0) (q := 1) hX dX6_between_0 rfl rfl rfl ?_
  refine sp_gets (t := 24) (q := 4) hX flX6_15 fkX6_0 atX_66 srX_66_0 dX6_between_1 rfl ?_
  refine sp_bipush (v := 35) (q := 6) hX dX6_between_4 lb_35 rfl ?_
  refine sp_iload_n (i := 1) (q := 7) hX dX6_between_6 rfl rfl rfl ?_
  refine sp_iadd (q := 8) hX dX6_between_7 rfl ?_
  obtain ⟨h1, hf⟩ := sp_ck_some hf
  refine sp_iald (q := 9) hX arX_24 h1 dX6_between_8 rfl ?_
  refine sp_iload_n (i := 2) (q := 10) hX dX6_between_9 rfl rfl rfl ?_
  refine sp_ishr (q := 11) hX dX6_between_10 rfl ?_
  refine sp_iconst (v := 1) (q := 12) hX dX6_between_11 li_1 rfl ?_
  refine sp_iand (q := 13) hX dX6_between_12 rfl ?_
  obtain ⟨v2, e3, hf⟩ := sp_pl_some hf
  have hj5 : sp_GG shX X σ 3 [some (.ref (sx_ad X 66)), some (.int a1), some (.int a2)] [.int v2] 21 0 0 := by
    obtain ⟨h4, hf⟩ := sp_ck_some hf
    exact sp_zret hX hR h4 dX6_between_21 hf (Nat.le_of_ble_eq_true rfl) (Nat.le_of_ble_eq_true rfl)
  refine sp_if_eq (tgt := 20) (q := 16) hX dX6_between_13 (by decide) rfl (fun hc => ?_) (fun hc => ?_)
  · refine sp_iconst (v := 0) (q := 21) hX dX6_between_20 li_0 rfl ?_
    exact sp_nmi (by rw [e3, if_pos hc]) hj5
  · refine sp_iconst (v := 1) (q := 17) hX dX6_between_16 li_1 rfl ?_
    refine sp_goto (tgt := 21) hX dX6_between_17 (by decide) ?_
    exact sp_nmi (by rw [e3, if_neg hc]) hj5
set_option maxRecDepth 100000 in
set_option maxHeartbeats 4000000 in
theorem cnX6_between {l : Launch} (hst : l.stackTraces = false) {w : sp_Wd} {n : Nat}  {σ : sp_St} {a1 : Int32} {a2 : Int32} {τ : sp_St} {r : Int32}  (hf : X6_between n σ a1 a2 = some (τ, r)) : sp_Ci shX l w yX6_between cX6_between 3 (some .boolean) rmX6_between 0 0 σ [.ref (w.2.1 66), .int a1, .int a2] τ r :=
  sp_ci (own := RX6) (by decide) rfl hst (Nat.le_of_ble_eq_true rfl) rfl (fun X hX hw hl hR => by subst hw; subst hl; exact hX6_between hX hR   hf)
def rmX6_howMany : Room := { frames := 1, cells := 0, slots := 0, locals := 20 }
def X6_howMany_31 (n : Nat) (σ : sp_St) (z1 : Int32) : Option (sp_St × Int32) :=
  sp_ck (!decide (((2 : Int32)) = 0)) <|
  some (σ, z1 / ((2 : Int32)))
def X6_howMany_4 (n : Nat) : Nat → sp_St → Int32 → Int32 → Option (sp_St × Int32)
  | 0, _, _, _ => none
  | f + 1, σ, z1, z2 =>
    if ((6 : Int32)) ≤ z2 then
      X6_howMany_31 n σ z1
    else
      sp_ck (sp_in (((35 : Int32)) + z2) 50) <|
      sp_bd (J6_bitCount_0f7a4 n σ (sp_g σ 24 (((35 : Int32)) + z2))) fun σ3 v4 =>
      sp_pl (z1 + v4) fun x5 =>
      sp_pl (z2 + 1) fun x7 =>
      X6_howMany_4 n f σ3 x5 x7
def X6_howMany (n : Nat)  (σ : sp_St)  : Option (sp_St × Int32) :=
  sp_pl ((0 : Int32)) fun x1 =>
  sp_pl ((0 : Int32)) fun x3 =>
  X6_howMany_4 n n σ x1 x3
set_option maxRecDepth 100000 in
set_option maxHeartbeats 4000000 in
theorem hX6_howMany_31 {X : sp_X} (hX : sp_OK shX X cX6_howMany RX6 3 rmX6_howMany) {τ : sp_St} {r : Int32} (hR : sp_Ri shX X (some .int) τ r 0 0) {n : Nat}    {σ : sp_St} {z1 : Int32} (hf : X6_howMany_31 n σ z1 = some (τ, r)) : sp_GG shX X σ 3 [none, some (.int z1), none] [] 31 0 0 := by
  unfold X6_howMany_31 at hf
  refine sp_iload_n (i := 1) (q := 32) hX dX6_howMany_31 rfl rfl rfl ?_
  refine sp_iconst (v := 2) (q := 33) hX dX6_howMany_32 li_2 rfl ?_
  obtain ⟨h1, hf⟩ := sp_ck_some hf
  refine sp_idiv (q := 34) hX dX6_howMany_33 (sp_nz h1) rfl ?_
  exact sp_iret hX hR dX6_howMany_34 hf (Nat.le_of_ble_eq_true rfl) (Nat.le_of_ble_eq_true rfl)
set_option maxRecDepth 100000 in
set_option maxHeartbeats 4000000 in
theorem hX6_howMany_4 {X : sp_X} (hX : sp_OK shX X cX6_howMany RX6 3 rmX6_howMany) {τ : sp_St} {r : Int32} (hR : sp_Ri shX X (some .int) τ r 0 0) {n : Nat}    : ∀ (f : Nat) (σ : sp_St) (z1 : Int32) (z2 : Int32), X6_howMany_4 n f σ z1 z2 = some (τ, r) → sp_GG shX X σ 3 [some (.ref (sx_ad X 66)), some (.int z1), some (.int z2)] [] 4 0 0 := by
  intro f
  induction f with
  | zero =>
    intro σ z1 z2 hf
    rw [X6_howMany_4] at hf
    cases hf
  | succ f ih =>
    intro σ z1 z2 hf
    rw [X6_howMany_4] at hf
    refine sp_iload_n (i := 2) (q := 5) hX dX6_howMany_4 rfl rfl rfl ?_
    refine sp_bipush (v := 6) (q := 7) hX dX6_howMany_5 lb_6 rfl ?_
    refine sp_icmp_ge (tgt := 31) (q := 10) hX dX6_howMany_7 (by decide) rfl (fun hc => ?_) (fun hc => ?_)
    · rw [if_pos hc] at hf
      refine sp_drop (lv' := [none, some (.int z1), none]) (And.intro rfl trivial) ?_
      exact hX6_howMany_31 hX hR hf
    · rw [if_neg hc] at hf
      refine sp_iload_n (i := 1) (q := 11) hX dX6_howMany_10 rfl rfl rfl ?_
      refine sp_aload_n (i := 0) (q := 12) hX dX6_howMany_11 rfl rfl rfl ?_
      refine sp_gets (t := 24) (q := 15) hX flX6_15 fkX6_0 atX_66 srX_66_0 dX6_howMany_12 rfl ?_
      refine sp_bipush (v := 35) (q := 17) hX dX6_howMany_15 lb_35 rfl ?_
      refine sp_iload_n (i := 2) (q := 18) hX dX6_howMany_17 rfl rfl rfl ?_
      refine sp_iadd (q := 19) hX dX6_howMany_18 rfl ?_
      obtain ⟨h1, hf⟩ := sp_ck_some hf
      refine sp_iald (q := 20) hX arX_24 h1 dX6_howMany_19 rfl ?_
      obtain ⟨σ3, v4, h2, hf⟩ := sp_bd_so hf
      refine sp_callSi (As := [.int (sp_g σ 24 (((35 : Int32)) + z2))]) (rest := [.int z1]) (q := 23) hX (cnJ6_bitCount_0f7a4 (sp_st hX)  h2) cwX6_20 rfl rfl rfl rfl (Nat.le_of_ble_eq_true rfl) (Nat.le_of_ble_eq_true rfl) (Nat.le_of_ble_eq_true rfl) (Nat.le_of_ble_eq_true rfl) (Nat.le_of_ble_eq_true rfl) dX6_howMany_20 rfl ?_
      refine sp_iadd (q := 24) hX dX6_howMany_23 rfl ?_
      obtain ⟨x5, e6, hf⟩ := sp_pl_some hf
      refine sp_nmi e6 ?_
      refine sp_istore_n (i := 1) (lv' := [some (.ref (sx_ad X 66)), some (.int x5), some (.int z2)]) (q := 25) hX dX6_howMany_24 rfl (Nat.le_of_ble_eq_true rfl) rfl rfl rfl ?_
      obtain ⟨x7, e8, hf⟩ := sp_pl_some hf
      refine sp_iinc (i := 2) (v := x7) (lv' := [some (.ref (sx_ad X 66)), some (.int x5), some (.int x7)]) (q := 28) hX dX6_howMany_25 rfl (by rw [e8, li_1]) (Nat.le_of_ble_eq_true rfl) rfl rfl rfl ?_
      refine sp_goto (tgt := 4) hX dX6_howMany_28 (by decide) ?_
      exact ih σ3 x5 x7 hf
set_option maxRecDepth 100000 in
set_option maxHeartbeats 4000000 in
theorem hX6_howMany {X : sp_X} (hX : sp_OK shX X cX6_howMany RX6 3 rmX6_howMany) {τ : sp_St} {r : Int32} (hR : sp_Ri shX X (some .int) τ r 0 0) {n : Nat}  {σ : sp_St}   (hf : X6_howMany n σ = some (τ, r)) : sp_GG shX X σ 3 [some (.ref (sx_ad X 66)), none, none] [] 0 0 0 := by
  unfold X6_howMany at hf
  refine sp_iconst (v := 0) (q := 1) hX dX6_howMany_0 li_0 rfl ?_
  obtain ⟨x1, e2, hf⟩ := sp_pl_some hf
  refine sp_nmi e2 ?_
  refine sp_istore_n (i := 1) (lv' := [some (.ref (sx_ad X 66)), some (.int x1), none]) (q := 2) hX dX6_howMany_1 rfl (Nat.le_of_ble_eq_true rfl) rfl rfl rfl ?_
  refine sp_iconst (v := 0) (q := 3) hX dX6_howMany_2 li_0 rfl ?_
  obtain ⟨x3, e4, hf⟩ := sp_pl_some hf
  refine sp_nmi e4 ?_
  refine sp_istore_n (i := 2) (lv' := [some (.ref (sx_ad X 66)), some (.int x1), some (.int x3)]) (q := 4) hX dX6_howMany_3 rfl (Nat.le_of_ble_eq_true rfl) rfl rfl rfl ?_
  exact hX6_howMany_4 hX hR n σ x1 x3 hf
set_option maxRecDepth 100000 in
set_option maxHeartbeats 4000000 in
theorem cnX6_howMany {l : Launch} (hst : l.stackTraces = false) {w : sp_Wd} {n : Nat}  {σ : sp_St}  {τ : sp_St} {r : Int32}  (hf : X6_howMany n σ = some (τ, r)) : sp_Ci shX l w yX6_howMany cX6_howMany 3 (some .int) rmX6_howMany 0 0 σ [.ref (w.2.1 66)] τ r :=
  sp_ci (own := RX6) (by decide) rfl hst (Nat.le_of_ble_eq_true rfl) rfl (fun X hX hw hl hR => by subst hw; subst hl; exact hX6_howMany hX hR   hf)
def rmX6_foesOfSet : Room := { frames := 0, cells := 0, slots := 0, locals := 0 }
def X6_foesOfSet_36 (n : Nat) (σ : sp_St) (z2 : Int32) : Option (sp_St × Int32) :=
  some (σ, z2)
def X6_foesOfSet_30 (n : Nat) (k4 : sp_St → Int32 → Int32 → Int32 → Option (sp_St × Int32)) (σ : sp_St) (z1 : Int32) (z2 : Int32) (z3 : Int32) : Option (sp_St × Int32) :=
  sp_pl (z3 + 1) fun x1 =>
  k4 σ z1 z2 x1
def X6_foesOfSet_4 (n : Nat) : Nat → sp_St → Int32 → Int32 → Int32 → Option (sp_St × Int32)
  | 0, _, _, _, _ => none
  | f + 1, σ, z1, z2, z3 =>
    if ((6 : Int32)) ≤ z3 then
      X6_foesOfSet_36 n σ z2
    else
      if ((z1 >>> (z3 &&& 31)) &&& ((1 : Int32))) = 0 then
        X6_foesOfSet_30 n (X6_foesOfSet_4 n f) σ z1 z2 z3
      else
        sp_ck (sp_in (((35 : Int32)) + z3) 50) <|
        sp_pl (z2 ||| (sp_g σ 24 (((35 : Int32)) + z3))) fun x2 =>
        X6_foesOfSet_30 n (X6_foesOfSet_4 n f) σ z1 x2 z3
def X6_foesOfSet (n : Nat)  (σ : sp_St) (a1 : Int32) : Option (sp_St × Int32) :=
  sp_pl ((0 : Int32)) fun x1 =>
  sp_pl ((0 : Int32)) fun x3 =>
  X6_foesOfSet_4 n n σ a1 x1 x3
set_option maxRecDepth 100000 in
set_option maxHeartbeats 4000000 in
theorem hX6_foesOfSet_36 {X : sp_X} (hX : sp_OK shX X cX6_foesOfSet RX6 4 rmX6_foesOfSet) {τ : sp_St} {r : Int32} (hR : sp_Ri shX X (some .int) τ r 0 0) {n : Nat}    {σ : sp_St} {z2 : Int32} (hf : X6_foesOfSet_36 n σ z2 = some (τ, r)) : sp_GG shX X σ 4 [none, none, some (.int z2), none] [] 36 0 0 := by
  unfold X6_foesOfSet_36 at hf
  refine sp_iload_n (i := 2) (q := 37) hX dX6_foesOfSet_36 rfl rfl rfl ?_
  exact sp_iret hX hR dX6_foesOfSet_37 hf (Nat.le_of_ble_eq_true rfl) (Nat.le_of_ble_eq_true rfl)
set_option maxRecDepth 100000 in
set_option maxHeartbeats 4000000 in
theorem hX6_foesOfSet_30 {X : sp_X} (hX : sp_OK shX X cX6_foesOfSet RX6 4 rmX6_foesOfSet) {τ : sp_St} {r : Int32} (hR : sp_Ri shX X (some .int) τ r 0 0) {n : Nat}   {k4 : sp_St → Int32 → Int32 → Int32 → Option (sp_St × Int32)} (hk4 : ∀ (σ : sp_St) (z1 : Int32) (z2 : Int32) (z3 : Int32), k4 σ z1 z2 z3 = some (τ, r) → sp_GG shX X σ 4 [some (.ref (sx_ad X 66)), some (.int z1), some (.int z2), some (.int z3)] [] 4 0 0) {σ : sp_St} {z1 : Int32} {z2 : Int32} {z3 : Int32} (hf : X6_foesOfSet_30 n k4 σ z1 z2 z3 = some (τ, r)) : sp_GG shX X σ 4 [some (.ref (sx_ad X 66)), some (.int z1), some (.int z2), some (.int z3)] [] 30 0 0 := by
  unfold X6_foesOfSet_30 at hf
  obtain ⟨x1, e2, hf⟩ := sp_pl_some hf
  refine sp_iinc (i := 3) (v := x1) (lv' := [some (.ref (sx_ad X 66)), some (.int z1), some (.int z2), some (.int x1)]) (q := 33) hX dX6_foesOfSet_30 rfl (by rw [e2, li_1]) (Nat.le_of_ble_eq_true rfl) rfl rfl rfl ?_
  refine sp_goto (tgt := 4) hX dX6_foesOfSet_33 (by decide) ?_
  exact hk4 σ z1 z2 x1 hf
set_option maxRecDepth 100000 in
set_option maxHeartbeats 4000000 in
theorem hX6_foesOfSet_4 {X : sp_X} (hX : sp_OK shX X cX6_foesOfSet RX6 4 rmX6_foesOfSet) {τ : sp_St} {r : Int32} (hR : sp_Ri shX X (some .int) τ r 0 0) {n : Nat}    : ∀ (f : Nat) (σ : sp_St) (z1 : Int32) (z2 : Int32) (z3 : Int32), X6_foesOfSet_4 n f σ z1 z2 z3 = some (τ, r) → sp_GG shX X σ 4 [some (.ref (sx_ad X 66)), some (.int z1), some (.int z2), some (.int z3)] [] 4 0 0 := by
  intro f
  induction f with
  | zero =>
    intro σ z1 z2 z3 hf
    rw [X6_foesOfSet_4] at hf
    cases hf
  | succ f ih =>
    intro σ z1 z2 z3 hf
    rw [X6_foesOfSet_4] at hf
    refine sp_iload_n (i := 3) (q := 5) hX dX6_foesOfSet_4 rfl rfl rfl ?_
    refine sp_bipush (v := 6) (q := 7) hX dX6_foesOfSet_5 lb_6 rfl ?_
    refine sp_icmp_ge (tgt := 36) (q := 10) hX dX6_foesOfSet_7 (by decide) rfl (fun hc => ?_) (fun hc => ?_)
    · rw [if_pos hc] at hf
      refine sp_drop (lv' := [none, none, some (.int z2), none]) (And.intro rfl trivial) ?_
      exact hX6_foesOfSet_36 hX hR hf
    · rw [if_neg hc] at hf
      refine sp_iload_n (i := 1) (q := 11) hX dX6_foesOfSet_10 rfl rfl rfl ?_
      refine sp_iload_n (i := 3) (q := 12) hX dX6_foesOfSet_11 rfl rfl rfl ?_
      refine sp_ishr (q := 13) hX dX6_foesOfSet_12 rfl ?_
      refine sp_iconst (v := 1) (q := 14) hX dX6_foesOfSet_13 li_1 rfl ?_
      refine sp_iand (q := 15) hX dX6_foesOfSet_14 rfl ?_
      refine sp_if_eq (tgt := 30) (q := 18) hX dX6_foesOfSet_15 (by decide) rfl (fun hc => ?_) (fun hc => ?_)
      · rw [if_pos hc] at hf
        exact hX6_foesOfSet_30 hX hR ih hf
      · rw [if_neg hc] at hf
        refine sp_iload_n (i := 2) (q := 19) hX dX6_foesOfSet_18 rfl rfl rfl ?_
        refine sp_aload_n (i := 0) (q := 20) hX dX6_foesOfSet_19 rfl rfl rfl ?_
        refine sp_gets (t := 24) (q := 23) hX flX6_15 fkX6_0 atX_66 srX_66_0 dX6_foesOfSet_20 rfl ?_
        refine sp_bipush (v := 35) (q := 25) hX dX6_foesOfSet_23 lb_35 rfl ?_
        refine sp_iload_n (i := 3) (q := 26) hX dX6_foesOfSet_25 rfl rfl rfl ?_
        refine sp_iadd (q := 27) hX dX6_foesOfSet_26 rfl ?_
        obtain ⟨h1, hf⟩ := sp_ck_some hf
        refine sp_iald (q := 28) hX arX_24 h1 dX6_foesOfSet_27 rfl ?_
        refine sp_ior (q := 29) hX dX6_foesOfSet_28 rfl ?_
        obtain ⟨x2, e3, hf⟩ := sp_pl_some hf
        refine sp_nmi e3 ?_
        refine sp_istore_n (i := 2) (lv' := [some (.ref (sx_ad X 66)), some (.int z1), some (.int x2), some (.int z3)]) (q := 30) hX dX6_foesOfSet_29 rfl (Nat.le_of_ble_eq_true rfl) rfl rfl rfl ?_
        exact hX6_foesOfSet_30 hX hR ih hf
set_option maxRecDepth 100000 in
set_option maxHeartbeats 4000000 in
theorem hX6_foesOfSet {X : sp_X} (hX : sp_OK shX X cX6_foesOfSet RX6 4 rmX6_foesOfSet) {τ : sp_St} {r : Int32} (hR : sp_Ri shX X (some .int) τ r 0 0) {n : Nat}  {σ : sp_St} {a1 : Int32}  (hf : X6_foesOfSet n σ a1 = some (τ, r)) : sp_GG shX X σ 4 [some (.ref (sx_ad X 66)), some (.int a1), none, none] [] 0 0 0 := by
  unfold X6_foesOfSet at hf
  refine sp_iconst (v := 0) (q := 1) hX dX6_foesOfSet_0 li_0 rfl ?_
  obtain ⟨x1, e2, hf⟩ := sp_pl_some hf
  refine sp_nmi e2 ?_
  refine sp_istore_n (i := 2) (lv' := [some (.ref (sx_ad X 66)), some (.int a1), some (.int x1), none]) (q := 2) hX dX6_foesOfSet_1 rfl (Nat.le_of_ble_eq_true rfl) rfl rfl rfl ?_
  refine sp_iconst (v := 0) (q := 3) hX dX6_foesOfSet_2 li_0 rfl ?_
  obtain ⟨x3, e4, hf⟩ := sp_pl_some hf
  refine sp_nmi e4 ?_
  refine sp_istore_n (i := 3) (lv' := [some (.ref (sx_ad X 66)), some (.int a1), some (.int x1), some (.int x3)]) (q := 4) hX dX6_foesOfSet_3 rfl (Nat.le_of_ble_eq_true rfl) rfl rfl rfl ?_
  exact hX6_foesOfSet_4 hX hR n σ a1 x1 x3 hf
set_option maxRecDepth 100000 in
set_option maxHeartbeats 4000000 in
theorem cnX6_foesOfSet {l : Launch} (hst : l.stackTraces = false) {w : sp_Wd} {n : Nat}  {σ : sp_St} {a1 : Int32} {τ : sp_St} {r : Int32}  (hf : X6_foesOfSet n σ a1 = some (τ, r)) : sp_Ci shX l w yX6_foesOfSet cX6_foesOfSet 4 (some .int) rmX6_foesOfSet 0 0 σ [.ref (w.2.1 66), .int a1] τ r :=
  sp_ci (own := RX6) (by decide) rfl hst (Nat.le_of_ble_eq_true rfl) rfl (fun X hX hw hl hR => by subst hw; subst hl; exact hX6_foesOfSet hX hR   hf)
def rmX6_campOf : Room := { frames := 1, cells := 0, slots := 0, locals := 23 }
def X6_campOf_30 (n : Nat) (σ : sp_St) (z2 : Int32) : Option (sp_St × Int32) :=
  some (σ, z2)
def X6_campOf_6 (n : Nat) : Nat → sp_St → Int32 → Int32 → Option (sp_St × Int32)
  | 0, _, _, _ => none
  | f + 1, σ, z2, z3 =>
    if ((6 : Int32)) ≤ z3 then
      X6_campOf_30 n σ z2
    else
      sp_bd (X6_foesOfSet n σ z2) fun σ2 v3 =>
      sp_bd (X6_foesOfSet n σ2 v3) fun σ5 v6 =>
      sp_pl (z2 ||| v6) fun x7 =>
      sp_pl (z3 + 1) fun x9 =>
      X6_campOf_6 n f σ5 x7 x9
def X6_campOf (n : Nat)  (σ : sp_St) (a1 : Int32) : Option (sp_St × Int32) :=
  sp_pl (((1 : Int32)) <<< (a1 &&& 31)) fun x1 =>
  sp_pl ((0 : Int32)) fun x3 =>
  X6_campOf_6 n n σ x1 x3
set_option maxRecDepth 100000 in
set_option maxHeartbeats 4000000 in
theorem hX6_campOf_30 {X : sp_X} (hX : sp_OK shX X cX6_campOf RX6 4 rmX6_campOf) {τ : sp_St} {r : Int32} (hR : sp_Ri shX X (some .int) τ r 0 0) {n : Nat}    {σ : sp_St} {z2 : Int32} (hf : X6_campOf_30 n σ z2 = some (τ, r)) : sp_GG shX X σ 4 [none, none, some (.int z2), none] [] 30 0 0 := by
  unfold X6_campOf_30 at hf
  refine sp_iload_n (i := 2) (q := 31) hX dX6_campOf_30 rfl rfl rfl ?_
  exact sp_iret hX hR dX6_campOf_31 hf (Nat.le_of_ble_eq_true rfl) (Nat.le_of_ble_eq_true rfl)
set_option maxRecDepth 100000 in
set_option maxHeartbeats 4000000 in
theorem hX6_campOf_6 {X : sp_X} (hX : sp_OK shX X cX6_campOf RX6 4 rmX6_campOf) {τ : sp_St} {r : Int32} (hR : sp_Ri shX X (some .int) τ r 0 0) {n : Nat}    : ∀ (f : Nat) (σ : sp_St) (z2 : Int32) (z3 : Int32), X6_campOf_6 n f σ z2 z3 = some (τ, r) → sp_GG shX X σ 4 [some (.ref (sx_ad X 66)), none, some (.int z2), some (.int z3)] [] 6 0 0 := by
  intro f
  induction f with
  | zero =>
    intro σ z2 z3 hf
    rw [X6_campOf_6] at hf
    cases hf
  | succ f ih =>
    intro σ z2 z3 hf
    rw [X6_campOf_6] at hf
    refine sp_iload_n (i := 3) (q := 7) hX dX6_campOf_6 rfl rfl rfl ?_
    refine sp_bipush (v := 6) (q := 9) hX dX6_campOf_7 lb_6 rfl ?_
    refine sp_icmp_ge (tgt := 30) (q := 12) hX dX6_campOf_9 (by decide) rfl (fun hc => ?_) (fun hc => ?_)
    · rw [if_pos hc] at hf
      refine sp_drop (lv' := [none, none, some (.int z2), none]) (And.intro rfl trivial) ?_
      exact hX6_campOf_30 hX hR hf
    · rw [if_neg hc] at hf
      refine sp_iload_n (i := 2) (q := 13) hX dX6_campOf_12 rfl rfl rfl ?_
      refine sp_aload_n (i := 0) (q := 14) hX dX6_campOf_13 rfl rfl rfl ?_
      refine sp_aload_n (i := 0) (q := 15) hX dX6_campOf_14 rfl rfl rfl ?_
      refine sp_iload_n (i := 2) (q := 16) hX dX6_campOf_15 rfl rfl rfl ?_
      obtain ⟨σ2, v3, h1, hf⟩ := sp_bd_so hf
      refine sp_callVi (As := [.int z2]) (rest := [.ref (sx_ad X 66), .int z2]) (q := 19) hX (cnX6_foesOfSet (sp_st hX)  h1) cwX6_26 atX_66 rfl rfl rfl rfl rfl (Nat.le_of_ble_eq_true rfl) (Nat.le_of_ble_eq_true rfl) (Nat.le_of_ble_eq_true rfl) (Nat.le_of_ble_eq_true rfl) (Nat.le_of_ble_eq_true rfl) dX6_campOf_16 rfl ?_
      obtain ⟨σ5, v6, h4, hf⟩ := sp_bd_so hf
      refine sp_callVi (As := [.int v3]) (rest := [.int z2]) (q := 22) hX (cnX6_foesOfSet (sp_st hX)  h4) cwX6_26 atX_66 rfl rfl rfl rfl rfl (Nat.le_of_ble_eq_true rfl) (Nat.le_of_ble_eq_true rfl) (Nat.le_of_ble_eq_true rfl) (Nat.le_of_ble_eq_true rfl) (Nat.le_of_ble_eq_true rfl) dX6_campOf_19 rfl ?_
      refine sp_ior (q := 23) hX dX6_campOf_22 rfl ?_
      obtain ⟨x7, e8, hf⟩ := sp_pl_some hf
      refine sp_nmi e8 ?_
      refine sp_istore_n (i := 2) (lv' := [some (.ref (sx_ad X 66)), none, some (.int x7), some (.int z3)]) (q := 24) hX dX6_campOf_23 rfl (Nat.le_of_ble_eq_true rfl) rfl rfl rfl ?_
      obtain ⟨x9, e10, hf⟩ := sp_pl_some hf
      refine sp_iinc (i := 3) (v := x9) (lv' := [some (.ref (sx_ad X 66)), none, some (.int x7), some (.int x9)]) (q := 27) hX dX6_campOf_24 rfl (by rw [e10, li_1]) (Nat.le_of_ble_eq_true rfl) rfl rfl rfl ?_
      refine sp_goto (tgt := 6) hX dX6_campOf_27 (by decide) ?_
      exact ih σ5 x7 x9 hf
set_option maxRecDepth 100000 in
set_option maxHeartbeats 4000000 in
theorem hX6_campOf {X : sp_X} (hX : sp_OK shX X cX6_campOf RX6 4 rmX6_campOf) {τ : sp_St} {r : Int32} (hR : sp_Ri shX X (some .int) τ r 0 0) {n : Nat}  {σ : sp_St} {a1 : Int32}  (hf : X6_campOf n σ a1 = some (τ, r)) : sp_GG shX X σ 4 [some (.ref (sx_ad X 66)), some (.int a1), none, none] [] 0 0 0 := by
  unfold X6_campOf at hf
  refine sp_iconst (v := 1) (q := 1) hX dX6_campOf_0 li_1 rfl ?_
  refine sp_iload_n (i := 1) (q := 2) hX dX6_campOf_1 rfl rfl rfl ?_
  refine sp_ishl (q := 3) hX dX6_campOf_2 rfl ?_
  obtain ⟨x1, e2, hf⟩ := sp_pl_some hf
  refine sp_nmi e2 ?_
  refine sp_istore_n (i := 2) (lv' := [some (.ref (sx_ad X 66)), some (.int a1), some (.int x1), none]) (q := 4) hX dX6_campOf_3 rfl (Nat.le_of_ble_eq_true rfl) rfl rfl rfl ?_
  refine sp_iconst (v := 0) (q := 5) hX dX6_campOf_4 li_0 rfl ?_
  obtain ⟨x3, e4, hf⟩ := sp_pl_some hf
  refine sp_nmi e4 ?_
  refine sp_istore_n (i := 3) (lv' := [some (.ref (sx_ad X 66)), some (.int a1), some (.int x1), some (.int x3)]) (q := 6) hX dX6_campOf_5 rfl (Nat.le_of_ble_eq_true rfl) rfl rfl rfl ?_
  refine sp_drop (lv' := [some (.ref (sx_ad X 66)), none, some (.int x1), some (.int x3)]) (And.intro rfl (And.intro rfl (And.intro rfl trivial))) ?_
  exact hX6_campOf_6 hX hR n σ x1 x3 hf
set_option maxRecDepth 100000 in
set_option maxHeartbeats 4000000 in
theorem cnX6_campOf {l : Launch} (hst : l.stackTraces = false) {w : sp_Wd} {n : Nat}  {σ : sp_St} {a1 : Int32} {τ : sp_St} {r : Int32}  (hf : X6_campOf n σ a1 = some (τ, r)) : sp_Ci shX l w yX6_campOf cX6_campOf 4 (some .int) rmX6_campOf 0 0 σ [.ref (w.2.1 66), .int a1] τ r :=
  sp_ci (own := RX6) (by decide) rfl hst (Nat.le_of_ble_eq_true rfl) rfl (fun X hX hw hl hR => by subst hw; subst hl; exact hX6_campOf hX hR   hf)
def rmX6_firstCamp : Room := { frames := 2, cells := 0, slots := 0, locals := 46 }
def X6_firstCamp_76 (n : Nat) (σ : sp_St) (z1 : Int32) : Option (sp_St × Int32) :=
  some (σ, z1)
def X6_firstCamp_70 (n : Nat) (k6 : sp_St → Int32 → Int32 → Int32 → Option (sp_St × Int32)) (σ : sp_St) (z1 : Int32) (z2 : Int32) (z3 : Int32) : Option (sp_St × Int32) :=
  sp_pl (z3 + 1) fun x1 =>
  k6 σ z1 z2 x1
def X6_firstCamp_55 (n : Nat) (σ : sp_St) : Option (sp_St × Int32) :=
  some (σ, (-1 : Int32))
def X6_firstCamp_6 (n : Nat) : Nat → sp_St → Int32 → Int32 → Int32 → Option (sp_St × Int32)
  | 0, _, _, _, _ => none
  | f + 1, σ, z1, z2, z3 =>
    if ((6 : Int32)) ≤ z3 then
      X6_firstCamp_76 n σ z1
    else
      sp_ck (sp_in (((35 : Int32)) + z3) 50) <|
      if (sp_g σ 24 (((35 : Int32)) + z3)) = 0 then
        X6_firstCamp_70 n (X6_firstCamp_6 n f) σ z1 z2 z3
      else
        if ((z2 >>> (z3 &&& 31)) &&& ((1 : Int32))) = 0 then
          sp_bd (X6_campOf n σ z3) fun σ3 v4 =>
          sp_bd (X6_foesOfSet n σ3 v4) fun σ6 v7 =>
          if (v4 &&& v7) = 0 then
            sp_pl (z1 ||| v4) fun x8 =>
            sp_pl (z2 ||| (v4 ||| v7)) fun x10 =>
            X6_firstCamp_70 n (X6_firstCamp_6 n f) σ6 x8 x10 z3
          else
            X6_firstCamp_55 n σ6
        else
          X6_firstCamp_70 n (X6_firstCamp_6 n f) σ z1 z2 z3
def X6_firstCamp (n : Nat)  (σ : sp_St)  : Option (sp_St × Int32) :=
  sp_pl ((0 : Int32)) fun x1 =>
  sp_pl ((0 : Int32)) fun x3 =>
  sp_pl ((0 : Int32)) fun x5 =>
  X6_firstCamp_6 n n σ x1 x3 x5
set_option maxRecDepth 100000 in
set_option maxHeartbeats 4000000 in
theorem hX6_firstCamp_76 {X : sp_X} (hX : sp_OK shX X cX6_firstCamp RX6 6 rmX6_firstCamp) {τ : sp_St} {r : Int32} (hR : sp_Ri shX X (some .int) τ r 0 0) {n : Nat}    {σ : sp_St} {z1 : Int32} (hf : X6_firstCamp_76 n σ z1 = some (τ, r)) : sp_GG shX X σ 6 [none, some (.int z1), none, none, none, none] [] 76 0 0 := by
  unfold X6_firstCamp_76 at hf
  refine sp_iload_n (i := 1) (q := 77) hX dX6_firstCamp_76 rfl rfl rfl ?_
  exact sp_iret hX hR dX6_firstCamp_77 hf (Nat.le_of_ble_eq_true rfl) (Nat.le_of_ble_eq_true rfl)
set_option maxRecDepth 100000 in
set_option maxHeartbeats 4000000 in
theorem hX6_firstCamp_70 {X : sp_X} (hX : sp_OK shX X cX6_firstCamp RX6 6 rmX6_firstCamp) {τ : sp_St} {r : Int32} (hR : sp_Ri shX X (some .int) τ r 0 0) {n : Nat}   {k6 : sp_St → Int32 → Int32 → Int32 → Option (sp_St × Int32)} (hk6 : ∀ (σ : sp_St) (z1 : Int32) (z2 : Int32) (z3 : Int32), k6 σ z1 z2 z3 = some (τ, r) → sp_GG shX X σ 6 [some (.ref (sx_ad X 66)), some (.int z1), some (.int z2), some (.int z3), none, none] [] 6 0 0) {σ : sp_St} {z1 : Int32} {z2 : Int32} {z3 : Int32} (hf : X6_firstCamp_70 n k6 σ z1 z2 z3 = some (τ, r)) : sp_GG shX X σ 6 [some (.ref (sx_ad X 66)), some (.int z1), some (.int z2), some (.int z3), none, none] [] 70 0 0 := by
  unfold X6_firstCamp_70 at hf
  obtain ⟨x1, e2, hf⟩ := sp_pl_some hf
  refine sp_iinc (i := 3) (v := x1) (lv' := [some (.ref (sx_ad X 66)), some (.int z1), some (.int z2), some (.int x1), none, none]) (q := 73) hX dX6_firstCamp_70 rfl (by rw [e2, li_1]) (Nat.le_of_ble_eq_true rfl) rfl rfl rfl ?_
  refine sp_goto (tgt := 6) hX dX6_firstCamp_73 (by decide) ?_
  exact hk6 σ z1 z2 x1 hf
set_option maxRecDepth 100000 in
set_option maxHeartbeats 4000000 in
theorem hX6_firstCamp_55 {X : sp_X} (hX : sp_OK shX X cX6_firstCamp RX6 6 rmX6_firstCamp) {τ : sp_St} {r : Int32} (hR : sp_Ri shX X (some .int) τ r 0 0) {n : Nat}    {σ : sp_St} (hf : X6_firstCamp_55 n σ = some (τ, r)) : sp_GG shX X σ 6 [none, none, none, none, none, none] [] 55 0 0 := by
  unfold X6_firstCamp_55 at hf
  refine sp_iconst (v := -1) (q := 56) hX dX6_firstCamp_55 li_m1 rfl ?_
  exact sp_iret hX hR dX6_firstCamp_56 hf (Nat.le_of_ble_eq_true rfl) (Nat.le_of_ble_eq_true rfl)
set_option maxRecDepth 100000 in
set_option maxHeartbeats 4000000 in
theorem hX6_firstCamp_6 {X : sp_X} (hX : sp_OK shX X cX6_firstCamp RX6 6 rmX6_firstCamp) {τ : sp_St} {r : Int32} (hR : sp_Ri shX X (some .int) τ r 0 0) {n : Nat}    : ∀ (f : Nat) (σ : sp_St) (z1 : Int32) (z2 : Int32) (z3 : Int32), X6_firstCamp_6 n f σ z1 z2 z3 = some (τ, r) → sp_GG shX X σ 6 [some (.ref (sx_ad X 66)), some (.int z1), some (.int z2), some (.int z3), none, none] [] 6 0 0 := by
  intro f
  induction f with
  | zero =>
    intro σ z1 z2 z3 hf
    rw [X6_firstCamp_6] at hf
    cases hf
  | succ f ih =>
    intro σ z1 z2 z3 hf
    rw [X6_firstCamp_6] at hf
    refine sp_iload_n (i := 3) (q := 7) hX dX6_firstCamp_6 rfl rfl rfl ?_
    refine sp_bipush (v := 6) (q := 9) hX dX6_firstCamp_7 lb_6 rfl ?_
    refine sp_icmp_ge (tgt := 76) (q := 12) hX dX6_firstCamp_9 (by decide) rfl (fun hc => ?_) (fun hc => ?_)
    · rw [if_pos hc] at hf
      refine sp_drop (lv' := [none, some (.int z1), none, none, none, none]) (And.intro rfl trivial) ?_
      exact hX6_firstCamp_76 hX hR hf
    · rw [if_neg hc] at hf
      refine sp_aload_n (i := 0) (q := 13) hX dX6_firstCamp_12 rfl rfl rfl ?_
      refine sp_gets (t := 24) (q := 16) hX flX6_15 fkX6_0 atX_66 srX_66_0 dX6_firstCamp_13 rfl ?_
      refine sp_bipush (v := 35) (q := 18) hX dX6_firstCamp_16 lb_35 rfl ?_
      refine sp_iload_n (i := 3) (q := 19) hX dX6_firstCamp_18 rfl rfl rfl ?_
      refine sp_iadd (q := 20) hX dX6_firstCamp_19 rfl ?_
      obtain ⟨h1, hf⟩ := sp_ck_some hf
      refine sp_iald (q := 21) hX arX_24 h1 dX6_firstCamp_20 rfl ?_
      refine sp_if_eq (tgt := 70) (q := 24) hX dX6_firstCamp_21 (by decide) rfl (fun hc => ?_) (fun hc => ?_)
      · rw [if_pos hc] at hf
        exact hX6_firstCamp_70 hX hR ih hf
      · rw [if_neg hc] at hf
        refine sp_iload_n (i := 2) (q := 25) hX dX6_firstCamp_24 rfl rfl rfl ?_
        refine sp_iload_n (i := 3) (q := 26) hX dX6_firstCamp_25 rfl rfl rfl ?_
        refine sp_ishr (q := 27) hX dX6_firstCamp_26 rfl ?_
        refine sp_iconst (v := 1) (q := 28) hX dX6_firstCamp_27 li_1 rfl ?_
        refine sp_iand (q := 29) hX dX6_firstCamp_28 rfl ?_
        refine sp_if_ne (tgt := 70) (q := 32) hX dX6_firstCamp_29 (by decide) rfl (fun hc => ?_) (fun hc => ?_)
        · rw [if_neg hc] at hf
          exact hX6_firstCamp_70 hX hR ih hf
        · rw [if_pos hc] at hf
          refine sp_aload_n (i := 0) (q := 33) hX dX6_firstCamp_32 rfl rfl rfl ?_
          refine sp_iload_n (i := 3) (q := 34) hX dX6_firstCamp_33 rfl rfl rfl ?_
          obtain ⟨σ3, v4, h2, hf⟩ := sp_bd_so hf
          refine sp_callVi (As := [.int z3]) (rest := []) (q := 37) hX (cnX6_campOf (sp_st hX)  h2) cwX6_29 atX_66 rfl rfl rfl rfl rfl (Nat.le_of_ble_eq_true rfl) (Nat.le_of_ble_eq_true rfl) (Nat.le_of_ble_eq_true rfl) (Nat.le_of_ble_eq_true rfl) (Nat.le_of_ble_eq_true rfl) dX6_firstCamp_34 rfl ?_
          refine sp_istore (i := 4) (lv' := [some (.ref (sx_ad X 66)), some (.int z1), some (.int z2), some (.int z3), some (.int v4), none]) (q := 39) hX dX6_firstCamp_37 (Nat.le_of_ble_eq_true rfl) rfl rfl rfl ?_
          refine sp_aload_n (i := 0) (q := 40) hX dX6_firstCamp_39 rfl rfl rfl ?_
          refine sp_iload (i := 4) (q := 42) hX dX6_firstCamp_40 rfl rfl ?_
          obtain ⟨σ6, v7, h5, hf⟩ := sp_bd_so hf
          refine sp_callVi (As := [.int v4]) (rest := []) (q := 45) hX (cnX6_foesOfSet (sp_st hX)  h5) cwX6_26 atX_66 rfl rfl rfl rfl rfl (Nat.le_of_ble_eq_true rfl) (Nat.le_of_ble_eq_true rfl) (Nat.le_of_ble_eq_true rfl) (Nat.le_of_ble_eq_true rfl) (Nat.le_of_ble_eq_true rfl) dX6_firstCamp_42 rfl ?_
          refine sp_istore (i := 5) (lv' := [some (.ref (sx_ad X 66)), some (.int z1), some (.int z2), some (.int z3), some (.int v4), some (.int v7)]) (q := 47) hX dX6_firstCamp_45 (Nat.le_of_ble_eq_true rfl) rfl rfl rfl ?_
          refine sp_iload (i := 4) (q := 49) hX dX6_firstCamp_47 rfl rfl ?_
          refine sp_iload (i := 5) (q := 51) hX dX6_firstCamp_49 rfl rfl ?_
          refine sp_iand (q := 52) hX dX6_firstCamp_51 rfl ?_
          refine sp_if_eq (tgt := 57) (q := 55) hX dX6_firstCamp_52 (by decide) rfl (fun hc => ?_) (fun hc => ?_)
          · rw [if_pos hc] at hf
            refine sp_iload_n (i := 1) (q := 58) hX dX6_firstCamp_57 rfl rfl rfl ?_
            refine sp_iload (i := 4) (q := 60) hX dX6_firstCamp_58 rfl rfl ?_
            refine sp_ior (q := 61) hX dX6_firstCamp_60 rfl ?_
            obtain ⟨x8, e9, hf⟩ := sp_pl_some hf
            refine sp_nmi e9 ?_
            refine sp_istore_n (i := 1) (lv' := [some (.ref (sx_ad X 66)), some (.int x8), some (.int z2), some (.int z3), some (.int v4), some (.int v7)]) (q := 62) hX dX6_firstCamp_61 rfl (Nat.le_of_ble_eq_true rfl) rfl rfl rfl ?_
            refine sp_iload_n (i := 2) (q := 63) hX dX6_firstCamp_62 rfl rfl rfl ?_
            refine sp_iload (i := 4) (q := 65) hX dX6_firstCamp_63 rfl rfl ?_
            refine sp_iload (i := 5) (q := 67) hX dX6_firstCamp_65 rfl rfl ?_
            refine sp_ior (q := 68) hX dX6_firstCamp_67 rfl ?_
            refine sp_ior (q := 69) hX dX6_firstCamp_68 rfl ?_
            obtain ⟨x10, e11, hf⟩ := sp_pl_some hf
            refine sp_nmi e11 ?_
            refine sp_istore_n (i := 2) (lv' := [some (.ref (sx_ad X 66)), some (.int x8), some (.int x10), some (.int z3), some (.int v4), some (.int v7)]) (q := 70) hX dX6_firstCamp_69 rfl (Nat.le_of_ble_eq_true rfl) rfl rfl rfl ?_
            refine sp_drop (lv' := [some (.ref (sx_ad X 66)), some (.int x8), some (.int x10), some (.int z3), none, none]) (And.intro rfl (And.intro rfl (And.intro rfl (And.intro rfl trivial)))) ?_
            exact hX6_firstCamp_70 hX hR ih hf
          · rw [if_neg hc] at hf
            refine sp_drop (lv' := [none, none, none, none, none, none]) trivial ?_
            exact hX6_firstCamp_55 hX hR hf
set_option maxRecDepth 100000 in
set_option maxHeartbeats 4000000 in
theorem hX6_firstCamp {X : sp_X} (hX : sp_OK shX X cX6_firstCamp RX6 6 rmX6_firstCamp) {τ : sp_St} {r : Int32} (hR : sp_Ri shX X (some .int) τ r 0 0) {n : Nat}  {σ : sp_St}   (hf : X6_firstCamp n σ = some (τ, r)) : sp_GG shX X σ 6 [some (.ref (sx_ad X 66)), none, none, none, none, none] [] 0 0 0 := by
  unfold X6_firstCamp at hf
  refine sp_iconst (v := 0) (q := 1) hX dX6_firstCamp_0 li_0 rfl ?_
  obtain ⟨x1, e2, hf⟩ := sp_pl_some hf
  refine sp_nmi e2 ?_
  refine sp_istore_n (i := 1) (lv' := [some (.ref (sx_ad X 66)), some (.int x1), none, none, none, none]) (q := 2) hX dX6_firstCamp_1 rfl (Nat.le_of_ble_eq_true rfl) rfl rfl rfl ?_
  refine sp_iconst (v := 0) (q := 3) hX dX6_firstCamp_2 li_0 rfl ?_
  obtain ⟨x3, e4, hf⟩ := sp_pl_some hf
  refine sp_nmi e4 ?_
  refine sp_istore_n (i := 2) (lv' := [some (.ref (sx_ad X 66)), some (.int x1), some (.int x3), none, none, none]) (q := 4) hX dX6_firstCamp_3 rfl (Nat.le_of_ble_eq_true rfl) rfl rfl rfl ?_
  refine sp_iconst (v := 0) (q := 5) hX dX6_firstCamp_4 li_0 rfl ?_
  obtain ⟨x5, e6, hf⟩ := sp_pl_some hf
  refine sp_nmi e6 ?_
  refine sp_istore_n (i := 3) (lv' := [some (.ref (sx_ad X 66)), some (.int x1), some (.int x3), some (.int x5), none, none]) (q := 6) hX dX6_firstCamp_5 rfl (Nat.le_of_ble_eq_true rfl) rfl rfl rfl ?_
  exact hX6_firstCamp_6 hX hR n σ x1 x3 x5 hf
set_option maxRecDepth 100000 in
set_option maxHeartbeats 4000000 in
theorem cnX6_firstCamp {l : Launch} (hst : l.stackTraces = false) {w : sp_Wd} {n : Nat}  {σ : sp_St}  {τ : sp_St} {r : Int32}  (hf : X6_firstCamp n σ = some (τ, r)) : sp_Ci shX l w yX6_firstCamp cX6_firstCamp 6 (some .int) rmX6_firstCamp 0 0 σ [.ref (w.2.1 66)] τ r :=
  sp_ci (own := RX6) (by decide) rfl hst (Nat.le_of_ble_eq_true rfl) rfl (fun X hX hw hl hR => by subst hw; subst hl; exact hX6_firstCamp hX hR   hf)
def rmX6_parties : Room := { frames := 2, cells := 0, slots := 0, locals := 46 }
def X6_parties_60 (n : Nat) (σ : sp_St) (z1 : Int32) : Option (sp_St × Int32) :=
  some (σ, z1)
def X6_parties_54 (n : Nat) (k6 : sp_St → Int32 → Int32 → Int32 → Option (sp_St × Int32)) (σ : sp_St) (z1 : Int32) (z2 : Int32) (z3 : Int32) : Option (sp_St × Int32) :=
  sp_pl (z3 + 1) fun x1 =>
  k6 σ z1 z2 x1
def X6_parties_6 (n : Nat) : Nat → sp_St → Int32 → Int32 → Int32 → Option (sp_St × Int32)
  | 0, _, _, _, _ => none
  | f + 1, σ, z1, z2, z3 =>
    if ((6 : Int32)) ≤ z3 then
      X6_parties_60 n σ z1
    else
      sp_ck (sp_in (((35 : Int32)) + z3) 50) <|
      if (sp_g σ 24 (((35 : Int32)) + z3)) = 0 then
        X6_parties_54 n (X6_parties_6 n f) σ z1 z2 z3
      else
        if ((z2 >>> (z3 &&& 31)) &&& ((1 : Int32))) = 0 then
          sp_bd (X6_campOf n σ z3) fun σ3 v4 =>
          sp_bd (X6_foesOfSet n σ3 v4) fun σ6 v7 =>
          sp_pl (z2 ||| (v4 ||| v7)) fun x8 =>
          sp_pl (z1 + 1) fun x10 =>
          X6_parties_54 n (X6_parties_6 n f) σ6 x10 x8 z3
        else
          X6_parties_54 n (X6_parties_6 n f) σ z1 z2 z3
def X6_parties (n : Nat)  (σ : sp_St)  : Option (sp_St × Int32) :=
  sp_pl ((0 : Int32)) fun x1 =>
  sp_pl ((0 : Int32)) fun x3 =>
  sp_pl ((0 : Int32)) fun x5 =>
  X6_parties_6 n n σ x1 x3 x5
set_option maxRecDepth 100000 in
set_option maxHeartbeats 4000000 in
theorem hX6_parties_60 {X : sp_X} (hX : sp_OK shX X cX6_parties RX6 5 rmX6_parties) {τ : sp_St} {r : Int32} (hR : sp_Ri shX X (some .int) τ r 0 0) {n : Nat}    {σ : sp_St} {z1 : Int32} (hf : X6_parties_60 n σ z1 = some (τ, r)) : sp_GG shX X σ 5 [none, some (.int z1), none, none, none] [] 60 0 0 := by
  unfold X6_parties_60 at hf
  refine sp_iload_n (i := 1) (q := 61) hX dX6_parties_60 rfl rfl rfl ?_
  exact sp_iret hX hR dX6_parties_61 hf (Nat.le_of_ble_eq_true rfl) (Nat.le_of_ble_eq_true rfl)
set_option maxRecDepth 100000 in
set_option maxHeartbeats 4000000 in
theorem hX6_parties_54 {X : sp_X} (hX : sp_OK shX X cX6_parties RX6 5 rmX6_parties) {τ : sp_St} {r : Int32} (hR : sp_Ri shX X (some .int) τ r 0 0) {n : Nat}   {k6 : sp_St → Int32 → Int32 → Int32 → Option (sp_St × Int32)} (hk6 : ∀ (σ : sp_St) (z1 : Int32) (z2 : Int32) (z3 : Int32), k6 σ z1 z2 z3 = some (τ, r) → sp_GG shX X σ 5 [some (.ref (sx_ad X 66)), some (.int z1), some (.int z2), some (.int z3), none] [] 6 0 0) {σ : sp_St} {z1 : Int32} {z2 : Int32} {z3 : Int32} (hf : X6_parties_54 n k6 σ z1 z2 z3 = some (τ, r)) : sp_GG shX X σ 5 [some (.ref (sx_ad X 66)), some (.int z1), some (.int z2), some (.int z3), none] [] 54 0 0 := by
  unfold X6_parties_54 at hf
  obtain ⟨x1, e2, hf⟩ := sp_pl_some hf
  refine sp_iinc (i := 3) (v := x1) (lv' := [some (.ref (sx_ad X 66)), some (.int z1), some (.int z2), some (.int x1), none]) (q := 57) hX dX6_parties_54 rfl (by rw [e2, li_1]) (Nat.le_of_ble_eq_true rfl) rfl rfl rfl ?_
  refine sp_goto (tgt := 6) hX dX6_parties_57 (by decide) ?_
  exact hk6 σ z1 z2 x1 hf
set_option maxRecDepth 100000 in
set_option maxHeartbeats 4000000 in
theorem hX6_parties_6 {X : sp_X} (hX : sp_OK shX X cX6_parties RX6 5 rmX6_parties) {τ : sp_St} {r : Int32} (hR : sp_Ri shX X (some .int) τ r 0 0) {n : Nat}    : ∀ (f : Nat) (σ : sp_St) (z1 : Int32) (z2 : Int32) (z3 : Int32), X6_parties_6 n f σ z1 z2 z3 = some (τ, r) → sp_GG shX X σ 5 [some (.ref (sx_ad X 66)), some (.int z1), some (.int z2), some (.int z3), none] [] 6 0 0 := by
  intro f
  induction f with
  | zero =>
    intro σ z1 z2 z3 hf
    rw [X6_parties_6] at hf
    cases hf
  | succ f ih =>
    intro σ z1 z2 z3 hf
    rw [X6_parties_6] at hf
    refine sp_iload_n (i := 3) (q := 7) hX dX6_parties_6 rfl rfl rfl ?_
    refine sp_bipush (v := 6) (q := 9) hX dX6_parties_7 lb_6 rfl ?_
    refine sp_icmp_ge (tgt := 60) (q := 12) hX dX6_parties_9 (by decide) rfl (fun hc => ?_) (fun hc => ?_)
    · rw [if_pos hc] at hf
      refine sp_drop (lv' := [none, some (.int z1), none, none, none]) (And.intro rfl trivial) ?_
      exact hX6_parties_60 hX hR hf
    · rw [if_neg hc] at hf
      refine sp_aload_n (i := 0) (q := 13) hX dX6_parties_12 rfl rfl rfl ?_
      refine sp_gets (t := 24) (q := 16) hX flX6_15 fkX6_0 atX_66 srX_66_0 dX6_parties_13 rfl ?_
      refine sp_bipush (v := 35) (q := 18) hX dX6_parties_16 lb_35 rfl ?_
      refine sp_iload_n (i := 3) (q := 19) hX dX6_parties_18 rfl rfl rfl ?_
      refine sp_iadd (q := 20) hX dX6_parties_19 rfl ?_
      obtain ⟨h1, hf⟩ := sp_ck_some hf
      refine sp_iald (q := 21) hX arX_24 h1 dX6_parties_20 rfl ?_
      refine sp_if_eq (tgt := 54) (q := 24) hX dX6_parties_21 (by decide) rfl (fun hc => ?_) (fun hc => ?_)
      · rw [if_pos hc] at hf
        exact hX6_parties_54 hX hR ih hf
      · rw [if_neg hc] at hf
        refine sp_iload_n (i := 2) (q := 25) hX dX6_parties_24 rfl rfl rfl ?_
        refine sp_iload_n (i := 3) (q := 26) hX dX6_parties_25 rfl rfl rfl ?_
        refine sp_ishr (q := 27) hX dX6_parties_26 rfl ?_
        refine sp_iconst (v := 1) (q := 28) hX dX6_parties_27 li_1 rfl ?_
        refine sp_iand (q := 29) hX dX6_parties_28 rfl ?_
        refine sp_if_ne (tgt := 54) (q := 32) hX dX6_parties_29 (by decide) rfl (fun hc => ?_) (fun hc => ?_)
        · rw [if_neg hc] at hf
          exact hX6_parties_54 hX hR ih hf
        · rw [if_pos hc] at hf
          refine sp_aload_n (i := 0) (q := 33) hX dX6_parties_32 rfl rfl rfl ?_
          refine sp_iload_n (i := 3) (q := 34) hX dX6_parties_33 rfl rfl rfl ?_
          obtain ⟨σ3, v4, h2, hf⟩ := sp_bd_so hf
          refine sp_callVi (As := [.int z3]) (rest := []) (q := 37) hX (cnX6_campOf (sp_st hX)  h2) cwX6_29 atX_66 rfl rfl rfl rfl rfl (Nat.le_of_ble_eq_true rfl) (Nat.le_of_ble_eq_true rfl) (Nat.le_of_ble_eq_true rfl) (Nat.le_of_ble_eq_true rfl) (Nat.le_of_ble_eq_true rfl) dX6_parties_34 rfl ?_
          refine sp_istore (i := 4) (lv' := [some (.ref (sx_ad X 66)), some (.int z1), some (.int z2), some (.int z3), some (.int v4)]) (q := 39) hX dX6_parties_37 (Nat.le_of_ble_eq_true rfl) rfl rfl rfl ?_
          refine sp_iload_n (i := 2) (q := 40) hX dX6_parties_39 rfl rfl rfl ?_
          refine sp_iload (i := 4) (q := 42) hX dX6_parties_40 rfl rfl ?_
          refine sp_aload_n (i := 0) (q := 43) hX dX6_parties_42 rfl rfl rfl ?_
          refine sp_iload (i := 4) (q := 45) hX dX6_parties_43 rfl rfl ?_
          obtain ⟨σ6, v7, h5, hf⟩ := sp_bd_so hf
          refine sp_callVi (As := [.int v4]) (rest := [.int v4, .int z2]) (q := 48) hX (cnX6_foesOfSet (sp_st hX)  h5) cwX6_26 atX_66 rfl rfl rfl rfl rfl (Nat.le_of_ble_eq_true rfl) (Nat.le_of_ble_eq_true rfl) (Nat.le_of_ble_eq_true rfl) (Nat.le_of_ble_eq_true rfl) (Nat.le_of_ble_eq_true rfl) dX6_parties_45 rfl ?_
          refine sp_ior (q := 49) hX dX6_parties_48 rfl ?_
          refine sp_ior (q := 50) hX dX6_parties_49 rfl ?_
          obtain ⟨x8, e9, hf⟩ := sp_pl_some hf
          refine sp_nmi e9 ?_
          refine sp_istore_n (i := 2) (lv' := [some (.ref (sx_ad X 66)), some (.int z1), some (.int x8), some (.int z3), some (.int v4)]) (q := 51) hX dX6_parties_50 rfl (Nat.le_of_ble_eq_true rfl) rfl rfl rfl ?_
          obtain ⟨x10, e11, hf⟩ := sp_pl_some hf
          refine sp_iinc (i := 1) (v := x10) (lv' := [some (.ref (sx_ad X 66)), some (.int x10), some (.int x8), some (.int z3), some (.int v4)]) (q := 54) hX dX6_parties_51 rfl (by rw [e11, li_1]) (Nat.le_of_ble_eq_true rfl) rfl rfl rfl ?_
          refine sp_drop (lv' := [some (.ref (sx_ad X 66)), some (.int x10), some (.int x8), some (.int z3), none]) (And.intro rfl (And.intro rfl (And.intro rfl (And.intro rfl trivial)))) ?_
          exact hX6_parties_54 hX hR ih hf
set_option maxRecDepth 100000 in
set_option maxHeartbeats 4000000 in
theorem hX6_parties {X : sp_X} (hX : sp_OK shX X cX6_parties RX6 5 rmX6_parties) {τ : sp_St} {r : Int32} (hR : sp_Ri shX X (some .int) τ r 0 0) {n : Nat}  {σ : sp_St}   (hf : X6_parties n σ = some (τ, r)) : sp_GG shX X σ 5 [some (.ref (sx_ad X 66)), none, none, none, none] [] 0 0 0 := by
  unfold X6_parties at hf
  refine sp_iconst (v := 0) (q := 1) hX dX6_parties_0 li_0 rfl ?_
  obtain ⟨x1, e2, hf⟩ := sp_pl_some hf
  refine sp_nmi e2 ?_
  refine sp_istore_n (i := 1) (lv' := [some (.ref (sx_ad X 66)), some (.int x1), none, none, none]) (q := 2) hX dX6_parties_1 rfl (Nat.le_of_ble_eq_true rfl) rfl rfl rfl ?_
  refine sp_iconst (v := 0) (q := 3) hX dX6_parties_2 li_0 rfl ?_
  obtain ⟨x3, e4, hf⟩ := sp_pl_some hf
  refine sp_nmi e4 ?_
  refine sp_istore_n (i := 2) (lv' := [some (.ref (sx_ad X 66)), some (.int x1), some (.int x3), none, none]) (q := 4) hX dX6_parties_3 rfl (Nat.le_of_ble_eq_true rfl) rfl rfl rfl ?_
  refine sp_iconst (v := 0) (q := 5) hX dX6_parties_4 li_0 rfl ?_
  obtain ⟨x5, e6, hf⟩ := sp_pl_some hf
  refine sp_nmi e6 ?_
  refine sp_istore_n (i := 3) (lv' := [some (.ref (sx_ad X 66)), some (.int x1), some (.int x3), some (.int x5), none]) (q := 6) hX dX6_parties_5 rfl (Nat.le_of_ble_eq_true rfl) rfl rfl rfl ?_
  exact hX6_parties_6 hX hR n σ x1 x3 x5 hf
set_option maxRecDepth 100000 in
set_option maxHeartbeats 4000000 in
theorem cnX6_parties {l : Launch} (hst : l.stackTraces = false) {w : sp_Wd} {n : Nat}  {σ : sp_St}  {τ : sp_St} {r : Int32}  (hf : X6_parties n σ = some (τ, r)) : sp_Ci shX l w yX6_parties cX6_parties 5 (some .int) rmX6_parties 0 0 σ [.ref (w.2.1 66)] τ r :=
  sp_ci (own := RX6) (by decide) rfl hst (Nat.le_of_ble_eq_true rfl) rfl (fun X hX hw hl hR => by subst hw; subst hl; exact hX6_parties hX hR   hf)
def rmX6_mostCouplesIn : Room := { frames := 1, cells := 0, slots := 0, locals := 24 }
def X6_mostCouplesIn_92 (n : Nat) (σ : sp_St) (z4 : Int32) : Option (sp_St × Int32) :=
  some (σ, z4)
def X6_mostCouplesIn_86 (n : Nat) (k39 : sp_St → Int32 → Int32 → Int32 → Int32 → Option (sp_St × Int32)) (σ : sp_St) (z2 : Int32) (z3 : Int32) (z4 : Int32) (z5 : Int32) : Option (sp_St × Int32) :=
  sp_pl (z5 + 1) fun x1 =>
  k39 σ z2 z3 z4 x1
def X6_mostCouplesIn_39 (n : Nat) : Nat → sp_St → Int32 → Int32 → Int32 → Int32 → Option (sp_St × Int32)
  | 0, _, _, _, _, _ => none
  | f + 1, σ, z2, z3, z4, z5 =>
    if z2 ≤ z5 then
      X6_mostCouplesIn_92 n σ z4
    else
      if ((z3 >>> (z5 &&& 31)) &&& ((1 : Int32))) = 0 then
        X6_mostCouplesIn_86 n (X6_mostCouplesIn_39 n f) σ z2 z3 z4 z5
      else
        sp_bd (X6_between n σ z2 z5) fun σ2 v3 =>
        if v3 = 0 then
          X6_mostCouplesIn_86 n (X6_mostCouplesIn_39 n f) σ2 z2 z3 z4 z5
        else
          sp_ck (sp_in (z3 &&& ((((1 : Int32)) <<< (z5 &&& 31)) ^^^ ((-1 : Int32)))) 64) <|
          sp_pl (sp_max z4 (((1 : Int32)) + (sp_g σ2 67 (z3 &&& ((((1 : Int32)) <<< (z5 &&& 31)) ^^^ ((-1 : Int32))))))) fun v5 =>
          X6_mostCouplesIn_86 n (X6_mostCouplesIn_39 n f) σ2 z2 z3 v5 z5
def X6_mostCouplesIn_20 (n : Nat) (σ : sp_St) (z1 : Int32) (z2 : Int32) : Option (sp_St × Int32) :=
  sp_pl (z1 &&& ((((1 : Int32)) <<< (z2 &&& 31)) ^^^ ((-1 : Int32)))) fun x1 =>
  sp_ck (sp_in x1 64) <|
  sp_pl (sp_g σ 67 x1) fun x4 =>
  sp_pl ((0 : Int32)) fun x6 =>
  X6_mostCouplesIn_39 n n σ z2 x1 x4 x6
def X6_mostCouplesIn_2 (n : Nat) : Nat → sp_St → Int32 → Int32 → Option (sp_St × Int32)
  | 0, _, _, _ => none
  | f + 1, σ, z1, z2 =>
    if z2 ≤ 0 then
      X6_mostCouplesIn_20 n σ z1 z2
    else
      if ((z1 >>> (z2 &&& 31)) &&& ((1 : Int32))) = 0 then
        sp_pl (z2 + (-1)) fun x1 =>
        X6_mostCouplesIn_2 n f σ z1 x1
      else
        X6_mostCouplesIn_20 n σ z1 z2
def X6_mostCouplesIn (n : Nat)  (σ : sp_St) (a1 : Int32) : Option (sp_St × Int32) :=
  sp_pl ((5 : Int32)) fun x1 =>
  X6_mostCouplesIn_2 n n σ a1 x1
set_option maxRecDepth 100000 in
set_option maxHeartbeats 4000000 in
theorem hX6_mostCouplesIn_92 {X : sp_X} (hX : sp_OK shX X cX6_mostCouplesIn RX6 6 rmX6_mostCouplesIn) {τ : sp_St} {r : Int32} (hR : sp_Ri shX X (some .int) τ r 0 0) {n : Nat}    {σ : sp_St} {z4 : Int32} (hf : X6_mostCouplesIn_92 n σ z4 = some (τ, r)) : sp_GG shX X σ 6 [none, none, none, none, some (.int z4), none] [] 92 0 0 := by
  unfold X6_mostCouplesIn_92 at hf
  refine sp_iload (i := 4) (q := 94) hX dX6_mostCouplesIn_92 rfl rfl ?_
  exact sp_iret hX hR dX6_mostCouplesIn_94 hf (Nat.le_of_ble_eq_true rfl) (Nat.le_of_ble_eq_true rfl)
set_option maxRecDepth 100000 in
set_option maxHeartbeats 4000000 in
theorem hX6_mostCouplesIn_86 {X : sp_X} (hX : sp_OK shX X cX6_mostCouplesIn RX6 6 rmX6_mostCouplesIn) {τ : sp_St} {r : Int32} (hR : sp_Ri shX X (some .int) τ r 0 0) {n : Nat}   {k39 : sp_St → Int32 → Int32 → Int32 → Int32 → Option (sp_St × Int32)} (hk39 : ∀ (σ : sp_St) (z2 : Int32) (z3 : Int32) (z4 : Int32) (z5 : Int32), k39 σ z2 z3 z4 z5 = some (τ, r) → sp_GG shX X σ 6 [some (.ref (sx_ad X 66)), none, some (.int z2), some (.int z3), some (.int z4), some (.int z5)] [] 39 0 0) {σ : sp_St} {z2 : Int32} {z3 : Int32} {z4 : Int32} {z5 : Int32} (hf : X6_mostCouplesIn_86 n k39 σ z2 z3 z4 z5 = some (τ, r)) : sp_GG shX X σ 6 [some (.ref (sx_ad X 66)), none, some (.int z2), some (.int z3), some (.int z4), some (.int z5)] [] 86 0 0 := by
  unfold X6_mostCouplesIn_86 at hf
  obtain ⟨x1, e2, hf⟩ := sp_pl_some hf
  refine sp_iinc (i := 5) (v := x1) (lv' := [some (.ref (sx_ad X 66)), none, some (.int z2), some (.int z3), some (.int z4), some (.int x1)]) (q := 89) hX dX6_mostCouplesIn_86 rfl (by rw [e2, li_1]) (Nat.le_of_ble_eq_true rfl) rfl rfl rfl ?_
  refine sp_goto (tgt := 39) hX dX6_mostCouplesIn_89 (by decide) ?_
  exact hk39 σ z2 z3 z4 x1 hf
set_option maxRecDepth 100000 in
set_option maxHeartbeats 4000000 in
theorem hX6_mostCouplesIn_39 {X : sp_X} (hX : sp_OK shX X cX6_mostCouplesIn RX6 6 rmX6_mostCouplesIn) {τ : sp_St} {r : Int32} (hR : sp_Ri shX X (some .int) τ r 0 0) {n : Nat}    : ∀ (f : Nat) (σ : sp_St) (z2 : Int32) (z3 : Int32) (z4 : Int32) (z5 : Int32), X6_mostCouplesIn_39 n f σ z2 z3 z4 z5 = some (τ, r) → sp_GG shX X σ 6 [some (.ref (sx_ad X 66)), none, some (.int z2), some (.int z3), some (.int z4), some (.int z5)] [] 39 0 0 := by
  intro f
  induction f with
  | zero =>
    intro σ z2 z3 z4 z5 hf
    rw [X6_mostCouplesIn_39] at hf
    cases hf
  | succ f ih =>
    intro σ z2 z3 z4 z5 hf
    rw [X6_mostCouplesIn_39] at hf
    refine sp_iload (i := 5) (q := 41) hX dX6_mostCouplesIn_39 rfl rfl ?_
    refine sp_iload_n (i := 2) (q := 42) hX dX6_mostCouplesIn_41 rfl rfl rfl ?_
    refine sp_icmp_ge (tgt := 92) (q := 45) hX dX6_mostCouplesIn_42 (by decide) rfl (fun hc => ?_) (fun hc => ?_)
    · rw [if_pos hc] at hf
      refine sp_drop (lv' := [none, none, none, none, some (.int z4), none]) (And.intro rfl trivial) ?_
      exact hX6_mostCouplesIn_92 hX hR hf
    · rw [if_neg hc] at hf
      refine sp_iload_n (i := 3) (q := 46) hX dX6_mostCouplesIn_45 rfl rfl rfl ?_
      refine sp_iload (i := 5) (q := 48) hX dX6_mostCouplesIn_46 rfl rfl ?_
      refine sp_ishr (q := 49) hX dX6_mostCouplesIn_48 rfl ?_
      refine sp_iconst (v := 1) (q := 50) hX dX6_mostCouplesIn_49 li_1 rfl ?_
      refine sp_iand (q := 51) hX dX6_mostCouplesIn_50 rfl ?_
      refine sp_if_eq (tgt := 86) (q := 54) hX dX6_mostCouplesIn_51 (by decide) rfl (fun hc => ?_) (fun hc => ?_)
      · rw [if_pos hc] at hf
        exact hX6_mostCouplesIn_86 hX hR ih hf
      · rw [if_neg hc] at hf
        refine sp_aload_n (i := 0) (q := 55) hX dX6_mostCouplesIn_54 rfl rfl rfl ?_
        refine sp_iload_n (i := 2) (q := 56) hX dX6_mostCouplesIn_55 rfl rfl rfl ?_
        refine sp_iload (i := 5) (q := 58) hX dX6_mostCouplesIn_56 rfl rfl ?_
        obtain ⟨σ2, v3, h1, hf⟩ := sp_bd_so hf
        refine sp_callVi (As := [.int z2, .int z5]) (rest := []) (q := 61) hX (cnX6_between (sp_st hX)  h1) cwX6_35 atX_66 rfl rfl rfl rfl rfl (Nat.le_of_ble_eq_true rfl) (Nat.le_of_ble_eq_true rfl) (Nat.le_of_ble_eq_true rfl) (Nat.le_of_ble_eq_true rfl) (Nat.le_of_ble_eq_true rfl) dX6_mostCouplesIn_58 rfl ?_
        refine sp_if_eq (tgt := 86) (q := 64) hX dX6_mostCouplesIn_61 (by decide) rfl (fun hc => ?_) (fun hc => ?_)
        · rw [if_pos hc] at hf
          exact hX6_mostCouplesIn_86 hX hR ih hf
        · rw [if_neg hc] at hf
          refine sp_iload (i := 4) (q := 66) hX dX6_mostCouplesIn_64 rfl rfl ?_
          refine sp_iconst (v := 1) (q := 67) hX dX6_mostCouplesIn_66 li_1 rfl ?_
          refine sp_aload_n (i := 0) (q := 68) hX dX6_mostCouplesIn_67 rfl rfl rfl ?_
          refine sp_gets (t := 67) (q := 71) hX flX6_11 fkX6_1 atX_66 srX_66_1 dX6_mostCouplesIn_68 rfl ?_
          refine sp_iload_n (i := 3) (q := 72) hX dX6_mostCouplesIn_71 rfl rfl rfl ?_
          refine sp_iconst (v := 1) (q := 73) hX dX6_mostCouplesIn_72 li_1 rfl ?_
          refine sp_iload (i := 5) (q := 75) hX dX6_mostCouplesIn_73 rfl rfl ?_
          refine sp_ishl (q := 76) hX dX6_mostCouplesIn_75 rfl ?_
          refine sp_iconst (v := -1) (q := 77) hX dX6_mostCouplesIn_76 li_m1 rfl ?_
          refine sp_ixor (q := 78) hX dX6_mostCouplesIn_77 rfl ?_
          refine sp_iand (q := 79) hX dX6_mostCouplesIn_78 rfl ?_
          obtain ⟨h4, hf⟩ := sp_ck_some hf
          refine sp_iald (q := 80) hX arX_67 h4 dX6_mostCouplesIn_79 rfl ?_
          refine sp_iadd (q := 81) hX dX6_mostCouplesIn_80 rfl ?_
          obtain ⟨v5, e6, hf⟩ := sp_pl_some hf
          refine sp_mmax (q := 84) hX wd_819 wd_656 wd_144 wd_657 (Nat.le_of_ble_eq_true rfl) (Nat.le_of_ble_eq_true rfl) (Nat.le_of_ble_eq_true rfl) (Nat.le_of_ble_eq_true rfl) dX6_mostCouplesIn_81 rfl ?_
          refine sp_nmi e6 ?_
          refine sp_istore (i := 4) (lv' := [some (.ref (sx_ad X 66)), none, some (.int z2), some (.int z3), some (.int v5), some (.int z5)]) (q := 86) hX dX6_mostCouplesIn_84 (Nat.le_of_ble_eq_true rfl) rfl rfl rfl ?_
          exact hX6_mostCouplesIn_86 hX hR ih hf
set_option maxRecDepth 100000 in
set_option maxHeartbeats 4000000 in
theorem hX6_mostCouplesIn_20 {X : sp_X} (hX : sp_OK shX X cX6_mostCouplesIn RX6 6 rmX6_mostCouplesIn) {τ : sp_St} {r : Int32} (hR : sp_Ri shX X (some .int) τ r 0 0) {n : Nat}    {σ : sp_St} {z1 : Int32} {z2 : Int32} (hf : X6_mostCouplesIn_20 n σ z1 z2 = some (τ, r)) : sp_GG shX X σ 6 [some (.ref (sx_ad X 66)), some (.int z1), some (.int z2), none, none, none] [] 20 0 0 := by
  unfold X6_mostCouplesIn_20 at hf
  refine sp_iload_n (i := 1) (q := 21) hX dX6_mostCouplesIn_20 rfl rfl rfl ?_
  refine sp_iconst (v := 1) (q := 22) hX dX6_mostCouplesIn_21 li_1 rfl ?_
  refine sp_iload_n (i := 2) (q := 23) hX dX6_mostCouplesIn_22 rfl rfl rfl ?_
  refine sp_ishl (q := 24) hX dX6_mostCouplesIn_23 rfl ?_
  refine sp_iconst (v := -1) (q := 25) hX dX6_mostCouplesIn_24 li_m1 rfl ?_
  refine sp_ixor (q := 26) hX dX6_mostCouplesIn_25 rfl ?_
  refine sp_iand (q := 27) hX dX6_mostCouplesIn_26 rfl ?_
  obtain ⟨x1, e2, hf⟩ := sp_pl_some hf
  refine sp_nmi e2 ?_
  refine sp_istore_n (i := 3) (lv' := [some (.ref (sx_ad X 66)), some (.int z1), some (.int z2), some (.int x1), none, none]) (q := 28) hX dX6_mostCouplesIn_27 rfl (Nat.le_of_ble_eq_true rfl) rfl rfl rfl ?_
  refine sp_aload_n (i := 0) (q := 29) hX dX6_mostCouplesIn_28 rfl rfl rfl ?_
  refine sp_gets (t := 67) (q := 32) hX flX6_11 fkX6_1 atX_66 srX_66_1 dX6_mostCouplesIn_29 rfl ?_
  refine sp_iload_n (i := 3) (q := 33) hX dX6_mostCouplesIn_32 rfl rfl rfl ?_
  obtain ⟨h3, hf⟩ := sp_ck_some hf
  refine sp_iald (q := 34) hX arX_67 h3 dX6_mostCouplesIn_33 rfl ?_
  obtain ⟨x4, e5, hf⟩ := sp_pl_some hf
  refine sp_nmi e5 ?_
  refine sp_istore (i := 4) (lv' := [some (.ref (sx_ad X 66)), some (.int z1), some (.int z2), some (.int x1), some (.int x4), none]) (q := 36) hX dX6_mostCouplesIn_34 (Nat.le_of_ble_eq_true rfl) rfl rfl rfl ?_
  refine sp_iconst (v := 0) (q := 37) hX dX6_mostCouplesIn_36 li_0 rfl ?_
  obtain ⟨x6, e7, hf⟩ := sp_pl_some hf
  refine sp_nmi e7 ?_
  refine sp_istore (i := 5) (lv' := [some (.ref (sx_ad X 66)), some (.int z1), some (.int z2), some (.int x1), some (.int x4), some (.int x6)]) (q := 39) hX dX6_mostCouplesIn_37 (Nat.le_of_ble_eq_true rfl) rfl rfl rfl ?_
  refine sp_drop (lv' := [some (.ref (sx_ad X 66)), none, some (.int z2), some (.int x1), some (.int x4), some (.int x6)]) (And.intro rfl (And.intro rfl (And.intro rfl (And.intro rfl (And.intro rfl trivial))))) ?_
  exact hX6_mostCouplesIn_39 hX hR n σ z2 x1 x4 x6 hf
set_option maxRecDepth 100000 in
set_option maxHeartbeats 4000000 in
theorem hX6_mostCouplesIn_2 {X : sp_X} (hX : sp_OK shX X cX6_mostCouplesIn RX6 6 rmX6_mostCouplesIn) {τ : sp_St} {r : Int32} (hR : sp_Ri shX X (some .int) τ r 0 0) {n : Nat}    : ∀ (f : Nat) (σ : sp_St) (z1 : Int32) (z2 : Int32), X6_mostCouplesIn_2 n f σ z1 z2 = some (τ, r) → sp_GG shX X σ 6 [some (.ref (sx_ad X 66)), some (.int z1), some (.int z2), none, none, none] [] 2 0 0 := by
  intro f
  induction f with
  | zero =>
    intro σ z1 z2 hf
    rw [X6_mostCouplesIn_2] at hf
    cases hf
  | succ f ih =>
    intro σ z1 z2 hf
    rw [X6_mostCouplesIn_2] at hf
    refine sp_iload_n (i := 2) (q := 3) hX dX6_mostCouplesIn_2 rfl rfl rfl ?_
    refine sp_if_le (tgt := 20) (q := 6) hX dX6_mostCouplesIn_3 (by decide) rfl (fun hc => ?_) (fun hc => ?_)
    · rw [if_pos hc] at hf
      exact hX6_mostCouplesIn_20 hX hR hf
    · rw [if_neg hc] at hf
      refine sp_iload_n (i := 1) (q := 7) hX dX6_mostCouplesIn_6 rfl rfl rfl ?_
      refine sp_iload_n (i := 2) (q := 8) hX dX6_mostCouplesIn_7 rfl rfl rfl ?_
      refine sp_ishr (q := 9) hX dX6_mostCouplesIn_8 rfl ?_
      refine sp_iconst (v := 1) (q := 10) hX dX6_mostCouplesIn_9 li_1 rfl ?_
      refine sp_iand (q := 11) hX dX6_mostCouplesIn_10 rfl ?_
      refine sp_if_ne (tgt := 20) (q := 14) hX dX6_mostCouplesIn_11 (by decide) rfl (fun hc => ?_) (fun hc => ?_)
      · rw [if_neg hc] at hf
        exact hX6_mostCouplesIn_20 hX hR hf
      · rw [if_pos hc] at hf
        obtain ⟨x1, e2, hf⟩ := sp_pl_some hf
        refine sp_iinc (i := 2) (v := x1) (lv' := [some (.ref (sx_ad X 66)), some (.int z1), some (.int x1), none, none, none]) (q := 17) hX dX6_mostCouplesIn_14 rfl (by rw [e2, li_m1]) (Nat.le_of_ble_eq_true rfl) rfl rfl rfl ?_
        refine sp_goto (tgt := 2) hX dX6_mostCouplesIn_17 (by decide) ?_
        exact ih σ z1 x1 hf
set_option maxRecDepth 100000 in
set_option maxHeartbeats 4000000 in
theorem hX6_mostCouplesIn {X : sp_X} (hX : sp_OK shX X cX6_mostCouplesIn RX6 6 rmX6_mostCouplesIn) {τ : sp_St} {r : Int32} (hR : sp_Ri shX X (some .int) τ r 0 0) {n : Nat}  {σ : sp_St} {a1 : Int32}  (hf : X6_mostCouplesIn n σ a1 = some (τ, r)) : sp_GG shX X σ 6 [some (.ref (sx_ad X 66)), some (.int a1), none, none, none, none] [] 0 0 0 := by
  unfold X6_mostCouplesIn at hf
  refine sp_iconst (v := 5) (q := 1) hX dX6_mostCouplesIn_0 li_5 rfl ?_
  obtain ⟨x1, e2, hf⟩ := sp_pl_some hf
  refine sp_nmi e2 ?_
  refine sp_istore_n (i := 2) (lv' := [some (.ref (sx_ad X 66)), some (.int a1), some (.int x1), none, none, none]) (q := 2) hX dX6_mostCouplesIn_1 rfl (Nat.le_of_ble_eq_true rfl) rfl rfl rfl ?_
  exact hX6_mostCouplesIn_2 hX hR n σ a1 x1 hf
set_option maxRecDepth 100000 in
set_option maxHeartbeats 4000000 in
theorem cnX6_mostCouplesIn {l : Launch} (hst : l.stackTraces = false) {w : sp_Wd} {n : Nat}  {σ : sp_St} {a1 : Int32} {τ : sp_St} {r : Int32}  (hf : X6_mostCouplesIn n σ a1 = some (τ, r)) : sp_Ci shX l w yX6_mostCouplesIn cX6_mostCouplesIn 6 (some .int) rmX6_mostCouplesIn 0 0 σ [.ref (w.2.1 66), .int a1] τ r :=
  sp_ci (own := RX6) (by decide) rfl hst (Nat.le_of_ble_eq_true rfl) rfl (fun X hX hw hl hR => by subst hw; subst hl; exact hX6_mostCouplesIn hX hR   hf)
def rmX6_mostCouples : Room := { frames := 2, cells := 0, slots := 0, locals := 49 }
def X6_mostCouples_25 (n : Nat) (σ : sp_St) : Option (sp_St × Int32) :=
  some (σ, sp_g σ 67 ((63 : Int32)))
def X6_mostCouples_2 (n : Nat) : Nat → sp_St → Int32 → Option (sp_St × Int32)
  | 0, _, _ => none
  | f + 1, σ, z1 =>
    if ((64 : Int32)) ≤ z1 then
      X6_mostCouples_25 n σ
    else
      sp_bd (X6_mostCouplesIn n σ z1) fun σ2 v3 =>
      sp_ck (sp_in z1 64) <|
      sp_pl (sp_sa σ2 67 z1.toNatClampNeg v3) fun σ5 =>
      sp_pl (z1 + 1) fun x7 =>
      X6_mostCouples_2 n f σ5 x7
def X6_mostCouples (n : Nat)  (σ : sp_St)  : Option (sp_St × Int32) :=
  sp_pl ((1 : Int32)) fun x1 =>
  X6_mostCouples_2 n n σ x1
set_option maxRecDepth 100000 in
set_option maxHeartbeats 4000000 in
theorem hX6_mostCouples_25 {X : sp_X} (hX : sp_OK shX X cX6_mostCouples RX6 2 rmX6_mostCouples) {τ : sp_St} {r : Int32} (hR : sp_Ri shX X (some .int) τ r 0 0) {n : Nat}    {σ : sp_St} (hf : X6_mostCouples_25 n σ = some (τ, r)) : sp_GG shX X σ 2 [some (.ref (sx_ad X 66)), none] [] 25 0 0 := by
  unfold X6_mostCouples_25 at hf
  refine sp_aload_n (i := 0) (q := 26) hX dX6_mostCouples_25 rfl rfl rfl ?_
  refine sp_gets (t := 67) (q := 29) hX flX6_11 fkX6_1 atX_66 srX_66_1 dX6_mostCouples_26 rfl ?_
  refine sp_bipush (v := 63) (q := 31) hX dX6_mostCouples_29 lb_63 rfl ?_
  refine sp_iald (q := 32) hX arX_67 (by decide) dX6_mostCouples_31 rfl ?_
  exact sp_iret hX hR dX6_mostCouples_32 hf (Nat.le_of_ble_eq_true rfl) (Nat.le_of_ble_eq_true rfl)
set_option maxRecDepth 100000 in
set_option maxHeartbeats 4000000 in
theorem hX6_mostCouples_2 {X : sp_X} (hX : sp_OK shX X cX6_mostCouples RX6 2 rmX6_mostCouples) {τ : sp_St} {r : Int32} (hR : sp_Ri shX X (some .int) τ r 0 0) {n : Nat}    : ∀ (f : Nat) (σ : sp_St) (z1 : Int32), X6_mostCouples_2 n f σ z1 = some (τ, r) → sp_GG shX X σ 2 [some (.ref (sx_ad X 66)), some (.int z1)] [] 2 0 0 := by
  intro f
  induction f with
  | zero =>
    intro σ z1 hf
    rw [X6_mostCouples_2] at hf
    cases hf
  | succ f ih =>
    intro σ z1 hf
    rw [X6_mostCouples_2] at hf
    refine sp_iload_n (i := 1) (q := 3) hX dX6_mostCouples_2 rfl rfl rfl ?_
    refine sp_bipush (v := 64) (q := 5) hX dX6_mostCouples_3 lb_64 rfl ?_
    refine sp_icmp_ge (tgt := 25) (q := 8) hX dX6_mostCouples_5 (by decide) rfl (fun hc => ?_) (fun hc => ?_)
    · rw [if_pos hc] at hf
      refine sp_drop (lv' := [some (.ref (sx_ad X 66)), none]) (And.intro rfl trivial) ?_
      exact hX6_mostCouples_25 hX hR hf
    · rw [if_neg hc] at hf
      refine sp_aload_n (i := 0) (q := 9) hX dX6_mostCouples_8 rfl rfl rfl ?_
      refine sp_gets (t := 67) (q := 12) hX flX6_11 fkX6_1 atX_66 srX_66_1 dX6_mostCouples_9 rfl ?_
      refine sp_iload_n (i := 1) (q := 13) hX dX6_mostCouples_12 rfl rfl rfl ?_
      refine sp_aload_n (i := 0) (q := 14) hX dX6_mostCouples_13 rfl rfl rfl ?_
      refine sp_iload_n (i := 1) (q := 15) hX dX6_mostCouples_14 rfl rfl rfl ?_
      obtain ⟨σ2, v3, h1, hf⟩ := sp_bd_so hf
      refine sp_callVi (As := [.int z1]) (rest := [.int z1, .ref (sx_ad X 67)]) (q := 18) hX (cnX6_mostCouplesIn (sp_st hX)  h1) cwX6_32 atX_66 rfl rfl rfl rfl rfl (Nat.le_of_ble_eq_true rfl) (Nat.le_of_ble_eq_true rfl) (Nat.le_of_ble_eq_true rfl) (Nat.le_of_ble_eq_true rfl) (Nat.le_of_ble_eq_true rfl) dX6_mostCouples_15 rfl ?_
      obtain ⟨h4, hf⟩ := sp_ck_some hf
      obtain ⟨σ5, e6, hf⟩ := sp_pl_some hf
      refine sp_iast (q := 19) hX arX_67 h4 dX6_mostCouples_18 rfl ?_
      refine sp_nms e6 ?_
      obtain ⟨x7, e8, hf⟩ := sp_pl_some hf
      refine sp_iinc (i := 1) (v := x7) (lv' := [some (.ref (sx_ad X 66)), some (.int x7)]) (q := 22) hX dX6_mostCouples_19 rfl (by rw [e8, li_1]) (Nat.le_of_ble_eq_true rfl) rfl rfl rfl ?_
      refine sp_goto (tgt := 2) hX dX6_mostCouples_22 (by decide) ?_
      exact ih σ5 x7 hf
set_option maxRecDepth 100000 in
set_option maxHeartbeats 4000000 in
theorem hX6_mostCouples {X : sp_X} (hX : sp_OK shX X cX6_mostCouples RX6 2 rmX6_mostCouples) {τ : sp_St} {r : Int32} (hR : sp_Ri shX X (some .int) τ r 0 0) {n : Nat}  {σ : sp_St}   (hf : X6_mostCouples n σ = some (τ, r)) : sp_GG shX X σ 2 [some (.ref (sx_ad X 66)), none] [] 0 0 0 := by
  unfold X6_mostCouples at hf
  refine sp_iconst (v := 1) (q := 1) hX dX6_mostCouples_0 li_1 rfl ?_
  obtain ⟨x1, e2, hf⟩ := sp_pl_some hf
  refine sp_nmi e2 ?_
  refine sp_istore_n (i := 1) (lv' := [some (.ref (sx_ad X 66)), some (.int x1)]) (q := 2) hX dX6_mostCouples_1 rfl (Nat.le_of_ble_eq_true rfl) rfl rfl rfl ?_
  exact hX6_mostCouples_2 hX hR n σ x1 hf
set_option maxRecDepth 100000 in
set_option maxHeartbeats 4000000 in
theorem cnX6_mostCouples {l : Launch} (hst : l.stackTraces = false) {w : sp_Wd} {n : Nat}  {σ : sp_St}  {τ : sp_St} {r : Int32}  (hf : X6_mostCouples n σ = some (τ, r)) : sp_Ci shX l w yX6_mostCouples cX6_mostCouples 2 (some .int) rmX6_mostCouples 0 0 σ [.ref (w.2.1 66)] τ r :=
  sp_ci (own := RX6) (by decide) rfl hst (Nat.le_of_ble_eq_true rfl) rfl (fun X hX hw hl hR => by subst hw; subst hl; exact hX6_mostCouples hX hR   hf)
