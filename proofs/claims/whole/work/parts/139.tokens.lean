def rmX10_blanksEnd : Room := { frames := 0, cells := 0, slots := 0, locals := 0 }
def X10_blanksEnd_38 (n : Nat) (σ : sp_St) (z2 : Int32) : Option (sp_St × Int32) :=
  some (σ, z2)
def X10_blanksEnd_32 (n : Nat) (k2 : sp_St → Int32 → Option (sp_St × Int32)) (σ : sp_St) (z2 : Int32) : Option (sp_St × Int32) :=
  sp_pl (z2 + 1) fun x1 =>
  k2 σ x1
def X10_blanksEnd_2 (n : Nat) : Nat → sp_St → Int32 → Option (sp_St × Int32)
  | 0, _, _ => none
  | f + 1, σ, z2 =>
    if (σ.1 20 1) ≤ z2 then
      X10_blanksEnd_38 n σ z2
    else
      sp_ck (sp_in z2 700) <|
      if (sp_g σ 1 z2) = ((32 : Int32)) then
        X10_blanksEnd_32 n (X10_blanksEnd_2 n f) σ z2
      else
        sp_ck (sp_in z2 700) <|
        if (sp_g σ 1 z2) = ((10 : Int32)) then
          X10_blanksEnd_32 n (X10_blanksEnd_2 n f) σ z2
        else
          X10_blanksEnd_38 n σ z2
def X10_blanksEnd (n : Nat)  (σ : sp_St) (a1 : Int32) : Option (sp_St × Int32) :=
  X10_blanksEnd_2 n n σ a1
set_option maxRecDepth 100000 in
set_option maxHeartbeats 4000000 in
theorem hX10_blanksEnd_38 {X : sp_X} (hX : sp_OK shX X cX10_blanksEnd RX10 3 rmX10_blanksEnd) {τ : sp_St} {r : Int32} (hR : sp_Ri shX X (some .int) τ r 0 0) {n : Nat}    {σ : sp_St} {z2 : Int32} (hf : X10_blanksEnd_38 n σ z2 = some (τ, r)) : sp_GG shX X σ 3 [none, none, some (.int z2)] [] 38 0 0 := by
  unfold X10_blanksEnd_38 at hf
  refine sp_iload_n (i := 2) (q := 39) hX dX10_blanksEnd_38 rfl rfl rfl ?_
  exact sp_iret hX hR dX10_blanksEnd_39 hf (Nat.le_of_ble_eq_true rfl) (Nat.le_of_ble_eq_true rfl)
set_option maxRecDepth 100000 in
set_option maxHeartbeats 4000000 in
theorem hX10_blanksEnd_32 {X : sp_X} (hX : sp_OK shX X cX10_blanksEnd RX10 3 rmX10_blanksEnd) {τ : sp_St} {r : Int32} (hR : sp_Ri shX X (some .int) τ r 0 0) {n : Nat}   {k2 : sp_St → Int32 → Option (sp_St × Int32)} (hk2 : ∀ (σ : sp_St) (z2 : Int32), k2 σ z2 = some (τ, r) → sp_GG shX X σ 3 [some (.ref (sx_ad X 20)), none, some (.int z2)] [] 2 0 0) {σ : sp_St} {z2 : Int32} (hf : X10_blanksEnd_32 n k2 σ z2 = some (τ, r)) : sp_GG shX X σ 3 [some (.ref (sx_ad X 20)), none, some (.int z2)] [] 32 0 0 := by
  unfold X10_blanksEnd_32 at hf
  obtain ⟨x1, e2, hf⟩ := sp_pl_some hf
  refine sp_iinc (i := 2) (v := x1) (lv' := [some (.ref (sx_ad X 20)), none, some (.int x1)]) (q := 35) hX dX10_blanksEnd_32 rfl (by rw [e2, li_1]) (Nat.le_of_ble_eq_true rfl) rfl rfl rfl ?_
  refine sp_goto (tgt := 2) hX dX10_blanksEnd_35 (by decide) ?_
  exact hk2 σ x1 hf
set_option maxRecDepth 100000 in
set_option maxHeartbeats 4000000 in
theorem hX10_blanksEnd_2 {X : sp_X} (hX : sp_OK shX X cX10_blanksEnd RX10 3 rmX10_blanksEnd) {τ : sp_St} {r : Int32} (hR : sp_Ri shX X (some .int) τ r 0 0) {n : Nat}    : ∀ (f : Nat) (σ : sp_St) (z2 : Int32), X10_blanksEnd_2 n f σ z2 = some (τ, r) → sp_GG shX X σ 3 [some (.ref (sx_ad X 20)), none, some (.int z2)] [] 2 0 0 := by
  intro f
  induction f with
  | zero =>
    intro σ z2 hf
    rw [X10_blanksEnd_2] at hf
    cases hf
  | succ f ih =>
    intro σ z2 hf
    rw [X10_blanksEnd_2] at hf
    refine sp_iload_n (i := 2) (q := 3) hX dX10_blanksEnd_2 rfl rfl rfl ?_
    refine sp_aload_n (i := 0) (q := 4) hX dX10_blanksEnd_3 rfl rfl rfl ?_
    refine sp_geti (q := 7) hX flX10_19 fkX10_1 atX_20 dX10_blanksEnd_4 rfl ?_
    refine sp_icmp_ge (tgt := 38) (q := 10) hX dX10_blanksEnd_7 (by decide) rfl (fun hc => ?_) (fun hc => ?_)
    · rw [if_pos hc] at hf
      refine sp_drop (lv' := [none, none, some (.int z2)]) (And.intro rfl trivial) ?_
      exact hX10_blanksEnd_38 hX hR hf
    · rw [if_neg hc] at hf
      refine sp_aload_n (i := 0) (q := 11) hX dX10_blanksEnd_10 rfl rfl rfl ?_
      refine sp_gets (t := 1) (q := 14) hX flX10_7 fkX10_0 atX_20 srX_20_0 dX10_blanksEnd_11 rfl ?_
      refine sp_iload_n (i := 2) (q := 15) hX dX10_blanksEnd_14 rfl rfl rfl ?_
      obtain ⟨h1, hf⟩ := sp_ck_some hf
      refine sp_iald (q := 16) hX arX_1 h1 dX10_blanksEnd_15 rfl ?_
      refine sp_bipush (v := 32) (q := 18) hX dX10_blanksEnd_16 lb_32 rfl ?_
      refine sp_icmp_eq (tgt := 32) (q := 21) hX dX10_blanksEnd_18 (by decide) rfl (fun hc => ?_) (fun hc => ?_)
      · rw [if_pos hc] at hf
        exact hX10_blanksEnd_32 hX hR ih hf
      · rw [if_neg hc] at hf
        refine sp_aload_n (i := 0) (q := 22) hX dX10_blanksEnd_21 rfl rfl rfl ?_
        refine sp_gets (t := 1) (q := 25) hX flX10_7 fkX10_0 atX_20 srX_20_0 dX10_blanksEnd_22 rfl ?_
        refine sp_iload_n (i := 2) (q := 26) hX dX10_blanksEnd_25 rfl rfl rfl ?_
        obtain ⟨h2, hf⟩ := sp_ck_some hf
        refine sp_iald (q := 27) hX arX_1 h2 dX10_blanksEnd_26 rfl ?_
        refine sp_bipush (v := 10) (q := 29) hX dX10_blanksEnd_27 lb_10 rfl ?_
        refine sp_icmp_ne (tgt := 38) (q := 32) hX dX10_blanksEnd_29 (by decide) rfl (fun hc => ?_) (fun hc => ?_)
        · rw [if_neg hc] at hf
          refine sp_drop (lv' := [none, none, some (.int z2)]) (And.intro rfl trivial) ?_
          exact hX10_blanksEnd_38 hX hR hf
        · rw [if_pos hc] at hf
          exact hX10_blanksEnd_32 hX hR ih hf
set_option maxRecDepth 100000 in
set_option maxHeartbeats 4000000 in
theorem hX10_blanksEnd {X : sp_X} (hX : sp_OK shX X cX10_blanksEnd RX10 3 rmX10_blanksEnd) {τ : sp_St} {r : Int32} (hR : sp_Ri shX X (some .int) τ r 0 0) {n : Nat}  {σ : sp_St} {a1 : Int32}  (hf : X10_blanksEnd n σ a1 = some (τ, r)) : sp_GG shX X σ 3 [some (.ref (sx_ad X 20)), some (.int a1), none] [] 0 0 0 := by
  unfold X10_blanksEnd at hf
  refine sp_iload_n (i := 1) (q := 1) hX dX10_blanksEnd_0 rfl rfl rfl ?_
  refine sp_istore_n (i := 2) (lv' := [some (.ref (sx_ad X 20)), some (.int a1), some (.int a1)]) (q := 2) hX dX10_blanksEnd_1 rfl (Nat.le_of_ble_eq_true rfl) rfl rfl rfl ?_
  refine sp_drop (lv' := [some (.ref (sx_ad X 20)), none, some (.int a1)]) (And.intro rfl (And.intro rfl trivial)) ?_
  exact hX10_blanksEnd_2 hX hR n σ a1 hf
set_option maxRecDepth 100000 in
set_option maxHeartbeats 4000000 in
theorem cnX10_blanksEnd {l : Launch} (hst : l.stackTraces = false) {w : sp_Wd} {n : Nat}  {σ : sp_St} {a1 : Int32} {τ : sp_St} {r : Int32}  (hf : X10_blanksEnd n σ a1 = some (τ, r)) : sp_Ci shX l w yX10_blanksEnd cX10_blanksEnd 3 (some .int) rmX10_blanksEnd 0 0 σ [.ref (w.2.1 20), .int a1] τ r :=
  sp_ci (own := RX10) (by decide) rfl hst (Nat.le_of_ble_eq_true rfl) rfl (fun X hX hw hl hR => by subst hw; subst hl; exact hX10_blanksEnd hX hR   hf)
def rmX10_valueOf : Room := { frames := 0, cells := 0, slots := 0, locals := 0 }
def X10_valueOf_44 (n : Nat) (σ : sp_St) (z3 : Int32) : Option (sp_St × Int32) :=
  some (σ, z3)
def X10_valueOf_16 (n : Nat) : Nat → sp_St → Int32 → Int32 → Int32 → Option (sp_St × Int32)
  | 0, _, _, _, _ => none
  | f + 1, σ, z2, z3, z4 =>
    if z2 ≤ z4 then
      X10_valueOf_44 n σ z3
    else
      sp_ck (sp_in z4 700) <|
      sp_pl (((z3 * ((10 : Int32))) + (sp_g σ 1 z4)) - ((48 : Int32))) fun x2 =>
      sp_pl (z4 + 1) fun x4 =>
      X10_valueOf_16 n f σ z2 x2 x4
def X10_valueOf (n : Nat)  (σ : sp_St) (a1 : Int32) (a2 : Int32) : Option (sp_St × Int32) :=
  if (a2 - a1) ≤ ((4 : Int32)) then
    sp_pl ((0 : Int32)) fun x1 =>
    X10_valueOf_16 n n σ a2 x1 a1
  else
    some (σ, (10000 : Int32))
set_option maxRecDepth 100000 in
set_option maxHeartbeats 4000000 in
theorem hX10_valueOf_44 {X : sp_X} (hX : sp_OK shX X cX10_valueOf RX10 5 rmX10_valueOf) {τ : sp_St} {r : Int32} (hR : sp_Ri shX X (some .int) τ r 0 0) {n : Nat}    {σ : sp_St} {z3 : Int32} (hf : X10_valueOf_44 n σ z3 = some (τ, r)) : sp_GG shX X σ 5 [none, none, none, some (.int z3), none] [] 44 0 0 := by
  unfold X10_valueOf_44 at hf
  refine sp_iload_n (i := 3) (q := 45) hX dX10_valueOf_44 rfl rfl rfl ?_
  exact sp_iret hX hR dX10_valueOf_45 hf (Nat.le_of_ble_eq_true rfl) (Nat.le_of_ble_eq_true rfl)
set_option maxRecDepth 100000 in
set_option maxHeartbeats 4000000 in
theorem hX10_valueOf_16 {X : sp_X} (hX : sp_OK shX X cX10_valueOf RX10 5 rmX10_valueOf) {τ : sp_St} {r : Int32} (hR : sp_Ri shX X (some .int) τ r 0 0) {n : Nat}    : ∀ (f : Nat) (σ : sp_St) (z2 : Int32) (z3 : Int32) (z4 : Int32), X10_valueOf_16 n f σ z2 z3 z4 = some (τ, r) → sp_GG shX X σ 5 [some (.ref (sx_ad X 20)), none, some (.int z2), some (.int z3), some (.int z4)] [] 16 0 0 := by
  intro f
  induction f with
  | zero =>
    intro σ z2 z3 z4 hf
    rw [X10_valueOf_16] at hf
    cases hf
  | succ f ih =>
    intro σ z2 z3 z4 hf
    rw [X10_valueOf_16] at hf
    refine sp_iload (i := 4) (q := 18) hX dX10_valueOf_16 rfl rfl ?_
    refine sp_iload_n (i := 2) (q := 19) hX dX10_valueOf_18 rfl rfl rfl ?_
    refine sp_icmp_ge (tgt := 44) (q := 22) hX dX10_valueOf_19 (by decide) rfl (fun hc => ?_) (fun hc => ?_)
    · rw [if_pos hc] at hf
      refine sp_drop (lv' := [none, none, none, some (.int z3), none]) (And.intro rfl trivial) ?_
      exact hX10_valueOf_44 hX hR hf
    · rw [if_neg hc] at hf
      refine sp_iload_n (i := 3) (q := 23) hX dX10_valueOf_22 rfl rfl rfl ?_
      refine sp_bipush (v := 10) (q := 25) hX dX10_valueOf_23 lb_10 rfl ?_
      refine sp_imul (q := 26) hX dX10_valueOf_25 rfl ?_
      refine sp_aload_n (i := 0) (q := 27) hX dX10_valueOf_26 rfl rfl rfl ?_
      refine sp_gets (t := 1) (q := 30) hX flX10_7 fkX10_0 atX_20 srX_20_0 dX10_valueOf_27 rfl ?_
      refine sp_iload (i := 4) (q := 32) hX dX10_valueOf_30 rfl rfl ?_
      obtain ⟨h1, hf⟩ := sp_ck_some hf
      refine sp_iald (q := 33) hX arX_1 h1 dX10_valueOf_32 rfl ?_
      refine sp_iadd (q := 34) hX dX10_valueOf_33 rfl ?_
      refine sp_bipush (v := 48) (q := 36) hX dX10_valueOf_34 lb_48 rfl ?_
      refine sp_isub (q := 37) hX dX10_valueOf_36 rfl ?_
      obtain ⟨x2, e3, hf⟩ := sp_pl_some hf
      refine sp_nmi e3 ?_
      refine sp_istore_n (i := 3) (lv' := [some (.ref (sx_ad X 20)), none, some (.int z2), some (.int x2), some (.int z4)]) (q := 38) hX dX10_valueOf_37 rfl (Nat.le_of_ble_eq_true rfl) rfl rfl rfl ?_
      obtain ⟨x4, e5, hf⟩ := sp_pl_some hf
      refine sp_iinc (i := 4) (v := x4) (lv' := [some (.ref (sx_ad X 20)), none, some (.int z2), some (.int x2), some (.int x4)]) (q := 41) hX dX10_valueOf_38 rfl (by rw [e5, li_1]) (Nat.le_of_ble_eq_true rfl) rfl rfl rfl ?_
      refine sp_goto (tgt := 16) hX dX10_valueOf_41 (by decide) ?_
      exact ih σ z2 x2 x4 hf
set_option maxRecDepth 100000 in
set_option maxHeartbeats 4000000 in
theorem hX10_valueOf {X : sp_X} (hX : sp_OK shX X cX10_valueOf RX10 5 rmX10_valueOf) {τ : sp_St} {r : Int32} (hR : sp_Ri shX X (some .int) τ r 0 0) {n : Nat}  {σ : sp_St} {a1 : Int32} {a2 : Int32}  (hf : X10_valueOf n σ a1 a2 = some (τ, r)) : sp_GG shX X σ 5 [some (.ref (sx_ad X 20)), some (.int a1), some (.int a2), none, none] [] 0 0 0 := by
  unfold X10_valueOf at hf
  refine sp_iload_n (i := 2) (q := 1) hX dX10_valueOf_0 rfl rfl rfl ?_
  refine sp_iload_n (i := 1) (q := 2) hX dX10_valueOf_1 rfl rfl rfl ?_
  refine sp_isub (q := 3) hX dX10_valueOf_2 rfl ?_
  refine sp_iconst (v := 4) (q := 4) hX dX10_valueOf_3 li_4 rfl ?_
  refine sp_icmp_le (tgt := 11) (q := 7) hX dX10_valueOf_4 (by decide) rfl (fun hc => ?_) (fun hc => ?_)
  · rw [if_pos hc] at hf
    refine sp_iconst (v := 0) (q := 12) hX dX10_valueOf_11 li_0 rfl ?_
    obtain ⟨x1, e2, hf⟩ := sp_pl_some hf
    refine sp_nmi e2 ?_
    refine sp_istore_n (i := 3) (lv' := [some (.ref (sx_ad X 20)), some (.int a1), some (.int a2), some (.int x1), none]) (q := 13) hX dX10_valueOf_12 rfl (Nat.le_of_ble_eq_true rfl) rfl rfl rfl ?_
    refine sp_iload_n (i := 1) (q := 14) hX dX10_valueOf_13 rfl rfl rfl ?_
    refine sp_istore (i := 4) (lv' := [some (.ref (sx_ad X 20)), some (.int a1), some (.int a2), some (.int x1), some (.int a1)]) (q := 16) hX dX10_valueOf_14 (Nat.le_of_ble_eq_true rfl) rfl rfl rfl ?_
    refine sp_drop (lv' := [some (.ref (sx_ad X 20)), none, some (.int a2), some (.int x1), some (.int a1)]) (And.intro rfl (And.intro rfl (And.intro rfl (And.intro rfl trivial)))) ?_
    exact hX10_valueOf_16 hX hR n σ a2 x1 a1 hf
  · rw [if_neg hc] at hf
    refine sp_sipush (v := 10000) (q := 10) hX dX10_valueOf_7 ls_10000 rfl ?_
    exact sp_iret hX hR dX10_valueOf_10 hf (Nat.le_of_ble_eq_true rfl) (Nat.le_of_ble_eq_true rfl)
set_option maxRecDepth 100000 in
set_option maxHeartbeats 4000000 in
theorem cnX10_valueOf {l : Launch} (hst : l.stackTraces = false) {w : sp_Wd} {n : Nat}  {σ : sp_St} {a1 : Int32} {a2 : Int32} {τ : sp_St} {r : Int32}  (hf : X10_valueOf n σ a1 a2 = some (τ, r)) : sp_Ci shX l w yX10_valueOf cX10_valueOf 5 (some .int) rmX10_valueOf 0 0 σ [.ref (w.2.1 20), .int a1, .int a2] τ r :=
  sp_ci (own := RX10) (by decide) rfl hst (Nat.le_of_ble_eq_true rfl) rfl (fun X hX hw hl hR => by subst hw; subst hl; exact hX10_valueOf hX hR   hf)
def rmX10_isLetter : Room := { frames := 0, cells := 0, slots := 0, locals := 0 }
def X10_isLetter_17 (n : Nat) (σ : sp_St) (zs0 : Int32) : Option (sp_St × Int32) :=
  sp_ck (sp_zb zs0) <|
  some (σ, zs0)
def X10_isLetter_16 (n : Nat) (σ : sp_St) : Option (sp_St × Int32) :=
  X10_isLetter_17 n σ ((0 : Int32))
def X10_isLetter (n : Nat)  (σ : sp_St) (a0 : Int32) : Option (sp_St × Int32) :=
  if a0 < ((97 : Int32)) then
    X10_isLetter_16 n σ
  else
    if ((122 : Int32)) < a0 then
      X10_isLetter_16 n σ
    else
      X10_isLetter_17 n σ ((1 : Int32))
set_option maxRecDepth 100000 in
set_option maxHeartbeats 4000000 in
theorem hX10_isLetter_17 {X : sp_X} (hX : sp_OK shX X cX10_isLetter RX10 1 rmX10_isLetter) {τ : sp_St} {r : Int32} (hR : sp_Ri shX X (some .boolean) τ r 0 0) {n : Nat}    {σ : sp_St} {zs0 : Int32} (hf : X10_isLetter_17 n σ zs0 = some (τ, r)) : sp_GG shX X σ 1 [none] [.int zs0] 17 0 0 := by
  unfold X10_isLetter_17 at hf
  obtain ⟨h1, hf⟩ := sp_ck_some hf
  exact sp_zret hX hR h1 dX10_isLetter_17 hf (Nat.le_of_ble_eq_true rfl) (Nat.le_of_ble_eq_true rfl)
set_option maxRecDepth 100000 in
set_option maxHeartbeats 4000000 in
theorem hX10_isLetter_16 {X : sp_X} (hX : sp_OK shX X cX10_isLetter RX10 1 rmX10_isLetter) {τ : sp_St} {r : Int32} (hR : sp_Ri shX X (some .boolean) τ r 0 0) {n : Nat}    {σ : sp_St} (hf : X10_isLetter_16 n σ = some (τ, r)) : sp_GG shX X σ 1 [none] [] 16 0 0 := by
  unfold X10_isLetter_16 at hf
  refine sp_iconst (v := 0) (q := 17) hX dX10_isLetter_16 li_0 rfl ?_
  exact hX10_isLetter_17 hX hR hf
set_option maxRecDepth 100000 in
set_option maxHeartbeats 4000000 in
theorem hX10_isLetter {X : sp_X} (hX : sp_OK shX X cX10_isLetter RX10 1 rmX10_isLetter) {τ : sp_St} {r : Int32} (hR : sp_Ri shX X (some .boolean) τ r 0 0) {n : Nat}  {σ : sp_St} {a0 : Int32}  (hf : X10_isLetter n σ a0 = some (τ, r)) : sp_GG shX X σ 1 [some (.int a0)] [] 0 0 0 := by
  unfold X10_isLetter at hf
  refine sp_iload_n (i := 0) (q := 1) hX dX10_isLetter_0 rfl rfl rfl ?_
  refine sp_bipush (v := 97) (q := 3) hX dX10_isLetter_1 lb_97 rfl ?_
  refine sp_icmp_lt (tgt := 16) (q := 6) hX dX10_isLetter_3 (by decide) rfl (fun hc => ?_) (fun hc => ?_)
  · rw [if_pos hc] at hf
    refine sp_drop (lv' := [none]) trivial ?_
    exact hX10_isLetter_16 hX hR hf
  · rw [if_neg hc] at hf
    refine sp_iload_n (i := 0) (q := 7) hX dX10_isLetter_6 rfl rfl rfl ?_
    refine sp_bipush (v := 122) (q := 9) hX dX10_isLetter_7 lb_122 rfl ?_
    refine sp_icmp_gt (tgt := 16) (q := 12) hX dX10_isLetter_9 (by decide) rfl (fun hc => ?_) (fun hc => ?_)
    · rw [if_pos hc] at hf
      refine sp_drop (lv' := [none]) trivial ?_
      exact hX10_isLetter_16 hX hR hf
    · rw [if_neg hc] at hf
      refine sp_iconst (v := 1) (q := 13) hX dX10_isLetter_12 li_1 rfl ?_
      refine sp_goto (tgt := 17) hX dX10_isLetter_13 (by decide) ?_
      refine sp_drop (lv' := [none]) trivial ?_
      exact hX10_isLetter_17 hX hR hf
set_option maxRecDepth 100000 in
set_option maxHeartbeats 4000000 in
theorem cnX10_isLetter {l : Launch} (hst : l.stackTraces = false) {w : sp_Wd} {n : Nat}  {σ : sp_St} {a0 : Int32} {τ : sp_St} {r : Int32}  (hf : X10_isLetter n σ a0 = some (τ, r)) : sp_Ci shX l w yX10_isLetter cX10_isLetter 1 (some .boolean) rmX10_isLetter 0 0 σ [.int a0] τ r :=
  sp_ci (own := RX10) (by decide) rfl hst (Nat.le_of_ble_eq_true rfl) rfl (fun X hX hw hl hR => by subst hw; subst hl; exact hX10_isLetter hX hR   hf)
def rmX10_isDigit : Room := { frames := 0, cells := 0, slots := 0, locals := 0 }
def X10_isDigit_17 (n : Nat) (σ : sp_St) (zs0 : Int32) : Option (sp_St × Int32) :=
  sp_ck (sp_zb zs0) <|
  some (σ, zs0)
def X10_isDigit_16 (n : Nat) (σ : sp_St) : Option (sp_St × Int32) :=
  X10_isDigit_17 n σ ((0 : Int32))
def X10_isDigit (n : Nat)  (σ : sp_St) (a0 : Int32) : Option (sp_St × Int32) :=
  if a0 < ((48 : Int32)) then
    X10_isDigit_16 n σ
  else
    if ((57 : Int32)) < a0 then
      X10_isDigit_16 n σ
    else
      X10_isDigit_17 n σ ((1 : Int32))
set_option maxRecDepth 100000 in
set_option maxHeartbeats 4000000 in
theorem hX10_isDigit_17 {X : sp_X} (hX : sp_OK shX X cX10_isDigit RX10 1 rmX10_isDigit) {τ : sp_St} {r : Int32} (hR : sp_Ri shX X (some .boolean) τ r 0 0) {n : Nat}    {σ : sp_St} {zs0 : Int32} (hf : X10_isDigit_17 n σ zs0 = some (τ, r)) : sp_GG shX X σ 1 [none] [.int zs0] 17 0 0 := by
  unfold X10_isDigit_17 at hf
  obtain ⟨h1, hf⟩ := sp_ck_some hf
  exact sp_zret hX hR h1 dX10_isDigit_17 hf (Nat.le_of_ble_eq_true rfl) (Nat.le_of_ble_eq_true rfl)
set_option maxRecDepth 100000 in
set_option maxHeartbeats 4000000 in
theorem hX10_isDigit_16 {X : sp_X} (hX : sp_OK shX X cX10_isDigit RX10 1 rmX10_isDigit) {τ : sp_St} {r : Int32} (hR : sp_Ri shX X (some .boolean) τ r 0 0) {n : Nat}    {σ : sp_St} (hf : X10_isDigit_16 n σ = some (τ, r)) : sp_GG shX X σ 1 [none] [] 16 0 0 := by
  unfold X10_isDigit_16 at hf
  refine sp_iconst (v := 0) (q := 17) hX dX10_isDigit_16 li_0 rfl ?_
  exact hX10_isDigit_17 hX hR hf
set_option maxRecDepth 100000 in
set_option maxHeartbeats 4000000 in
theorem hX10_isDigit {X : sp_X} (hX : sp_OK shX X cX10_isDigit RX10 1 rmX10_isDigit) {τ : sp_St} {r : Int32} (hR : sp_Ri shX X (some .boolean) τ r 0 0) {n : Nat}  {σ : sp_St} {a0 : Int32}  (hf : X10_isDigit n σ a0 = some (τ, r)) : sp_GG shX X σ 1 [some (.int a0)] [] 0 0 0 := by
  unfold X10_isDigit at hf
  refine sp_iload_n (i := 0) (q := 1) hX dX10_isDigit_0 rfl rfl rfl ?_
  refine sp_bipush (v := 48) (q := 3) hX dX10_isDigit_1 lb_48 rfl ?_
  refine sp_icmp_lt (tgt := 16) (q := 6) hX dX10_isDigit_3 (by decide) rfl (fun hc => ?_) (fun hc => ?_)
  · rw [if_pos hc] at hf
    refine sp_drop (lv' := [none]) trivial ?_
    exact hX10_isDigit_16 hX hR hf
  · rw [if_neg hc] at hf
    refine sp_iload_n (i := 0) (q := 7) hX dX10_isDigit_6 rfl rfl rfl ?_
    refine sp_bipush (v := 57) (q := 9) hX dX10_isDigit_7 lb_57 rfl ?_
    refine sp_icmp_gt (tgt := 16) (q := 12) hX dX10_isDigit_9 (by decide) rfl (fun hc => ?_) (fun hc => ?_)
    · rw [if_pos hc] at hf
      refine sp_drop (lv' := [none]) trivial ?_
      exact hX10_isDigit_16 hX hR hf
    · rw [if_neg hc] at hf
      refine sp_iconst (v := 1) (q := 13) hX dX10_isDigit_12 li_1 rfl ?_
      refine sp_goto (tgt := 17) hX dX10_isDigit_13 (by decide) ?_
      refine sp_drop (lv' := [none]) trivial ?_
      exact hX10_isDigit_17 hX hR hf
set_option maxRecDepth 100000 in
set_option maxHeartbeats 4000000 in
theorem cnX10_isDigit {l : Launch} (hst : l.stackTraces = false) {w : sp_Wd} {n : Nat}  {σ : sp_St} {a0 : Int32} {τ : sp_St} {r : Int32}  (hf : X10_isDigit n σ a0 = some (τ, r)) : sp_Ci shX l w yX10_isDigit cX10_isDigit 1 (some .boolean) rmX10_isDigit 0 0 σ [.int a0] τ r :=
  sp_ci (own := RX10) (by decide) rfl hst (Nat.le_of_ble_eq_true rfl) rfl (fun X hX hw hl hR => by subst hw; subst hl; exact hX10_isDigit hX hR   hf)
def rmX10_lettersEnd : Room := { frames := 1, cells := 0, slots := 0, locals := 20 }
def X10_lettersEnd_28 (n : Nat) (σ : sp_St) (z2 : Int32) : Option (sp_St × Int32) :=
  some (σ, z2)
def X10_lettersEnd_2 (n : Nat) : Nat → sp_St → Int32 → Option (sp_St × Int32)
  | 0, _, _ => none
  | f + 1, σ, z2 =>
    if (σ.1 20 1) ≤ z2 then
      X10_lettersEnd_28 n σ z2
    else
      sp_ck (sp_in z2 700) <|
      sp_bd (X10_isLetter n σ (sp_g σ 1 z2)) fun σ3 v4 =>
      if v4 = 0 then
        X10_lettersEnd_28 n σ3 z2
      else
        sp_pl (z2 + 1) fun x5 =>
        X10_lettersEnd_2 n f σ3 x5
def X10_lettersEnd (n : Nat)  (σ : sp_St) (a1 : Int32) : Option (sp_St × Int32) :=
  X10_lettersEnd_2 n n σ a1
set_option maxRecDepth 100000 in
set_option maxHeartbeats 4000000 in
theorem hX10_lettersEnd_28 {X : sp_X} (hX : sp_OK shX X cX10_lettersEnd RX10 3 rmX10_lettersEnd) {τ : sp_St} {r : Int32} (hR : sp_Ri shX X (some .int) τ r 0 0) {n : Nat}    {σ : sp_St} {z2 : Int32} (hf : X10_lettersEnd_28 n σ z2 = some (τ, r)) : sp_GG shX X σ 3 [none, none, some (.int z2)] [] 28 0 0 := by
  unfold X10_lettersEnd_28 at hf
  refine sp_iload_n (i := 2) (q := 29) hX dX10_lettersEnd_28 rfl rfl rfl ?_
  exact sp_iret hX hR dX10_lettersEnd_29 hf (Nat.le_of_ble_eq_true rfl) (Nat.le_of_ble_eq_true rfl)
set_option maxRecDepth 100000 in
set_option maxHeartbeats 4000000 in
theorem hX10_lettersEnd_2 {X : sp_X} (hX : sp_OK shX X cX10_lettersEnd RX10 3 rmX10_lettersEnd) {τ : sp_St} {r : Int32} (hR : sp_Ri shX X (some .int) τ r 0 0) {n : Nat}    : ∀ (f : Nat) (σ : sp_St) (z2 : Int32), X10_lettersEnd_2 n f σ z2 = some (τ, r) → sp_GG shX X σ 3 [some (.ref (sx_ad X 20)), none, some (.int z2)] [] 2 0 0 := by
  intro f
  induction f with
  | zero =>
    intro σ z2 hf
    rw [X10_lettersEnd_2] at hf
    cases hf
  | succ f ih =>
    intro σ z2 hf
    rw [X10_lettersEnd_2] at hf
    refine sp_iload_n (i := 2) (q := 3) hX dX10_lettersEnd_2 rfl rfl rfl ?_
    refine sp_aload_n (i := 0) (q := 4) hX dX10_lettersEnd_3 rfl rfl rfl ?_
    refine sp_geti (q := 7) hX flX10_19 fkX10_1 atX_20 dX10_lettersEnd_4 rfl ?_
    refine sp_icmp_ge (tgt := 28) (q := 10) hX dX10_lettersEnd_7 (by decide) rfl (fun hc => ?_) (fun hc => ?_)
    · rw [if_pos hc] at hf
      refine sp_drop (lv' := [none, none, some (.int z2)]) (And.intro rfl trivial) ?_
      exact hX10_lettersEnd_28 hX hR hf
    · rw [if_neg hc] at hf
      refine sp_aload_n (i := 0) (q := 11) hX dX10_lettersEnd_10 rfl rfl rfl ?_
      refine sp_gets (t := 1) (q := 14) hX flX10_7 fkX10_0 atX_20 srX_20_0 dX10_lettersEnd_11 rfl ?_
      refine sp_iload_n (i := 2) (q := 15) hX dX10_lettersEnd_14 rfl rfl rfl ?_
      obtain ⟨h1, hf⟩ := sp_ck_some hf
      refine sp_iald (q := 16) hX arX_1 h1 dX10_lettersEnd_15 rfl ?_
      obtain ⟨σ3, v4, h2, hf⟩ := sp_bd_so hf
      refine sp_callSi (As := [.int (sp_g σ 1 z2)]) (rest := []) (q := 19) hX (cnX10_isLetter (sp_st hX)  h2) cwX10_39 rfl rfl rfl rfl (Nat.le_of_ble_eq_true rfl) (Nat.le_of_ble_eq_true rfl) (Nat.le_of_ble_eq_true rfl) (Nat.le_of_ble_eq_true rfl) (Nat.le_of_ble_eq_true rfl) dX10_lettersEnd_16 rfl ?_
      refine sp_if_eq (tgt := 28) (q := 22) hX dX10_lettersEnd_19 (by decide) rfl (fun hc => ?_) (fun hc => ?_)
      · rw [if_pos hc] at hf
        refine sp_drop (lv' := [none, none, some (.int z2)]) (And.intro rfl trivial) ?_
        exact hX10_lettersEnd_28 hX hR hf
      · rw [if_neg hc] at hf
        obtain ⟨x5, e6, hf⟩ := sp_pl_some hf
        refine sp_iinc (i := 2) (v := x5) (lv' := [some (.ref (sx_ad X 20)), none, some (.int x5)]) (q := 25) hX dX10_lettersEnd_22 rfl (by rw [e6, li_1]) (Nat.le_of_ble_eq_true rfl) rfl rfl rfl ?_
        refine sp_goto (tgt := 2) hX dX10_lettersEnd_25 (by decide) ?_
        exact ih σ3 x5 hf
set_option maxRecDepth 100000 in
set_option maxHeartbeats 4000000 in
theorem hX10_lettersEnd {X : sp_X} (hX : sp_OK shX X cX10_lettersEnd RX10 3 rmX10_lettersEnd) {τ : sp_St} {r : Int32} (hR : sp_Ri shX X (some .int) τ r 0 0) {n : Nat}  {σ : sp_St} {a1 : Int32}  (hf : X10_lettersEnd n σ a1 = some (τ, r)) : sp_GG shX X σ 3 [some (.ref (sx_ad X 20)), some (.int a1), none] [] 0 0 0 := by
  unfold X10_lettersEnd at hf
  refine sp_iload_n (i := 1) (q := 1) hX dX10_lettersEnd_0 rfl rfl rfl ?_
  refine sp_istore_n (i := 2) (lv' := [some (.ref (sx_ad X 20)), some (.int a1), some (.int a1)]) (q := 2) hX dX10_lettersEnd_1 rfl (Nat.le_of_ble_eq_true rfl) rfl rfl rfl ?_
  refine sp_drop (lv' := [some (.ref (sx_ad X 20)), none, some (.int a1)]) (And.intro rfl (And.intro rfl trivial)) ?_
  exact hX10_lettersEnd_2 hX hR n σ a1 hf
set_option maxRecDepth 100000 in
set_option maxHeartbeats 4000000 in
theorem cnX10_lettersEnd {l : Launch} (hst : l.stackTraces = false) {w : sp_Wd} {n : Nat}  {σ : sp_St} {a1 : Int32} {τ : sp_St} {r : Int32}  (hf : X10_lettersEnd n σ a1 = some (τ, r)) : sp_Ci shX l w yX10_lettersEnd cX10_lettersEnd 3 (some .int) rmX10_lettersEnd 0 0 σ [.ref (w.2.1 20), .int a1] τ r :=
  sp_ci (own := RX10) (by decide) rfl hst (Nat.le_of_ble_eq_true rfl) rfl (fun X hX hw hl hR => by subst hw; subst hl; exact hX10_lettersEnd hX hR   hf)
def rmX10_digitsEnd : Room := { frames := 1, cells := 0, slots := 0, locals := 20 }
def X10_digitsEnd_28 (n : Nat) (σ : sp_St) (z2 : Int32) : Option (sp_St × Int32) :=
  some (σ, z2)
def X10_digitsEnd_2 (n : Nat) : Nat → sp_St → Int32 → Option (sp_St × Int32)
  | 0, _, _ => none
  | f + 1, σ, z2 =>
    if (σ.1 20 1) ≤ z2 then
      X10_digitsEnd_28 n σ z2
    else
      sp_ck (sp_in z2 700) <|
      sp_bd (X10_isDigit n σ (sp_g σ 1 z2)) fun σ3 v4 =>
      if v4 = 0 then
        X10_digitsEnd_28 n σ3 z2
      else
        sp_pl (z2 + 1) fun x5 =>
        X10_digitsEnd_2 n f σ3 x5
def X10_digitsEnd (n : Nat)  (σ : sp_St) (a1 : Int32) : Option (sp_St × Int32) :=
  X10_digitsEnd_2 n n σ a1
set_option maxRecDepth 100000 in
set_option maxHeartbeats 4000000 in
theorem hX10_digitsEnd_28 {X : sp_X} (hX : sp_OK shX X cX10_digitsEnd RX10 3 rmX10_digitsEnd) {τ : sp_St} {r : Int32} (hR : sp_Ri shX X (some .int) τ r 0 0) {n : Nat}    {σ : sp_St} {z2 : Int32} (hf : X10_digitsEnd_28 n σ z2 = some (τ, r)) : sp_GG shX X σ 3 [none, none, some (.int z2)] [] 28 0 0 := by
  unfold X10_digitsEnd_28 at hf
  refine sp_iload_n (i := 2) (q := 29) hX dX10_digitsEnd_28 rfl rfl rfl ?_
  exact sp_iret hX hR dX10_digitsEnd_29 hf (Nat.le_of_ble_eq_true rfl) (Nat.le_of_ble_eq_true rfl)
set_option maxRecDepth 100000 in
set_option maxHeartbeats 4000000 in
theorem hX10_digitsEnd_2 {X : sp_X} (hX : sp_OK shX X cX10_digitsEnd RX10 3 rmX10_digitsEnd) {τ : sp_St} {r : Int32} (hR : sp_Ri shX X (some .int) τ r 0 0) {n : Nat}    : ∀ (f : Nat) (σ : sp_St) (z2 : Int32), X10_digitsEnd_2 n f σ z2 = some (τ, r) → sp_GG shX X σ 3 [some (.ref (sx_ad X 20)), none, some (.int z2)] [] 2 0 0 := by
  intro f
  induction f with
  | zero =>
    intro σ z2 hf
    rw [X10_digitsEnd_2] at hf
    cases hf
  | succ f ih =>
    intro σ z2 hf
    rw [X10_digitsEnd_2] at hf
    refine sp_iload_n (i := 2) (q := 3) hX dX10_digitsEnd_2 rfl rfl rfl ?_
    refine sp_aload_n (i := 0) (q := 4) hX dX10_digitsEnd_3 rfl rfl rfl ?_
    refine sp_geti (q := 7) hX flX10_19 fkX10_1 atX_20 dX10_digitsEnd_4 rfl ?_
    refine sp_icmp_ge (tgt := 28) (q := 10) hX dX10_digitsEnd_7 (by decide) rfl (fun hc => ?_) (fun hc => ?_)
    · rw [if_pos hc] at hf
      refine sp_drop (lv' := [none, none, some (.int z2)]) (And.intro rfl trivial) ?_
      exact hX10_digitsEnd_28 hX hR hf
    · rw [if_neg hc] at hf
      refine sp_aload_n (i := 0) (q := 11) hX dX10_digitsEnd_10 rfl rfl rfl ?_
      refine sp_gets (t := 1) (q := 14) hX flX10_7 fkX10_0 atX_20 srX_20_0 dX10_digitsEnd_11 rfl ?_
      refine sp_iload_n (i := 2) (q := 15) hX dX10_digitsEnd_14 rfl rfl rfl ?_
      obtain ⟨h1, hf⟩ := sp_ck_some hf
      refine sp_iald (q := 16) hX arX_1 h1 dX10_digitsEnd_15 rfl ?_
      obtain ⟨σ3, v4, h2, hf⟩ := sp_bd_so hf
      refine sp_callSi (As := [.int (sp_g σ 1 z2)]) (rest := []) (q := 19) hX (cnX10_isDigit (sp_st hX)  h2) cwX10_46 rfl rfl rfl rfl (Nat.le_of_ble_eq_true rfl) (Nat.le_of_ble_eq_true rfl) (Nat.le_of_ble_eq_true rfl) (Nat.le_of_ble_eq_true rfl) (Nat.le_of_ble_eq_true rfl) dX10_digitsEnd_16 rfl ?_
      refine sp_if_eq (tgt := 28) (q := 22) hX dX10_digitsEnd_19 (by decide) rfl (fun hc => ?_) (fun hc => ?_)
      · rw [if_pos hc] at hf
        refine sp_drop (lv' := [none, none, some (.int z2)]) (And.intro rfl trivial) ?_
        exact hX10_digitsEnd_28 hX hR hf
      · rw [if_neg hc] at hf
        obtain ⟨x5, e6, hf⟩ := sp_pl_some hf
        refine sp_iinc (i := 2) (v := x5) (lv' := [some (.ref (sx_ad X 20)), none, some (.int x5)]) (q := 25) hX dX10_digitsEnd_22 rfl (by rw [e6, li_1]) (Nat.le_of_ble_eq_true rfl) rfl rfl rfl ?_
        refine sp_goto (tgt := 2) hX dX10_digitsEnd_25 (by decide) ?_
        exact ih σ3 x5 hf
set_option maxRecDepth 100000 in
set_option maxHeartbeats 4000000 in
theorem hX10_digitsEnd {X : sp_X} (hX : sp_OK shX X cX10_digitsEnd RX10 3 rmX10_digitsEnd) {τ : sp_St} {r : Int32} (hR : sp_Ri shX X (some .int) τ r 0 0) {n : Nat}  {σ : sp_St} {a1 : Int32}  (hf : X10_digitsEnd n σ a1 = some (τ, r)) : sp_GG shX X σ 3 [some (.ref (sx_ad X 20)), some (.int a1), none] [] 0 0 0 := by
  unfold X10_digitsEnd at hf
  refine sp_iload_n (i := 1) (q := 1) hX dX10_digitsEnd_0 rfl rfl rfl ?_
  refine sp_istore_n (i := 2) (lv' := [some (.ref (sx_ad X 20)), some (.int a1), some (.int a1)]) (q := 2) hX dX10_digitsEnd_1 rfl (Nat.le_of_ble_eq_true rfl) rfl rfl rfl ?_
  refine sp_drop (lv' := [some (.ref (sx_ad X 20)), none, some (.int a1)]) (And.intro rfl (And.intro rfl trivial)) ?_
  exact hX10_digitsEnd_2 hX hR n σ a1 hf
set_option maxRecDepth 100000 in
set_option maxHeartbeats 4000000 in
theorem cnX10_digitsEnd {l : Launch} (hst : l.stackTraces = false) {w : sp_Wd} {n : Nat}  {σ : sp_St} {a1 : Int32} {τ : sp_St} {r : Int32}  (hf : X10_digitsEnd n σ a1 = some (τ, r)) : sp_Ci shX l w yX10_digitsEnd cX10_digitsEnd 3 (some .int) rmX10_digitsEnd 0 0 σ [.ref (w.2.1 20), .int a1] τ r :=
  sp_ci (own := RX10) (by decide) rfl hst (Nat.le_of_ble_eq_true rfl) rfl (fun X hX hw hl hR => by subst hw; subst hl; exact hX10_digitsEnd hX hR   hf)
