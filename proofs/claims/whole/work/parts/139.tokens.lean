def rmX10_isWord : Room := { frames := 4, cells := 0, slots := 0, locals := 85 }
def X10_isWord_63 (n : Nat) (s1 : Nat) (σ : sp_St) : Option (sp_St × Int32) :=
  some (σ, (1 : Int32))
def X10_isWord_55 (n : Nat) (s1 : Nat) (σ : sp_St) : Option (sp_St × Int32) :=
  some (σ, (0 : Int32))
def X10_isWord_28 (n : Nat) (s1 : Nat) : Nat → sp_St → Int32 → Option (sp_St × Int32)
  | 0, _, _ => none
  | f + 1, σ, z2 =>
    sp_bd (J0_length_8abf5 n σ s1) fun σ2 v3 =>
    if v3 ≤ z2 then
      X10_isWord_63 n s1 σ2
    else
      sp_bd (J0_charAt_5068e n σ2 s1 z2) fun σ5 v6 =>
      sp_ck (sp_in ((σ5.1 20 3) + z2) 700) <|
      if v6 = (sp_g σ5 1 ((σ5.1 20 3) + z2)) then
        sp_pl (z2 + 1) fun x8 =>
        X10_isWord_28 n s1 f σ5 x8
      else
        X10_isWord_55 n s1 σ5
def X10_isWord_24 (n : Nat) (s1 : Nat) (σ : sp_St) : Option (sp_St × Int32) :=
  some (σ, (0 : Int32))
def X10_isWord (n : Nat)  (σ : sp_St) (s1 : Nat) : Option (sp_St × Int32) :=
  if (σ.1 20 4) = ((1 : Int32)) then
    sp_bd (J0_length_8abf5 n σ s1) fun σ2 v3 =>
    if ((σ.1 20 2) - (σ.1 20 3)) = v3 then
      sp_pl ((0 : Int32)) fun x4 =>
      X10_isWord_28 n s1 n σ2 x4
    else
      X10_isWord_24 n s1 σ2
  else
    X10_isWord_24 n s1 σ
set_option maxRecDepth 100000 in
set_option maxHeartbeats 4000000 in
theorem hX10_isWord_63 {X : sp_X} (hX : sp_OK shX X cX10_isWord RX10 3 rmX10_isWord) {τ : sp_St} {r : Int32} (hR : sp_Ri shX X (some .boolean) τ r 0 0) {n : Nat}  {s1 : Nat} (hs1 : s1 < 16)  {σ : sp_St} (hf : X10_isWord_63 n s1 σ = some (τ, r)) : sp_GG shX X σ 3 [none, none, none] [] 63 0 0 := by
  unfold X10_isWord_63 at hf
  refine sp_iconst (v := 1) (q := 64) hX dX10_isWord_63 li_1 rfl ?_
  exact sp_zret hX hR (by decide) dX10_isWord_64 hf (Nat.le_of_ble_eq_true rfl) (Nat.le_of_ble_eq_true rfl)
set_option maxRecDepth 100000 in
set_option maxHeartbeats 4000000 in
theorem hX10_isWord_55 {X : sp_X} (hX : sp_OK shX X cX10_isWord RX10 3 rmX10_isWord) {τ : sp_St} {r : Int32} (hR : sp_Ri shX X (some .boolean) τ r 0 0) {n : Nat}  {s1 : Nat} (hs1 : s1 < 16)  {σ : sp_St} (hf : X10_isWord_55 n s1 σ = some (τ, r)) : sp_GG shX X σ 3 [none, none, none] [] 55 0 0 := by
  unfold X10_isWord_55 at hf
  refine sp_iconst (v := 0) (q := 56) hX dX10_isWord_55 li_0 rfl ?_
  exact sp_zret hX hR (by decide) dX10_isWord_56 hf (Nat.le_of_ble_eq_true rfl) (Nat.le_of_ble_eq_true rfl)
set_option maxRecDepth 100000 in
set_option maxHeartbeats 4000000 in
theorem hX10_isWord_28 {X : sp_X} (hX : sp_OK shX X cX10_isWord RX10 3 rmX10_isWord) {τ : sp_St} {r : Int32} (hR : sp_Ri shX X (some .boolean) τ r 0 0) {n : Nat}  {s1 : Nat} (hs1 : s1 < 16)  : ∀ (f : Nat) (σ : sp_St) (z2 : Int32), X10_isWord_28 n s1 f σ z2 = some (τ, r) → sp_GG shX X σ 3 [some (.ref (sx_ad X 20)), some (.ref ((sx_w X).2.2.1 0 s1)), some (.int z2)] [] 28 0 0 := by
  intro f
  induction f with
  | zero =>
    intro σ z2 hf
    rw [X10_isWord_28] at hf
    cases hf
  | succ f ih =>
    intro σ z2 hf
    rw [X10_isWord_28] at hf
    refine sp_iload_n (i := 2) (q := 29) hX dX10_isWord_28 rfl rfl rfl ?_
    refine sp_aload_n (i := 1) (q := 30) hX dX10_isWord_29 rfl rfl rfl ?_
    obtain ⟨σ2, v3, h1, hf⟩ := sp_bd_so hf
    refine sp_callTi (As := []) (rest := [.int z2]) (q := 33) hX (cnJ0_length_8abf5 (sp_st hX) hs1 h1) cwX10_61 hs1 rfl rfl rfl rfl (Nat.le_of_ble_eq_true rfl) (Nat.le_of_ble_eq_true rfl) (Nat.le_of_ble_eq_true rfl) (Nat.le_of_ble_eq_true rfl) (Nat.le_of_ble_eq_true rfl) dX10_isWord_30 rfl ?_
    refine sp_icmp_ge (tgt := 63) (q := 36) hX dX10_isWord_33 (by decide) rfl (fun hc => ?_) (fun hc => ?_)
    · rw [if_pos hc] at hf
      refine sp_drop (lv' := [none, none, none]) trivial ?_
      exact hX10_isWord_63 hX hR hs1 hf
    · rw [if_neg hc] at hf
      refine sp_aload_n (i := 1) (q := 37) hX dX10_isWord_36 rfl rfl rfl ?_
      refine sp_iload_n (i := 2) (q := 38) hX dX10_isWord_37 rfl rfl rfl ?_
      obtain ⟨σ5, v6, h4, hf⟩ := sp_bd_so hf
      refine sp_callTi (As := [.int z2]) (rest := []) (q := 41) hX (cnJ0_charAt_5068e (sp_st hX) hs1 h4) cwX10_66 hs1 rfl rfl rfl rfl (Nat.le_of_ble_eq_true rfl) (Nat.le_of_ble_eq_true rfl) (Nat.le_of_ble_eq_true rfl) (Nat.le_of_ble_eq_true rfl) (Nat.le_of_ble_eq_true rfl) dX10_isWord_38 rfl ?_
      refine sp_aload_n (i := 0) (q := 42) hX dX10_isWord_41 rfl rfl rfl ?_
      refine sp_gets (t := 1) (q := 45) hX flX10_7 fkX10_0 atX_20 srX_20_0 dX10_isWord_42 rfl ?_
      refine sp_aload_n (i := 0) (q := 46) hX dX10_isWord_45 rfl rfl rfl ?_
      refine sp_geti (q := 49) hX flX10_33 fkX10_3 atX_20 dX10_isWord_46 rfl ?_
      refine sp_iload_n (i := 2) (q := 50) hX dX10_isWord_49 rfl rfl rfl ?_
      refine sp_iadd (q := 51) hX dX10_isWord_50 rfl ?_
      obtain ⟨h7, hf⟩ := sp_ck_some hf
      refine sp_iald (q := 52) hX arX_1 h7 dX10_isWord_51 rfl ?_
      refine sp_icmp_eq (tgt := 57) (q := 55) hX dX10_isWord_52 (by decide) rfl (fun hc => ?_) (fun hc => ?_)
      · rw [if_pos hc] at hf
        obtain ⟨x8, e9, hf⟩ := sp_pl_some hf
        refine sp_iinc (i := 2) (v := x8) (lv' := [some (.ref (sx_ad X 20)), some (.ref ((sx_w X).2.2.1 0 s1)), some (.int x8)]) (q := 60) hX dX10_isWord_57 rfl (by rw [e9, li_1]) (Nat.le_of_ble_eq_true rfl) rfl rfl rfl ?_
        refine sp_goto (tgt := 28) hX dX10_isWord_60 (by decide) ?_
        exact ih σ5 x8 hf
      · rw [if_neg hc] at hf
        refine sp_drop (lv' := [none, none, none]) trivial ?_
        exact hX10_isWord_55 hX hR hs1 hf
set_option maxRecDepth 100000 in
set_option maxHeartbeats 4000000 in
theorem hX10_isWord_24 {X : sp_X} (hX : sp_OK shX X cX10_isWord RX10 3 rmX10_isWord) {τ : sp_St} {r : Int32} (hR : sp_Ri shX X (some .boolean) τ r 0 0) {n : Nat}  {s1 : Nat} (hs1 : s1 < 16)  {σ : sp_St} (hf : X10_isWord_24 n s1 σ = some (τ, r)) : sp_GG shX X σ 3 [none, none, none] [] 24 0 0 := by
  unfold X10_isWord_24 at hf
  refine sp_iconst (v := 0) (q := 25) hX dX10_isWord_24 li_0 rfl ?_
  exact sp_zret hX hR (by decide) dX10_isWord_25 hf (Nat.le_of_ble_eq_true rfl) (Nat.le_of_ble_eq_true rfl)
set_option maxRecDepth 100000 in
set_option maxHeartbeats 4000000 in
theorem hX10_isWord {X : sp_X} (hX : sp_OK shX X cX10_isWord RX10 3 rmX10_isWord) {τ : sp_St} {r : Int32} (hR : sp_Ri shX X (some .boolean) τ r 0 0) {n : Nat}  {σ : sp_St} {s1 : Nat} (hs1 : s1 < 16) (hf : X10_isWord n σ s1 = some (τ, r)) : sp_GG shX X σ 3 [some (.ref (sx_ad X 20)), some (.ref ((sx_w X).2.2.1 0 s1)), none] [] 0 0 0 := by
  unfold X10_isWord at hf
  refine sp_aload_n (i := 0) (q := 1) hX dX10_isWord_0 rfl rfl rfl ?_
  refine sp_geti (q := 4) hX flX10_36 fkX10_4 atX_20 dX10_isWord_1 rfl ?_
  refine sp_iconst (v := 1) (q := 5) hX dX10_isWord_4 li_1 rfl ?_
  refine sp_icmp_ne (tgt := 24) (q := 8) hX dX10_isWord_5 (by decide) rfl (fun hc => ?_) (fun hc => ?_)
  · rw [if_neg hc] at hf
    refine sp_drop (lv' := [none, none, none]) trivial ?_
    exact hX10_isWord_24 hX hR hs1 hf
  · rw [if_pos hc] at hf
    refine sp_aload_n (i := 0) (q := 9) hX dX10_isWord_8 rfl rfl rfl ?_
    refine sp_geti (q := 12) hX flX10_23 fkX10_2 atX_20 dX10_isWord_9 rfl ?_
    refine sp_aload_n (i := 0) (q := 13) hX dX10_isWord_12 rfl rfl rfl ?_
    refine sp_geti (q := 16) hX flX10_33 fkX10_3 atX_20 dX10_isWord_13 rfl ?_
    refine sp_isub (q := 17) hX dX10_isWord_16 rfl ?_
    refine sp_aload_n (i := 1) (q := 18) hX dX10_isWord_17 rfl rfl rfl ?_
    obtain ⟨σ2, v3, h1, hf⟩ := sp_bd_so hf
    refine sp_callTi (As := []) (rest := [.int ((σ.1 20 2) - (σ.1 20 3))]) (q := 21) hX (cnJ0_length_8abf5 (sp_st hX) hs1 h1) cwX10_61 hs1 rfl rfl rfl rfl (Nat.le_of_ble_eq_true rfl) (Nat.le_of_ble_eq_true rfl) (Nat.le_of_ble_eq_true rfl) (Nat.le_of_ble_eq_true rfl) (Nat.le_of_ble_eq_true rfl) dX10_isWord_18 rfl ?_
    refine sp_icmp_eq (tgt := 26) (q := 24) hX dX10_isWord_21 (by decide) rfl (fun hc => ?_) (fun hc => ?_)
    · rw [if_pos hc] at hf
      refine sp_iconst (v := 0) (q := 27) hX dX10_isWord_26 li_0 rfl ?_
      obtain ⟨x4, e5, hf⟩ := sp_pl_some hf
      refine sp_nmi e5 ?_
      refine sp_istore_n (i := 2) (lv' := [some (.ref (sx_ad X 20)), some (.ref ((sx_w X).2.2.1 0 s1)), some (.int x4)]) (q := 28) hX dX10_isWord_27 rfl (Nat.le_of_ble_eq_true rfl) rfl rfl rfl ?_
      exact hX10_isWord_28 hX hR hs1 n σ2 x4 hf
    · rw [if_neg hc] at hf
      refine sp_drop (lv' := [none, none, none]) trivial ?_
      exact hX10_isWord_24 hX hR hs1 hf
set_option maxRecDepth 100000 in
set_option maxHeartbeats 4000000 in
theorem cnX10_isWord {l : Launch} (hst : l.stackTraces = false) {w : sp_Wd} {n : Nat}  {σ : sp_St} {s1 : Nat} {τ : sp_St} {r : Int32} (hs1 : s1 < 16) (hf : X10_isWord n σ s1 = some (τ, r)) : sp_Ci shX l w yX10_isWord cX10_isWord 3 (some .boolean) rmX10_isWord 0 0 σ [.ref (w.2.1 20), .ref (w.2.2.1 0 s1)] τ r :=
  sp_ci (own := RX10) (by decide) rfl hst (Nat.le_of_ble_eq_true rfl) rfl (fun X hX hw hl hR => by subst hw; subst hl; exact hX10_isWord hX hR  hs1 hf)
def rmX10_blanksEnd : Room := { frames := 0, cells := 0, slots := 0, locals := 0 }
def X10_blanksEnd_38 (n : Nat) (σ : sp_St) (z2 : Int32) : Option (sp_St × Int32) :=
  some (σ, z2)
def X10_blanksEnd_32 (n : Nat) (k2 : sp_St → Int32 → Option (sp_St × Int32)) (σ : sp_St) (z2 : Int32) : Option (sp_St × Int32) :=
  sp_pl (z2 + 1) fun x1 =>
  k2 σ x1
def X10_blanksEnd_2 (n : Nat) : Nat → sp_St → Int32 → Option (sp_St × Int32)
  | 0, _, _ => none
  | f + 1, σ, z2 =>
    if (σ.1 20 1) ≤ z2 then
      X10_blanksEnd_38 n σ z2
    else
      sp_ck (sp_in z2 700) <|
      if (sp_g σ 1 z2) = ((32 : Int32)) then
        X10_blanksEnd_32 n (X10_blanksEnd_2 n f) σ z2
      else
        sp_ck (sp_in z2 700) <|
        if (sp_g σ 1 z2) = ((10 : Int32)) then
          X10_blanksEnd_32 n (X10_blanksEnd_2 n f) σ z2
        else
          X10_blanksEnd_38 n σ z2
def X10_blanksEnd (n : Nat)  (σ : sp_St) (a1 : Int32) : Option (sp_St × Int32) :=
  X10_blanksEnd_2 n n σ a1
set_option maxRecDepth 100000 in
set_option maxHeartbeats 4000000 in
theorem hX10_blanksEnd_38 {X : sp_X} (hX : sp_OK shX X cX10_blanksEnd RX10 3 rmX10_blanksEnd) {τ : sp_St} {r : Int32} (hR : sp_Ri shX X (some .int) τ r 0 0) {n : Nat}    {σ : sp_St} {z2 : Int32} (hf : X10_blanksEnd_38 n σ z2 = some (τ, r)) : sp_GG shX X σ 3 [none, none, some (.int z2)] [] 38 0 0 := by
  unfold X10_blanksEnd_38 at hf
  refine sp_iload_n (i := 2) (q := 39) hX dX10_blanksEnd_38 rfl rfl rfl ?_
  exact sp_iret hX hR dX10_blanksEnd_39 hf (Nat.le_of_ble_eq_true rfl) (Nat.le_of_ble_eq_true rfl)
set_option maxRecDepth 100000 in
set_option maxHeartbeats 4000000 in
theorem hX10_blanksEnd_32 {X : sp_X} (hX : sp_OK shX X cX10_blanksEnd RX10 3 rmX10_blanksEnd) {τ : sp_St} {r : Int32} (hR : sp_Ri shX X (some .int) τ r 0 0) {n : Nat}   {k2 : sp_St → Int32 → Option (sp_St × Int32)} (hk2 : ∀ (σ : sp_St) (z2 : Int32), k2 σ z2 = some (τ, r) → sp_GG shX X σ 3 [some (.ref (sx_ad X 20)), none, some (.int z2)] [] 2 0 0) {σ : sp_St} {z2 : Int32} (hf : X10_blanksEnd_32 n k2 σ z2 = some (τ, r)) : sp_GG shX X σ 3 [some (.ref (sx_ad X 20)), none, some (.int z2)] [] 32 0 0 := by
  unfold X10_blanksEnd_32 at hf
  obtain ⟨x1, e2, hf⟩ := sp_pl_some hf
  refine sp_iinc (i := 2) (v := x1) (lv' := [some (.ref (sx_ad X 20)), none, some (.int x1)]) (q := 35) hX dX10_blanksEnd_32 rfl (by rw [e2, li_1]) (Nat.le_of_ble_eq_true rfl) rfl rfl rfl ?_
  refine sp_goto (tgt := 2) hX dX10_blanksEnd_35 (by decide) ?_
  exact hk2 σ x1 hf
set_option maxRecDepth 100000 in
set_option maxHeartbeats 4000000 in
theorem hX10_blanksEnd_2 {X : sp_X} (hX : sp_OK shX X cX10_blanksEnd RX10 3 rmX10_blanksEnd) {τ : sp_St} {r : Int32} (hR : sp_Ri shX X (some .int) τ r 0 0) {n : Nat}    : ∀ (f : Nat) (σ : sp_St) (z2 : Int32), X10_blanksEnd_2 n f σ z2 = some (τ, r) → sp_GG shX X σ 3 [some (.ref (sx_ad X 20)), none, some (.int z2)] [] 2 0 0 := by
  intro f
  induction f with
  | zero =>
    intro σ z2 hf
    rw [X10_blanksEnd_2] at hf
    cases hf
  | succ f ih =>
    intro σ z2 hf
    rw [X10_blanksEnd_2] at hf
    refine sp_iload_n (i := 2) (q := 3) hX dX10_blanksEnd_2 rfl rfl rfl ?_
    refine sp_aload_n (i := 0) (q := 4) hX dX10_blanksEnd_3 rfl rfl rfl ?_
    refine sp_geti (q := 7) hX flX10_19 fkX10_1 atX_20 dX10_blanksEnd_4 rfl ?_
    refine sp_icmp_ge (tgt := 38) (q := 10) hX dX10_blanksEnd_7 (by decide) rfl (fun hc => ?_) (fun hc => ?_)
    · rw [if_pos hc] at hf
      refine sp_drop (lv' := [none, none, some (.int z2)]) (And.intro rfl trivial) ?_
      exact hX10_blanksEnd_38 hX hR hf
    · rw [if_neg hc] at hf
      refine sp_aload_n (i := 0) (q := 11) hX dX10_blanksEnd_10 rfl rfl rfl ?_
      refine sp_gets (t := 1) (q := 14) hX flX10_7 fkX10_0 atX_20 srX_20_0 dX10_blanksEnd_11 rfl ?_
      refine sp_iload_n (i := 2) (q := 15) hX dX10_blanksEnd_14 rfl rfl rfl ?_
      obtain ⟨h1, hf⟩ := sp_ck_some hf
      refine sp_iald (q := 16) hX arX_1 h1 dX10_blanksEnd_15 rfl ?_
      refine sp_bipush (v := 32) (q := 18) hX dX10_blanksEnd_16 lb_32 rfl ?_
      refine sp_icmp_eq (tgt := 32) (q := 21) hX dX10_blanksEnd_18 (by decide) rfl (fun hc => ?_) (fun hc => ?_)
      · rw [if_pos hc] at hf
        exact hX10_blanksEnd_32 hX hR ih hf
      · rw [if_neg hc] at hf
        refine sp_aload_n (i := 0) (q := 22) hX dX10_blanksEnd_21 rfl rfl rfl ?_
        refine sp_gets (t := 1) (q := 25) hX flX10_7 fkX10_0 atX_20 srX_20_0 dX10_blanksEnd_22 rfl ?_
        refine sp_iload_n (i := 2) (q := 26) hX dX10_blanksEnd_25 rfl rfl rfl ?_
        obtain ⟨h2, hf⟩ := sp_ck_some hf
        refine sp_iald (q := 27) hX arX_1 h2 dX10_blanksEnd_26 rfl ?_
        refine sp_bipush (v := 10) (q := 29) hX dX10_blanksEnd_27 lb_10 rfl ?_
        refine sp_icmp_ne (tgt := 38) (q := 32) hX dX10_blanksEnd_29 (by decide) rfl (fun hc => ?_) (fun hc => ?_)
        · rw [if_neg hc] at hf
          refine sp_drop (lv' := [none, none, some (.int z2)]) (And.intro rfl trivial) ?_
          exact hX10_blanksEnd_38 hX hR hf
        · rw [if_pos hc] at hf
          exact hX10_blanksEnd_32 hX hR ih hf
set_option maxRecDepth 100000 in
set_option maxHeartbeats 4000000 in
theorem hX10_blanksEnd {X : sp_X} (hX : sp_OK shX X cX10_blanksEnd RX10 3 rmX10_blanksEnd) {τ : sp_St} {r : Int32} (hR : sp_Ri shX X (some .int) τ r 0 0) {n : Nat}  {σ : sp_St} {a1 : Int32}  (hf : X10_blanksEnd n σ a1 = some (τ, r)) : sp_GG shX X σ 3 [some (.ref (sx_ad X 20)), some (.int a1), none] [] 0 0 0 := by
  unfold X10_blanksEnd at hf
  refine sp_iload_n (i := 1) (q := 1) hX dX10_blanksEnd_0 rfl rfl rfl ?_
  refine sp_istore_n (i := 2) (lv' := [some (.ref (sx_ad X 20)), some (.int a1), some (.int a1)]) (q := 2) hX dX10_blanksEnd_1 rfl (Nat.le_of_ble_eq_true rfl) rfl rfl rfl ?_
  refine sp_drop (lv' := [some (.ref (sx_ad X 20)), none, some (.int a1)]) (And.intro rfl (And.intro rfl trivial)) ?_
  exact hX10_blanksEnd_2 hX hR n σ a1 hf
set_option maxRecDepth 100000 in
set_option maxHeartbeats 4000000 in
theorem cnX10_blanksEnd {l : Launch} (hst : l.stackTraces = false) {w : sp_Wd} {n : Nat}  {σ : sp_St} {a1 : Int32} {τ : sp_St} {r : Int32}  (hf : X10_blanksEnd n σ a1 = some (τ, r)) : sp_Ci shX l w yX10_blanksEnd cX10_blanksEnd 3 (some .int) rmX10_blanksEnd 0 0 σ [.ref (w.2.1 20), .int a1] τ r :=
  sp_ci (own := RX10) (by decide) rfl hst (Nat.le_of_ble_eq_true rfl) rfl (fun X hX hw hl hR => by subst hw; subst hl; exact hX10_blanksEnd hX hR   hf)
def rmX10_valueOf : Room := { frames := 0, cells := 0, slots := 0, locals := 0 }
def X10_valueOf_44 (n : Nat) (σ : sp_St) (z3 : Int32) : Option (sp_St × Int32) :=
  some (σ, z3)
def X10_valueOf_16 (n : Nat) : Nat → sp_St → Int32 → Int32 → Int32 → Option (sp_St × Int32)
  | 0, _, _, _, _ => none
  | f + 1, σ, z2, z3, z4 =>
    if z2 ≤ z4 then
      X10_valueOf_44 n σ z3
    else
      sp_ck (sp_in z4 700) <|
      sp_pl (((z3 * ((10 : Int32))) + (sp_g σ 1 z4)) - ((48 : Int32))) fun x2 =>
      sp_pl (z4 + 1) fun x4 =>
      X10_valueOf_16 n f σ z2 x2 x4
def X10_valueOf (n : Nat)  (σ : sp_St) (a1 : Int32) (a2 : Int32) : Option (sp_St × Int32) :=
  if (a2 - a1) ≤ ((4 : Int32)) then
    sp_pl ((0 : Int32)) fun x1 =>
    X10_valueOf_16 n n σ a2 x1 a1
  else
    some (σ, (10000 : Int32))
set_option maxRecDepth 100000 in
set_option maxHeartbeats 4000000 in
theorem hX10_valueOf_44 {X : sp_X} (hX : sp_OK shX X cX10_valueOf RX10 5 rmX10_valueOf) {τ : sp_St} {r : Int32} (hR : sp_Ri shX X (some .int) τ r 0 0) {n : Nat}    {σ : sp_St} {z3 : Int32} (hf : X10_valueOf_44 n σ z3 = some (τ, r)) : sp_GG shX X σ 5 [none, none, none, some (.int z3), none] [] 44 0 0 := by
  unfold X10_valueOf_44 at hf
  refine sp_iload_n (i := 3) (q := 45) hX dX10_valueOf_44 rfl rfl rfl ?_
  exact sp_iret hX hR dX10_valueOf_45 hf (Nat.le_of_ble_eq_true rfl) (Nat.le_of_ble_eq_true rfl)
set_option maxRecDepth 100000 in
set_option maxHeartbeats 4000000 in
theorem hX10_valueOf_16 {X : sp_X} (hX : sp_OK shX X cX10_valueOf RX10 5 rmX10_valueOf) {τ : sp_St} {r : Int32} (hR : sp_Ri shX X (some .int) τ r 0 0) {n : Nat}    : ∀ (f : Nat) (σ : sp_St) (z2 : Int32) (z3 : Int32) (z4 : Int32), X10_valueOf_16 n f σ z2 z3 z4 = some (τ, r) → sp_GG shX X σ 5 [some (.ref (sx_ad X 20)), none, some (.int z2), some (.int z3), some (.int z4)] [] 16 0 0 := by
  intro f
  induction f with
  | zero =>
    intro σ z2 z3 z4 hf
    rw [X10_valueOf_16] at hf
    cases hf
  | succ f ih =>
    intro σ z2 z3 z4 hf
    rw [X10_valueOf_16] at hf
    refine sp_iload (i := 4) (q := 18) hX dX10_valueOf_16 rfl rfl ?_
    refine sp_iload_n (i := 2) (q := 19) hX dX10_valueOf_18 rfl rfl rfl ?_
    refine sp_icmp_ge (tgt := 44) (q := 22) hX dX10_valueOf_19 (by decide) rfl (fun hc => ?_) (fun hc => ?_)
    · rw [if_pos hc] at hf
      refine sp_drop (lv' := [none, none, none, some (.int z3), none]) (And.intro rfl trivial) ?_
      exact hX10_valueOf_44 hX hR hf
    · rw [if_neg hc] at hf
      refine sp_iload_n (i := 3) (q := 23) hX dX10_valueOf_22 rfl rfl rfl ?_
      refine sp_bipush (v := 10) (q := 25) hX dX10_valueOf_23 lb_10 rfl ?_
      refine sp_imul (q := 26) hX dX10_valueOf_25 rfl ?_
      refine sp_aload_n (i := 0) (q := 27) hX dX10_valueOf_26 rfl rfl rfl ?_
      refine sp_gets (t := 1) (q := 30) hX flX10_7 fkX10_0 atX_20 srX_20_0 dX10_valueOf_27 rfl ?_
      refine sp_iload (i := 4) (q := 32) hX dX10_valueOf_30 rfl rfl ?_
      obtain ⟨h1, hf⟩ := sp_ck_some hf
      refine sp_iald (q := 33) hX arX_1 h1 dX10_valueOf_32 rfl ?_
      refine sp_iadd (q := 34) hX dX10_valueOf_33 rfl ?_
      refine sp_bipush (v := 48) (q := 36) hX dX10_valueOf_34 lb_48 rfl ?_
      refine sp_isub (q := 37) hX dX10_valueOf_36 rfl ?_
      obtain ⟨x2, e3, hf⟩ := sp_pl_some hf
      refine sp_nmi e3 ?_
      refine sp_istore_n (i := 3) (lv' := [some (.ref (sx_ad X 20)), none, some (.int z2), some (.int x2), some (.int z4)]) (q := 38) hX dX10_valueOf_37 rfl (Nat.le_of_ble_eq_true rfl) rfl rfl rfl ?_
      obtain ⟨x4, e5, hf⟩ := sp_pl_some hf
      refine sp_iinc (i := 4) (v := x4) (lv' := [some (.ref (sx_ad X 20)), none, some (.int z2), some (.int x2), some (.int x4)]) (q := 41) hX dX10_valueOf_38 rfl (by rw [e5, li_1]) (Nat.le_of_ble_eq_true rfl) rfl rfl rfl ?_
      refine sp_goto (tgt := 16) hX dX10_valueOf_41 (by decide) ?_
      exact ih σ z2 x2 x4 hf
set_option maxRecDepth 100000 in
set_option maxHeartbeats 4000000 in
theorem hX10_valueOf {X : sp_X} (hX : sp_OK shX X cX10_valueOf RX10 5 rmX10_valueOf) {τ : sp_St} {r : Int32} (hR : sp_Ri shX X (some .int) τ r 0 0) {n : Nat}  {σ : sp_St} {a1 : Int32} {a2 : Int32}  (hf : X10_valueOf n σ a1 a2 = some (τ, r)) : sp_GG shX X σ 5 [some (.ref (sx_ad X 20)), some (.int a1), some (.int a2), none, none] [] 0 0 0 := by
  unfold X10_valueOf at hf
  refine sp_iload_n (i := 2) (q := 1) hX dX10_valueOf_0 rfl rfl rfl ?_
  refine sp_iload_n (i := 1) (q := 2) hX dX10_valueOf_1 rfl rfl rfl ?_
  refine sp_isub (q := 3) hX dX10_valueOf_2 rfl ?_
  refine sp_iconst (v := 4) (q := 4) hX dX10_valueOf_3 li_4 rfl ?_
  refine sp_icmp_le (tgt := 11) (q := 7) hX dX10_valueOf_4 (by decide) rfl (fun hc => ?_) (fun hc => ?_)
  · rw [if_pos hc] at hf
    refine sp_iconst (v := 0) (q := 12) hX dX10_valueOf_11 li_0 rfl ?_
    obtain ⟨x1, e2, hf⟩ := sp_pl_some hf
    refine sp_nmi e2 ?_
    refine sp_istore_n (i := 3) (lv' := [some (.ref (sx_ad X 20)), some (.int a1), some (.int a2), some (.int x1), none]) (q := 13) hX dX10_valueOf_12 rfl (Nat.le_of_ble_eq_true rfl) rfl rfl rfl ?_
    refine sp_iload_n (i := 1) (q := 14) hX dX10_valueOf_13 rfl rfl rfl ?_
    refine sp_istore (i := 4) (lv' := [some (.ref (sx_ad X 20)), some (.int a1), some (.int a2), some (.int x1), some (.int a1)]) (q := 16) hX dX10_valueOf_14 (Nat.le_of_ble_eq_true rfl) rfl rfl rfl ?_
    refine sp_drop (lv' := [some (.ref (sx_ad X 20)), none, some (.int a2), some (.int x1), some (.int a1)]) (And.intro rfl (And.intro rfl (And.intro rfl (And.intro rfl trivial)))) ?_
    exact hX10_valueOf_16 hX hR n σ a2 x1 a1 hf
  · rw [if_neg hc] at hf
    refine sp_sipush (v := 10000) (q := 10) hX dX10_valueOf_7 ls_10000 rfl ?_
    exact sp_iret hX hR dX10_valueOf_10 hf (Nat.le_of_ble_eq_true rfl) (Nat.le_of_ble_eq_true rfl)
set_option maxRecDepth 100000 in
set_option maxHeartbeats 4000000 in
theorem cnX10_valueOf {l : Launch} (hst : l.stackTraces = false) {w : sp_Wd} {n : Nat}  {σ : sp_St} {a1 : Int32} {a2 : Int32} {τ : sp_St} {r : Int32}  (hf : X10_valueOf n σ a1 a2 = some (τ, r)) : sp_Ci shX l w yX10_valueOf cX10_valueOf 5 (some .int) rmX10_valueOf 0 0 σ [.ref (w.2.1 20), .int a1, .int a2] τ r :=
  sp_ci (own := RX10) (by decide) rfl hst (Nat.le_of_ble_eq_true rfl) rfl (fun X hX hw hl hR => by subst hw; subst hl; exact hX10_valueOf hX hR   hf)
def rmX10_isLetter : Room := { frames := 0, cells := 0, slots := 0, locals := 0 }
def X10_isLetter_17 (n : Nat) (σ : sp_St) (zs0 : Int32) : Option (sp_St × Int32) :=
  sp_ck (sp_zb zs0) <|
  some (σ, zs0)
def X10_isLetter_16 (n : Nat) (σ : sp_St) : Option (sp_St × Int32) :=
  X10_isLetter_17 n σ ((0 : Int32))
def X10_isLetter (n : Nat)  (σ : sp_St) (a0 : Int32) : Option (sp_St × Int32) :=
  if a0 < ((97 : Int32)) then
    X10_isLetter_16 n σ
  else
    if ((122 : Int32)) < a0 then
      X10_isLetter_16 n σ
    else
      X10_isLetter_17 n σ ((1 : Int32))
set_option maxRecDepth 100000 in
set_option maxHeartbeats 4000000 in
theorem hX10_isLetter_17 {X : sp_X} (hX : sp_OK shX X cX10_isLetter RX10 1 rmX10_isLetter) {τ : sp_St} {r : Int32} (hR : sp_Ri shX X (some .boolean) τ r 0 0) {n : Nat}    {σ : sp_St} {zs0 : Int32} (hf : X10_isLetter_17 n σ zs0 = some (τ, r)) : sp_GG shX X σ 1 [none] [.int zs0] 17 0 0 := by
  unfold X10_isLetter_17 at hf
  obtain ⟨h1, hf⟩ := sp_ck_some hf
  exact sp_zret hX hR h1 dX10_isLetter_17 hf (Nat.le_of_ble_eq_true rfl) (Nat.le_of_ble_eq_true rfl)
set_option maxRecDepth 100000 in
set_option maxHeartbeats 4000000 in
theorem hX10_isLetter_16 {X : sp_X} (hX : sp_OK shX X cX10_isLetter RX10 1 rmX10_isLetter) {τ : sp_St} {r : Int32} (hR : sp_Ri shX X (some .boolean) τ r 0 0) {n : Nat}    {σ : sp_St} (hf : X10_isLetter_16 n σ = some (τ, r)) : sp_GG shX X σ 1 [none] [] 16 0 0 := by
  unfold X10_isLetter_16 at hf
  refine sp_iconst (v := 0) (q := 17) hX dX10_isLetter_16 li_0 rfl ?_
  exact hX10_isLetter_17 hX hR hf
set_option maxRecDepth 100000 in
set_option maxHeartbeats 4000000 in
theorem hX10_isLetter {X : sp_X} (hX : sp_OK shX X cX10_isLetter RX10 1 rmX10_isLetter) {τ : sp_St} {r : Int32} (hR : sp_Ri shX X (some .boolean) τ r 0 0) {n : Nat}  {σ : sp_St} {a0 : Int32}  (hf : X10_isLetter n σ a0 = some (τ, r)) : sp_GG shX X σ 1 [some (.int a0)] [] 0 0 0 := by
  unfold X10_isLetter at hf
  refine sp_iload_n (i := 0) (q := 1) hX dX10_isLetter_0 rfl rfl rfl ?_
  refine sp_bipush (v := 97) (q := 3) hX dX10_isLetter_1 lb_97 rfl ?_
  refine sp_icmp_lt (tgt := 16) (q := 6) hX dX10_isLetter_3 (by decide) rfl (fun hc => ?_) (fun hc => ?_)
  · rw [if_pos hc] at hf
    refine sp_drop (lv' := [none]) trivial ?_
    exact hX10_isLetter_16 hX hR hf
  · rw [if_neg hc] at hf
    refine sp_iload_n (i := 0) (q := 7) hX dX10_isLetter_6 rfl rfl rfl ?_
    refine sp_bipush (v := 122) (q := 9) hX dX10_isLetter_7 lb_122 rfl ?_
    refine sp_icmp_gt (tgt := 16) (q := 12) hX dX10_isLetter_9 (by decide) rfl (fun hc => ?_) (fun hc => ?_)
    · rw [if_pos hc] at hf
      refine sp_drop (lv' := [none]) trivial ?_
      exact hX10_isLetter_16 hX hR hf
    · rw [if_neg hc] at hf
      refine sp_iconst (v := 1) (q := 13) hX dX10_isLetter_12 li_1 rfl ?_
      refine sp_goto (tgt := 17) hX dX10_isLetter_13 (by decide) ?_
      refine sp_drop (lv' := [none]) trivial ?_
      exact hX10_isLetter_17 hX hR hf
set_option maxRecDepth 100000 in
set_option maxHeartbeats 4000000 in
theorem cnX10_isLetter {l : Launch} (hst : l.stackTraces = false) {w : sp_Wd} {n : Nat}  {σ : sp_St} {a0 : Int32} {τ : sp_St} {r : Int32}  (hf : X10_isLetter n σ a0 = some (τ, r)) : sp_Ci shX l w yX10_isLetter cX10_isLetter 1 (some .boolean) rmX10_isLetter 0 0 σ [.int a0] τ r :=
  sp_ci (own := RX10) (by decide) rfl hst (Nat.le_of_ble_eq_true rfl) rfl (fun X hX hw hl hR => by subst hw; subst hl; exact hX10_isLetter hX hR   hf)
def rmX10_isDigit : Room := { frames := 0, cells := 0, slots := 0, locals := 0 }
def X10_isDigit_17 (n : Nat) (σ : sp_St) (zs0 : Int32) : Option (sp_St × Int32) :=
  sp_ck (sp_zb zs0) <|
  some (σ, zs0)
def X10_isDigit_16 (n : Nat) (σ : sp_St) : Option (sp_St × Int32) :=
  X10_isDigit_17 n σ ((0 : Int32))
def X10_isDigit (n : Nat)  (σ : sp_St) (a0 : Int32) : Option (sp_St × Int32) :=
  if a0 < ((48 : Int32)) then
    X10_isDigit_16 n σ
  else
    if ((57 : Int32)) < a0 then
      X10_isDigit_16 n σ
    else
      X10_isDigit_17 n σ ((1 : Int32))
set_option maxRecDepth 100000 in
set_option maxHeartbeats 4000000 in
theorem hX10_isDigit_17 {X : sp_X} (hX : sp_OK shX X cX10_isDigit RX10 1 rmX10_isDigit) {τ : sp_St} {r : Int32} (hR : sp_Ri shX X (some .boolean) τ r 0 0) {n : Nat}    {σ : sp_St} {zs0 : Int32} (hf : X10_isDigit_17 n σ zs0 = some (τ, r)) : sp_GG shX X σ 1 [none] [.int zs0] 17 0 0 := by
  unfold X10_isDigit_17 at hf
  obtain ⟨h1, hf⟩ := sp_ck_some hf
  exact sp_zret hX hR h1 dX10_isDigit_17 hf (Nat.le_of_ble_eq_true rfl) (Nat.le_of_ble_eq_true rfl)
set_option maxRecDepth 100000 in
set_option maxHeartbeats 4000000 in
theorem hX10_isDigit_16 {X : sp_X} (hX : sp_OK shX X cX10_isDigit RX10 1 rmX10_isDigit) {τ : sp_St} {r : Int32} (hR : sp_Ri shX X (some .boolean) τ r 0 0) {n : Nat}    {σ : sp_St} (hf : X10_isDigit_16 n σ = some (τ, r)) : sp_GG shX X σ 1 [none] [] 16 0 0 := by
  unfold X10_isDigit_16 at hf
  refine sp_iconst (v := 0) (q := 17) hX dX10_isDigit_16 li_0 rfl ?_
  exact hX10_isDigit_17 hX hR hf
set_option maxRecDepth 100000 in
set_option maxHeartbeats 4000000 in
theorem hX10_isDigit {X : sp_X} (hX : sp_OK shX X cX10_isDigit RX10 1 rmX10_isDigit) {τ : sp_St} {r : Int32} (hR : sp_Ri shX X (some .boolean) τ r 0 0) {n : Nat}  {σ : sp_St} {a0 : Int32}  (hf : X10_isDigit n σ a0 = some (τ, r)) : sp_GG shX X σ 1 [some (.int a0)] [] 0 0 0 := by
  unfold X10_isDigit at hf
  refine sp_iload_n (i := 0) (q := 1) hX dX10_isDigit_0 rfl rfl rfl ?_
  refine sp_bipush (v := 48) (q := 3) hX dX10_isDigit_1 lb_48 rfl ?_
  refine sp_icmp_lt (tgt := 16) (q := 6) hX dX10_isDigit_3 (by decide) rfl (fun hc => ?_) (fun hc => ?_)
  · rw [if_pos hc] at hf
    refine sp_drop (lv' := [none]) trivial ?_
    exact hX10_isDigit_16 hX hR hf
  · rw [if_neg hc] at hf
    refine sp_iload_n (i := 0) (q := 7) hX dX10_isDigit_6 rfl rfl rfl ?_
    refine sp_bipush (v := 57) (q := 9) hX dX10_isDigit_7 lb_57 rfl ?_
    refine sp_icmp_gt (tgt := 16) (q := 12) hX dX10_isDigit_9 (by decide) rfl (fun hc => ?_) (fun hc => ?_)
    · rw [if_pos hc] at hf
      refine sp_drop (lv' := [none]) trivial ?_
      exact hX10_isDigit_16 hX hR hf
    · rw [if_neg hc] at hf
      refine sp_iconst (v := 1) (q := 13) hX dX10_isDigit_12 li_1 rfl ?_
      refine sp_goto (tgt := 17) hX dX10_isDigit_13 (by decide) ?_
      refine sp_drop (lv' := [none]) trivial ?_
      exact hX10_isDigit_17 hX hR hf
set_option maxRecDepth 100000 in
set_option maxHeartbeats 4000000 in
theorem cnX10_isDigit {l : Launch} (hst : l.stackTraces = false) {w : sp_Wd} {n : Nat}  {σ : sp_St} {a0 : Int32} {τ : sp_St} {r : Int32}  (hf : X10_isDigit n σ a0 = some (τ, r)) : sp_Ci shX l w yX10_isDigit cX10_isDigit 1 (some .boolean) rmX10_isDigit 0 0 σ [.int a0] τ r :=
  sp_ci (own := RX10) (by decide) rfl hst (Nat.le_of_ble_eq_true rfl) rfl (fun X hX hw hl hR => by subst hw; subst hl; exact hX10_isDigit hX hR   hf)
def rmX10_isSign : Room := { frames := 4, cells := 0, slots := 0, locals := 91 }
def X10_isSign_26 (n : Nat) (σ : sp_St) (zs0 : Int32) : Option (sp_St × Int32) :=
  sp_ck (sp_zb zs0) <|
  some (σ, zs0)
def X10_isSign_25 (n : Nat) (σ : sp_St) : Option (sp_St × Int32) :=
  X10_isSign_26 n σ ((0 : Int32))
def X10_isSign (n : Nat)  (σ : sp_St) (a0 : Int32) : Option (sp_St × Int32) :=
  if a0 ≤ 0 then
    X10_isSign_25 n σ
  else
    if ((128 : Int32)) ≤ a0 then
      X10_isSign_25 n σ
    else
      sp_bd (J0_indexOf_0f7a4 n σ 15 ((a0.toUInt32 % 65536).toInt32)) fun σ2 v3 =>
      if v3 < 0 then
        X10_isSign_25 n σ2
      else
        X10_isSign_26 n σ2 ((1 : Int32))
set_option maxRecDepth 100000 in
set_option maxHeartbeats 4000000 in
theorem hX10_isSign_26 {X : sp_X} (hX : sp_OK shX X cX10_isSign RX10 1 rmX10_isSign) {τ : sp_St} {r : Int32} (hR : sp_Ri shX X (some .boolean) τ r 0 0) {n : Nat}    {σ : sp_St} {zs0 : Int32} (hf : X10_isSign_26 n σ zs0 = some (τ, r)) : sp_GG shX X σ 1 [none] [.int zs0] 26 0 0 := by
  unfold X10_isSign_26 at hf
  obtain ⟨h1, hf⟩ := sp_ck_some hf
  exact sp_zret hX hR h1 dX10_isSign_26 hf (Nat.le_of_ble_eq_true rfl) (Nat.le_of_ble_eq_true rfl)
set_option maxRecDepth 100000 in
set_option maxHeartbeats 4000000 in
theorem hX10_isSign_25 {X : sp_X} (hX : sp_OK shX X cX10_isSign RX10 1 rmX10_isSign) {τ : sp_St} {r : Int32} (hR : sp_Ri shX X (some .boolean) τ r 0 0) {n : Nat}    {σ : sp_St} (hf : X10_isSign_25 n σ = some (τ, r)) : sp_GG shX X σ 1 [none] [] 25 0 0 := by
  unfold X10_isSign_25 at hf
  refine sp_iconst (v := 0) (q := 26) hX dX10_isSign_25 li_0 rfl ?_
  exact hX10_isSign_26 hX hR hf
set_option maxRecDepth 100000 in
set_option maxHeartbeats 4000000 in
theorem hX10_isSign {X : sp_X} (hX : sp_OK shX X cX10_isSign RX10 1 rmX10_isSign) {τ : sp_St} {r : Int32} (hR : sp_Ri shX X (some .boolean) τ r 0 0) {n : Nat}  {σ : sp_St} {a0 : Int32}  (hf : X10_isSign n σ a0 = some (τ, r)) : sp_GG shX X σ 1 [some (.int a0)] [] 0 0 0 := by
  unfold X10_isSign at hf
  refine sp_iload_n (i := 0) (q := 1) hX dX10_isSign_0 rfl rfl rfl ?_
  refine sp_if_le (tgt := 25) (q := 4) hX dX10_isSign_1 (by decide) rfl (fun hc => ?_) (fun hc => ?_)
  · rw [if_pos hc] at hf
    refine sp_drop (lv' := [none]) trivial ?_
    exact hX10_isSign_25 hX hR hf
  · rw [if_neg hc] at hf
    refine sp_iload_n (i := 0) (q := 5) hX dX10_isSign_4 rfl rfl rfl ?_
    refine sp_sipush (v := 128) (q := 8) hX dX10_isSign_5 ls_128 rfl ?_
    refine sp_icmp_ge (tgt := 25) (q := 11) hX dX10_isSign_8 (by decide) rfl (fun hc => ?_) (fun hc => ?_)
    · rw [if_pos hc] at hf
      refine sp_drop (lv' := [none]) trivial ?_
      exact hX10_isSign_25 hX hR hf
    · rw [if_neg hc] at hf
      refine sp_ldcS (i := 15) (tx := ";()+-*/<=") (q := 13) hX (by decide) dX10_isSign_11 rfl ?_
      refine sp_iload_n (i := 0) (q := 14) hX dX10_isSign_13 rfl rfl rfl ?_
      refine sp_i2c (q := 15) hX dX10_isSign_14 rfl ?_
      obtain ⟨σ2, v3, h1, hf⟩ := sp_bd_so hf
      refine sp_callTi (As := [.int ((a0.toUInt32 % 65536).toInt32)]) (rest := []) (q := 18) hX (cnJ0_indexOf_0f7a4 (sp_st hX) (by decide) h1) cwX10_72 (by decide) rfl rfl rfl rfl (Nat.le_of_ble_eq_true rfl) (Nat.le_of_ble_eq_true rfl) (Nat.le_of_ble_eq_true rfl) (Nat.le_of_ble_eq_true rfl) (Nat.le_of_ble_eq_true rfl) dX10_isSign_15 rfl ?_
      refine sp_if_lt (tgt := 25) (q := 21) hX dX10_isSign_18 (by decide) rfl (fun hc => ?_) (fun hc => ?_)
      · rw [if_pos hc] at hf
        refine sp_drop (lv' := [none]) trivial ?_
        exact hX10_isSign_25 hX hR hf
      · rw [if_neg hc] at hf
        refine sp_iconst (v := 1) (q := 22) hX dX10_isSign_21 li_1 rfl ?_
        refine sp_goto (tgt := 26) hX dX10_isSign_22 (by decide) ?_
        refine sp_drop (lv' := [none]) trivial ?_
        exact hX10_isSign_26 hX hR hf
set_option maxRecDepth 100000 in
set_option maxHeartbeats 4000000 in
theorem cnX10_isSign {l : Launch} (hst : l.stackTraces = false) {w : sp_Wd} {n : Nat}  {σ : sp_St} {a0 : Int32} {τ : sp_St} {r : Int32}  (hf : X10_isSign n σ a0 = some (τ, r)) : sp_Ci shX l w yX10_isSign cX10_isSign 1 (some .boolean) rmX10_isSign 0 0 σ [.int a0] τ r :=
  sp_ci (own := RX10) (by decide) rfl hst (Nat.le_of_ble_eq_true rfl) rfl (fun X hX hw hl hR => by subst hw; subst hl; exact hX10_isSign hX hR   hf)
def rmX10_lettersEnd : Room := { frames := 1, cells := 0, slots := 0, locals := 20 }
def X10_lettersEnd_28 (n : Nat) (σ : sp_St) (z2 : Int32) : Option (sp_St × Int32) :=
  some (σ, z2)
def X10_lettersEnd_2 (n : Nat) : Nat → sp_St → Int32 → Option (sp_St × Int32)
  | 0, _, _ => none
  | f + 1, σ, z2 =>
    if (σ.1 20 1) ≤ z2 then
      X10_lettersEnd_28 n σ z2
    else
      sp_ck (sp_in z2 700) <|
      sp_bd (X10_isLetter n σ (sp_g σ 1 z2)) fun σ3 v4 =>
      if v4 = 0 then
        X10_lettersEnd_28 n σ3 z2
      else
        sp_pl (z2 + 1) fun x5 =>
        X10_lettersEnd_2 n f σ3 x5
def X10_lettersEnd (n : Nat)  (σ : sp_St) (a1 : Int32) : Option (sp_St × Int32) :=
  X10_lettersEnd_2 n n σ a1
set_option maxRecDepth 100000 in
set_option maxHeartbeats 4000000 in
theorem hX10_lettersEnd_28 {X : sp_X} (hX : sp_OK shX X cX10_lettersEnd RX10 3 rmX10_lettersEnd) {τ : sp_St} {r : Int32} (hR : sp_Ri shX X (some .int) τ r 0 0) {n : Nat}    {σ : sp_St} {z2 : Int32} (hf : X10_lettersEnd_28 n σ z2 = some (τ, r)) : sp_GG shX X σ 3 [none, none, some (.int z2)] [] 28 0 0 := by
  unfold X10_lettersEnd_28 at hf
  refine sp_iload_n (i := 2) (q := 29) hX dX10_lettersEnd_28 rfl rfl rfl ?_
  exact sp_iret hX hR dX10_lettersEnd_29 hf (Nat.le_of_ble_eq_true rfl) (Nat.le_of_ble_eq_true rfl)
set_option maxRecDepth 100000 in
set_option maxHeartbeats 4000000 in
theorem hX10_lettersEnd_2 {X : sp_X} (hX : sp_OK shX X cX10_lettersEnd RX10 3 rmX10_lettersEnd) {τ : sp_St} {r : Int32} (hR : sp_Ri shX X (some .int) τ r 0 0) {n : Nat}    : ∀ (f : Nat) (σ : sp_St) (z2 : Int32), X10_lettersEnd_2 n f σ z2 = some (τ, r) → sp_GG shX X σ 3 [some (.ref (sx_ad X 20)), none, some (.int z2)] [] 2 0 0 := by
  intro f
  induction f with
  | zero =>
    intro σ z2 hf
    rw [X10_lettersEnd_2] at hf
    cases hf
  | succ f ih =>
    intro σ z2 hf
    rw [X10_lettersEnd_2] at hf
    refine sp_iload_n (i := 2) (q := 3) hX dX10_lettersEnd_2 rfl rfl rfl ?_
    refine sp_aload_n (i := 0) (q := 4) hX dX10_lettersEnd_3 rfl rfl rfl ?_
    refine sp_geti (q := 7) hX flX10_19 fkX10_1 atX_20 dX10_lettersEnd_4 rfl ?_
    refine sp_icmp_ge (tgt := 28) (q := 10) hX dX10_lettersEnd_7 (by decide) rfl (fun hc => ?_) (fun hc => ?_)
    · rw [if_pos hc] at hf
      refine sp_drop (lv' := [none, none, some (.int z2)]) (And.intro rfl trivial) ?_
      exact hX10_lettersEnd_28 hX hR hf
    · rw [if_neg hc] at hf
      refine sp_aload_n (i := 0) (q := 11) hX dX10_lettersEnd_10 rfl rfl rfl ?_
      refine sp_gets (t := 1) (q := 14) hX flX10_7 fkX10_0 atX_20 srX_20_0 dX10_lettersEnd_11 rfl ?_
      refine sp_iload_n (i := 2) (q := 15) hX dX10_lettersEnd_14 rfl rfl rfl ?_
      obtain ⟨h1, hf⟩ := sp_ck_some hf
      refine sp_iald (q := 16) hX arX_1 h1 dX10_lettersEnd_15 rfl ?_
      obtain ⟨σ3, v4, h2, hf⟩ := sp_bd_so hf
      refine sp_callSi (As := [.int (sp_g σ 1 z2)]) (rest := []) (q := 19) hX (cnX10_isLetter (sp_st hX)  h2) cwX10_39 rfl rfl rfl rfl (Nat.le_of_ble_eq_true rfl) (Nat.le_of_ble_eq_true rfl) (Nat.le_of_ble_eq_true rfl) (Nat.le_of_ble_eq_true rfl) (Nat.le_of_ble_eq_true rfl) dX10_lettersEnd_16 rfl ?_
      refine sp_if_eq (tgt := 28) (q := 22) hX dX10_lettersEnd_19 (by decide) rfl (fun hc => ?_) (fun hc => ?_)
      · rw [if_pos hc] at hf
        refine sp_drop (lv' := [none, none, some (.int z2)]) (And.intro rfl trivial) ?_
        exact hX10_lettersEnd_28 hX hR hf
      · rw [if_neg hc] at hf
        obtain ⟨x5, e6, hf⟩ := sp_pl_some hf
        refine sp_iinc (i := 2) (v := x5) (lv' := [some (.ref (sx_ad X 20)), none, some (.int x5)]) (q := 25) hX dX10_lettersEnd_22 rfl (by rw [e6, li_1]) (Nat.le_of_ble_eq_true rfl) rfl rfl rfl ?_
        refine sp_goto (tgt := 2) hX dX10_lettersEnd_25 (by decide) ?_
        exact ih σ3 x5 hf
set_option maxRecDepth 100000 in
set_option maxHeartbeats 4000000 in
theorem hX10_lettersEnd {X : sp_X} (hX : sp_OK shX X cX10_lettersEnd RX10 3 rmX10_lettersEnd) {τ : sp_St} {r : Int32} (hR : sp_Ri shX X (some .int) τ r 0 0) {n : Nat}  {σ : sp_St} {a1 : Int32}  (hf : X10_lettersEnd n σ a1 = some (τ, r)) : sp_GG shX X σ 3 [some (.ref (sx_ad X 20)), some (.int a1), none] [] 0 0 0 := by
  unfold X10_lettersEnd at hf
  refine sp_iload_n (i := 1) (q := 1) hX dX10_lettersEnd_0 rfl rfl rfl ?_
  refine sp_istore_n (i := 2) (lv' := [some (.ref (sx_ad X 20)), some (.int a1), some (.int a1)]) (q := 2) hX dX10_lettersEnd_1 rfl (Nat.le_of_ble_eq_true rfl) rfl rfl rfl ?_
  refine sp_drop (lv' := [some (.ref (sx_ad X 20)), none, some (.int a1)]) (And.intro rfl (And.intro rfl trivial)) ?_
  exact hX10_lettersEnd_2 hX hR n σ a1 hf
set_option maxRecDepth 100000 in
set_option maxHeartbeats 4000000 in
theorem cnX10_lettersEnd {l : Launch} (hst : l.stackTraces = false) {w : sp_Wd} {n : Nat}  {σ : sp_St} {a1 : Int32} {τ : sp_St} {r : Int32}  (hf : X10_lettersEnd n σ a1 = some (τ, r)) : sp_Ci shX l w yX10_lettersEnd cX10_lettersEnd 3 (some .int) rmX10_lettersEnd 0 0 σ [.ref (w.2.1 20), .int a1] τ r :=
  sp_ci (own := RX10) (by decide) rfl hst (Nat.le_of_ble_eq_true rfl) rfl (fun X hX hw hl hR => by subst hw; subst hl; exact hX10_lettersEnd hX hR   hf)
def rmX10_digitsEnd : Room := { frames := 1, cells := 0, slots := 0, locals := 20 }
def X10_digitsEnd_28 (n : Nat) (σ : sp_St) (z2 : Int32) : Option (sp_St × Int32) :=
  some (σ, z2)
def X10_digitsEnd_2 (n : Nat) : Nat → sp_St → Int32 → Option (sp_St × Int32)
  | 0, _, _ => none
  | f + 1, σ, z2 =>
    if (σ.1 20 1) ≤ z2 then
      X10_digitsEnd_28 n σ z2
    else
      sp_ck (sp_in z2 700) <|
      sp_bd (X10_isDigit n σ (sp_g σ 1 z2)) fun σ3 v4 =>
      if v4 = 0 then
        X10_digitsEnd_28 n σ3 z2
      else
        sp_pl (z2 + 1) fun x5 =>
        X10_digitsEnd_2 n f σ3 x5
def X10_digitsEnd (n : Nat)  (σ : sp_St) (a1 : Int32) : Option (sp_St × Int32) :=
  X10_digitsEnd_2 n n σ a1
set_option maxRecDepth 100000 in
set_option maxHeartbeats 4000000 in
theorem hX10_digitsEnd_28 {X : sp_X} (hX : sp_OK shX X cX10_digitsEnd RX10 3 rmX10_digitsEnd) {τ : sp_St} {r : Int32} (hR : sp_Ri shX X (some .int) τ r 0 0) {n : Nat}    {σ : sp_St} {z2 : Int32} (hf : X10_digitsEnd_28 n σ z2 = some (τ, r)) : sp_GG shX X σ 3 [none, none, some (.int z2)] [] 28 0 0 := by
  unfold X10_digitsEnd_28 at hf
  refine sp_iload_n (i := 2) (q := 29) hX dX10_digitsEnd_28 rfl rfl rfl ?_
  exact sp_iret hX hR dX10_digitsEnd_29 hf (Nat.le_of_ble_eq_true rfl) (Nat.le_of_ble_eq_true rfl)
set_option maxRecDepth 100000 in
set_option maxHeartbeats 4000000 in
theorem hX10_digitsEnd_2 {X : sp_X} (hX : sp_OK shX X cX10_digitsEnd RX10 3 rmX10_digitsEnd) {τ : sp_St} {r : Int32} (hR : sp_Ri shX X (some .int) τ r 0 0) {n : Nat}    : ∀ (f : Nat) (σ : sp_St) (z2 : Int32), X10_digitsEnd_2 n f σ z2 = some (τ, r) → sp_GG shX X σ 3 [some (.ref (sx_ad X 20)), none, some (.int z2)] [] 2 0 0 := by
  intro f
  induction f with
  | zero =>
    intro σ z2 hf
    rw [X10_digitsEnd_2] at hf
    cases hf
  | succ f ih =>
    intro σ z2 hf
    rw [X10_digitsEnd_2] at hf
    refine sp_iload_n (i := 2) (q := 3) hX dX10_digitsEnd_2 rfl rfl rfl ?_
    refine sp_aload_n (i := 0) (q := 4) hX dX10_digitsEnd_3 rfl rfl rfl ?_
    refine sp_geti (q := 7) hX flX10_19 fkX10_1 atX_20 dX10_digitsEnd_4 rfl ?_
    refine sp_icmp_ge (tgt := 28) (q := 10) hX dX10_digitsEnd_7 (by decide) rfl (fun hc => ?_) (fun hc => ?_)
    · rw [if_pos hc] at hf
      refine sp_drop (lv' := [none, none, some (.int z2)]) (And.intro rfl trivial) ?_
      exact hX10_digitsEnd_28 hX hR hf
    · rw [if_neg hc] at hf
      refine sp_aload_n (i := 0) (q := 11) hX dX10_digitsEnd_10 rfl rfl rfl ?_
      refine sp_gets (t := 1) (q := 14) hX flX10_7 fkX10_0 atX_20 srX_20_0 dX10_digitsEnd_11 rfl ?_
      refine sp_iload_n (i := 2) (q := 15) hX dX10_digitsEnd_14 rfl rfl rfl ?_
      obtain ⟨h1, hf⟩ := sp_ck_some hf
      refine sp_iald (q := 16) hX arX_1 h1 dX10_digitsEnd_15 rfl ?_
      obtain ⟨σ3, v4, h2, hf⟩ := sp_bd_so hf
      refine sp_callSi (As := [.int (sp_g σ 1 z2)]) (rest := []) (q := 19) hX (cnX10_isDigit (sp_st hX)  h2) cwX10_46 rfl rfl rfl rfl (Nat.le_of_ble_eq_true rfl) (Nat.le_of_ble_eq_true rfl) (Nat.le_of_ble_eq_true rfl) (Nat.le_of_ble_eq_true rfl) (Nat.le_of_ble_eq_true rfl) dX10_digitsEnd_16 rfl ?_
      refine sp_if_eq (tgt := 28) (q := 22) hX dX10_digitsEnd_19 (by decide) rfl (fun hc => ?_) (fun hc => ?_)
      · rw [if_pos hc] at hf
        refine sp_drop (lv' := [none, none, some (.int z2)]) (And.intro rfl trivial) ?_
        exact hX10_digitsEnd_28 hX hR hf
      · rw [if_neg hc] at hf
        obtain ⟨x5, e6, hf⟩ := sp_pl_some hf
        refine sp_iinc (i := 2) (v := x5) (lv' := [some (.ref (sx_ad X 20)), none, some (.int x5)]) (q := 25) hX dX10_digitsEnd_22 rfl (by rw [e6, li_1]) (Nat.le_of_ble_eq_true rfl) rfl rfl rfl ?_
        refine sp_goto (tgt := 2) hX dX10_digitsEnd_25 (by decide) ?_
        exact ih σ3 x5 hf
set_option maxRecDepth 100000 in
set_option maxHeartbeats 4000000 in
theorem hX10_digitsEnd {X : sp_X} (hX : sp_OK shX X cX10_digitsEnd RX10 3 rmX10_digitsEnd) {τ : sp_St} {r : Int32} (hR : sp_Ri shX X (some .int) τ r 0 0) {n : Nat}  {σ : sp_St} {a1 : Int32}  (hf : X10_digitsEnd n σ a1 = some (τ, r)) : sp_GG shX X σ 3 [some (.ref (sx_ad X 20)), some (.int a1), none] [] 0 0 0 := by
  unfold X10_digitsEnd at hf
  refine sp_iload_n (i := 1) (q := 1) hX dX10_digitsEnd_0 rfl rfl rfl ?_
  refine sp_istore_n (i := 2) (lv' := [some (.ref (sx_ad X 20)), some (.int a1), some (.int a1)]) (q := 2) hX dX10_digitsEnd_1 rfl (Nat.le_of_ble_eq_true rfl) rfl rfl rfl ?_
  refine sp_drop (lv' := [some (.ref (sx_ad X 20)), none, some (.int a1)]) (And.intro rfl (And.intro rfl trivial)) ?_
  exact hX10_digitsEnd_2 hX hR n σ a1 hf
set_option maxRecDepth 100000 in
set_option maxHeartbeats 4000000 in
theorem cnX10_digitsEnd {l : Launch} (hst : l.stackTraces = false) {w : sp_Wd} {n : Nat}  {σ : sp_St} {a1 : Int32} {τ : sp_St} {r : Int32}  (hf : X10_digitsEnd n σ a1 = some (τ, r)) : sp_Ci shX l w yX10_digitsEnd cX10_digitsEnd 3 (some .int) rmX10_digitsEnd 0 0 σ [.ref (w.2.1 20), .int a1] τ r :=
  sp_ci (own := RX10) (by decide) rfl hst (Nat.le_of_ble_eq_true rfl) rfl (fun X hX hw hl hR => by subst hw; subst hl; exact hX10_digitsEnd hX hR   hf)
def rmX10_next : Room := { frames := 5, cells := 0, slots := 0, locals := 111 }
def X10_next_143 (n : Nat) (σ : sp_St) : Option (sp_St) :=
  some σ
def X10_next (n : Nat)  (σ : sp_St)  : Option (sp_St) :=
  sp_bd (X10_blanksEnd n σ (σ.1 20 2)) fun σ2 v3 =>
  sp_pl (sp_si σ2 20 3 v3) fun σ4 =>
  if (σ4.1 20 3) < (σ4.1 20 1) then
    sp_ck (sp_in (σ4.1 20 3) 700) <|
    sp_pl (sp_g σ4 1 (σ4.1 20 3)) fun x7 =>
    sp_bd (X10_isLetter n σ4 x7) fun σ10 v11 =>
    if v11 = 0 then
      sp_bd (X10_isDigit n σ10 x7) fun σ13 v14 =>
      if v14 = 0 then
        sp_bd (X10_isSign n σ13 x7) fun σ16 v17 =>
        sp_pl (if v17 = 0 then ((3 : Int32)) else x7) fun v18 =>
        sp_pl (sp_si σ16 20 4 v18) fun σ20 =>
        sp_pl (sp_si σ20 20 2 ((σ20.1 20 3) + ((1 : Int32)))) fun σ22 =>
        X10_next_143 n σ22
      else
        sp_pl (sp_si σ13 20 4 ((2 : Int32))) fun σ25 =>
        sp_bd (X10_digitsEnd n σ25 (σ25.1 20 3)) fun σ28 v29 =>
        sp_pl (sp_si σ28 20 2 v29) fun σ30 =>
        sp_bd (X10_valueOf n σ30 (σ30.1 20 3) (σ30.1 20 2)) fun σ33 v34 =>
        sp_pl (sp_si σ33 20 5 v34) fun σ35 =>
        X10_next_143 n σ35
    else
      sp_pl (sp_si σ10 20 4 ((1 : Int32))) fun σ37 =>
      sp_bd (X10_lettersEnd n σ37 (σ37.1 20 3)) fun σ40 v41 =>
      sp_pl (sp_si σ40 20 2 v41) fun σ42 =>
      X10_next_143 n σ42
  else
    sp_pl (sp_si σ4 20 4 ((0 : Int32))) fun σ44 =>
    sp_pl (sp_si σ44 20 2 (σ44.1 20 3)) fun σ46 =>
    some σ46
set_option maxRecDepth 100000 in
set_option maxHeartbeats 4000000 in
theorem hX10_next_143 {X : sp_X} (hX : sp_OK shX X cX10_next RX10 2 rmX10_next) {τ : sp_St} (hR : sp_Rv shX X τ 0 0) {n : Nat}    {σ : sp_St} (hf : X10_next_143 n σ = some τ) : sp_GG shX X σ 2 [none, none] [] 143 0 0 := by
  unfold X10_next_143 at hf
  exact sp_vret hX hR dX10_next_143 hf (Nat.le_of_ble_eq_true rfl) (Nat.le_of_ble_eq_true rfl)
set_option maxRecDepth 100000 in
set_option maxHeartbeats 4000000 in
theorem hX10_next {X : sp_X} (hX : sp_OK shX X cX10_next RX10 2 rmX10_next) {τ : sp_St} (hR : sp_Rv shX X τ 0 0) {n : Nat}  {σ : sp_St}   (hf : X10_next n σ = some τ) : sp_GG shX X σ 2 [some (.ref (sx_ad X 20)), none] [] 0 0 0 := by
  unfold X10_next at hf
  refine sp_aload_n (i := 0) (q := 1) hX dX10_next_0 rfl rfl rfl ?_
  refine sp_aload_n (i := 0) (q := 2) hX dX10_next_1 rfl rfl rfl ?_
  refine sp_aload_n (i := 0) (q := 3) hX dX10_next_2 rfl rfl rfl ?_
  refine sp_geti (q := 6) hX flX10_23 fkX10_2 atX_20 dX10_next_3 rfl ?_
  obtain ⟨σ2, v3, h1, hf⟩ := sp_bd_so hf
  refine sp_callVi (As := [.int (σ.1 20 2)]) (rest := [.ref (sx_ad X 20)]) (q := 9) hX (cnX10_blanksEnd (sp_st hX)  h1) cwX10_29 atX_20 rfl rfl rfl rfl rfl (Nat.le_of_ble_eq_true rfl) (Nat.le_of_ble_eq_true rfl) (Nat.le_of_ble_eq_true rfl) (Nat.le_of_ble_eq_true rfl) (Nat.le_of_ble_eq_true rfl) dX10_next_6 rfl ?_
  obtain ⟨σ4, e5, hf⟩ := sp_pl_some hf
  refine sp_puti (q := 12) hX fpX10_33 fkX10_3 atX_20 dX10_next_9 rfl ?_
  refine sp_nms e5 ?_
  refine sp_aload_n (i := 0) (q := 13) hX dX10_next_12 rfl rfl rfl ?_
  refine sp_geti (q := 16) hX flX10_33 fkX10_3 atX_20 dX10_next_13 rfl ?_
  refine sp_aload_n (i := 0) (q := 17) hX dX10_next_16 rfl rfl rfl ?_
  refine sp_geti (q := 20) hX flX10_19 fkX10_1 atX_20 dX10_next_17 rfl ?_
  refine sp_icmp_lt (tgt := 37) (q := 23) hX dX10_next_20 (by decide) rfl (fun hc => ?_) (fun hc => ?_)
  · rw [if_pos hc] at hf
    refine sp_aload_n (i := 0) (q := 38) hX dX10_next_37 rfl rfl rfl ?_
    refine sp_gets (t := 1) (q := 41) hX flX10_7 fkX10_0 atX_20 srX_20_0 dX10_next_38 rfl ?_
    refine sp_aload_n (i := 0) (q := 42) hX dX10_next_41 rfl rfl rfl ?_
    refine sp_geti (q := 45) hX flX10_33 fkX10_3 atX_20 dX10_next_42 rfl ?_
    obtain ⟨h6, hf⟩ := sp_ck_some hf
    refine sp_iald (q := 46) hX arX_1 h6 dX10_next_45 rfl ?_
    obtain ⟨x7, e8, hf⟩ := sp_pl_some hf
    refine sp_nmi e8 ?_
    refine sp_istore_n (i := 1) (lv' := [some (.ref (sx_ad X 20)), some (.int x7)]) (q := 47) hX dX10_next_46 rfl (Nat.le_of_ble_eq_true rfl) rfl rfl rfl ?_
    refine sp_iload_n (i := 1) (q := 48) hX dX10_next_47 rfl rfl rfl ?_
    obtain ⟨σ10, v11, h9, hf⟩ := sp_bd_so hf
    refine sp_callSi (As := [.int x7]) (rest := []) (q := 51) hX (cnX10_isLetter (sp_st hX)  h9) cwX10_39 rfl rfl rfl rfl (Nat.le_of_ble_eq_true rfl) (Nat.le_of_ble_eq_true rfl) (Nat.le_of_ble_eq_true rfl) (Nat.le_of_ble_eq_true rfl) (Nat.le_of_ble_eq_true rfl) dX10_next_48 rfl ?_
    refine sp_if_eq (tgt := 74) (q := 54) hX dX10_next_51 (by decide) rfl (fun hc => ?_) (fun hc => ?_)
    · rw [if_pos hc] at hf
      refine sp_iload_n (i := 1) (q := 75) hX dX10_next_74 rfl rfl rfl ?_
      obtain ⟨σ13, v14, h12, hf⟩ := sp_bd_so hf
      refine sp_callSi (As := [.int x7]) (rest := []) (q := 78) hX (cnX10_isDigit (sp_st hX)  h12) cwX10_46 rfl rfl rfl rfl (Nat.le_of_ble_eq_true rfl) (Nat.le_of_ble_eq_true rfl) (Nat.le_of_ble_eq_true rfl) (Nat.le_of_ble_eq_true rfl) (Nat.le_of_ble_eq_true rfl) dX10_next_75 rfl ?_
      refine sp_if_eq (tgt := 117) (q := 81) hX dX10_next_78 (by decide) rfl (fun hc => ?_) (fun hc => ?_)
      · rw [if_pos hc] at hf
        refine sp_aload_n (i := 0) (q := 118) hX dX10_next_117 rfl rfl rfl ?_
        refine sp_iload_n (i := 1) (q := 119) hX dX10_next_118 rfl rfl rfl ?_
        obtain ⟨σ16, v17, h15, hf⟩ := sp_bd_so hf
        refine sp_callSi (As := [.int x7]) (rest := [.ref (sx_ad X 20)]) (q := 122) hX (cnX10_isSign (sp_st hX)  h15) cwX10_58 rfl rfl rfl rfl (Nat.le_of_ble_eq_true rfl) (Nat.le_of_ble_eq_true rfl) (Nat.le_of_ble_eq_true rfl) (Nat.le_of_ble_eq_true rfl) (Nat.le_of_ble_eq_true rfl) dX10_next_119 rfl ?_
        obtain ⟨v18, e19, hf⟩ := sp_pl_some hf
        have hj24 : sp_GG shX X σ16 2 [some (.ref (sx_ad X 20)), some (.int x7)] [.int v18, .ref (sx_ad X 20)] 130 0 0 := by
          obtain ⟨σ20, e21, hf⟩ := sp_pl_some hf
          refine sp_puti (q := 133) hX fpX10_36 fkX10_4 atX_20 dX10_next_130 rfl ?_
          refine sp_nms e21 ?_
          refine sp_aload_n (i := 0) (q := 134) hX dX10_next_133 rfl rfl rfl ?_
          refine sp_aload_n (i := 0) (q := 135) hX dX10_next_134 rfl rfl rfl ?_
          refine sp_geti (q := 138) hX flX10_33 fkX10_3 atX_20 dX10_next_135 rfl ?_
          refine sp_iconst (v := 1) (q := 139) hX dX10_next_138 li_1 rfl ?_
          refine sp_iadd (q := 140) hX dX10_next_139 rfl ?_
          obtain ⟨σ22, e23, hf⟩ := sp_pl_some hf
          refine sp_puti (q := 143) hX fpX10_23 fkX10_2 atX_20 dX10_next_140 rfl ?_
          refine sp_nms e23 ?_
          refine sp_drop (lv' := [none, none]) trivial ?_
          exact hX10_next_143 hX hR hf
        refine sp_if_eq (tgt := 129) (q := 125) hX dX10_next_122 (by decide) rfl (fun hc => ?_) (fun hc => ?_)
        · refine sp_iconst (v := 3) (q := 130) hX dX10_next_129 li_3 rfl ?_
          exact sp_nmi (by rw [e19, if_pos hc]) hj24
        · refine sp_iload_n (i := 1) (q := 126) hX dX10_next_125 rfl rfl rfl ?_
          refine sp_goto (tgt := 130) hX dX10_next_126 (by decide) ?_
          exact sp_nmi (by rw [e19, if_neg hc]) hj24
      · rw [if_neg hc] at hf
        refine sp_aload_n (i := 0) (q := 82) hX dX10_next_81 rfl rfl rfl ?_
        refine sp_iconst (v := 2) (q := 83) hX dX10_next_82 li_2 rfl ?_
        obtain ⟨σ25, e26, hf⟩ := sp_pl_some hf
        refine sp_puti (q := 86) hX fpX10_36 fkX10_4 atX_20 dX10_next_83 rfl ?_
        refine sp_nms e26 ?_
        refine sp_aload_n (i := 0) (q := 87) hX dX10_next_86 rfl rfl rfl ?_
        refine sp_aload_n (i := 0) (q := 88) hX dX10_next_87 rfl rfl rfl ?_
        refine sp_aload_n (i := 0) (q := 89) hX dX10_next_88 rfl rfl rfl ?_
        refine sp_geti (q := 92) hX flX10_33 fkX10_3 atX_20 dX10_next_89 rfl ?_
        obtain ⟨σ28, v29, h27, hf⟩ := sp_bd_so hf
        refine sp_callVi (As := [.int (σ25.1 20 3)]) (rest := [.ref (sx_ad X 20)]) (q := 95) hX (cnX10_digitsEnd (sp_st hX)  h27) cwX10_49 atX_20 rfl rfl rfl rfl rfl (Nat.le_of_ble_eq_true rfl) (Nat.le_of_ble_eq_true rfl) (Nat.le_of_ble_eq_true rfl) (Nat.le_of_ble_eq_true rfl) (Nat.le_of_ble_eq_true rfl) dX10_next_92 rfl ?_
        obtain ⟨σ30, e31, hf⟩ := sp_pl_some hf
        refine sp_puti (q := 98) hX fpX10_23 fkX10_2 atX_20 dX10_next_95 rfl ?_
        refine sp_nms e31 ?_
        refine sp_aload_n (i := 0) (q := 99) hX dX10_next_98 rfl rfl rfl ?_
        refine sp_aload_n (i := 0) (q := 100) hX dX10_next_99 rfl rfl rfl ?_
        refine sp_aload_n (i := 0) (q := 101) hX dX10_next_100 rfl rfl rfl ?_
        refine sp_geti (q := 104) hX flX10_33 fkX10_3 atX_20 dX10_next_101 rfl ?_
        refine sp_aload_n (i := 0) (q := 105) hX dX10_next_104 rfl rfl rfl ?_
        refine sp_geti (q := 108) hX flX10_23 fkX10_2 atX_20 dX10_next_105 rfl ?_
        obtain ⟨σ33, v34, h32, hf⟩ := sp_bd_so hf
        refine sp_callVi (As := [.int (σ30.1 20 3), .int (σ30.1 20 2)]) (rest := [.ref (sx_ad X 20)]) (q := 111) hX (cnX10_valueOf (sp_st hX)  h32) cwX10_52 atX_20 rfl rfl rfl rfl rfl (Nat.le_of_ble_eq_true rfl) (Nat.le_of_ble_eq_true rfl) (Nat.le_of_ble_eq_true rfl) (Nat.le_of_ble_eq_true rfl) (Nat.le_of_ble_eq_true rfl) dX10_next_108 rfl ?_
        obtain ⟨σ35, e36, hf⟩ := sp_pl_some hf
        refine sp_puti (q := 114) hX fpX10_55 fkX10_5 atX_20 dX10_next_111 rfl ?_
        refine sp_nms e36 ?_
        refine sp_goto (tgt := 143) hX dX10_next_114 (by decide) ?_
        refine sp_drop (lv' := [none, none]) trivial ?_
        exact hX10_next_143 hX hR hf
    · rw [if_neg hc] at hf
      refine sp_aload_n (i := 0) (q := 55) hX dX10_next_54 rfl rfl rfl ?_
      refine sp_iconst (v := 1) (q := 56) hX dX10_next_55 li_1 rfl ?_
      obtain ⟨σ37, e38, hf⟩ := sp_pl_some hf
      refine sp_puti (q := 59) hX fpX10_36 fkX10_4 atX_20 dX10_next_56 rfl ?_
      refine sp_nms e38 ?_
      refine sp_aload_n (i := 0) (q := 60) hX dX10_next_59 rfl rfl rfl ?_
      refine sp_aload_n (i := 0) (q := 61) hX dX10_next_60 rfl rfl rfl ?_
      refine sp_aload_n (i := 0) (q := 62) hX dX10_next_61 rfl rfl rfl ?_
      refine sp_geti (q := 65) hX flX10_33 fkX10_3 atX_20 dX10_next_62 rfl ?_
      obtain ⟨σ40, v41, h39, hf⟩ := sp_bd_so hf
      refine sp_callVi (As := [.int (σ37.1 20 3)]) (rest := [.ref (sx_ad X 20)]) (q := 68) hX (cnX10_lettersEnd (sp_st hX)  h39) cwX10_43 atX_20 rfl rfl rfl rfl rfl (Nat.le_of_ble_eq_true rfl) (Nat.le_of_ble_eq_true rfl) (Nat.le_of_ble_eq_true rfl) (Nat.le_of_ble_eq_true rfl) (Nat.le_of_ble_eq_true rfl) dX10_next_65 rfl ?_
      obtain ⟨σ42, e43, hf⟩ := sp_pl_some hf
      refine sp_puti (q := 71) hX fpX10_23 fkX10_2 atX_20 dX10_next_68 rfl ?_
      refine sp_nms e43 ?_
      refine sp_goto (tgt := 143) hX dX10_next_71 (by decide) ?_
      refine sp_drop (lv' := [none, none]) trivial ?_
      exact hX10_next_143 hX hR hf
  · rw [if_neg hc] at hf
    refine sp_aload_n (i := 0) (q := 24) hX dX10_next_23 rfl rfl rfl ?_
    refine sp_iconst (v := 0) (q := 25) hX dX10_next_24 li_0 rfl ?_
    obtain ⟨σ44, e45, hf⟩ := sp_pl_some hf
    refine sp_puti (q := 28) hX fpX10_36 fkX10_4 atX_20 dX10_next_25 rfl ?_
    refine sp_nms e45 ?_
    refine sp_aload_n (i := 0) (q := 29) hX dX10_next_28 rfl rfl rfl ?_
    refine sp_aload_n (i := 0) (q := 30) hX dX10_next_29 rfl rfl rfl ?_
    refine sp_geti (q := 33) hX flX10_33 fkX10_3 atX_20 dX10_next_30 rfl ?_
    obtain ⟨σ46, e47, hf⟩ := sp_pl_some hf
    refine sp_puti (q := 36) hX fpX10_23 fkX10_2 atX_20 dX10_next_33 rfl ?_
    refine sp_nms e47 ?_
    exact sp_vret hX hR dX10_next_36 hf (Nat.le_of_ble_eq_true rfl) (Nat.le_of_ble_eq_true rfl)
set_option maxRecDepth 100000 in
set_option maxHeartbeats 4000000 in
theorem cnX10_next {l : Launch} (hst : l.stackTraces = false) {w : sp_Wd} {n : Nat}  {σ : sp_St}  {τ : sp_St}  (hf : X10_next n σ = some τ) : sp_Cv shX l w yX10_next cX10_next 2 rmX10_next 0 0 σ [.ref (w.2.1 20)] τ :=
  sp_cv (own := RX10) (by decide) rfl hst (Nat.le_of_ble_eq_true rfl) rfl (fun X hX hw hl hR => by subst hw; subst hl; exact hX10_next hX hR   hf)
def rmX10_open : Room := { frames := 6, cells := 0, slots := 0, locals := 132 }
def X10_open (n : Nat)  (σ : sp_St) (a1 : Int32) : Option (sp_St) :=
  sp_pl (sp_min a1 ((700 : Int32))) fun v1 =>
  sp_pl (sp_si σ 20 1 v1) fun σ3 =>
  sp_pl (sp_si σ3 20 2 ((0 : Int32))) fun σ5 =>
  sp_bv (X10_next n σ5) fun σ8 =>
  some σ8
set_option maxRecDepth 100000 in
set_option maxHeartbeats 4000000 in
theorem hX10_open {X : sp_X} (hX : sp_OK shX X cX10_open RX10 2 rmX10_open) {τ : sp_St} (hR : sp_Rv shX X τ 0 0) {n : Nat}  {σ : sp_St} {a1 : Int32}  (hf : X10_open n σ a1 = some τ) : sp_GG shX X σ 2 [some (.ref (sx_ad X 20)), some (.int a1)] [] 0 0 0 := by
  unfold X10_open at hf
  refine sp_aload_n (i := 0) (q := 1) hX dX10_open_0 rfl rfl rfl ?_
  refine sp_iload_n (i := 1) (q := 2) hX dX10_open_1 rfl rfl rfl ?_
  refine sp_aload_n (i := 0) (q := 3) hX dX10_open_2 rfl rfl rfl ?_
  refine sp_gets (t := 1) (q := 6) hX flX10_7 fkX10_0 atX_20 srX_20_0 dX10_open_3 rfl ?_
  refine sp_aleni (v := (700 : Int32)) (q := 7) hX arX_1 (by decide) dX10_open_6 rfl ?_
  obtain ⟨v1, e2, hf⟩ := sp_pl_some hf
  refine sp_mmin (q := 10) hX wd_932 wd_607 wd_144 wd_608 (Nat.le_of_ble_eq_true rfl) (Nat.le_of_ble_eq_true rfl) (Nat.le_of_ble_eq_true rfl) (Nat.le_of_ble_eq_true rfl) dX10_open_7 rfl ?_
  refine sp_nmi e2 ?_
  obtain ⟨σ3, e4, hf⟩ := sp_pl_some hf
  refine sp_puti (q := 13) hX fpX10_19 fkX10_1 atX_20 dX10_open_10 rfl ?_
  refine sp_nms e4 ?_
  refine sp_aload_n (i := 0) (q := 14) hX dX10_open_13 rfl rfl rfl ?_
  refine sp_iconst (v := 0) (q := 15) hX dX10_open_14 li_0 rfl ?_
  obtain ⟨σ5, e6, hf⟩ := sp_pl_some hf
  refine sp_puti (q := 18) hX fpX10_23 fkX10_2 atX_20 dX10_open_15 rfl ?_
  refine sp_nms e6 ?_
  refine sp_aload_n (i := 0) (q := 19) hX dX10_open_18 rfl rfl rfl ?_
  obtain ⟨σ8, h7, hf⟩ := sp_bv_so hf
  refine sp_callVv (As := []) (rest := []) (q := 22) hX (cnX10_next (sp_st hX)  h7) cwX10_26 atX_20 rfl rfl rfl rfl rfl (Nat.le_of_ble_eq_true rfl) (Nat.le_of_ble_eq_true rfl) (Nat.le_of_ble_eq_true rfl) (Nat.le_of_ble_eq_true rfl) (Nat.le_of_ble_eq_true rfl) dX10_open_19 rfl ?_
  exact sp_vret hX hR dX10_open_22 hf (Nat.le_of_ble_eq_true rfl) (Nat.le_of_ble_eq_true rfl)
set_option maxRecDepth 100000 in
set_option maxHeartbeats 4000000 in
theorem cnX10_open {l : Launch} (hst : l.stackTraces = false) {w : sp_Wd} {n : Nat}  {σ : sp_St} {a1 : Int32} {τ : sp_St}  (hf : X10_open n σ a1 = some τ) : sp_Cv shX l w yX10_open cX10_open 2 rmX10_open 0 0 σ [.ref (w.2.1 20), .int a1] τ :=
  sp_cv (own := RX10) (by decide) rfl hst (Nat.le_of_ble_eq_true rfl) rfl (fun X hX hw hl hR => by subst hw; subst hl; exact hX10_open hX hR   hf)
