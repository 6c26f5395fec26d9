def rmX12_isAsSeen : Room := { frames := 6, cells := 0, slots := 0, locals := 132 }
def X12_isAsSeen_122 (n : Nat) (σ : sp_St) (z2 : Int32) : Option (sp_St × Int32) :=
  sp_bv (X12_unpack n σ 32 88 ((0 : Int32))) fun σ2 =>
  sp_ck (sp_zb z2) <|
  some (σ2, z2)
def X12_isAsSeen_112 (n : Nat) (k42 : sp_St → Int32 → Int32 → Int32 → Option (sp_St × Int32)) (σ : sp_St) (z1 : Int32) (z2 : Int32) (z3 : Int32) : Option (sp_St × Int32) :=
  sp_bv (X12_aDay n σ) fun σ2 =>
  sp_pl (z3 + 1) fun x3 =>
  k42 σ2 z1 z2 x3
def X12_isAsSeen_105 (n : Nat) (k42 : sp_St → Int32 → Int32 → Int32 → Option (sp_St × Int32)) (k54 : sp_St → Int32 → Int32 → Int32 → Int32 → Option (sp_St × Int32)) (σ : sp_St) (z1 : Int32) (z3 : Int32) (z4 : Int32) (zs0 : Int32) : Option (sp_St × Int32) :=
  sp_pl (z4 + 1) fun x1 =>
  k54 σ z1 zs0 z3 x1
def X12_isAsSeen_104 (n : Nat) (k42 : sp_St → Int32 → Int32 → Int32 → Option (sp_St × Int32)) (k54 : sp_St → Int32 → Int32 → Int32 → Int32 → Option (sp_St × Int32)) (σ : sp_St) (z1 : Int32) (z3 : Int32) (z4 : Int32) : Option (sp_St × Int32) :=
  X12_isAsSeen_105 n k42 k54 σ z1 z3 z4 ((0 : Int32))
def X12_isAsSeen_100 (n : Nat) (k42 : sp_St → Int32 → Int32 → Int32 → Option (sp_St × Int32)) (k54 : sp_St → Int32 → Int32 → Int32 → Int32 → Option (sp_St × Int32)) (σ : sp_St) (z1 : Int32) (z3 : Int32) (z4 : Int32) : Option (sp_St × Int32) :=
  X12_isAsSeen_105 n k42 k54 σ z1 z3 z4 ((1 : Int32))
def X12_isAsSeen_54 (n : Nat) (k42 : sp_St → Int32 → Int32 → Int32 → Option (sp_St × Int32)) : Nat → sp_St → Int32 → Int32 → Int32 → Int32 → Option (sp_St × Int32)
  | 0, _, _, _, _, _ => none
  | f + 1, σ, z1, z2, z3, z4 =>
    if (σ.1 0 36) ≤ z4 then
      X12_isAsSeen_112 n k42 σ z1 z2 z3
    else
      if z2 = 0 then
        X12_isAsSeen_104 n k42 (X12_isAsSeen_54 n k42 f) σ z1 z3 z4
      else
        sp_ck (sp_in z4 8) <|
        if (sp_g σ 30 z4) = z3 then
          sp_ck (sp_in z4 8) <|
          sp_ck (sp_in (sp_g σ 29 z4) 10) <|
          sp_ck (sp_in z4 8) <|
          if (sp_g σ 14 (sp_g σ 29 z4)) = (sp_g σ 31 z4) then
            X12_isAsSeen_100 n k42 (X12_isAsSeen_54 n k42 f) σ z1 z3 z4
          else
            X12_isAsSeen_104 n k42 (X12_isAsSeen_54 n k42 f) σ z1 z3 z4
        else
          X12_isAsSeen_100 n k42 (X12_isAsSeen_54 n k42 f) σ z1 z3 z4
def X12_isAsSeen_42 (n : Nat) : Nat → sp_St → Int32 → Int32 → Int32 → Option (sp_St × Int32)
  | 0, _, _, _, _ => none
  | f + 1, σ, z1, z2, z3 =>
    if z1 < z3 then
      X12_isAsSeen_122 n σ z2
    else
      if z2 = 0 then
        X12_isAsSeen_122 n σ z2
      else
        sp_pl ((0 : Int32)) fun x1 =>
        X12_isAsSeen_54 n (X12_isAsSeen_42 n f) n σ z1 z2 z3 x1
def X12_isAsSeen_29 (n : Nat) (σ : sp_St) (z1 : Int32) : Option (sp_St × Int32) :=
  sp_bv (X12_pack n σ 32 88 ((0 : Int32))) fun σ2 =>
  sp_pl ((1 : Int32)) fun x3 =>
  sp_pl ((0 : Int32)) fun x5 =>
  X12_isAsSeen_42 n n σ2 z1 x3 x5
def X12_isAsSeen_4 (n : Nat) : Nat → sp_St → Int32 → Int32 → Option (sp_St × Int32)
  | 0, _, _, _ => none
  | f + 1, σ, z1, z2 =>
    if (σ.1 0 36) ≤ z2 then
      X12_isAsSeen_29 n σ z1
    else
      sp_ck (sp_in z2 8) <|
      sp_pl (sp_max z1 (sp_g σ 30 z2)) fun v2 =>
      sp_pl (z2 + 1) fun x4 =>
      X12_isAsSeen_4 n f σ v2 x4
def X12_isAsSeen (n : Nat)  (σ : sp_St)  : Option (sp_St × Int32) :=
  sp_pl ((-1 : Int32)) fun x1 =>
  sp_pl ((0 : Int32)) fun x3 =>
  X12_isAsSeen_4 n n σ x1 x3
set_option maxRecDepth 100000 in
set_option maxHeartbeats 4000000 in
theorem hX12_isAsSeen_122 {X : sp_X} (hX : sp_OK shM X cX12_isAsSeen RX12 5 rmX12_isAsSeen) {τ : sp_St} {r : Int32} (hR : sp_Ri shM X (some .boolean) τ r 0 0) {n : Nat}    {σ : sp_St} {z2 : Int32} (hf : X12_isAsSeen_122 n σ z2 = some (τ, r)) : sp_GG shM X σ 5 [some (.ref (sx_ad X 0)), none, some (.int z2), none, none] [] 122 0 0 := by
  unfold X12_isAsSeen_122 at hf
  refine sp_aload_n (i := 0) (q := 123) hX dX12_isAsSeen_122 rfl rfl rfl ?_
  refine sp_aload_n (i := 0) (q := 124) hX dX12_isAsSeen_123 rfl rfl rfl ?_
  refine sp_gets (t := 32) (q := 127) hX flX12_125 fkX12_48 atM_0 srM_0_48 dX12_isAsSeen_124 rfl ?_
  refine sp_iconst (v := 0) (q := 128) hX dX12_isAsSeen_127 li_0 rfl ?_
  obtain ⟨σ2, h1, hf⟩ := sp_bv_so hf
  refine sp_callVv (As := [.ref (sx_ad X 32), .int ((0 : Int32))]) (rest := []) (q := 131) hX (cnX12_unpack (sp_st hX) arM_32 h1) cwX12_432 atM_0 rfl rfl rfl rfl rfl (Nat.le_of_ble_eq_true rfl) (Nat.le_of_ble_eq_true rfl) (Nat.le_of_ble_eq_true rfl) (Nat.le_of_ble_eq_true rfl) (Nat.le_of_ble_eq_true rfl) dX12_isAsSeen_128 rfl ?_
  refine sp_iload_n (i := 2) (q := 132) hX dX12_isAsSeen_131 rfl rfl rfl ?_
  obtain ⟨h3, hf⟩ := sp_ck_some hf
  exact sp_zret hX hR h3 dX12_isAsSeen_132 hf (Nat.le_of_ble_eq_true rfl) (Nat.le_of_ble_eq_true rfl)
set_option maxRecDepth 100000 in
set_option maxHeartbeats 4000000 in
theorem hX12_isAsSeen_112 {X : sp_X} (hX : sp_OK shM X cX12_isAsSeen RX12 5 rmX12_isAsSeen) {τ : sp_St} {r : Int32} (hR : sp_Ri shM X (some .boolean) τ r 0 0) {n : Nat}   {k42 : sp_St → Int32 → Int32 → Int32 → Option (sp_St × Int32)} (hk42 : ∀ (σ : sp_St) (z1 : Int32) (z2 : Int32) (z3 : Int32), k42 σ z1 z2 z3 = some (τ, r) → sp_GG shM X σ 5 [some (.ref (sx_ad X 0)), some (.int z1), some (.int z2), some (.int z3), none] [] 42 0 0) {σ : sp_St} {z1 : Int32} {z2 : Int32} {z3 : Int32} (hf : X12_isAsSeen_112 n k42 σ z1 z2 z3 = some (τ, r)) : sp_GG shM X σ 5 [some (.ref (sx_ad X 0)), some (.int z1), some (.int z2), some (.int z3), none] [] 112 0 0 := by
  unfold X12_isAsSeen_112 at hf
  refine sp_aload_n (i := 0) (q := 113) hX dX12_isAsSeen_112 rfl rfl rfl ?_
  obtain ⟨σ2, h1, hf⟩ := sp_bv_so hf
  refine sp_callVv (As := []) (rest := []) (q := 116) hX (cnX12_aDay (sp_st hX)  h1) cwX12_393 atM_0 rfl rfl rfl rfl rfl (Nat.le_of_ble_eq_true rfl) (Nat.le_of_ble_eq_true rfl) (Nat.le_of_ble_eq_true rfl) (Nat.le_of_ble_eq_true rfl) (Nat.le_of_ble_eq_true rfl) dX12_isAsSeen_113 rfl ?_
  obtain ⟨x3, e4, hf⟩ := sp_pl_some hf
  refine sp_iinc (i := 3) (v := x3) (lv' := [some (.ref (sx_ad X 0)), some (.int z1), some (.int z2), some (.int x3), none]) (q := 119) hX dX12_isAsSeen_116 rfl (by rw [e4, li_1]) (Nat.le_of_ble_eq_true rfl) rfl rfl rfl ?_
  refine sp_goto (tgt := 42) hX dX12_isAsSeen_119 (by decide) ?_
  exact hk42 σ2 z1 z2 x3 hf
set_option maxRecDepth 100000 in
set_option maxHeartbeats 4000000 in
theorem hX12_isAsSeen_105 {X : sp_X} (hX : sp_OK shM X cX12_isAsSeen RX12 5 rmX12_isAsSeen) {τ : sp_St} {r : Int32} (hR : sp_Ri shM X (some .boolean) τ r 0 0) {n : Nat}   {k42 : sp_St → Int32 → Int32 → Int32 → Option (sp_St × Int32)} (hk42 : ∀ (σ : sp_St) (z1 : Int32) (z2 : Int32) (z3 : Int32), k42 σ z1 z2 z3 = some (τ, r) → sp_GG shM X σ 5 [some (.ref (sx_ad X 0)), some (.int z1), some (.int z2), some (.int z3), none] [] 42 0 0) {k54 : sp_St → Int32 → Int32 → Int32 → Int32 → Option (sp_St × Int32)} (hk54 : ∀ (σ : sp_St) (z1 : Int32) (z2 : Int32) (z3 : Int32) (z4 : Int32), k54 σ z1 z2 z3 z4 = some (τ, r) → sp_GG shM X σ 5 [some (.ref (sx_ad X 0)), some (.int z1), some (.int z2), some (.int z3), some (.int z4)] [] 54 0 0) {σ : sp_St} {z1 : Int32} {z3 : Int32} {z4 : Int32} {zs0 : Int32} (hf : X12_isAsSeen_105 n k42 k54 σ z1 z3 z4 zs0 = some (τ, r)) : sp_GG shM X σ 5 [some (.ref (sx_ad X 0)), some (.int z1), none, some (.int z3), some (.int z4)] [.int zs0] 105 0 0 := by
  unfold X12_isAsSeen_105 at hf
  refine sp_istore_n (i := 2) (lv' := [some (.ref (sx_ad X 0)), some (.int z1), some (.int zs0), some (.int z3), some (.int z4)]) (q := 106) hX dX12_isAsSeen_105 rfl (Nat.le_of_ble_eq_true rfl) rfl rfl rfl ?_
  obtain ⟨x1, e2, hf⟩ := sp_pl_some hf
  refine sp_iinc (i := 4) (v := x1) (lv' := [some (.ref (sx_ad X 0)), some (.int z1), some (.int zs0), some (.int z3), some (.int x1)]) (q := 109) hX dX12_isAsSeen_106 rfl (by rw [e2, li_1]) (Nat.le_of_ble_eq_true rfl) rfl rfl rfl ?_
  refine sp_goto (tgt := 54) hX dX12_isAsSeen_109 (by decide) ?_
  exact hk54 σ z1 zs0 z3 x1 hf
set_option maxRecDepth 100000 in
set_option maxHeartbeats 4000000 in
theorem hX12_isAsSeen_104 {X : sp_X} (hX : sp_OK shM X cX12_isAsSeen RX12 5 rmX12_isAsSeen) {τ : sp_St} {r : Int32} (hR : sp_Ri shM X (some .boolean) τ r 0 0) {n : Nat}   {k42 : sp_St → Int32 → Int32 → Int32 → Option (sp_St × Int32)} (hk42 : ∀ (σ : sp_St) (z1 : Int32) (z2 : Int32) (z3 : Int32), k42 σ z1 z2 z3 = some (τ, r) → sp_GG shM X σ 5 [some (.ref (sx_ad X 0)), some (.int z1), some (.int z2), some (.int z3), none] [] 42 0 0) {k54 : sp_St → Int32 → Int32 → Int32 → Int32 → Option (sp_St × Int32)} (hk54 : ∀ (σ : sp_St) (z1 : Int32) (z2 : Int32) (z3 : Int32) (z4 : Int32), k54 σ z1 z2 z3 z4 = some (τ, r) → sp_GG shM X σ 5 [some (.ref (sx_ad X 0)), some (.int z1), some (.int z2), some (.int z3), some (.int z4)] [] 54 0 0) {σ : sp_St} {z1 : Int32} {z3 : Int32} {z4 : Int32} (hf : X12_isAsSeen_104 n k42 k54 σ z1 z3 z4 = some (τ, r)) : sp_GG shM X σ 5 [some (.ref (sx_ad X 0)), some (.int z1), none, some (.int z3), some (.int z4)] [] 104 0 0 := by
  unfold X12_isAsSeen_104 at hf
  refine sp_iconst (v := 0) (q := 105) hX dX12_isAsSeen_104 li_0 rfl ?_
  exact hX12_isAsSeen_105 hX hR hk42 hk54 hf
set_option maxRecDepth 100000 in
set_option maxHeartbeats 4000000 in
theorem hX12_isAsSeen_100 {X : sp_X} (hX : sp_OK shM X cX12_isAsSeen RX12 5 rmX12_isAsSeen) {τ : sp_St} {r : Int32} (hR : sp_Ri shM X (some .boolean) τ r 0 0) {n : Nat}   {k42 : sp_St → Int32 → Int32 → Int32 → Option (sp_St × Int32)} (hk42 : ∀ (σ : sp_St) (z1 : Int32) (z2 : Int32) (z3 : Int32), k42 σ z1 z2 z3 = some (τ, r) → sp_GG shM X σ 5 [some (.ref (sx_ad X 0)), some (.int z1), some (.int z2), some (.int z3), none] [] 42 0 0) {k54 : sp_St → Int32 → Int32 → Int32 → Int32 → Option (sp_St × Int32)} (hk54 : ∀ (σ : sp_St) (z1 : Int32) (z2 : Int32) (z3 : Int32) (z4 : Int32), k54 σ z1 z2 z3 z4 = some (τ, r) → sp_GG shM X σ 5 [some (.ref (sx_ad X 0)), some (.int z1), some (.int z2), some (.int z3), some (.int z4)] [] 54 0 0) {σ : sp_St} {z1 : Int32} {z3 : Int32} {z4 : Int32} (hf : X12_isAsSeen_100 n k42 k54 σ z1 z3 z4 = some (τ, r)) : sp_GG shM X σ 5 [some (.ref (sx_ad X 0)), some (.int z1), none, some (.int z3), some (.int z4)] [] 100 0 0 := by
  unfold X12_isAsSeen_100 at hf
  refine sp_iconst (v := 1) (q := 101) hX dX12_isAsSeen_100 li_1 rfl ?_
  refine sp_goto (tgt := 105) hX dX12_isAsSeen_101 (by decide) ?_
  exact hX12_isAsSeen_105 hX hR hk42 hk54 hf
set_option maxRecDepth 100000 in
set_option maxHeartbeats 4000000 in
theorem hX12_isAsSeen_54 {X : sp_X} (hX : sp_OK shM X cX12_isAsSeen RX12 5 rmX12_isAsSeen) {τ : sp_St} {r : Int32} (hR : sp_Ri shM X (some .boolean) τ r 0 0) {n : Nat}   {k42 : sp_St → Int32 → Int32 → Int32 → Option (sp_St × Int32)} (hk42 : ∀ (σ : sp_St) (z1 : Int32) (z2 : Int32) (z3 : Int32), k42 σ z1 z2 z3 = some (τ, r) → sp_GG shM X σ 5 [some (.ref (sx_ad X 0)), some (.int z1), some (.int z2), some (.int z3), none] [] 42 0 0) : ∀ (f : Nat) (σ : sp_St) (z1 : Int32) (z2 : Int32) (z3 : Int32) (z4 : Int32), X12_isAsSeen_54 n k42 f σ z1 z2 z3 z4 = some (τ, r) → sp_GG shM X σ 5 [some (.ref (sx_ad X 0)), some (.int z1), some (.int z2), some (.int z3), some (.int z4)] [] 54 0 0 := by
  intro f
  induction f with
  | zero =>
    intro σ z1 z2 z3 z4 hf
    rw [X12_isAsSeen_54] at hf
    cases hf
  | succ f ih =>
    intro σ z1 z2 z3 z4 hf
    rw [X12_isAsSeen_54] at hf
    refine sp_iload (i := 4) (q := 56) hX dX12_isAsSeen_54 rfl rfl ?_
    refine sp_aload_n (i := 0) (q := 57) hX dX12_isAsSeen_56 rfl rfl rfl ?_
    refine sp_geti (q := 60) hX flX12_333 fkX12_36 atM_0 dX12_isAsSeen_57 rfl ?_
    refine sp_icmp_ge (tgt := 112) (q := 63) hX dX12_isAsSeen_60 (by decide) rfl (fun hc => ?_) (fun hc => ?_)
    · rw [if_pos hc] at hf
      refine sp_drop (lv' := [some (.ref (sx_ad X 0)), some (.int z1), some (.int z2), some (.int z3), none]) (And.intro rfl (And.intro rfl (And.intro rfl (And.intro rfl trivial)))) ?_
      exact hX12_isAsSeen_112 hX hR hk42 hf
    · rw [if_neg hc] at hf
      refine sp_iload_n (i := 2) (q := 64) hX dX12_isAsSeen_63 rfl rfl rfl ?_
      refine sp_if_eq (tgt := 104) (q := 67) hX dX12_isAsSeen_64 (by decide) rfl (fun hc => ?_) (fun hc => ?_)
      · rw [if_pos hc] at hf
        refine sp_drop (lv' := [some (.ref (sx_ad X 0)), some (.int z1), none, some (.int z3), some (.int z4)]) (And.intro rfl (And.intro rfl (And.intro rfl (And.intro rfl trivial)))) ?_
        exact hX12_isAsSeen_104 hX hR hk42 ih hf
      · rw [if_neg hc] at hf
        refine sp_aload_n (i := 0) (q := 68) hX dX12_isAsSeen_67 rfl rfl rfl ?_
        refine sp_gets (t := 30) (q := 71) hX flX12_119 fkX12_46 atM_0 srM_0_46 dX12_isAsSeen_68 rfl ?_
        refine sp_iload (i := 4) (q := 73) hX dX12_isAsSeen_71 rfl rfl ?_
        obtain ⟨h1, hf⟩ := sp_ck_some hf
        refine sp_iald (q := 74) hX arM_30 h1 dX12_isAsSeen_73 rfl ?_
        refine sp_iload_n (i := 3) (q := 75) hX dX12_isAsSeen_74 rfl rfl rfl ?_
        refine sp_icmp_ne (tgt := 100) (q := 78) hX dX12_isAsSeen_75 (by decide) rfl (fun hc => ?_) (fun hc => ?_)
        · rw [if_neg hc] at hf
          refine sp_drop (lv' := [some (.ref (sx_ad X 0)), some (.int z1), none, some (.int z3), some (.int z4)]) (And.intro rfl (And.intro rfl (And.intro rfl (And.intro rfl trivial)))) ?_
          exact hX12_isAsSeen_100 hX hR hk42 ih hf
        · rw [if_pos hc] at hf
          refine sp_aload_n (i := 0) (q := 79) hX dX12_isAsSeen_78 rfl rfl rfl ?_
          refine sp_gets (t := 14) (q := 82) hX flX12_70 fkX12_26 atM_0 srM_0_26 dX12_isAsSeen_79 rfl ?_
          refine sp_aload_n (i := 0) (q := 83) hX dX12_isAsSeen_82 rfl rfl rfl ?_
          refine sp_gets (t := 29) (q := 86) hX flX12_116 fkX12_45 atM_0 srM_0_45 dX12_isAsSeen_83 rfl ?_
          refine sp_iload (i := 4) (q := 88) hX dX12_isAsSeen_86 rfl rfl ?_
          obtain ⟨h2, hf⟩ := sp_ck_some hf
          refine sp_iald (q := 89) hX arM_29 h2 dX12_isAsSeen_88 rfl ?_
          obtain ⟨h3, hf⟩ := sp_ck_some hf
          refine sp_iald (q := 90) hX arM_14 h3 dX12_isAsSeen_89 rfl ?_
          refine sp_aload_n (i := 0) (q := 91) hX dX12_isAsSeen_90 rfl rfl rfl ?_
          refine sp_gets (t := 31) (q := 94) hX flX12_122 fkX12_47 atM_0 srM_0_47 dX12_isAsSeen_91 rfl ?_
          refine sp_iload (i := 4) (q := 96) hX dX12_isAsSeen_94 rfl rfl ?_
          obtain ⟨h4, hf⟩ := sp_ck_some hf
          refine sp_iald (q := 97) hX arM_31 h4 dX12_isAsSeen_96 rfl ?_
          refine sp_icmp_ne (tgt := 104) (q := 100) hX dX12_isAsSeen_97 (by decide) rfl (fun hc => ?_) (fun hc => ?_)
          · rw [if_neg hc] at hf
            refine sp_drop (lv' := [some (.ref (sx_ad X 0)), some (.int z1), none, some (.int z3), some (.int z4)]) (And.intro rfl (And.intro rfl (And.intro rfl (And.intro rfl trivial)))) ?_
            exact hX12_isAsSeen_104 hX hR hk42 ih hf
          · rw [if_pos hc] at hf
            refine sp_drop (lv' := [some (.ref (sx_ad X 0)), some (.int z1), none, some (.int z3), some (.int z4)]) (And.intro rfl (And.intro rfl (And.intro rfl (And.intro rfl trivial)))) ?_
            exact hX12_isAsSeen_100 hX hR hk42 ih hf
set_option maxRecDepth 100000 in
set_option maxHeartbeats 4000000 in
theorem hX12_isAsSeen_42 {X : sp_X} (hX : sp_OK shM X cX12_isAsSeen RX12 5 rmX12_isAsSeen) {τ : sp_St} {r : Int32} (hR : sp_Ri shM X (some .boolean) τ r 0 0) {n : Nat}    : ∀ (f : Nat) (σ : sp_St) (z1 : Int32) (z2 : Int32) (z3 : Int32), X12_isAsSeen_42 n f σ z1 z2 z3 = some (τ, r) → sp_GG shM X σ 5 [some (.ref (sx_ad X 0)), some (.int z1), some (.int z2), some (.int z3), none] [] 42 0 0 := by
  intro f
  induction f with
  | zero =>
    intro σ z1 z2 z3 hf
    rw [X12_isAsSeen_42] at hf
    cases hf
  | succ f ih =>
    intro σ z1 z2 z3 hf
    rw [X12_isAsSeen_42] at hf
    refine sp_iload_n (i := 3) (q := 43) hX dX12_isAsSeen_42 rfl rfl rfl ?_
    refine sp_iload_n (i := 1) (q := 44) hX dX12_isAsSeen_43 rfl rfl rfl ?_
    refine sp_icmp_gt (tgt := 122) (q := 47) hX dX12_isAsSeen_44 (by decide) rfl (fun hc => ?_) (fun hc => ?_)
    · rw [if_pos hc] at hf
      refine sp_drop (lv' := [some (.ref (sx_ad X 0)), none, some (.int z2), none, none]) (And.intro rfl (And.intro rfl trivial)) ?_
      exact hX12_isAsSeen_122 hX hR hf
    · rw [if_neg hc] at hf
      refine sp_iload_n (i := 2) (q := 48) hX dX12_isAsSeen_47 rfl rfl rfl ?_
      refine sp_if_eq (tgt := 122) (q := 51) hX dX12_isAsSeen_48 (by decide) rfl (fun hc => ?_) (fun hc => ?_)
      · rw [if_pos hc] at hf
        refine sp_drop (lv' := [some (.ref (sx_ad X 0)), none, some (.int z2), none, none]) (And.intro rfl (And.intro rfl trivial)) ?_
        exact hX12_isAsSeen_122 hX hR hf
      · rw [if_neg hc] at hf
        refine sp_iconst (v := 0) (q := 52) hX dX12_isAsSeen_51 li_0 rfl ?_
        obtain ⟨x1, e2, hf⟩ := sp_pl_some hf
        refine sp_nmi e2 ?_
        refine sp_istore (i := 4) (lv' := [some (.ref (sx_ad X 0)), some (.int z1), some (.int z2), some (.int z3), some (.int x1)]) (q := 54) hX dX12_isAsSeen_52 (Nat.le_of_ble_eq_true rfl) rfl rfl rfl ?_
        exact hX12_isAsSeen_54 hX hR ih n σ z1 z2 z3 x1 hf
set_option maxRecDepth 100000 in
set_option maxHeartbeats 4000000 in
theorem hX12_isAsSeen_29 {X : sp_X} (hX : sp_OK shM X cX12_isAsSeen RX12 5 rmX12_isAsSeen) {τ : sp_St} {r : Int32} (hR : sp_Ri shM X (some .boolean) τ r 0 0) {n : Nat}    {σ : sp_St} {z1 : Int32} (hf : X12_isAsSeen_29 n σ z1 = some (τ, r)) : sp_GG shM X σ 5 [some (.ref (sx_ad X 0)), some (.int z1), none, none, none] [] 29 0 0 := by
  unfold X12_isAsSeen_29 at hf
  refine sp_aload_n (i := 0) (q := 30) hX dX12_isAsSeen_29 rfl rfl rfl ?_
  refine sp_aload_n (i := 0) (q := 31) hX dX12_isAsSeen_30 rfl rfl rfl ?_
  refine sp_gets (t := 32) (q := 34) hX flX12_125 fkX12_48 atM_0 srM_0_48 dX12_isAsSeen_31 rfl ?_
  refine sp_iconst (v := 0) (q := 35) hX dX12_isAsSeen_34 li_0 rfl ?_
  obtain ⟨σ2, h1, hf⟩ := sp_bv_so hf
  refine sp_callVv (As := [.ref (sx_ad X 32), .int ((0 : Int32))]) (rest := []) (q := 38) hX (cnX12_pack (sp_st hX) arM_32 h1) cwX12_414 atM_0 rfl rfl rfl rfl rfl (Nat.le_of_ble_eq_true rfl) (Nat.le_of_ble_eq_true rfl) (Nat.le_of_ble_eq_true rfl) (Nat.le_of_ble_eq_true rfl) (Nat.le_of_ble_eq_true rfl) dX12_isAsSeen_35 rfl ?_
  refine sp_iconst (v := 1) (q := 39) hX dX12_isAsSeen_38 li_1 rfl ?_
  obtain ⟨x3, e4, hf⟩ := sp_pl_some hf
  refine sp_nmi e4 ?_
  refine sp_istore_n (i := 2) (lv' := [some (.ref (sx_ad X 0)), some (.int z1), some (.int x3), none, none]) (q := 40) hX dX12_isAsSeen_39 rfl (Nat.le_of_ble_eq_true rfl) rfl rfl rfl ?_
  refine sp_iconst (v := 0) (q := 41) hX dX12_isAsSeen_40 li_0 rfl ?_
  obtain ⟨x5, e6, hf⟩ := sp_pl_some hf
  refine sp_nmi e6 ?_
  refine sp_istore_n (i := 3) (lv' := [some (.ref (sx_ad X 0)), some (.int z1), some (.int x3), some (.int x5), none]) (q := 42) hX dX12_isAsSeen_41 rfl (Nat.le_of_ble_eq_true rfl) rfl rfl rfl ?_
  exact hX12_isAsSeen_42 hX hR n σ2 z1 x3 x5 hf
set_option maxRecDepth 100000 in
set_option maxHeartbeats 4000000 in
theorem hX12_isAsSeen_4 {X : sp_X} (hX : sp_OK shM X cX12_isAsSeen RX12 5 rmX12_isAsSeen) {τ : sp_St} {r : Int32} (hR : sp_Ri shM X (some .boolean) τ r 0 0) {n : Nat}    : ∀ (f : Nat) (σ : sp_St) (z1 : Int32) (z2 : Int32), X12_isAsSeen_4 n f σ z1 z2 = some (τ, r) → sp_GG shM X σ 5 [some (.ref (sx_ad X 0)), some (.int z1), some (.int z2), none, none] [] 4 0 0 := by
  intro f
  induction f with
  | zero =>
    intro σ z1 z2 hf
    rw [X12_isAsSeen_4] at hf
    cases hf
  | succ f ih =>
    intro σ z1 z2 hf
    rw [X12_isAsSeen_4] at hf
    refine sp_iload_n (i := 2) (q := 5) hX dX12_isAsSeen_4 rfl rfl rfl ?_
    refine sp_aload_n (i := 0) (q := 6) hX dX12_isAsSeen_5 rfl rfl rfl ?_
    refine sp_geti (q := 9) hX flX12_333 fkX12_36 atM_0 dX12_isAsSeen_6 rfl ?_
    refine sp_icmp_ge (tgt := 29) (q := 12) hX dX12_isAsSeen_9 (by decide) rfl (fun hc => ?_) (fun hc => ?_)
    · rw [if_pos hc] at hf
      refine sp_drop (lv' := [some (.ref (sx_ad X 0)), some (.int z1), none, none, none]) (And.intro rfl (And.intro rfl trivial)) ?_
      exact hX12_isAsSeen_29 hX hR hf
    · rw [if_neg hc] at hf
      refine sp_iload_n (i := 1) (q := 13) hX dX12_isAsSeen_12 rfl rfl rfl ?_
      refine sp_aload_n (i := 0) (q := 14) hX dX12_isAsSeen_13 rfl rfl rfl ?_
      refine sp_gets (t := 30) (q := 17) hX flX12_119 fkX12_46 atM_0 srM_0_46 dX12_isAsSeen_14 rfl ?_
      refine sp_iload_n (i := 2) (q := 18) hX dX12_isAsSeen_17 rfl rfl rfl ?_
      obtain ⟨h1, hf⟩ := sp_ck_some hf
      refine sp_iald (q := 19) hX arM_30 h1 dX12_isAsSeen_18 rfl ?_
      obtain ⟨v2, e3, hf⟩ := sp_pl_some hf
      refine sp_mmax (q := 22) hX wd_1991 wd_656 wd_144 wd_657 (Nat.le_of_ble_eq_true rfl) (Nat.le_of_ble_eq_true rfl) (Nat.le_of_ble_eq_true rfl) (Nat.le_of_ble_eq_true rfl) dX12_isAsSeen_19 rfl ?_
      refine sp_nmi e3 ?_
      refine sp_istore_n (i := 1) (lv' := [some (.ref (sx_ad X 0)), some (.int v2), some (.int z2), none, none]) (q := 23) hX dX12_isAsSeen_22 rfl (Nat.le_of_ble_eq_true rfl) rfl rfl rfl ?_
      obtain ⟨x4, e5, hf⟩ := sp_pl_some hf
      refine sp_iinc (i := 2) (v := x4) (lv' := [some (.ref (sx_ad X 0)), some (.int v2), some (.int x4), none, none]) (q := 26) hX dX12_isAsSeen_23 rfl (by rw [e5, li_1]) (Nat.le_of_ble_eq_true rfl) rfl rfl rfl ?_
      refine sp_goto (tgt := 4) hX dX12_isAsSeen_26 (by decide) ?_
      exact ih σ v2 x4 hf
set_option maxRecDepth 100000 in
set_option maxHeartbeats 4000000 in
theorem hX12_isAsSeen {X : sp_X} (hX : sp_OK shM X cX12_isAsSeen RX12 5 rmX12_isAsSeen) {τ : sp_St} {r : Int32} (hR : sp_Ri shM X (some .boolean) τ r 0 0) {n : Nat}  {σ : sp_St}   (hf : X12_isAsSeen n σ = some (τ, r)) : sp_GG shM X σ 5 [some (.ref (sx_ad X 0)), none, none, none, none] [] 0 0 0 := by
  unfold X12_isAsSeen at hf
  refine sp_iconst (v := -1) (q := 1) hX dX12_isAsSeen_0 li_m1 rfl ?_
  obtain ⟨x1, e2, hf⟩ := sp_pl_some hf
  refine sp_nmi e2 ?_
  refine sp_istore_n (i := 1) (lv' := [some (.ref (sx_ad X 0)), some (.int x1), none, none, none]) (q := 2) hX dX12_isAsSeen_1 rfl (Nat.le_of_ble_eq_true rfl) rfl rfl rfl ?_
  refine sp_iconst (v := 0) (q := 3) hX dX12_isAsSeen_2 li_0 rfl ?_
  obtain ⟨x3, e4, hf⟩ := sp_pl_some hf
  refine sp_nmi e4 ?_
  refine sp_istore_n (i := 2) (lv' := [some (.ref (sx_ad X 0)), some (.int x1), some (.int x3), none, none]) (q := 4) hX dX12_isAsSeen_3 rfl (Nat.le_of_ble_eq_true rfl) rfl rfl rfl ?_
  exact hX12_isAsSeen_4 hX hR n σ x1 x3 hf
set_option maxRecDepth 100000 in
set_option maxHeartbeats 4000000 in
theorem cnX12_isAsSeen {l : Launch} (hst : l.stackTraces = false) {w : sp_Wd} {n : Nat}  {σ : sp_St}  {τ : sp_St} {r : Int32}  (hf : X12_isAsSeen n σ = some (τ, r)) : sp_Ci shM l w yX12_isAsSeen cX12_isAsSeen 5 (some .boolean) rmX12_isAsSeen 0 0 σ [.ref (w.2.1 0)] τ r :=
  sp_ci (own := RX12) (by decide) rfl hst (Nat.le_of_ble_eq_true rfl) rfl (fun X hX hw hl hR => by subst hw; subst hl; exact hX12_isAsSeen hX hR   hf)
def rmX12_tellFits : Room := { frames := 7, cells := 0, slots := 0, locals := 156 }
def X12_tellFits_85 (n : Nat) (k7 : sp_St → Int32 → Option (sp_St)) (σ : sp_St) (z1 : Int32) (z2 : Int32) : Option (sp_St) :=
  sp_ck (sp_in z1 10) <|
  sp_pl (sp_sa σ 14 z1.toNatClampNeg z2) fun σ2 =>
  sp_pl (z1 + 1) fun x4 =>
  k7 σ2 x4
def X12_tellFits_79 (n : Nat) (k7 : sp_St → Int32 → Option (sp_St)) (k26 : sp_St → Int32 → Int32 → Int32 → Option (sp_St)) (σ : sp_St) (z1 : Int32) (z2 : Int32) (z3 : Int32) : Option (sp_St) :=
  sp_pl (z3 + 1) fun x1 =>
  k26 σ z1 z2 x1
def X12_tellFits_26 (n : Nat) (k7 : sp_St → Int32 → Option (sp_St)) : Nat → sp_St → Int32 → Int32 → Int32 → Option (sp_St)
  | 0, _, _, _, _ => none
  | f + 1, σ, z1, z2, z3 =>
    if ((99 : Int32)) < z3 then
      X12_tellFits_85 n k7 σ z1 z2
    else
      sp_ck (sp_in z1 10) <|
      sp_pl (sp_sa σ 14 z1.toNatClampNeg z3) fun σ2 =>
      if z3 = z2 then
        X12_tellFits_79 n k7 (X12_tellFits_26 n k7 f) σ2 z1 z2 z3
      else
        sp_bd (X12_isAsSeen n σ2) fun σ5 v6 =>
        if v6 = 0 then
          X12_tellFits_79 n k7 (X12_tellFits_26 n k7 f) σ5 z1 z2 z3
        else
          sp_ck (sp_in (σ5.1 0 51) 1000) <|
          sp_pl (sp_sa σ5 33 (σ5.1 0 51).toNatClampNeg ((((100 : Int32)) * z1) + z3)) fun σ8 =>
          sp_pl (sp_si σ8 0 51 ((σ8.1 0 51) + ((1 : Int32)))) fun σ10 =>
          X12_tellFits_79 n k7 (X12_tellFits_26 n k7 f) σ10 z1 z2 z3
def X12_tellFits_7 (n : Nat) : Nat → sp_St → Int32 → Option (sp_St)
  | 0, _, _ => none
  | f + 1, σ, z1 =>
    if (sp_g σ 3 ((2 : Int32))) ≤ z1 then
      some σ
    else
      sp_ck (sp_in z1 10) <|
      sp_pl (sp_g σ 14 z1) fun x2 =>
      sp_pl ((0 : Int32)) fun x4 =>
      X12_tellFits_26 n (X12_tellFits_7 n f) n σ z1 x2 x4
def X12_tellFits (n : Nat)  (σ : sp_St)  : Option (sp_St) :=
  sp_pl (sp_si σ 0 51 ((0 : Int32))) fun σ1 =>
  sp_pl ((0 : Int32)) fun x3 =>
  X12_tellFits_7 n n σ1 x3
set_option maxRecDepth 100000 in
set_option maxHeartbeats 4000000 in
theorem hX12_tellFits_85 {X : sp_X} (hX : sp_OK shM X cX12_tellFits RX12 4 rmX12_tellFits) {τ : sp_St} (hR : sp_Rv shM X τ 0 0) {n : Nat}   {k7 : sp_St → Int32 → Option (sp_St)} (hk7 : ∀ (σ : sp_St) (z1 : Int32), k7 σ z1 = some τ → sp_GG shM X σ 4 [some (.ref (sx_ad X 0)), some (.int z1), none, none] [] 7 0 0) {σ : sp_St} {z1 : Int32} {z2 : Int32} (hf : X12_tellFits_85 n k7 σ z1 z2 = some τ) : sp_GG shM X σ 4 [some (.ref (sx_ad X 0)), some (.int z1), some (.int z2), none] [] 85 0 0 := by
  unfold X12_tellFits_85 at hf
  refine sp_aload_n (i := 0) (q := 86) hX dX12_tellFits_85 rfl rfl rfl ?_
  refine sp_gets (t := 14) (q := 89) hX flX12_70 fkX12_26 atM_0 srM_0_26 dX12_tellFits_86 rfl ?_
  refine sp_iload_n (i := 1) (q := 90) hX dX12_tellFits_89 rfl rfl rfl ?_
  refine sp_iload_n (i := 2) (q := 91) hX dX12_tellFits_90 rfl rfl rfl ?_
  obtain ⟨h1, hf⟩ := sp_ck_some hf
  obtain ⟨σ2, e3, hf⟩ := sp_pl_some hf
  refine sp_iast (q := 92) hX arM_14 h1 dX12_tellFits_91 rfl ?_
  refine sp_nms e3 ?_
  obtain ⟨x4, e5, hf⟩ := sp_pl_some hf
  refine sp_iinc (i := 1) (v := x4) (lv' := [some (.ref (sx_ad X 0)), some (.int x4), some (.int z2), none]) (q := 95) hX dX12_tellFits_92 rfl (by rw [e5, li_1]) (Nat.le_of_ble_eq_true rfl) rfl rfl rfl ?_
  refine sp_goto (tgt := 7) hX dX12_tellFits_95 (by decide) ?_
  refine sp_drop (lv' := [some (.ref (sx_ad X 0)), some (.int x4), none, none]) (And.intro rfl (And.intro rfl trivial)) ?_
  exact hk7 σ2 x4 hf
set_option maxRecDepth 100000 in
set_option maxHeartbeats 4000000 in
theorem hX12_tellFits_79 {X : sp_X} (hX : sp_OK shM X cX12_tellFits RX12 4 rmX12_tellFits) {τ : sp_St} (hR : sp_Rv shM X τ 0 0) {n : Nat}   {k7 : sp_St → Int32 → Option (sp_St)} (hk7 : ∀ (σ : sp_St) (z1 : Int32), k7 σ z1 = some τ → sp_GG shM X σ 4 [some (.ref (sx_ad X 0)), some (.int z1), none, none] [] 7 0 0) {k26 : sp_St → Int32 → Int32 → Int32 → Option (sp_St)} (hk26 : ∀ (σ : sp_St) (z1 : Int32) (z2 : Int32) (z3 : Int32), k26 σ z1 z2 z3 = some τ → sp_GG shM X σ 4 [some (.ref (sx_ad X 0)), some (.int z1), some (.int z2), some (.int z3)] [] 26 0 0) {σ : sp_St} {z1 : Int32} {z2 : Int32} {z3 : Int32} (hf : X12_tellFits_79 n k7 k26 σ z1 z2 z3 = some τ) : sp_GG shM X σ 4 [some (.ref (sx_ad X 0)), some (.int z1), some (.int z2), some (.int z3)] [] 79 0 0 := by
  unfold X12_tellFits_79 at hf
  obtain ⟨x1, e2, hf⟩ := sp_pl_some hf
  refine sp_iinc (i := 3) (v := x1) (lv' := [some (.ref (sx_ad X 0)), some (.int z1), some (.int z2), some (.int x1)]) (q := 82) hX dX12_tellFits_79 rfl (by rw [e2, li_1]) (Nat.le_of_ble_eq_true rfl) rfl rfl rfl ?_
  refine sp_goto (tgt := 26) hX dX12_tellFits_82 (by decide) ?_
  exact hk26 σ z1 z2 x1 hf
set_option maxRecDepth 100000 in
set_option maxHeartbeats 4000000 in
theorem hX12_tellFits_26 {X : sp_X} (hX : sp_OK shM X cX12_tellFits RX12 4 rmX12_tellFits) {τ : sp_St} (hR : sp_Rv shM X τ 0 0) {n : Nat}   {k7 : sp_St → Int32 → Option (sp_St)} (hk7 : ∀ (σ : sp_St) (z1 : Int32), k7 σ z1 = some τ → sp_GG shM X σ 4 [some (.ref (sx_ad X 0)), some (.int z1), none, none] [] 7 0 0) : ∀ (f : Nat) (σ : sp_St) (z1 : Int32) (z2 : Int32) (z3 : Int32), X12_tellFits_26 n k7 f σ z1 z2 z3 = some τ → sp_GG shM X σ 4 [some (.ref (sx_ad X 0)), some (.int z1), some (.int z2), some (.int z3)] [] 26 0 0 := by
  intro f
  induction f with
  | zero =>
    intro σ z1 z2 z3 hf
    rw [X12_tellFits_26] at hf
    cases hf
  | succ f ih =>
    intro σ z1 z2 z3 hf
    rw [X12_tellFits_26] at hf
    refine sp_iload_n (i := 3) (q := 27) hX dX12_tellFits_26 rfl rfl rfl ?_
    refine sp_bipush (v := 99) (q := 29) hX dX12_tellFits_27 lb_99 rfl ?_
    refine sp_icmp_gt (tgt := 85) (q := 32) hX dX12_tellFits_29 (by decide) rfl (fun hc => ?_) (fun hc => ?_)
    · rw [if_pos hc] at hf
      refine sp_drop (lv' := [some (.ref (sx_ad X 0)), some (.int z1), some (.int z2), none]) (And.intro rfl (And.intro rfl (And.intro rfl trivial))) ?_
      exact hX12_tellFits_85 hX hR hk7 hf
    · rw [if_neg hc] at hf
      refine sp_aload_n (i := 0) (q := 33) hX dX12_tellFits_32 rfl rfl rfl ?_
      refine sp_gets (t := 14) (q := 36) hX flX12_70 fkX12_26 atM_0 srM_0_26 dX12_tellFits_33 rfl ?_
      refine sp_iload_n (i := 1) (q := 37) hX dX12_tellFits_36 rfl rfl rfl ?_
      refine sp_iload_n (i := 3) (q := 38) hX dX12_tellFits_37 rfl rfl rfl ?_
      obtain ⟨h1, hf⟩ := sp_ck_some hf
      obtain ⟨σ2, e3, hf⟩ := sp_pl_some hf
      refine sp_iast (q := 39) hX arM_14 h1 dX12_tellFits_38 rfl ?_
      refine sp_nms e3 ?_
      refine sp_iload_n (i := 3) (q := 40) hX dX12_tellFits_39 rfl rfl rfl ?_
      refine sp_iload_n (i := 2) (q := 41) hX dX12_tellFits_40 rfl rfl rfl ?_
      refine sp_icmp_eq (tgt := 79) (q := 44) hX dX12_tellFits_41 (by decide) rfl (fun hc => ?_) (fun hc => ?_)
      · rw [if_pos hc] at hf
        exact hX12_tellFits_79 hX hR hk7 ih hf
      · rw [if_neg hc] at hf
        refine sp_aload_n (i := 0) (q := 45) hX dX12_tellFits_44 rfl rfl rfl ?_
        obtain ⟨σ5, v6, h4, hf⟩ := sp_bd_so hf
        refine sp_callVi (As := []) (rest := []) (q := 48) hX (cnX12_isAsSeen (sp_st hX)  h4) cwX12_464 atM_0 rfl rfl rfl rfl rfl (Nat.le_of_ble_eq_true rfl) (Nat.le_of_ble_eq_true rfl) (Nat.le_of_ble_eq_true rfl) (Nat.le_of_ble_eq_true rfl) (Nat.le_of_ble_eq_true rfl) dX12_tellFits_45 rfl ?_
        refine sp_if_ne (tgt := 54) (q := 51) hX dX12_tellFits_48 (by decide) rfl (fun hc => ?_) (fun hc => ?_)
        · rw [if_neg hc] at hf
          refine sp_aload_n (i := 0) (q := 55) hX dX12_tellFits_54 rfl rfl rfl ?_
          refine sp_gets (t := 33) (q := 58) hX flX12_128 fkX12_49 atM_0 srM_0_49 dX12_tellFits_55 rfl ?_
          refine sp_aload_n (i := 0) (q := 59) hX dX12_tellFits_58 rfl rfl rfl ?_
          refine sp_geti (q := 62) hX flX12_461 fkX12_51 atM_0 dX12_tellFits_59 rfl ?_
          refine sp_bipush (v := 100) (q := 64) hX dX12_tellFits_62 lb_100 rfl ?_
          refine sp_iload_n (i := 1) (q := 65) hX dX12_tellFits_64 rfl rfl rfl ?_
          refine sp_imul (q := 66) hX dX12_tellFits_65 rfl ?_
          refine sp_iload_n (i := 3) (q := 67) hX dX12_tellFits_66 rfl rfl rfl ?_
          refine sp_iadd (q := 68) hX dX12_tellFits_67 rfl ?_
          obtain ⟨h7, hf⟩ := sp_ck_some hf
          obtain ⟨σ8, e9, hf⟩ := sp_pl_some hf
          refine sp_iast (q := 69) hX arM_33 h7 dX12_tellFits_68 rfl ?_
          refine sp_nms e9 ?_
          refine sp_aload_n (i := 0) (q := 70) hX dX12_tellFits_69 rfl rfl rfl ?_
          refine sp_dup (q := 71) hX dX12_tellFits_70 rfl rfl ?_
          refine sp_geti (q := 74) hX flX12_461 fkX12_51 atM_0 dX12_tellFits_71 rfl ?_
          refine sp_iconst (v := 1) (q := 75) hX dX12_tellFits_74 li_1 rfl ?_
          refine sp_iadd (q := 76) hX dX12_tellFits_75 rfl ?_
          obtain ⟨σ10, e11, hf⟩ := sp_pl_some hf
          refine sp_puti (q := 79) hX fpX12_461 fkX12_51 atM_0 dX12_tellFits_76 rfl ?_
          refine sp_nms e11 ?_
          exact hX12_tellFits_79 hX hR hk7 ih hf
        · rw [if_pos hc] at hf
          refine sp_goto (tgt := 79) hX dX12_tellFits_51 (by decide) ?_
          exact hX12_tellFits_79 hX hR hk7 ih hf
set_option maxRecDepth 100000 in
set_option maxHeartbeats 4000000 in
theorem hX12_tellFits_7 {X : sp_X} (hX : sp_OK shM X cX12_tellFits RX12 4 rmX12_tellFits) {τ : sp_St} (hR : sp_Rv shM X τ 0 0) {n : Nat}    : ∀ (f : Nat) (σ : sp_St) (z1 : Int32), X12_tellFits_7 n f σ z1 = some τ → sp_GG shM X σ 4 [some (.ref (sx_ad X 0)), some (.int z1), none, none] [] 7 0 0 := by
  intro f
  induction f with
  | zero =>
    intro σ z1 hf
    rw [X12_tellFits_7] at hf
    cases hf
  | succ f ih =>
    intro σ z1 hf
    rw [X12_tellFits_7] at hf
    refine sp_iload_n (i := 1) (q := 8) hX dX12_tellFits_7 rfl rfl rfl ?_
    refine sp_aload_n (i := 0) (q := 9) hX dX12_tellFits_8 rfl rfl rfl ?_
    refine sp_gets (t := 3) (q := 12) hX flX12_33 fkX12_4 atM_0 srM_0_4 dX12_tellFits_9 rfl ?_
    refine sp_iconst (v := 2) (q := 13) hX dX12_tellFits_12 li_2 rfl ?_
    refine sp_iald (q := 14) hX arM_3 (by decide) dX12_tellFits_13 rfl ?_
    refine sp_icmp_ge (tgt := 98) (q := 17) hX dX12_tellFits_14 (by decide) rfl (fun hc => ?_) (fun hc => ?_)
    · rw [if_pos hc] at hf
      exact sp_vret hX hR dX12_tellFits_98 hf (Nat.le_of_ble_eq_true rfl) (Nat.le_of_ble_eq_true rfl)
    · rw [if_neg hc] at hf
      refine sp_aload_n (i := 0) (q := 18) hX dX12_tellFits_17 rfl rfl rfl ?_
      refine sp_gets (t := 14) (q := 21) hX flX12_70 fkX12_26 atM_0 srM_0_26 dX12_tellFits_18 rfl ?_
      refine sp_iload_n (i := 1) (q := 22) hX dX12_tellFits_21 rfl rfl rfl ?_
      obtain ⟨h1, hf⟩ := sp_ck_some hf
      refine sp_iald (q := 23) hX arM_14 h1 dX12_tellFits_22 rfl ?_
      obtain ⟨x2, e3, hf⟩ := sp_pl_some hf
      refine sp_nmi e3 ?_
      refine sp_istore_n (i := 2) (lv' := [some (.ref (sx_ad X 0)), some (.int z1), some (.int x2), none]) (q := 24) hX dX12_tellFits_23 rfl (Nat.le_of_ble_eq_true rfl) rfl rfl rfl ?_
      refine sp_iconst (v := 0) (q := 25) hX dX12_tellFits_24 li_0 rfl ?_
      obtain ⟨x4, e5, hf⟩ := sp_pl_some hf
      refine sp_nmi e5 ?_
      refine sp_istore_n (i := 3) (lv' := [some (.ref (sx_ad X 0)), some (.int z1), some (.int x2), some (.int x4)]) (q := 26) hX dX12_tellFits_25 rfl (Nat.le_of_ble_eq_true rfl) rfl rfl rfl ?_
      exact hX12_tellFits_26 hX hR ih n σ z1 x2 x4 hf
set_option maxRecDepth 100000 in
set_option maxHeartbeats 4000000 in
theorem hX12_tellFits {X : sp_X} (hX : sp_OK shM X cX12_tellFits RX12 4 rmX12_tellFits) {τ : sp_St} (hR : sp_Rv shM X τ 0 0) {n : Nat}  {σ : sp_St}   (hf : X12_tellFits n σ = some τ) : sp_GG shM X σ 4 [some (.ref (sx_ad X 0)), none, none, none] [] 0 0 0 := by
  unfold X12_tellFits at hf
  refine sp_aload_n (i := 0) (q := 1) hX dX12_tellFits_0 rfl rfl rfl ?_
  refine sp_iconst (v := 0) (q := 2) hX dX12_tellFits_1 li_0 rfl ?_
  obtain ⟨σ1, e2, hf⟩ := sp_pl_some hf
  refine sp_puti (q := 5) hX fpX12_461 fkX12_51 atM_0 dX12_tellFits_2 rfl ?_
  refine sp_nms e2 ?_
  refine sp_iconst (v := 0) (q := 6) hX dX12_tellFits_5 li_0 rfl ?_
  obtain ⟨x3, e4, hf⟩ := sp_pl_some hf
  refine sp_nmi e4 ?_
  refine sp_istore_n (i := 1) (lv' := [some (.ref (sx_ad X 0)), some (.int x3), none, none]) (q := 7) hX dX12_tellFits_6 rfl (Nat.le_of_ble_eq_true rfl) rfl rfl rfl ?_
  exact hX12_tellFits_7 hX hR n σ1 x3 hf
set_option maxRecDepth 100000 in
set_option maxHeartbeats 4000000 in
theorem cnX12_tellFits {l : Launch} (hst : l.stackTraces = false) {w : sp_Wd} {n : Nat}  {σ : sp_St}  {τ : sp_St}  (hf : X12_tellFits n σ = some τ) : sp_Cv shM l w yX12_tellFits cX12_tellFits 4 rmX12_tellFits 0 0 σ [.ref (w.2.1 0)] τ :=
  sp_cv (own := RX12) (by decide) rfl hst (Nat.le_of_ble_eq_true rfl) rfl (fun X hX hw hl hR => by subst hw; subst hl; exact hX12_tellFits hX hR   hf)
def rmX12_wrong : Room := { frames := 8, cells := 0, slots := 0, locals := 179 }
def X12_wrong_73 (n : Nat) (σ : sp_St) (zs0 : Int32) : Option (sp_St × Int32) :=
  some (σ, zs0)
def X12_wrong (n : Nat)  (σ : sp_St) (a1 : Int32) : Option (sp_St × Int32) :=
  sp_pl (sp_si σ 0 3 ((0 : Int32))) fun σ1 =>
  sp_bd (X12_isIn n σ1 a1.toInt64 ((0 : Int64)) ((2 : Int64))) fun σ4 v5 =>
  if v5 = 0 then
    sp_bd (X12_fail n σ4 ((1 : Int32))) fun σ15 v16 =>
    some (σ15, v16)
  else
    if a1 = ((2 : Int32)) then
      sp_bd (X12_isAsSeen n σ4) fun σ9 v10 =>
      sp_pl (if v10 = 0 then ((0 : Int32)) else ((1 : Int32))) fun v11 =>
      some (σ9, v11)
    else
      sp_bv (X12_tellFits n σ4) fun σ7 =>
      if a1 = 0 then
        X12_wrong_73 n σ7 (σ7.1 0 51)
      else
        if (σ7.1 0 51) = 0 then
          X12_wrong_73 n σ7 ((-1 : Int32))
        else
          X12_wrong_73 n σ7 (sp_g σ7 33 ((0 : Int32)))
set_option maxRecDepth 100000 in
set_option maxHeartbeats 4000000 in
theorem hX12_wrong_73 {X : sp_X} (hX : sp_OK shM X cX12_wrong RX12 2 rmX12_wrong) {τ : sp_St} {r : Int32} (hR : sp_Ri shM X (some .int) τ r 0 0) {n : Nat}    {σ : sp_St} {zs0 : Int32} (hf : X12_wrong_73 n σ zs0 = some (τ, r)) : sp_GG shM X σ 2 [none, none] [.int zs0] 73 0 0 := by
  unfold X12_wrong_73 at hf
  exact sp_iret hX hR dX12_wrong_73 hf (Nat.le_of_ble_eq_true rfl) (Nat.le_of_ble_eq_true rfl)
set_option maxRecDepth 100000 in
set_option maxHeartbeats 4000000 in
theorem hX12_wrong {X : sp_X} (hX : sp_OK shM X cX12_wrong RX12 2 rmX12_wrong) {τ : sp_St} {r : Int32} (hR : sp_Ri shM X (some .int) τ r 0 0) {n : Nat}  {σ : sp_St} {a1 : Int32}  (hf : X12_wrong n σ a1 = some (τ, r)) : sp_GG shM X σ 2 [some (.ref (sx_ad X 0)), some (.int a1)] [] 0 0 0 := by
  unfold X12_wrong at hf
  refine sp_aload_n (i := 0) (q := 1) hX dX12_wrong_0 rfl rfl rfl ?_
  refine sp_iconst (v := 0) (q := 2) hX dX12_wrong_1 li_0 rfl ?_
  obtain ⟨σ1, e2, hf⟩ := sp_pl_some hf
  refine sp_puti (q := 5) hX fpX12_158 fkX12_3 atM_0 dX12_wrong_2 rfl ?_
  refine sp_nms e2 ?_
  refine sp_iload_n (i := 1) (q := 6) hX dX12_wrong_5 rfl rfl rfl ?_
  refine sp_i2l (q := 7) hX dX12_wrong_6 rfl ?_
  refine sp_lconst (v := 0) (q := 8) hX dX12_wrong_7 (by decide) rfl ?_
  refine sp_ldc2 (v := 2) (q := 11) hX wd_2201 dX12_wrong_8 rfl ?_
  obtain ⟨σ4, v5, h3, hf⟩ := sp_bd_so hf
  refine sp_callSi (As := [.long a1.toInt64, .long ((0 : Int64)), .long ((2 : Int64))]) (rest := []) (q := 14) hX (cnX12_isIn (sp_st hX)  h3) cwX12_161 rfl rfl rfl rfl (Nat.le_of_ble_eq_true rfl) (Nat.le_of_ble_eq_true rfl) (Nat.le_of_ble_eq_true rfl) (Nat.le_of_ble_eq_true rfl) (Nat.le_of_ble_eq_true rfl) dX12_wrong_11 rfl ?_
  refine sp_if_ne (tgt := 23) (q := 17) hX dX12_wrong_14 (by decide) rfl (fun hc => ?_) (fun hc => ?_)
  · rw [if_neg hc] at hf
    refine sp_iload_n (i := 1) (q := 24) hX dX12_wrong_23 rfl rfl rfl ?_
    refine sp_iconst (v := 2) (q := 25) hX dX12_wrong_24 li_2 rfl ?_
    refine sp_icmp_ne (tgt := 41) (q := 28) hX dX12_wrong_25 (by decide) rfl (fun hc => ?_) (fun hc => ?_)
    · rw [if_neg hc] at hf
      refine sp_aload_n (i := 0) (q := 42) hX dX12_wrong_41 rfl rfl rfl ?_
      obtain ⟨σ7, h6, hf⟩ := sp_bv_so hf
      refine sp_callVv (As := []) (rest := []) (q := 45) hX (cnX12_tellFits (sp_st hX)  h6) cwX12_470 atM_0 rfl rfl rfl rfl rfl (Nat.le_of_ble_eq_true rfl) (Nat.le_of_ble_eq_true rfl) (Nat.le_of_ble_eq_true rfl) (Nat.le_of_ble_eq_true rfl) (Nat.le_of_ble_eq_true rfl) dX12_wrong_42 rfl ?_
      refine sp_iload_n (i := 1) (q := 46) hX dX12_wrong_45 rfl rfl rfl ?_
      refine sp_if_ne (tgt := 56) (q := 49) hX dX12_wrong_46 (by decide) rfl (fun hc => ?_) (fun hc => ?_)
      · rw [if_neg hc] at hf
        refine sp_aload_n (i := 0) (q := 57) hX dX12_wrong_56 rfl rfl rfl ?_
        refine sp_geti (q := 60) hX flX12_461 fkX12_51 atM_0 dX12_wrong_57 rfl ?_
        refine sp_if_ne (tgt := 67) (q := 63) hX dX12_wrong_60 (by decide) rfl (fun hc => ?_) (fun hc => ?_)
        · rw [if_neg hc] at hf
          refine sp_aload_n (i := 0) (q := 68) hX dX12_wrong_67 rfl rfl rfl ?_
          refine sp_gets (t := 33) (q := 71) hX flX12_128 fkX12_49 atM_0 srM_0_49 dX12_wrong_68 rfl ?_
          refine sp_iconst (v := 0) (q := 72) hX dX12_wrong_71 li_0 rfl ?_
          refine sp_iald (q := 73) hX arM_33 (by decide) dX12_wrong_72 rfl ?_
          refine sp_drop (lv' := [none, none]) trivial ?_
          exact hX12_wrong_73 hX hR hf
        · rw [if_pos hc] at hf
          refine sp_iconst (v := -1) (q := 64) hX dX12_wrong_63 li_m1 rfl ?_
          refine sp_goto (tgt := 73) hX dX12_wrong_64 (by decide) ?_
          refine sp_drop (lv' := [none, none]) trivial ?_
          exact hX12_wrong_73 hX hR hf
      · rw [if_pos hc] at hf
        refine sp_aload_n (i := 0) (q := 50) hX dX12_wrong_49 rfl rfl rfl ?_
        refine sp_geti (q := 53) hX flX12_461 fkX12_51 atM_0 dX12_wrong_50 rfl ?_
        refine sp_goto (tgt := 73) hX dX12_wrong_53 (by decide) ?_
        refine sp_drop (lv' := [none, none]) trivial ?_
        exact hX12_wrong_73 hX hR hf
    · rw [if_pos hc] at hf
      refine sp_aload_n (i := 0) (q := 29) hX dX12_wrong_28 rfl rfl rfl ?_
      obtain ⟨σ9, v10, h8, hf⟩ := sp_bd_so hf
      refine sp_callVi (As := []) (rest := []) (q := 32) hX (cnX12_isAsSeen (sp_st hX)  h8) cwX12_464 atM_0 rfl rfl rfl rfl rfl (Nat.le_of_ble_eq_true rfl) (Nat.le_of_ble_eq_true rfl) (Nat.le_of_ble_eq_true rfl) (Nat.le_of_ble_eq_true rfl) (Nat.le_of_ble_eq_true rfl) dX12_wrong_29 rfl ?_
      obtain ⟨v11, e12, hf⟩ := sp_pl_some hf
      have hj13 : sp_GG shM X σ9 2 [some (.ref (sx_ad X 0)), some (.int a1)] [.int v11] 40 0 0 := by
        exact sp_iret hX hR dX12_wrong_40 hf (Nat.le_of_ble_eq_true rfl) (Nat.le_of_ble_eq_true rfl)
      refine sp_if_eq (tgt := 39) (q := 35) hX dX12_wrong_32 (by decide) rfl (fun hc => ?_) (fun hc => ?_)
      · refine sp_iconst (v := 0) (q := 40) hX dX12_wrong_39 li_0 rfl ?_
        exact sp_nmi (by rw [e12, if_pos hc]) hj13
      · refine sp_iconst (v := 1) (q := 36) hX dX12_wrong_35 li_1 rfl ?_
        refine sp_goto (tgt := 40) hX dX12_wrong_36 (by decide) ?_
        exact sp_nmi (by rw [e12, if_neg hc]) hj13
  · rw [if_pos hc] at hf
    refine sp_aload_n (i := 0) (q := 18) hX dX12_wrong_17 rfl rfl rfl ?_
    refine sp_iconst (v := 1) (q := 19) hX dX12_wrong_18 li_1 rfl ?_
    obtain ⟨σ15, v16, h14, hf⟩ := sp_bd_so hf
    refine sp_callVi (As := [.int ((1 : Int32))]) (rest := []) (q := 22) hX (cnX12_fail (sp_st hX)  h14) cwX12_312 atM_0 rfl rfl rfl rfl rfl (Nat.le_of_ble_eq_true rfl) (Nat.le_of_ble_eq_true rfl) (Nat.le_of_ble_eq_true rfl) (Nat.le_of_ble_eq_true rfl) (Nat.le_of_ble_eq_true rfl) dX12_wrong_19 rfl ?_
    exact sp_iret hX hR dX12_wrong_22 hf (Nat.le_of_ble_eq_true rfl) (Nat.le_of_ble_eq_true rfl)
set_option maxRecDepth 100000 in
set_option maxHeartbeats 4000000 in
theorem cnX12_wrong {l : Launch} (hst : l.stackTraces = false) {w : sp_Wd} {n : Nat}  {σ : sp_St} {a1 : Int32} {τ : sp_St} {r : Int32}  (hf : X12_wrong n σ a1 = some (τ, r)) : sp_Ci shM l w yX12_wrong cX12_wrong 2 (some .int) rmX12_wrong 0 0 σ [.ref (w.2.1 0), .int a1] τ r :=
  sp_ci (own := RX12) (by decide) rfl hst (Nat.le_of_ble_eq_true rfl) rfl (fun X hX hw hl hR => by subst hw; subst hl; exact hX12_wrong hX hR   hf)
def rmX12_unlike : Room := { frames := 0, cells := 0, slots := 0, locals := 0 }
def X12_unlike_78 (n : Nat) (σ : sp_St) (z2 : Int32) : Option (sp_St × Int32) :=
  some (σ, z2)
def X12_unlike_25 (n : Nat) : Nat → sp_St → Int32 → Int32 → Int32 → Option (sp_St × Int32)
  | 0, _, _, _, _ => none
  | f + 1, σ, z1, z2, z3 =>
    if (σ.1 0 51) ≤ z3 then
      X12_unlike_78 n σ z2
    else
      sp_ck (sp_in ((((10 : Int32)) * z3) + z1) 10000) <|
      sp_pl (sp_g σ 34 ((((10 : Int32)) * z3) + z1)) fun x2 =>
      sp_ck (sp_in x2 100) <|
      sp_pl (if (sp_g σ 35 x2) = 0 then ((1 : Int32)) else ((0 : Int32))) fun v5 =>
      sp_pl (z2 + v5) fun x7 =>
      sp_ck (sp_in x2 100) <|
      sp_pl (sp_sa σ 35 x2.toNatClampNeg ((1 : Int32))) fun σ10 =>
      sp_pl (z3 + 1) fun x12 =>
      X12_unlike_25 n f σ10 z1 x7 x12
def X12_unlike_21 (n : Nat) (σ : sp_St) (z1 : Int32) : Option (sp_St × Int32) :=
  sp_pl ((0 : Int32)) fun x1 =>
  sp_pl ((0 : Int32)) fun x3 =>
  X12_unlike_25 n n σ z1 x1 x3
def X12_unlike_2 (n : Nat) : Nat → sp_St → Int32 → Int32 → Option (sp_St × Int32)
  | 0, _, _, _ => none
  | f + 1, σ, z1, z2 =>
    if ((99 : Int32)) < z2 then
      X12_unlike_21 n σ z1
    else
      sp_ck (sp_in z2 100) <|
      sp_pl (sp_sa σ 35 z2.toNatClampNeg ((0 : Int32))) fun σ2 =>
      sp_pl (z2 + 1) fun x4 =>
      X12_unlike_2 n f σ2 z1 x4
def X12_unlike (n : Nat)  (σ : sp_St) (a1 : Int32) : Option (sp_St × Int32) :=
  sp_pl ((0 : Int32)) fun x1 =>
  X12_unlike_2 n n σ a1 x1
set_option maxRecDepth 100000 in
set_option maxHeartbeats 4000000 in
theorem hX12_unlike_78 {X : sp_X} (hX : sp_OK shM X cX12_unlike RX12 5 rmX12_unlike) {τ : sp_St} {r : Int32} (hR : sp_Ri shM X (some .int) τ r 0 0) {n : Nat}    {σ : sp_St} {z2 : Int32} (hf : X12_unlike_78 n σ z2 = some (τ, r)) : sp_GG shM X σ 5 [none, none, some (.int z2), none, none] [] 78 0 0 := by
  unfold X12_unlike_78 at hf
  refine sp_iload_n (i := 2) (q := 79) hX dX12_unlike_78 rfl rfl rfl ?_
  exact sp_iret hX hR dX12_unlike_79 hf (Nat.le_of_ble_eq_true rfl) (Nat.le_of_ble_eq_true rfl)
set_option maxRecDepth 100000 in
set_option maxHeartbeats 4000000 in
theorem hX12_unlike_25 {X : sp_X} (hX : sp_OK shM X cX12_unlike RX12 5 rmX12_unlike) {τ : sp_St} {r : Int32} (hR : sp_Ri shM X (some .int) τ r 0 0) {n : Nat}    : ∀ (f : Nat) (σ : sp_St) (z1 : Int32) (z2 : Int32) (z3 : Int32), X12_unlike_25 n f σ z1 z2 z3 = some (τ, r) → sp_GG shM X σ 5 [some (.ref (sx_ad X 0)), some (.int z1), some (.int z2), some (.int z3), none] [] 25 0 0 := by
  intro f
  induction f with
  | zero =>
    intro σ z1 z2 z3 hf
    rw [X12_unlike_25] at hf
    cases hf
  | succ f ih =>
    intro σ z1 z2 z3 hf
    rw [X12_unlike_25] at hf
    refine sp_iload_n (i := 3) (q := 26) hX dX12_unlike_25 rfl rfl rfl ?_
    refine sp_aload_n (i := 0) (q := 27) hX dX12_unlike_26 rfl rfl rfl ?_
    refine sp_geti (q := 30) hX flX12_461 fkX12_51 atM_0 dX12_unlike_27 rfl ?_
    refine sp_icmp_ge (tgt := 78) (q := 33) hX dX12_unlike_30 (by decide) rfl (fun hc => ?_) (fun hc => ?_)
    · rw [if_pos hc] at hf
      refine sp_drop (lv' := [none, none, some (.int z2), none, none]) (And.intro rfl trivial) ?_
      exact hX12_unlike_78 hX hR hf
    · rw [if_neg hc] at hf
      refine sp_aload_n (i := 0) (q := 34) hX dX12_unlike_33 rfl rfl rfl ?_
      refine sp_gets (t := 34) (q := 37) hX flX12_131 fkX12_50 atM_0 srM_0_50 dX12_unlike_34 rfl ?_
      refine sp_bipush (v := 10) (q := 39) hX dX12_unlike_37 lb_10 rfl ?_
      refine sp_iload_n (i := 3) (q := 40) hX dX12_unlike_39 rfl rfl rfl ?_
      refine sp_imul (q := 41) hX dX12_unlike_40 rfl ?_
      refine sp_iload_n (i := 1) (q := 42) hX dX12_unlike_41 rfl rfl rfl ?_
      refine sp_iadd (q := 43) hX dX12_unlike_42 rfl ?_
      obtain ⟨h1, hf⟩ := sp_ck_some hf
      refine sp_iald (q := 44) hX arM_34 h1 dX12_unlike_43 rfl ?_
      obtain ⟨x2, e3, hf⟩ := sp_pl_some hf
      refine sp_nmi e3 ?_
      refine sp_istore (i := 4) (lv' := [some (.ref (sx_ad X 0)), some (.int z1), some (.int z2), some (.int z3), some (.int x2)]) (q := 46) hX dX12_unlike_44 (Nat.le_of_ble_eq_true rfl) rfl rfl rfl ?_
      refine sp_iload_n (i := 2) (q := 47) hX dX12_unlike_46 rfl rfl rfl ?_
      refine sp_aload_n (i := 0) (q := 48) hX dX12_unlike_47 rfl rfl rfl ?_
      refine sp_gets (t := 35) (q := 51) hX flX12_134 fkX12_52 atM_0 srM_0_52 dX12_unlike_48 rfl ?_
      refine sp_iload (i := 4) (q := 53) hX dX12_unlike_51 rfl rfl ?_
      obtain ⟨h4, hf⟩ := sp_ck_some hf
      refine sp_zald (q := 54) hX arM_35 h4 dX12_unlike_53 rfl ?_
      obtain ⟨v5, e6, hf⟩ := sp_pl_some hf
      have hj14 : sp_GG shM X σ 5 [some (.ref (sx_ad X 0)), some (.int z1), some (.int z2), some (.int z3), some (.int x2)] [.int v5, .int z2] 62 0 0 := by
        refine sp_iadd (q := 63) hX dX12_unlike_62 rfl ?_
        obtain ⟨x7, e8, hf⟩ := sp_pl_some hf
        refine sp_nmi e8 ?_
        refine sp_istore_n (i := 2) (lv' := [some (.ref (sx_ad X 0)), some (.int z1), some (.int x7), some (.int z3), some (.int x2)]) (q := 64) hX dX12_unlike_63 rfl (Nat.le_of_ble_eq_true rfl) rfl rfl rfl ?_
        refine sp_aload_n (i := 0) (q := 65) hX dX12_unlike_64 rfl rfl rfl ?_
        refine sp_gets (t := 35) (q := 68) hX flX12_134 fkX12_52 atM_0 srM_0_52 dX12_unlike_65 rfl ?_
        refine sp_iload (i := 4) (q := 70) hX dX12_unlike_68 rfl rfl ?_
        refine sp_iconst (v := 1) (q := 71) hX dX12_unlike_70 li_1 rfl ?_
        obtain ⟨h9, hf⟩ := sp_ck_some hf
        obtain ⟨σ10, e11, hf⟩ := sp_pl_some hf
        refine sp_zast (q := 72) hX arM_35 h9 (by decide) dX12_unlike_71 rfl ?_
        refine sp_nms e11 ?_
        obtain ⟨x12, e13, hf⟩ := sp_pl_some hf
        refine sp_iinc (i := 3) (v := x12) (lv' := [some (.ref (sx_ad X 0)), some (.int z1), some (.int x7), some (.int x12), some (.int x2)]) (q := 75) hX dX12_unlike_72 rfl (by rw [e13, li_1]) (Nat.le_of_ble_eq_true rfl) rfl rfl rfl ?_
        refine sp_goto (tgt := 25) hX dX12_unlike_75 (by decide) ?_
        refine sp_drop (lv' := [some (.ref (sx_ad X 0)), some (.int z1), some (.int x7), some (.int x12), none]) (And.intro rfl (And.intro rfl (And.intro rfl (And.intro rfl trivial)))) ?_
        exact ih σ10 z1 x7 x12 hf
      refine sp_if_eq (tgt := 61) (q := 57) hX dX12_unlike_54 (by decide) rfl (fun hc => ?_) (fun hc => ?_)
      · refine sp_iconst (v := 1) (q := 62) hX dX12_unlike_61 li_1 rfl ?_
        exact sp_nmi (by rw [e6, if_pos hc]) hj14
      · refine sp_iconst (v := 0) (q := 58) hX dX12_unlike_57 li_0 rfl ?_
        refine sp_goto (tgt := 62) hX dX12_unlike_58 (by decide) ?_
        exact sp_nmi (by rw [e6, if_neg hc]) hj14
set_option maxRecDepth 100000 in
set_option maxHeartbeats 4000000 in
theorem hX12_unlike_21 {X : sp_X} (hX : sp_OK shM X cX12_unlike RX12 5 rmX12_unlike) {τ : sp_St} {r : Int32} (hR : sp_Ri shM X (some .int) τ r 0 0) {n : Nat}    {σ : sp_St} {z1 : Int32} (hf : X12_unlike_21 n σ z1 = some (τ, r)) : sp_GG shM X σ 5 [some (.ref (sx_ad X 0)), some (.int z1), none, none, none] [] 21 0 0 := by
  unfold X12_unlike_21 at hf
  refine sp_iconst (v := 0) (q := 22) hX dX12_unlike_21 li_0 rfl ?_
  obtain ⟨x1, e2, hf⟩ := sp_pl_some hf
  refine sp_nmi e2 ?_
  refine sp_istore_n (i := 2) (lv' := [some (.ref (sx_ad X 0)), some (.int z1), some (.int x1), none, none]) (q := 23) hX dX12_unlike_22 rfl (Nat.le_of_ble_eq_true rfl) rfl rfl rfl ?_
  refine sp_iconst (v := 0) (q := 24) hX dX12_unlike_23 li_0 rfl ?_
  obtain ⟨x3, e4, hf⟩ := sp_pl_some hf
  refine sp_nmi e4 ?_
  refine sp_istore_n (i := 3) (lv' := [some (.ref (sx_ad X 0)), some (.int z1), some (.int x1), some (.int x3), none]) (q := 25) hX dX12_unlike_24 rfl (Nat.le_of_ble_eq_true rfl) rfl rfl rfl ?_
  exact hX12_unlike_25 hX hR n σ z1 x1 x3 hf
set_option maxRecDepth 100000 in
set_option maxHeartbeats 4000000 in
theorem hX12_unlike_2 {X : sp_X} (hX : sp_OK shM X cX12_unlike RX12 5 rmX12_unlike) {τ : sp_St} {r : Int32} (hR : sp_Ri shM X (some .int) τ r 0 0) {n : Nat}    : ∀ (f : Nat) (σ : sp_St) (z1 : Int32) (z2 : Int32), X12_unlike_2 n f σ z1 z2 = some (τ, r) → sp_GG shM X σ 5 [some (.ref (sx_ad X 0)), some (.int z1), some (.int z2), none, none] [] 2 0 0 := by
  intro f
  induction f with
  | zero =>
    intro σ z1 z2 hf
    rw [X12_unlike_2] at hf
    cases hf
  | succ f ih =>
    intro σ z1 z2 hf
    rw [X12_unlike_2] at hf
    refine sp_iload_n (i := 2) (q := 3) hX dX12_unlike_2 rfl rfl rfl ?_
    refine sp_bipush (v := 99) (q := 5) hX dX12_unlike_3 lb_99 rfl ?_
    refine sp_icmp_gt (tgt := 21) (q := 8) hX dX12_unlike_5 (by decide) rfl (fun hc => ?_) (fun hc => ?_)
    · rw [if_pos hc] at hf
      refine sp_drop (lv' := [some (.ref (sx_ad X 0)), some (.int z1), none, none, none]) (And.intro rfl (And.intro rfl trivial)) ?_
      exact hX12_unlike_21 hX hR hf
    · rw [if_neg hc] at hf
      refine sp_aload_n (i := 0) (q := 9) hX dX12_unlike_8 rfl rfl rfl ?_
      refine sp_gets (t := 35) (q := 12) hX flX12_134 fkX12_52 atM_0 srM_0_52 dX12_unlike_9 rfl ?_
      refine sp_iload_n (i := 2) (q := 13) hX dX12_unlike_12 rfl rfl rfl ?_
      refine sp_iconst (v := 0) (q := 14) hX dX12_unlike_13 li_0 rfl ?_
      obtain ⟨h1, hf⟩ := sp_ck_some hf
      obtain ⟨σ2, e3, hf⟩ := sp_pl_some hf
      refine sp_zast (q := 15) hX arM_35 h1 (by decide) dX12_unlike_14 rfl ?_
      refine sp_nms e3 ?_
      obtain ⟨x4, e5, hf⟩ := sp_pl_some hf
      refine sp_iinc (i := 2) (v := x4) (lv' := [some (.ref (sx_ad X 0)), some (.int z1), some (.int x4), none, none]) (q := 18) hX dX12_unlike_15 rfl (by rw [e5, li_1]) (Nat.le_of_ble_eq_true rfl) rfl rfl rfl ?_
      refine sp_goto (tgt := 2) hX dX12_unlike_18 (by decide) ?_
      exact ih σ2 z1 x4 hf
set_option maxRecDepth 100000 in
set_option maxHeartbeats 4000000 in
theorem hX12_unlike {X : sp_X} (hX : sp_OK shM X cX12_unlike RX12 5 rmX12_unlike) {τ : sp_St} {r : Int32} (hR : sp_Ri shM X (some .int) τ r 0 0) {n : Nat}  {σ : sp_St} {a1 : Int32}  (hf : X12_unlike n σ a1 = some (τ, r)) : sp_GG shM X σ 5 [some (.ref (sx_ad X 0)), some (.int a1), none, none, none] [] 0 0 0 := by
  unfold X12_unlike at hf
  refine sp_iconst (v := 0) (q := 1) hX dX12_unlike_0 li_0 rfl ?_
  obtain ⟨x1, e2, hf⟩ := sp_pl_some hf
  refine sp_nmi e2 ?_
  refine sp_istore_n (i := 2) (lv' := [some (.ref (sx_ad X 0)), some (.int a1), some (.int x1), none, none]) (q := 2) hX dX12_unlike_1 rfl (Nat.le_of_ble_eq_true rfl) rfl rfl rfl ?_
  exact hX12_unlike_2 hX hR n σ a1 x1 hf
set_option maxRecDepth 100000 in
set_option maxHeartbeats 4000000 in
theorem cnX12_unlike {l : Launch} (hst : l.stackTraces = false) {w : sp_Wd} {n : Nat}  {σ : sp_St} {a1 : Int32} {τ : sp_St} {r : Int32}  (hf : X12_unlike n σ a1 = some (τ, r)) : sp_Ci shM l w yX12_unlike cX12_unlike 5 (some .int) rmX12_unlike 0 0 σ [.ref (w.2.1 0), .int a1] τ r :=
  sp_ci (own := RX12) (by decide) rfl hst (Nat.le_of_ble_eq_true rfl) rfl (fun X hX hw hl hR => by subst hw; subst hl; exact hX12_unlike hX hR   hf)
def rmX12_look : Room := { frames := 8, cells := 0, slots := 0, locals := 179 }
def X12_look_164 (n : Nat) (σ : sp_St) (z1 : Int32) (z2 : Int32) (z3 : Int32) : Option (sp_St × Int32) :=
  sp_pl (if z1 = 0 then z2 else z3) fun v1 =>
  some (σ, v1)
def X12_look_158 (n : Nat) (k124 : sp_St → Int32 → Int32 → Int32 → Int32 → Option (sp_St × Int32)) (σ : sp_St) (z1 : Int32) (z2 : Int32) (z3 : Int32) (z4 : Int32) : Option (sp_St × Int32) :=
  sp_pl (z4 + 1) fun x1 =>
  k124 σ z1 z2 z3 x1
def X12_look_124 (n : Nat) : Nat → sp_St → Int32 → Int32 → Int32 → Int32 → Option (sp_St × Int32)
  | 0, _, _, _, _, _ => none
  | f + 1, σ, z1, z2, z3, z4 =>
    if (sp_g σ 3 ((2 : Int32))) ≤ z4 then
      X12_look_164 n σ z1 z2 z3
    else
      sp_bd (X12_unlike n σ z4) fun σ2 v3 =>
      if z3 < v3 then
        X12_look_158 n (X12_look_124 n f) σ2 z1 z4 v3 z4
      else
        X12_look_158 n (X12_look_124 n f) σ2 z1 z2 z3 z4
def X12_look_117 (n : Nat) (σ : sp_St) (z1 : Int32) : Option (sp_St × Int32) :=
  sp_pl ((-1 : Int32)) fun x1 =>
  sp_pl ((0 : Int32)) fun x3 =>
  sp_pl ((0 : Int32)) fun x5 =>
  X12_look_124 n n σ z1 x1 x3 x5
def X12_look_102 (n : Nat) (k35 : sp_St → Int32 → Int32 → Option (sp_St × Int32)) (σ : sp_St) (z1 : Int32) (z2 : Int32) : Option (sp_St × Int32) :=
  sp_bv (X12_unpack n σ 25 88 ((0 : Int32))) fun σ2 =>
  sp_pl (z2 + 1) fun x3 =>
  k35 σ2 z1 x3
def X12_look_73 (n : Nat) (k35 : sp_St → Int32 → Int32 → Option (sp_St × Int32)) : Nat → sp_St → Int32 → Int32 → Int32 → Option (sp_St × Int32)
  | 0, _, _, _, _ => none
  | f + 1, σ, z1, z2, z3 =>
    if ((10 : Int32)) ≤ z3 then
      X12_look_102 n k35 σ z1 z2
    else
      sp_ck (sp_in z3 10) <|
      sp_ck (sp_in ((((10 : Int32)) * z2) + z3) 10000) <|
      sp_pl (sp_sa σ 34 ((((10 : Int32)) * z2) + z3).toNatClampNeg (sp_g σ 14 z3)) fun σ3 =>
      sp_pl (z3 + 1) fun x5 =>
      X12_look_73 n k35 f σ3 z1 z2 x5
def X12_look_35 (n : Nat) : Nat → sp_St → Int32 → Int32 → Option (sp_St × Int32)
  | 0, _, _, _ => none
  | f + 1, σ, z1, z2 =>
    if (σ.1 0 51) ≤ z2 then
      X12_look_117 n σ z1
    else
      sp_ck (sp_in z2 1000) <|
      sp_ck (!decide (((100 : Int32)) = 0)) <|
      sp_ck (sp_in z2 1000) <|
      sp_ck (!decide (((100 : Int32)) = 0)) <|
      sp_ck (sp_in ((sp_g σ 33 z2) / ((100 : Int32))) 10) <|
      sp_pl (sp_sa σ 14 ((sp_g σ 33 z2) / ((100 : Int32))).toNatClampNeg ((sp_g σ 33 z2) - (sp_g σ 33 z2) / ((100 : Int32)) * ((100 : Int32)))) fun σ6 =>
      sp_bv (X12_goOn n σ6 ((3 : Int32))) fun σ9 =>
      sp_pl ((0 : Int32)) fun x10 =>
      X12_look_73 n (X12_look_35 n f) n σ9 z1 z2 x10
def X12_look_14 (n : Nat) (σ : sp_St) : Option (sp_St × Int32) :=
  sp_bd (X12_fail n σ ((1 : Int32))) fun σ2 v3 =>
  some (σ2, v3)
def X12_look (n : Nat)  (σ : sp_St) (a1 : Int32) : Option (sp_St × Int32) :=
  sp_pl (sp_si σ 0 3 ((0 : Int32))) fun σ1 =>
  if a1 < 0 then
    X12_look_14 n σ1
  else
    if a1 ≤ ((1 : Int32)) then
      sp_bv (X12_tellFits n σ1) fun σ4 =>
      sp_bv (X12_pack n σ4 25 88 ((0 : Int32))) fun σ6 =>
      sp_pl ((0 : Int32)) fun x7 =>
      X12_look_35 n n σ6 a1 x7
    else
      X12_look_14 n σ1
set_option maxRecDepth 100000 in
set_option maxHeartbeats 4000000 in
theorem hX12_look_164 {X : sp_X} (hX : sp_OK shM X cX12_look RX12 6 rmX12_look) {τ : sp_St} {r : Int32} (hR : sp_Ri shM X (some .int) τ r 0 0) {n : Nat}    {σ : sp_St} {z1 : Int32} {z2 : Int32} {z3 : Int32} (hf : X12_look_164 n σ z1 z2 z3 = some (τ, r)) : sp_GG shM X σ 6 [none, some (.int z1), some (.int z2), some (.int z3), none, none] [] 164 0 0 := by
  unfold X12_look_164 at hf
  refine sp_iload_n (i := 1) (q := 165) hX dX12_look_164 rfl rfl rfl ?_
  obtain ⟨v1, e2, hf⟩ := sp_pl_some hf
  have hj3 : sp_GG shM X σ 6 [none, some (.int z1), some (.int z2), some (.int z3), none, none] [.int v1] 173 0 0 := by
    exact sp_iret hX hR dX12_look_173 hf (Nat.le_of_ble_eq_true rfl) (Nat.le_of_ble_eq_true rfl)
  refine sp_if_ne (tgt := 172) (q := 168) hX dX12_look_165 (by decide) rfl (fun hc => ?_) (fun hc => ?_)
  · refine sp_iload_n (i := 3) (q := 173) hX dX12_look_172 rfl rfl rfl ?_
    exact sp_nmi (by rw [e2, if_neg hc]) hj3
  · refine sp_iload_n (i := 2) (q := 169) hX dX12_look_168 rfl rfl rfl ?_
    refine sp_goto (tgt := 173) hX dX12_look_169 (by decide) ?_
    exact sp_nmi (by rw [e2, if_pos hc]) hj3
set_option maxRecDepth 100000 in
set_option maxHeartbeats 4000000 in
theorem hX12_look_158 {X : sp_X} (hX : sp_OK shM X cX12_look RX12 6 rmX12_look) {τ : sp_St} {r : Int32} (hR : sp_Ri shM X (some .int) τ r 0 0) {n : Nat}   {k124 : sp_St → Int32 → Int32 → Int32 → Int32 → Option (sp_St × Int32)} (hk124 : ∀ (σ : sp_St) (z1 : Int32) (z2 : Int32) (z3 : Int32) (z4 : Int32), k124 σ z1 z2 z3 z4 = some (τ, r) → sp_GG shM X σ 6 [some (.ref (sx_ad X 0)), some (.int z1), some (.int z2), some (.int z3), some (.int z4), none] [] 124 0 0) {σ : sp_St} {z1 : Int32} {z2 : Int32} {z3 : Int32} {z4 : Int32} (hf : X12_look_158 n k124 σ z1 z2 z3 z4 = some (τ, r)) : sp_GG shM X σ 6 [some (.ref (sx_ad X 0)), some (.int z1), some (.int z2), some (.int z3), some (.int z4), none] [] 158 0 0 := by
  unfold X12_look_158 at hf
  obtain ⟨x1, e2, hf⟩ := sp_pl_some hf
  refine sp_iinc (i := 4) (v := x1) (lv' := [some (.ref (sx_ad X 0)), some (.int z1), some (.int z2), some (.int z3), some (.int x1), none]) (q := 161) hX dX12_look_158 rfl (by rw [e2, li_1]) (Nat.le_of_ble_eq_true rfl) rfl rfl rfl ?_
  refine sp_goto (tgt := 124) hX dX12_look_161 (by decide) ?_
  exact hk124 σ z1 z2 z3 x1 hf
set_option maxRecDepth 100000 in
set_option maxHeartbeats 4000000 in
theorem hX12_look_124 {X : sp_X} (hX : sp_OK shM X cX12_look RX12 6 rmX12_look) {τ : sp_St} {r : Int32} (hR : sp_Ri shM X (some .int) τ r 0 0) {n : Nat}    : ∀ (f : Nat) (σ : sp_St) (z1 : Int32) (z2 : Int32) (z3 : Int32) (z4 : Int32), X12_look_124 n f σ z1 z2 z3 z4 = some (τ, r) → sp_GG shM X σ 6 [some (.ref (sx_ad X 0)), some (.int z1), some (.int z2), some (.int z3), some (.int z4), none] [] 124 0 0 := by
  intro f
  induction f with
  | zero =>
    intro σ z1 z2 z3 z4 hf
    rw [X12_look_124] at hf
    cases hf
  | succ f ih =>
    intro σ z1 z2 z3 z4 hf
    rw [X12_look_124] at hf
    refine sp_iload (i := 4) (q := 126) hX dX12_look_124 rfl rfl ?_
    refine sp_aload_n (i := 0) (q := 127) hX dX12_look_126 rfl rfl rfl ?_
    refine sp_gets (t := 3) (q := 130) hX flX12_33 fkX12_4 atM_0 srM_0_4 dX12_look_127 rfl ?_
    refine sp_iconst (v := 2) (q := 131) hX dX12_look_130 li_2 rfl ?_
    refine sp_iald (q := 132) hX arM_3 (by decide) dX12_look_131 rfl ?_
    refine sp_icmp_ge (tgt := 164) (q := 135) hX dX12_look_132 (by decide) rfl (fun hc => ?_) (fun hc => ?_)
    · rw [if_pos hc] at hf
      refine sp_drop (lv' := [none, some (.int z1), some (.int z2), some (.int z3), none, none]) (And.intro rfl (And.intro rfl (And.intro rfl trivial))) ?_
      exact hX12_look_164 hX hR hf
    · rw [if_neg hc] at hf
      refine sp_aload_n (i := 0) (q := 136) hX dX12_look_135 rfl rfl rfl ?_
      refine sp_iload (i := 4) (q := 138) hX dX12_look_136 rfl rfl ?_
      obtain ⟨σ2, v3, h1, hf⟩ := sp_bd_so hf
      refine sp_callVi (As := [.int z4]) (rest := []) (q := 141) hX (cnX12_unlike (sp_st hX)  h1) cwX12_473 atM_0 rfl rfl rfl rfl rfl (Nat.le_of_ble_eq_true rfl) (Nat.le_of_ble_eq_true rfl) (Nat.le_of_ble_eq_true rfl) (Nat.le_of_ble_eq_true rfl) (Nat.le_of_ble_eq_true rfl) dX12_look_138 rfl ?_
      refine sp_istore (i := 5) (lv' := [some (.ref (sx_ad X 0)), some (.int z1), some (.int z2), some (.int z3), some (.int z4), some (.int v3)]) (q := 143) hX dX12_look_141 (Nat.le_of_ble_eq_true rfl) rfl rfl rfl ?_
      refine sp_iload (i := 5) (q := 145) hX dX12_look_143 rfl rfl ?_
      refine sp_iload_n (i := 3) (q := 146) hX dX12_look_145 rfl rfl rfl ?_
      refine sp_icmp_gt (tgt := 152) (q := 149) hX dX12_look_146 (by decide) rfl (fun hc => ?_) (fun hc => ?_)
      · rw [if_pos hc] at hf
        refine sp_iload (i := 4) (q := 154) hX dX12_look_152 rfl rfl ?_
        refine sp_istore_n (i := 2) (lv' := [some (.ref (sx_ad X 0)), some (.int z1), some (.int z4), some (.int z3), some (.int z4), some (.int v3)]) (q := 155) hX dX12_look_154 rfl (Nat.le_of_ble_eq_true rfl) rfl rfl rfl ?_
        refine sp_iload (i := 5) (q := 157) hX dX12_look_155 rfl rfl ?_
        refine sp_istore_n (i := 3) (lv' := [some (.ref (sx_ad X 0)), some (.int z1), some (.int z4), some (.int v3), some (.int z4), some (.int v3)]) (q := 158) hX dX12_look_157 rfl (Nat.le_of_ble_eq_true rfl) rfl rfl rfl ?_
        refine sp_drop (lv' := [some (.ref (sx_ad X 0)), some (.int z1), some (.int z4), some (.int v3), some (.int z4), none]) (And.intro rfl (And.intro rfl (And.intro rfl (And.intro rfl (And.intro rfl trivial))))) ?_
        exact hX12_look_158 hX hR ih hf
      · rw [if_neg hc] at hf
        refine sp_goto (tgt := 158) hX dX12_look_149 (by decide) ?_
        refine sp_drop (lv' := [some (.ref (sx_ad X 0)), some (.int z1), some (.int z2), some (.int z3), some (.int z4), none]) (And.intro rfl (And.intro rfl (And.intro rfl (And.intro rfl (And.intro rfl trivial))))) ?_
        exact hX12_look_158 hX hR ih hf
set_option maxRecDepth 100000 in
set_option maxHeartbeats 4000000 in
theorem hX12_look_117 {X : sp_X} (hX : sp_OK shM X cX12_look RX12 6 rmX12_look) {τ : sp_St} {r : Int32} (hR : sp_Ri shM X (some .int) τ r 0 0) {n : Nat}    {σ : sp_St} {z1 : Int32} (hf : X12_look_117 n σ z1 = some (τ, r)) : sp_GG shM X σ 6 [some (.ref (sx_ad X 0)), some (.int z1), none, none, none, none] [] 117 0 0 := by
  unfold X12_look_117 at hf
  refine sp_iconst (v := -1) (q := 118) hX dX12_look_117 li_m1 rfl ?_
  obtain ⟨x1, e2, hf⟩ := sp_pl_some hf
  refine sp_nmi e2 ?_
  refine sp_istore_n (i := 2) (lv' := [some (.ref (sx_ad X 0)), some (.int z1), some (.int x1), none, none, none]) (q := 119) hX dX12_look_118 rfl (Nat.le_of_ble_eq_true rfl) rfl rfl rfl ?_
  refine sp_iconst (v := 0) (q := 120) hX dX12_look_119 li_0 rfl ?_
  obtain ⟨x3, e4, hf⟩ := sp_pl_some hf
  refine sp_nmi e4 ?_
  refine sp_istore_n (i := 3) (lv' := [some (.ref (sx_ad X 0)), some (.int z1), some (.int x1), some (.int x3), none, none]) (q := 121) hX dX12_look_120 rfl (Nat.le_of_ble_eq_true rfl) rfl rfl rfl ?_
  refine sp_iconst (v := 0) (q := 122) hX dX12_look_121 li_0 rfl ?_
  obtain ⟨x5, e6, hf⟩ := sp_pl_some hf
  refine sp_nmi e6 ?_
  refine sp_istore (i := 4) (lv' := [some (.ref (sx_ad X 0)), some (.int z1), some (.int x1), some (.int x3), some (.int x5), none]) (q := 124) hX dX12_look_122 (Nat.le_of_ble_eq_true rfl) rfl rfl rfl ?_
  exact hX12_look_124 hX hR n σ z1 x1 x3 x5 hf
set_option maxRecDepth 100000 in
set_option maxHeartbeats 4000000 in
theorem hX12_look_102 {X : sp_X} (hX : sp_OK shM X cX12_look RX12 6 rmX12_look) {τ : sp_St} {r : Int32} (hR : sp_Ri shM X (some .int) τ r 0 0) {n : Nat}   {k35 : sp_St → Int32 → Int32 → Option (sp_St × Int32)} (hk35 : ∀ (σ : sp_St) (z1 : Int32) (z2 : Int32), k35 σ z1 z2 = some (τ, r) → sp_GG shM X σ 6 [some (.ref (sx_ad X 0)), some (.int z1), some (.int z2), none, none, none] [] 35 0 0) {σ : sp_St} {z1 : Int32} {z2 : Int32} (hf : X12_look_102 n k35 σ z1 z2 = some (τ, r)) : sp_GG shM X σ 6 [some (.ref (sx_ad X 0)), some (.int z1), some (.int z2), none, none, none] [] 102 0 0 := by
  unfold X12_look_102 at hf
  refine sp_aload_n (i := 0) (q := 103) hX dX12_look_102 rfl rfl rfl ?_
  refine sp_aload_n (i := 0) (q := 104) hX dX12_look_103 rfl rfl rfl ?_
  refine sp_gets (t := 25) (q := 107) hX flX12_102 fkX12_41 atM_0 srM_0_41 dX12_look_104 rfl ?_
  refine sp_iconst (v := 0) (q := 108) hX dX12_look_107 li_0 rfl ?_
  obtain ⟨σ2, h1, hf⟩ := sp_bv_so hf
  refine sp_callVv (As := [.ref (sx_ad X 25), .int ((0 : Int32))]) (rest := []) (q := 111) hX (cnX12_unpack (sp_st hX) arM_25 h1) cwX12_432 atM_0 rfl rfl rfl rfl rfl (Nat.le_of_ble_eq_true rfl) (Nat.le_of_ble_eq_true rfl) (Nat.le_of_ble_eq_true rfl) (Nat.le_of_ble_eq_true rfl) (Nat.le_of_ble_eq_true rfl) dX12_look_108 rfl ?_
  obtain ⟨x3, e4, hf⟩ := sp_pl_some hf
  refine sp_iinc (i := 2) (v := x3) (lv' := [some (.ref (sx_ad X 0)), some (.int z1), some (.int x3), none, none, none]) (q := 114) hX dX12_look_111 rfl (by rw [e4, li_1]) (Nat.le_of_ble_eq_true rfl) rfl rfl rfl ?_
  refine sp_goto (tgt := 35) hX dX12_look_114 (by decide) ?_
  exact hk35 σ2 z1 x3 hf
set_option maxRecDepth 100000 in
set_option maxHeartbeats 4000000 in
theorem hX12_look_73 {X : sp_X} (hX : sp_OK shM X cX12_look RX12 6 rmX12_look) {τ : sp_St} {r : Int32} (hR : sp_Ri shM X (some .int) τ r 0 0) {n : Nat}   {k35 : sp_St → Int32 → Int32 → Option (sp_St × Int32)} (hk35 : ∀ (σ : sp_St) (z1 : Int32) (z2 : Int32), k35 σ z1 z2 = some (τ, r) → sp_GG shM X σ 6 [some (.ref (sx_ad X 0)), some (.int z1), some (.int z2), none, none, none] [] 35 0 0) : ∀ (f : Nat) (σ : sp_St) (z1 : Int32) (z2 : Int32) (z3 : Int32), X12_look_73 n k35 f σ z1 z2 z3 = some (τ, r) → sp_GG shM X σ 6 [some (.ref (sx_ad X 0)), some (.int z1), some (.int z2), some (.int z3), none, none] [] 73 0 0 := by
  intro f
  induction f with
  | zero =>
    intro σ z1 z2 z3 hf
    rw [X12_look_73] at hf
    cases hf
  | succ f ih =>
    intro σ z1 z2 z3 hf
    rw [X12_look_73] at hf
    refine sp_iload_n (i := 3) (q := 74) hX dX12_look_73 rfl rfl rfl ?_
    refine sp_bipush (v := 10) (q := 76) hX dX12_look_74 lb_10 rfl ?_
    refine sp_icmp_ge (tgt := 102) (q := 79) hX dX12_look_76 (by decide) rfl (fun hc => ?_) (fun hc => ?_)
    · rw [if_pos hc] at hf
      refine sp_drop (lv' := [some (.ref (sx_ad X 0)), some (.int z1), some (.int z2), none, none, none]) (And.intro rfl (And.intro rfl (And.intro rfl trivial))) ?_
      exact hX12_look_102 hX hR hk35 hf
    · rw [if_neg hc] at hf
      refine sp_aload_n (i := 0) (q := 80) hX dX12_look_79 rfl rfl rfl ?_
      refine sp_gets (t := 34) (q := 83) hX flX12_131 fkX12_50 atM_0 srM_0_50 dX12_look_80 rfl ?_
      refine sp_bipush (v := 10) (q := 85) hX dX12_look_83 lb_10 rfl ?_
      refine sp_iload_n (i := 2) (q := 86) hX dX12_look_85 rfl rfl rfl ?_
      refine sp_imul (q := 87) hX dX12_look_86 rfl ?_
      refine sp_iload_n (i := 3) (q := 88) hX dX12_look_87 rfl rfl rfl ?_
      refine sp_iadd (q := 89) hX dX12_look_88 rfl ?_
      refine sp_aload_n (i := 0) (q := 90) hX dX12_look_89 rfl rfl rfl ?_
      refine sp_gets (t := 14) (q := 93) hX flX12_70 fkX12_26 atM_0 srM_0_26 dX12_look_90 rfl ?_
      refine sp_iload_n (i := 3) (q := 94) hX dX12_look_93 rfl rfl rfl ?_
      obtain ⟨h1, hf⟩ := sp_ck_some hf
      refine sp_iald (q := 95) hX arM_14 h1 dX12_look_94 rfl ?_
      obtain ⟨h2, hf⟩ := sp_ck_some hf
      obtain ⟨σ3, e4, hf⟩ := sp_pl_some hf
      refine sp_iast (q := 96) hX arM_34 h2 dX12_look_95 rfl ?_
      refine sp_nms e4 ?_
      obtain ⟨x5, e6, hf⟩ := sp_pl_some hf
      refine sp_iinc (i := 3) (v := x5) (lv' := [some (.ref (sx_ad X 0)), some (.int z1), some (.int z2), some (.int x5), none, none]) (q := 99) hX dX12_look_96 rfl (by rw [e6, li_1]) (Nat.le_of_ble_eq_true rfl) rfl rfl rfl ?_
      refine sp_goto (tgt := 73) hX dX12_look_99 (by decide) ?_
      exact ih σ3 z1 z2 x5 hf
set_option maxRecDepth 100000 in
set_option maxHeartbeats 4000000 in
theorem hX12_look_35 {X : sp_X} (hX : sp_OK shM X cX12_look RX12 6 rmX12_look) {τ : sp_St} {r : Int32} (hR : sp_Ri shM X (some .int) τ r 0 0) {n : Nat}    : ∀ (f : Nat) (σ : sp_St) (z1 : Int32) (z2 : Int32), X12_look_35 n f σ z1 z2 = some (τ, r) → sp_GG shM X σ 6 [some (.ref (sx_ad X 0)), some (.int z1), some (.int z2), none, none, none] [] 35 0 0 := by
  intro f
  induction f with
  | zero =>
    intro σ z1 z2 hf
    rw [X12_look_35] at hf
    cases hf
  | succ f ih =>
    intro σ z1 z2 hf
    rw [X12_look_35] at hf
    refine sp_iload_n (i := 2) (q := 36) hX dX12_look_35 rfl rfl rfl ?_
    refine sp_aload_n (i := 0) (q := 37) hX dX12_look_36 rfl rfl rfl ?_
    refine sp_geti (q := 40) hX flX12_461 fkX12_51 atM_0 dX12_look_37 rfl ?_
    refine sp_icmp_ge (tgt := 117) (q := 43) hX dX12_look_40 (by decide) rfl (fun hc => ?_) (fun hc => ?_)
    · rw [if_pos hc] at hf
      refine sp_drop (lv' := [some (.ref (sx_ad X 0)), some (.int z1), none, none, none, none]) (And.intro rfl (And.intro rfl trivial)) ?_
      exact hX12_look_117 hX hR hf
    · rw [if_neg hc] at hf
      refine sp_aload_n (i := 0) (q := 44) hX dX12_look_43 rfl rfl rfl ?_
      refine sp_gets (t := 14) (q := 47) hX flX12_70 fkX12_26 atM_0 srM_0_26 dX12_look_44 rfl ?_
      refine sp_aload_n (i := 0) (q := 48) hX dX12_look_47 rfl rfl rfl ?_
      refine sp_gets (t := 33) (q := 51) hX flX12_128 fkX12_49 atM_0 srM_0_49 dX12_look_48 rfl ?_
      refine sp_iload_n (i := 2) (q := 52) hX dX12_look_51 rfl rfl rfl ?_
      obtain ⟨h1, hf⟩ := sp_ck_some hf
      refine sp_iald (q := 53) hX arM_33 h1 dX12_look_52 rfl ?_
      refine sp_bipush (v := 100) (q := 55) hX dX12_look_53 lb_100 rfl ?_
      obtain ⟨h2, hf⟩ := sp_ck_some hf
      refine sp_idiv (q := 56) hX dX12_look_55 (sp_nz h2) rfl ?_
      refine sp_aload_n (i := 0) (q := 57) hX dX12_look_56 rfl rfl rfl ?_
      refine sp_gets (t := 33) (q := 60) hX flX12_128 fkX12_49 atM_0 srM_0_49 dX12_look_57 rfl ?_
      refine sp_iload_n (i := 2) (q := 61) hX dX12_look_60 rfl rfl rfl ?_
      obtain ⟨h3, hf⟩ := sp_ck_some hf
      refine sp_iald (q := 62) hX arM_33 h3 dX12_look_61 rfl ?_
      refine sp_bipush (v := 100) (q := 64) hX dX12_look_62 lb_100 rfl ?_
      obtain ⟨h4, hf⟩ := sp_ck_some hf
      refine sp_irem (q := 65) hX dX12_look_64 (sp_nz h4) rfl ?_
      obtain ⟨h5, hf⟩ := sp_ck_some hf
      obtain ⟨σ6, e7, hf⟩ := sp_pl_some hf
      refine sp_iast (q := 66) hX arM_14 h5 dX12_look_65 rfl ?_
      refine sp_nms e7 ?_
      refine sp_aload_n (i := 0) (q := 67) hX dX12_look_66 rfl rfl rfl ?_
      refine sp_iconst (v := 3) (q := 68) hX dX12_look_67 li_3 rfl ?_
      obtain ⟨σ9, h8, hf⟩ := sp_bv_so hf
      refine sp_callVv (As := [.int ((3 : Int32))]) (rest := []) (q := 71) hX (cnX12_goOn (sp_st hX)  h8) cwX12_426 atM_0 rfl rfl rfl rfl rfl (Nat.le_of_ble_eq_true rfl) (Nat.le_of_ble_eq_true rfl) (Nat.le_of_ble_eq_true rfl) (Nat.le_of_ble_eq_true rfl) (Nat.le_of_ble_eq_true rfl) dX12_look_68 rfl ?_
      refine sp_iconst (v := 0) (q := 72) hX dX12_look_71 li_0 rfl ?_
      obtain ⟨x10, e11, hf⟩ := sp_pl_some hf
      refine sp_nmi e11 ?_
      refine sp_istore_n (i := 3) (lv' := [some (.ref (sx_ad X 0)), some (.int z1), some (.int z2), some (.int x10), none, none]) (q := 73) hX dX12_look_72 rfl (Nat.le_of_ble_eq_true rfl) rfl rfl rfl ?_
      exact hX12_look_73 hX hR ih n σ9 z1 z2 x10 hf
set_option maxRecDepth 100000 in
set_option maxHeartbeats 4000000 in
theorem hX12_look_14 {X : sp_X} (hX : sp_OK shM X cX12_look RX12 6 rmX12_look) {τ : sp_St} {r : Int32} (hR : sp_Ri shM X (some .int) τ r 0 0) {n : Nat}    {σ : sp_St} (hf : X12_look_14 n σ = some (τ, r)) : sp_GG shM X σ 6 [some (.ref (sx_ad X 0)), none, none, none, none, none] [] 14 0 0 := by
  unfold X12_look_14 at hf
  refine sp_aload_n (i := 0) (q := 15) hX dX12_look_14 rfl rfl rfl ?_
  refine sp_iconst (v := 1) (q := 16) hX dX12_look_15 li_1 rfl ?_
  obtain ⟨σ2, v3, h1, hf⟩ := sp_bd_so hf
  refine sp_callVi (As := [.int ((1 : Int32))]) (rest := []) (q := 19) hX (cnX12_fail (sp_st hX)  h1) cwX12_312 atM_0 rfl rfl rfl rfl rfl (Nat.le_of_ble_eq_true rfl) (Nat.le_of_ble_eq_true rfl) (Nat.le_of_ble_eq_true rfl) (Nat.le_of_ble_eq_true rfl) (Nat.le_of_ble_eq_true rfl) dX12_look_16 rfl ?_
  exact sp_iret hX hR dX12_look_19 hf (Nat.le_of_ble_eq_true rfl) (Nat.le_of_ble_eq_true rfl)
set_option maxRecDepth 100000 in
set_option maxHeartbeats 4000000 in
theorem hX12_look {X : sp_X} (hX : sp_OK shM X cX12_look RX12 6 rmX12_look) {τ : sp_St} {r : Int32} (hR : sp_Ri shM X (some .int) τ r 0 0) {n : Nat}  {σ : sp_St} {a1 : Int32}  (hf : X12_look n σ a1 = some (τ, r)) : sp_GG shM X σ 6 [some (.ref (sx_ad X 0)), some (.int a1), none, none, none, none] [] 0 0 0 := by
  unfold X12_look at hf
  refine sp_aload_n (i := 0) (q := 1) hX dX12_look_0 rfl rfl rfl ?_
  refine sp_iconst (v := 0) (q := 2) hX dX12_look_1 li_0 rfl ?_
  obtain ⟨σ1, e2, hf⟩ := sp_pl_some hf
  refine sp_puti (q := 5) hX fpX12_158 fkX12_3 atM_0 dX12_look_2 rfl ?_
  refine sp_nms e2 ?_
  refine sp_iload_n (i := 1) (q := 6) hX dX12_look_5 rfl rfl rfl ?_
  refine sp_if_lt (tgt := 14) (q := 9) hX dX12_look_6 (by decide) rfl (fun hc => ?_) (fun hc => ?_)
  · rw [if_pos hc] at hf
    refine sp_drop (lv' := [some (.ref (sx_ad X 0)), none, none, none, none, none]) (And.intro rfl trivial) ?_
    exact hX12_look_14 hX hR hf
  · rw [if_neg hc] at hf
    refine sp_iload_n (i := 1) (q := 10) hX dX12_look_9 rfl rfl rfl ?_
    refine sp_iconst (v := 1) (q := 11) hX dX12_look_10 li_1 rfl ?_
    refine sp_icmp_le (tgt := 20) (q := 14) hX dX12_look_11 (by decide) rfl (fun hc => ?_) (fun hc => ?_)
    · rw [if_pos hc] at hf
      refine sp_aload_n (i := 0) (q := 21) hX dX12_look_20 rfl rfl rfl ?_
      obtain ⟨σ4, h3, hf⟩ := sp_bv_so hf
      refine sp_callVv (As := []) (rest := []) (q := 24) hX (cnX12_tellFits (sp_st hX)  h3) cwX12_470 atM_0 rfl rfl rfl rfl rfl (Nat.le_of_ble_eq_true rfl) (Nat.le_of_ble_eq_true rfl) (Nat.le_of_ble_eq_true rfl) (Nat.le_of_ble_eq_true rfl) (Nat.le_of_ble_eq_true rfl) dX12_look_21 rfl ?_
      refine sp_aload_n (i := 0) (q := 25) hX dX12_look_24 rfl rfl rfl ?_
      refine sp_aload_n (i := 0) (q := 26) hX dX12_look_25 rfl rfl rfl ?_
      refine sp_gets (t := 25) (q := 29) hX flX12_102 fkX12_41 atM_0 srM_0_41 dX12_look_26 rfl ?_
      refine sp_iconst (v := 0) (q := 30) hX dX12_look_29 li_0 rfl ?_
      obtain ⟨σ6, h5, hf⟩ := sp_bv_so hf
      refine sp_callVv (As := [.ref (sx_ad X 25), .int ((0 : Int32))]) (rest := []) (q := 33) hX (cnX12_pack (sp_st hX) arM_25 h5) cwX12_414 atM_0 rfl rfl rfl rfl rfl (Nat.le_of_ble_eq_true rfl) (Nat.le_of_ble_eq_true rfl) (Nat.le_of_ble_eq_true rfl) (Nat.le_of_ble_eq_true rfl) (Nat.le_of_ble_eq_true rfl) dX12_look_30 rfl ?_
      refine sp_iconst (v := 0) (q := 34) hX dX12_look_33 li_0 rfl ?_
      obtain ⟨x7, e8, hf⟩ := sp_pl_some hf
      refine sp_nmi e8 ?_
      refine sp_istore_n (i := 2) (lv' := [some (.ref (sx_ad X 0)), some (.int a1), some (.int x7), none, none, none]) (q := 35) hX dX12_look_34 rfl (Nat.le_of_ble_eq_true rfl) rfl rfl rfl ?_
      exact hX12_look_35 hX hR n σ6 a1 x7 hf
    · rw [if_neg hc] at hf
      refine sp_drop (lv' := [some (.ref (sx_ad X 0)), none, none, none, none, none]) (And.intro rfl trivial) ?_
      exact hX12_look_14 hX hR hf
set_option maxRecDepth 100000 in
set_option maxHeartbeats 4000000 in
theorem cnX12_look {l : Launch} (hst : l.stackTraces = false) {w : sp_Wd} {n : Nat}  {σ : sp_St} {a1 : Int32} {τ : sp_St} {r : Int32}  (hf : X12_look n σ a1 = some (τ, r)) : sp_Ci shM l w yX12_look cX12_look 6 (some .int) rmX12_look 0 0 σ [.ref (w.2.1 0), .int a1] τ r :=
  sp_ci (own := RX12) (by decide) rfl hst (Nat.le_of_ble_eq_true rfl) rfl (fun X hX hw hl hR => by subst hw; subst hl; exact hX12_look hX hR   hf)
def rmX12_forget : Room := { frames := 0, cells := 0, slots := 0, locals := 0 }
def X12_forget (n : Nat)  (σ : sp_St)  : Option (sp_St) :=
  sp_pl (sp_si σ 0 3 ((0 : Int32))) fun σ1 =>
  sp_pl (sp_si σ1 0 36 ((0 : Int32))) fun σ3 =>
  some σ3
set_option maxRecDepth 100000 in
set_option maxHeartbeats 4000000 in
theorem hX12_forget {X : sp_X} (hX : sp_OK shM X cX12_forget RX12 1 rmX12_forget) {τ : sp_St} (hR : sp_Rv shM X τ 0 0) {n : Nat}  {σ : sp_St}   (hf : X12_forget n σ = some τ) : sp_GG shM X σ 1 [some (.ref (sx_ad X 0))] [] 0 0 0 := by
  unfold X12_forget at hf
  refine sp_aload_n (i := 0) (q := 1) hX dX12_forget_0 rfl rfl rfl ?_
  refine sp_iconst (v := 0) (q := 2) hX dX12_forget_1 li_0 rfl ?_
  obtain ⟨σ1, e2, hf⟩ := sp_pl_some hf
  refine sp_puti (q := 5) hX fpX12_158 fkX12_3 atM_0 dX12_forget_2 rfl ?_
  refine sp_nms e2 ?_
  refine sp_aload_n (i := 0) (q := 6) hX dX12_forget_5 rfl rfl rfl ?_
  refine sp_iconst (v := 0) (q := 7) hX dX12_forget_6 li_0 rfl ?_
  obtain ⟨σ3, e4, hf⟩ := sp_pl_some hf
  refine sp_puti (q := 10) hX fpX12_333 fkX12_36 atM_0 dX12_forget_7 rfl ?_
  refine sp_nms e4 ?_
  exact sp_vret hX hR dX12_forget_10 hf (Nat.le_of_ble_eq_true rfl) (Nat.le_of_ble_eq_true rfl)
set_option maxRecDepth 100000 in
set_option maxHeartbeats 4000000 in
theorem cnX12_forget {l : Launch} (hst : l.stackTraces = false) {w : sp_Wd} {n : Nat}  {σ : sp_St}  {τ : sp_St}  (hf : X12_forget n σ = some τ) : sp_Cv shM l w yX12_forget cX12_forget 1 rmX12_forget 0 0 σ [.ref (w.2.1 0)] τ :=
  sp_cv (own := RX12) (by decide) rfl hst (Nat.le_of_ble_eq_true rfl) rfl (fun X hX hw hl hR => by subst hw; subst hl; exact hX12_forget hX hR   hf)
def rmX12_insideOf : Room := { frames := 0, cells := 0, slots := 0, locals := 0 }
def X12_insideOf_48 (n : Nat) (σ : sp_St) (z2 : Int32) : Option (sp_St × Int32) :=
  some (σ, z2)
def X12_insideOf_40 (n : Nat) (k4 : sp_St → Int32 → Int32 → Int32 → Option (sp_St × Int32)) (σ : sp_St) (z1 : Int32) (z3 : Int32) (zs0 : Int32) (zs1 : Int32) : Option (sp_St × Int32) :=
  sp_pl (zs1 + zs0) fun x1 =>
  sp_pl (z3 + 1) fun x3 =>
  k4 σ z1 x1 x3
def X12_insideOf_39 (n : Nat) (k4 : sp_St → Int32 → Int32 → Int32 → Option (sp_St × Int32)) (σ : sp_St) (z1 : Int32) (z3 : Int32) (zs0 : Int32) : Option (sp_St × Int32) :=
  X12_insideOf_40 n k4 σ z1 z3 ((0 : Int32)) zs0
def X12_insideOf_4 (n : Nat) : Nat → sp_St → Int32 → Int32 → Int32 → Option (sp_St × Int32)
  | 0, _, _, _, _ => none
  | f + 1, σ, z1, z2, z3 =>
    if (sp_g σ 3 ((2 : Int32))) ≤ z3 then
      X12_insideOf_48 n σ z2
    else
      sp_ck (sp_in z3 10) <|
      if (sp_g σ 15 z3) = ((1 : Int32)) then
        sp_ck (sp_in z3 20) <|
        if (sp_g σ 7 z3) = z1 then
          X12_insideOf_40 n (X12_insideOf_4 n f) σ z1 z3 ((1 : Int32)) z2
        else
          X12_insideOf_39 n (X12_insideOf_4 n f) σ z1 z3 z2
      else
        X12_insideOf_39 n (X12_insideOf_4 n f) σ z1 z3 z2
def X12_insideOf (n : Nat)  (σ : sp_St) (a1 : Int32) : Option (sp_St × Int32) :=
  sp_pl ((0 : Int32)) fun x1 =>
  sp_pl ((0 : Int32)) fun x3 =>
  X12_insideOf_4 n n σ a1 x1 x3
set_option maxRecDepth 100000 in
set_option maxHeartbeats 4000000 in
theorem hX12_insideOf_48 {X : sp_X} (hX : sp_OK shM X cX12_insideOf RX12 4 rmX12_insideOf) {τ : sp_St} {r : Int32} (hR : sp_Ri shM X (some .int) τ r 0 0) {n : Nat}    {σ : sp_St} {z2 : Int32} (hf : X12_insideOf_48 n σ z2 = some (τ, r)) : sp_GG shM X σ 4 [none, none, some (.int z2), none] [] 48 0 0 := by
  unfold X12_insideOf_48 at hf
  refine sp_iload_n (i := 2) (q := 49) hX dX12_insideOf_48 rfl rfl rfl ?_
  exact sp_iret hX hR dX12_insideOf_49 hf (Nat.le_of_ble_eq_true rfl) (Nat.le_of_ble_eq_true rfl)
set_option maxRecDepth 100000 in
set_option maxHeartbeats 4000000 in
theorem hX12_insideOf_40 {X : sp_X} (hX : sp_OK shM X cX12_insideOf RX12 4 rmX12_insideOf) {τ : sp_St} {r : Int32} (hR : sp_Ri shM X (some .int) τ r 0 0) {n : Nat}   {k4 : sp_St → Int32 → Int32 → Int32 → Option (sp_St × Int32)} (hk4 : ∀ (σ : sp_St) (z1 : Int32) (z2 : Int32) (z3 : Int32), k4 σ z1 z2 z3 = some (τ, r) → sp_GG shM X σ 4 [some (.ref (sx_ad X 0)), some (.int z1), some (.int z2), some (.int z3)] [] 4 0 0) {σ : sp_St} {z1 : Int32} {z3 : Int32} {zs0 : Int32} {zs1 : Int32} (hf : X12_insideOf_40 n k4 σ z1 z3 zs0 zs1 = some (τ, r)) : sp_GG shM X σ 4 [some (.ref (sx_ad X 0)), some (.int z1), none, some (.int z3)] [.int zs0, .int zs1] 40 0 0 := by
  unfold X12_insideOf_40 at hf
  refine sp_iadd (q := 41) hX dX12_insideOf_40 rfl ?_
  obtain ⟨x1, e2, hf⟩ := sp_pl_some hf
  refine sp_nmi e2 ?_
  refine sp_istore_n (i := 2) (lv' := [some (.ref (sx_ad X 0)), some (.int z1), some (.int x1), some (.int z3)]) (q := 42) hX dX12_insideOf_41 rfl (Nat.le_of_ble_eq_true rfl) rfl rfl rfl ?_
  obtain ⟨x3, e4, hf⟩ := sp_pl_some hf
  refine sp_iinc (i := 3) (v := x3) (lv' := [some (.ref (sx_ad X 0)), some (.int z1), some (.int x1), some (.int x3)]) (q := 45) hX dX12_insideOf_42 rfl (by rw [e4, li_1]) (Nat.le_of_ble_eq_true rfl) rfl rfl rfl ?_
  refine sp_goto (tgt := 4) hX dX12_insideOf_45 (by decide) ?_
  exact hk4 σ z1 x1 x3 hf
set_option maxRecDepth 100000 in
set_option maxHeartbeats 4000000 in
theorem hX12_insideOf_39 {X : sp_X} (hX : sp_OK shM X cX12_insideOf RX12 4 rmX12_insideOf) {τ : sp_St} {r : Int32} (hR : sp_Ri shM X (some .int) τ r 0 0) {n : Nat}   {k4 : sp_St → Int32 → Int32 → Int32 → Option (sp_St × Int32)} (hk4 : ∀ (σ : sp_St) (z1 : Int32) (z2 : Int32) (z3 : Int32), k4 σ z1 z2 z3 = some (τ, r) → sp_GG shM X σ 4 [some (.ref (sx_ad X 0)), some (.int z1), some (.int z2), some (.int z3)] [] 4 0 0) {σ : sp_St} {z1 : Int32} {z3 : Int32} {zs0 : Int32} (hf : X12_insideOf_39 n k4 σ z1 z3 zs0 = some (τ, r)) : sp_GG shM X σ 4 [some (.ref (sx_ad X 0)), some (.int z1), none, some (.int z3)] [.int zs0] 39 0 0 := by
  unfold X12_insideOf_39 at hf
  refine sp_iconst (v := 0) (q := 40) hX dX12_insideOf_39 li_0 rfl ?_
  exact hX12_insideOf_40 hX hR hk4 hf
set_option maxRecDepth 100000 in
set_option maxHeartbeats 4000000 in
theorem hX12_insideOf_4 {X : sp_X} (hX : sp_OK shM X cX12_insideOf RX12 4 rmX12_insideOf) {τ : sp_St} {r : Int32} (hR : sp_Ri shM X (some .int) τ r 0 0) {n : Nat}    : ∀ (f : Nat) (σ : sp_St) (z1 : Int32) (z2 : Int32) (z3 : Int32), X12_insideOf_4 n f σ z1 z2 z3 = some (τ, r) → sp_GG shM X σ 4 [some (.ref (sx_ad X 0)), some (.int z1), some (.int z2), some (.int z3)] [] 4 0 0 := by
  intro f
  induction f with
  | zero =>
    intro σ z1 z2 z3 hf
    rw [X12_insideOf_4] at hf
    cases hf
  | succ f ih =>
    intro σ z1 z2 z3 hf
    rw [X12_insideOf_4] at hf
    refine sp_iload_n (i := 3) (q := 5) hX dX12_insideOf_4 rfl rfl rfl ?_
    refine sp_aload_n (i := 0) (q := 6) hX dX12_insideOf_5 rfl rfl rfl ?_
    refine sp_gets (t := 3) (q := 9) hX flX12_33 fkX12_4 atM_0 srM_0_4 dX12_insideOf_6 rfl ?_
    refine sp_iconst (v := 2) (q := 10) hX dX12_insideOf_9 li_2 rfl ?_
    refine sp_iald (q := 11) hX arM_3 (by decide) dX12_insideOf_10 rfl ?_
    refine sp_icmp_ge (tgt := 48) (q := 14) hX dX12_insideOf_11 (by decide) rfl (fun hc => ?_) (fun hc => ?_)
    · rw [if_pos hc] at hf
      refine sp_drop (lv' := [none, none, some (.int z2), none]) (And.intro rfl trivial) ?_
      exact hX12_insideOf_48 hX hR hf
    · rw [if_neg hc] at hf
      refine sp_iload_n (i := 2) (q := 15) hX dX12_insideOf_14 rfl rfl rfl ?_
      refine sp_aload_n (i := 0) (q := 16) hX dX12_insideOf_15 rfl rfl rfl ?_
      refine sp_gets (t := 15) (q := 19) hX flX12_72 fkX12_27 atM_0 srM_0_27 dX12_insideOf_16 rfl ?_
      refine sp_iload_n (i := 3) (q := 20) hX dX12_insideOf_19 rfl rfl rfl ?_
      obtain ⟨h1, hf⟩ := sp_ck_some hf
      refine sp_iald (q := 21) hX arM_15 h1 dX12_insideOf_20 rfl ?_
      refine sp_iconst (v := 1) (q := 22) hX dX12_insideOf_21 li_1 rfl ?_
      refine sp_icmp_ne (tgt := 39) (q := 25) hX dX12_insideOf_22 (by decide) rfl (fun hc => ?_) (fun hc => ?_)
      · rw [if_neg hc] at hf
        refine sp_drop (lv' := [some (.ref (sx_ad X 0)), some (.int z1), none, some (.int z3)]) (And.intro rfl (And.intro rfl (And.intro rfl trivial))) ?_
        exact hX12_insideOf_39 hX hR ih hf
      · rw [if_pos hc] at hf
        refine sp_aload_n (i := 0) (q := 26) hX dX12_insideOf_25 rfl rfl rfl ?_
        refine sp_gets (t := 7) (q := 29) hX flX12_46 fkX12_8 atM_0 srM_0_8 dX12_insideOf_26 rfl ?_
        refine sp_iload_n (i := 3) (q := 30) hX dX12_insideOf_29 rfl rfl rfl ?_
        obtain ⟨h2, hf⟩ := sp_ck_some hf
        refine sp_iald (q := 31) hX arM_7 h2 dX12_insideOf_30 rfl ?_
        refine sp_iload_n (i := 1) (q := 32) hX dX12_insideOf_31 rfl rfl rfl ?_
        refine sp_icmp_ne (tgt := 39) (q := 35) hX dX12_insideOf_32 (by decide) rfl (fun hc => ?_) (fun hc => ?_)
        · rw [if_neg hc] at hf
          refine sp_drop (lv' := [some (.ref (sx_ad X 0)), some (.int z1), none, some (.int z3)]) (And.intro rfl (And.intro rfl (And.intro rfl trivial))) ?_
          exact hX12_insideOf_39 hX hR ih hf
        · rw [if_pos hc] at hf
          refine sp_iconst (v := 1) (q := 36) hX dX12_insideOf_35 li_1 rfl ?_
          refine sp_goto (tgt := 40) hX dX12_insideOf_36 (by decide) ?_
          refine sp_drop (lv' := [some (.ref (sx_ad X 0)), some (.int z1), none, some (.int z3)]) (And.intro rfl (And.intro rfl (And.intro rfl trivial))) ?_
          exact hX12_insideOf_40 hX hR ih hf
set_option maxRecDepth 100000 in
set_option maxHeartbeats 4000000 in
theorem hX12_insideOf {X : sp_X} (hX : sp_OK shM X cX12_insideOf RX12 4 rmX12_insideOf) {τ : sp_St} {r : Int32} (hR : sp_Ri shM X (some .int) τ r 0 0) {n : Nat}  {σ : sp_St} {a1 : Int32}  (hf : X12_insideOf n σ a1 = some (τ, r)) : sp_GG shM X σ 4 [some (.ref (sx_ad X 0)), some (.int a1), none, none] [] 0 0 0 := by
  unfold X12_insideOf at hf
  refine sp_iconst (v := 0) (q := 1) hX dX12_insideOf_0 li_0 rfl ?_
  obtain ⟨x1, e2, hf⟩ := sp_pl_some hf
  refine sp_nmi e2 ?_
  refine sp_istore_n (i := 2) (lv' := [some (.ref (sx_ad X 0)), some (.int a1), some (.int x1), none]) (q := 2) hX dX12_insideOf_1 rfl (Nat.le_of_ble_eq_true rfl) rfl rfl rfl ?_
  refine sp_iconst (v := 0) (q := 3) hX dX12_insideOf_2 li_0 rfl ?_
  obtain ⟨x3, e4, hf⟩ := sp_pl_some hf
  refine sp_nmi e4 ?_
  refine sp_istore_n (i := 3) (lv' := [some (.ref (sx_ad X 0)), some (.int a1), some (.int x1), some (.int x3)]) (q := 4) hX dX12_insideOf_3 rfl (Nat.le_of_ble_eq_true rfl) rfl rfl rfl ?_
  exact hX12_insideOf_4 hX hR n σ a1 x1 x3 hf
set_option maxRecDepth 100000 in
set_option maxHeartbeats 4000000 in
theorem cnX12_insideOf {l : Launch} (hst : l.stackTraces = false) {w : sp_Wd} {n : Nat}  {σ : sp_St} {a1 : Int32} {τ : sp_St} {r : Int32}  (hf : X12_insideOf n σ a1 = some (τ, r)) : sp_Ci shM l w yX12_insideOf cX12_insideOf 4 (some .int) rmX12_insideOf 0 0 σ [.ref (w.2.1 0), .int a1] τ r :=
  sp_ci (own := RX12) (by decide) rfl hst (Nat.le_of_ble_eq_true rfl) rfl (fun X hX hw hl hR => by subst hw; subst hl; exact hX12_insideOf hX hR   hf)
