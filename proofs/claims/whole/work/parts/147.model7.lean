def rmX12_unlike : Room := { frames := 0, cells := 0, slots := 0, locals := 0 }
def X12_unlike_78 (n : Nat) (σ : sp_St) (z2 : Int32) : Option (sp_St × Int32) :=
  some (σ, z2)
def X12_unlike_25 (n : Nat) : Nat → sp_St → Int32 → Int32 → Int32 → Option (sp_St × Int32)
  | 0, _, _, _, _ => none
  | f + 1, σ, z1, z2, z3 =>
    if (σ.1 0 51) ≤ z3 then
      X12_unlike_78 n σ z2
    else
      sp_ck (sp_in ((((10 : Int32)) * z3) + z1) 10000) <|
      sp_pl (sp_g σ 34 ((((10 : Int32)) * z3) + z1)) fun x2 =>
      sp_ck (sp_in x2 100) <|
      sp_pl (if (sp_g σ 35 x2) = 0 then ((1 : Int32)) else ((0 : Int32))) fun v5 =>
      sp_pl (z2 + v5) fun x7 =>
      sp_ck (sp_in x2 100) <|
      sp_pl (sp_sa σ 35 x2.toNatClampNeg ((1 : Int32))) fun σ10 =>
      sp_pl (z3 + 1) fun x12 =>
      X12_unlike_25 n f σ10 z1 x7 x12
def X12_unlike_21 (n : Nat) (σ : sp_St) (z1 : Int32) : Option (sp_St × Int32) :=
  sp_pl ((0 : Int32)) fun x1 =>
  sp_pl ((0 : Int32)) fun x3 =>
  X12_unlike_25 n n σ z1 x1 x3
def X12_unlike_2 (n : Nat) : Nat → sp_St → Int32 → Int32 → Option (sp_St × Int32)
  | 0, _, _, _ => none
  | f + 1, σ, z1, z2 =>
    if ((99 : Int32)) < z2 then
      X12_unlike_21 n σ z1
    else
      sp_ck (sp_in z2 100) <|
      sp_pl (sp_sa σ 35 z2.toNatClampNeg ((0 : Int32))) fun σ2 =>
      sp_pl (z2 + 1) fun x4 =>
      X12_unlike_2 n f σ2 z1 x4
def X12_unlike (n : Nat)  (σ : sp_St) (a1 : Int32) : Option (sp_St × Int32) :=
  sp_pl ((0 : Int32)) fun x1 =>
  X12_unlike_2 n n σ a1 x1
set_option maxRecDepth 100000 in
set_option maxHeartbeats 4000000 in
theorem hX12_unlike_78 {X : sp_X} (hX : sp_OK shM X cX12_unlike RX12 5 rmX12_unlike) {τ : sp_St} {r : Int32} (hR : sp_Ri shM X (some .int) τ r 0 0) {n : Nat}    {σ : sp_St} {z2 : Int32} (hf : X12_unlike_78 n σ z2 = some (τ, r)) : sp_GG shM X σ 5 [none, none, some (.int z2), none, none] [] 78 0 0 := by
  unfold X12_unlike_78 at hf
  refine sp_iload_n (i := 2) (q := 79) hX dX12_unlike_78 rfl rfl rfl ?_
  exact sp_iret hX hR dX12_unlike_79 hf (Nat.le_of_ble_eq_true rfl) (Nat.le_of_ble_eq_true rfl)
set_option maxRecDepth 100000 in
set_option maxHeartbeats 4000000 in
theorem hX12_unlike_25 {X : sp_X} (hX : sp_OK shM X cX12_unlike RX12 5 rmX12_unlike) {τ : sp_St} {r : Int32} (hR : sp_Ri shM X (some .int) τ r 0 0) {n : Nat}    : ∀ (f : Nat) (σ : sp_St) (z1 : Int32) (z2 : Int32) (z3 : Int32), X12_unlike_25 n f σ z1 z2 z3 = some (τ, r) → sp_GG shM X σ 5 [some (.ref (sx_ad X 0)), some (.int z1), some (.int z2), some (.int z3), none] [] 25 0 0 := by
  intro f
  induction f with
  | zero =>
    intro σ z1 z2 z3 hf
    rw [X12_unlike_25] at hf
    cases hf
  | succ f ih =>
    intro σ z1 z2 z3 hf
    rw [X12_unlike_25] at hf
    refine sp_iload_n (i := 3) (q := 26) hX dX12_unlike_25 rfl rfl rfl ?_
    refine sp_aload_n (i := 0) (q := 27) hX dX12_unlike_26 rfl rfl rfl ?_
    refine sp_geti (q := 30) hX flX12_461 fkX12_51 atM_0 dX12_unlike_27 rfl ?_
    refine sp_icmp_ge (tgt := 78) (q := 33) hX dX12_unlike_30 (by decide) rfl (fun hc => ?_) (fun hc => ?_)
    · rw [if_pos hc] at hf
      refine sp_drop (lv' := [none, none, some (.int z2), none, none]) (And.intro rfl trivial) ?_
      exact hX12_unlike_78 hX hR hf
    · rw [if_neg hc] at hf
      refine sp_aload_n (i := 0) (q := 34) hX dX12_unlike_33 rfl rfl rfl ?_
      refine sp_gets (t := 34) (q := 37) hX flX12_131 fkX12_50 atM_0 srM_0_50 dX12_unlike_34 rfl ?_
      refine sp_bipush (v := 10) (q := 39) hX dX12_unlike_37 lb_10 rfl ?_
      refine sp_iload_n (i := 3) (q := 40) hX dX12_unlike_39 rfl rfl rfl ?_
      refine sp_imul (q := 41) hX dX12_unlike_40 rfl ?_
      refine sp_iload_n (i := 1) (q := 42) hX dX12_unlike_41 rfl rfl rfl ?_
      refine sp_iadd (q := 43) hX dX12_unlike_42 rfl ?_
      obtain ⟨h1, hf⟩ := sp_ck_some hf
      refine sp_iald (q := 44) hX arM_34 h1 dX12_unlike_43 rfl ?_
      obtain ⟨x2, e3, hf⟩ := sp_pl_some hf
      refine sp_nmi e3 ?_
      refine sp_istore (i := 4) (lv' := [some (.ref (sx_ad X 0)), some (.int z1), some (.int z2), some (.int z3), some (.int x2)]) (q := 46) hX dX12_unlike_44 (Nat.le_of_ble_eq_true rfl) rfl rfl rfl ?_
      refine sp_iload_n (i := 2) (q := 47) hX dX12_unlike_46 rfl rfl rfl ?_
      refine sp_aload_n (i := 0) (q := 48) hX dX12_unlike_47 rfl rfl rfl ?_
      refine sp_gets (t := 35) (q := 51) hX flX12_134 fkX12_52 atM_0 srM_0_52 dX12_unlike_48 rfl ?_
      refine sp_iload (i := 4) (q := 53) hX dX12_unlike_51 rfl rfl ?_
      obtain ⟨h4, hf⟩ := sp_ck_some hf
      refine sp_zald (q := 54) hX arM_35 h4 dX12_unlike_53 rfl ?_
      obtain ⟨v5, e6, hf⟩ := sp_pl_some hf
      have hj14 : sp_GG shM X σ 5 [some (.ref (sx_ad X 0)), some (.int z1), some (.int z2), some (.int z3), some (.int x2)] [.int v5, .int z2] 62 0 0 := by
        refine sp_iadd (q := 63) hX dX12_unlike_62 rfl ?_
        obtain ⟨x7, e8, hf⟩ := sp_pl_some hf
        refine sp_nmi e8 ?_
        refine sp_istore_n (i := 2) (lv' := [some (.ref (sx_ad X 0)), some (.int z1), some (.int x7), some (.int z3), some (.int x2)]) (q := 64) hX dX12_unlike_63 rfl (Nat.le_of_ble_eq_true rfl) rfl rfl rfl ?_
        refine sp_aload_n (i := 0) (q := 65) hX dX12_unlike_64 rfl rfl rfl ?_
        refine sp_gets (t := 35) (q := 68) hX flX12_134 fkX12_52 atM_0 srM_0_52 dX12_unlike_65 rfl ?_
        refine sp_iload (i := 4) (q := 70) hX dX12_unlike_68 rfl rfl ?_
        refine sp_iconst (v := 1) (q := 71) hX dX12_unlike_70 li_1 rfl ?_
        obtain ⟨h9, hf⟩ := sp_ck_some hf
        obtain ⟨σ10, e11, hf⟩ := sp_pl_some hf
        refine sp_zast (q := 72) hX arM_35 h9 (by decide) dX12_unlike_71 rfl ?_
        refine sp_nms e11 ?_
        obtain ⟨x12, e13, hf⟩ := sp_pl_some hf
        refine sp_iinc (i := 3) (v := x12) (lv' := [some (.ref (sx_ad X 0)), some (.int z1), some (.int x7), some (.int x12), some (.int x2)]) (q := 75) hX dX12_unlike_72 rfl (by rw [e13, li_1]) (Nat.le_of_ble_eq_true rfl) rfl rfl rfl ?_
        refine sp_goto (tgt := 25) hX dX12_unlike_75 (by decide) ?_
        refine sp_drop (lv' := [some (.ref (sx_ad X 0)), some (.int z1), some (.int x7), some (.int x12), none]) (And.intro rfl (And.intro rfl (And.intro rfl (And.intro rfl trivial)))) ?_
        exact ih σ10 z1 x7 x12 hf
      refine sp_if_eq (tgt := 61) (q := 57) hX dX12_unlike_54 (by decide) rfl (fun hc => ?_) (fun hc => ?_)
      · refine sp_iconst (v := 1) (q := 62) hX dX12_unlike_61 li_1 rfl ?_
        exact sp_nmi (by rw [e6, if_pos hc]) hj14
      · refine sp_iconst (v := 0) (q := 58) hX dX12_unlike_57 li_0 rfl ?_
        refine sp_goto (tgt := 62) hX dX12_unlike_58 (by decide) ?_
        exact sp_nmi (by rw [e6, if_neg hc]) hj14
set_option maxRecDepth 100000 in
set_option maxHeartbeats 4000000 in
theorem hX12_unlike_21 {X : sp_X} (hX : sp_OK shM X cX12_unlike RX12 5 rmX12_unlike) {τ : sp_St} {r : Int32} (hR : sp_Ri shM X (some .int) τ r 0 0) {n : Nat}    {σ : sp_St} {z1 : Int32} (hf : X12_unlike_21 n σ z1 = some (τ, r)) : sp_GG shM X σ 5 [some (.ref (sx_ad X 0)), some (.int z1), none, none, none] [] 21 0 0 := by
  unfold X12_unlike_21 at hf
  refine sp_iconst (v := 0) (q := 22) hX dX12_unlike_21 li_0 rfl ?_
  obtain ⟨x1, e2, hf⟩ := sp_pl_some hf
  refine sp_nmi e2 ?_
  refine sp_istore_n (i := 2) (lv' := [some (.ref (sx_ad X 0)), some (.int z1), some (.int x1), none, none]) (q := 23) hX dX12_unlike_22 rfl (Nat.le_of_ble_eq_true rfl) rfl rfl rfl ?_
  refine sp_iconst (v := 0) (q := 24) hX dX12_unlike_23 li_0 rfl ?_
  obtain ⟨x3, e4, hf⟩ := sp_pl_some hf
  refine sp_nmi e4 ?_
  refine sp_istore_n (i := 3) (lv' := [some (.ref (sx_ad X 0)), some (.int z1), some (.int x1), some (.int x3), none]) (q := 25) hX dX12_unlike_24 rfl (Nat.le_of_ble_eq_true rfl) rfl rfl rfl ?_
  exact hX12_unlike_25 hX hR n σ z1 x1 x3 hf
set_option maxRecDepth 100000 in
set_option maxHeartbeats 4000000 in
theorem hX12_unlike_2 {X : sp_X} (hX : sp_OK shM X cX12_unlike RX12 5 rmX12_unlike) {τ : sp_St} {r : Int32} (hR : sp_Ri shM X (some .int) τ r 0 0) {n : Nat}    : ∀ (f : Nat) (σ : sp_St) (z1 : Int32) (z2 : Int32), X12_unlike_2 n f σ z1 z2 = some (τ, r) → sp_GG shM X σ 5 [some (.ref (sx_ad X 0)), some (.int z1), some (.int z2), none, none] [] 2 0 0 := by
  intro f
  induction f with
  | zero =>
    intro σ z1 z2 hf
    rw [X12_unlike_2] at hf
    cases hf
  | succ f ih =>
    intro σ z1 z2 hf
    rw [X12_unlike_2] at hf
    refine sp_iload_n (i := 2) (q := 3) hX dX12_unlike_2 rfl rfl rfl ?_
    refine sp_bipush (v := 99) (q := 5) hX dX12_unlike_3 lb_99 rfl ?_
    refine sp_icmp_gt (tgt := 21) (q := 8) hX dX12_unlike_5 (by decide) rfl (fun hc => ?_) (fun hc => ?_)
    · rw [if_pos hc] at hf
      refine sp_drop (lv' := [some (.ref (sx_ad X 0)), some (.int z1), none, none, none]) (And.intro rfl (And.intro rfl trivial)) ?_
      exact hX12_unlike_21 hX hR hf
    · rw [if_neg hc] at hf
      refine sp_aload_n (i := 0) (q := 9) hX dX12_unlike_8 rfl rfl rfl ?_
      refine sp_gets (t := 35) (q := 12) hX flX12_134 fkX12_52 atM_0 srM_0_52 dX12_unlike_9 rfl ?_
      refine sp_iload_n (i := 2) (q := 13) hX dX12_unlike_12 rfl rfl rfl ?_
      refine sp_iconst (v := 0) (q := 14) hX dX12_unlike_13 li_0 rfl ?_
      obtain ⟨h1, hf⟩ := sp_ck_some hf
      obtain ⟨σ2, e3, hf⟩ := sp_pl_some hf
      refine sp_zast (q := 15) hX arM_35 h1 (by decide) dX12_unlike_14 rfl ?_
      refine sp_nms e3 ?_
      obtain ⟨x4, e5, hf⟩ := sp_pl_some hf
      refine sp_iinc (i := 2) (v := x4) (lv' := [some (.ref (sx_ad X 0)), some (.int z1), some (.int x4), none, none]) (q := 18) hX dX12_unlike_15 rfl (by rw [e5, li_1]) (Nat.le_of_ble_eq_true rfl) rfl rfl rfl ?_
      refine sp_goto (tgt := 2) hX dX12_unlike_18 (by decide) ?_
      exact ih σ2 z1 x4 hf
set_option maxRecDepth 100000 in
set_option maxHeartbeats 4000000 in
theorem hX12_unlike {X : sp_X} (hX : sp_OK shM X cX12_unlike RX12 5 rmX12_unlike) {τ : sp_St} {r : Int32} (hR : sp_Ri shM X (some .int) τ r 0 0) {n : Nat}  {σ : sp_St} {a1 : Int32}  (hf : X12_unlike n σ a1 = some (τ, r)) : sp_GG shM X σ 5 [some (.ref (sx_ad X 0)), some (.int a1), none, none, none] [] 0 0 0 := by
  unfold X12_unlike at hf
  refine sp_iconst (v := 0) (q := 1) hX dX12_unlike_0 li_0 rfl ?_
  obtain ⟨x1, e2, hf⟩ := sp_pl_some hf
  refine sp_nmi e2 ?_
  refine sp_istore_n (i := 2) (lv' := [some (.ref (sx_ad X 0)), some (.int a1), some (.int x1), none, none]) (q := 2) hX dX12_unlike_1 rfl (Nat.le_of_ble_eq_true rfl) rfl rfl rfl ?_
  exact hX12_unlike_2 hX hR n σ a1 x1 hf
set_option maxRecDepth 100000 in
set_option maxHeartbeats 4000000 in
theorem cnX12_unlike {l : Launch} (hst : l.stackTraces = false) {w : sp_Wd} {n : Nat}  {σ : sp_St} {a1 : Int32} {τ : sp_St} {r : Int32}  (hf : X12_unlike n σ a1 = some (τ, r)) : sp_Ci shM l w yX12_unlike cX12_unlike 5 (some .int) rmX12_unlike 0 0 σ [.ref (w.2.1 0), .int a1] τ r :=
  sp_ci (own := RX12) (by decide) rfl hst (Nat.le_of_ble_eq_true rfl) rfl (fun X hX hw hl hR => by subst hw; subst hl; exact hX12_unlike hX hR   hf)
def rmX12_look : Room := { frames := 8, cells := 0, slots := 0, locals := 179 }
def X12_look_164 (n : Nat) (σ : sp_St) (z1 : Int32) (z2 : Int32) (z3 : Int32) : Option (sp_St × Int32) :=
  sp_pl (if z1 = 0 then z2 else z3) fun v1 =>
  some (σ, v1)
def X12_look_158 (n : Nat) (k124 : sp_St → Int32 → Int32 → Int32 → Int32 → Option (sp_St × Int32)) (σ : sp_St) (z1 : Int32) (z2 : Int32) (z3 : Int32) (z4 : Int32) : Option (sp_St × Int32) :=
  sp_pl (z4 + 1) fun x1 =>
  k124 σ z1 z2 z3 x1
def X12_look_124 (n : Nat) : Nat → sp_St → Int32 → Int32 → Int32 → Int32 → Option (sp_St × Int32)
  | 0, _, _, _, _, _ => none
  | f + 1, σ, z1, z2, z3, z4 =>
    if (sp_g σ 3 ((2 : Int32))) ≤ z4 then
      X12_look_164 n σ z1 z2 z3
    else
      sp_bd (X12_unlike n σ z4) fun σ2 v3 =>
      if z3 < v3 then
        X12_look_158 n (X12_look_124 n f) σ2 z1 z4 v3 z4
      else
        X12_look_158 n (X12_look_124 n f) σ2 z1 z2 z3 z4
def X12_look_117 (n : Nat) (σ : sp_St) (z1 : Int32) : Option (sp_St × Int32) :=
  sp_pl ((-1 : Int32)) fun x1 =>
  sp_pl ((0 : Int32)) fun x3 =>
  sp_pl ((0 : Int32)) fun x5 =>
  X12_look_124 n n σ z1 x1 x3 x5
def X12_look_102 (n : Nat) (k35 : sp_St → Int32 → Int32 → Option (sp_St × Int32)) (σ : sp_St) (z1 : Int32) (z2 : Int32) : Option (sp_St × Int32) :=
  sp_bv (X12_unpack n σ 25 88 ((0 : Int32))) fun σ2 =>
  sp_pl (z2 + 1) fun x3 =>
  k35 σ2 z1 x3
def X12_look_73 (n : Nat) (k35 : sp_St → Int32 → Int32 → Option (sp_St × Int32)) : Nat → sp_St → Int32 → Int32 → Int32 → Option (sp_St × Int32)
  | 0, _, _, _, _ => none
  | f + 1, σ, z1, z2, z3 =>
    if ((10 : Int32)) ≤ z3 then
      X12_look_102 n k35 σ z1 z2
    else
      sp_ck (sp_in z3 10) <|
      sp_ck (sp_in ((((10 : Int32)) * z2) + z3) 10000) <|
      sp_pl (sp_sa σ 34 ((((10 : Int32)) * z2) + z3).toNatClampNeg (sp_g σ 14 z3)) fun σ3 =>
      sp_pl (z3 + 1) fun x5 =>
      X12_look_73 n k35 f σ3 z1 z2 x5
def X12_look_35 (n : Nat) : Nat → sp_St → Int32 → Int32 → Option (sp_St × Int32)
  | 0, _, _, _ => none
  | f + 1, σ, z1, z2 =>
    if (σ.1 0 51) ≤ z2 then
      X12_look_117 n σ z1
    else
      sp_ck (sp_in z2 1000) <|
      sp_ck (!decide (((100 : Int32)) = 0)) <|
      sp_ck (sp_in z2 1000) <|
      sp_ck (!decide (((100 : Int32)) = 0)) <|
      sp_ck (sp_in ((sp_g σ 33 z2) / ((100 : Int32))) 10) <|
      sp_pl (sp_sa σ 14 ((sp_g σ 33 z2) / ((100 : Int32))).toNatClampNeg ((sp_g σ 33 z2) - (sp_g σ 33 z2) / ((100 : Int32)) * ((100 : Int32)))) fun σ6 =>
      sp_bv (X12_goOn n σ6 ((3 : Int32))) fun σ9 =>
      sp_pl ((0 : Int32)) fun x10 =>
      X12_look_73 n (X12_look_35 n f) n σ9 z1 z2 x10
def X12_look_14 (n : Nat) (σ : sp_St) : Option (sp_St × Int32) :=
  sp_bd (X12_fail n σ ((1 : Int32))) fun σ2 v3 =>
  some (σ2, v3)
def X12_look (n : Nat)  (σ : sp_St) (a1 : Int32) : Option (sp_St × Int32) :=
  sp_pl (sp_si σ 0 3 ((0 : Int32))) fun σ1 =>
  if a1 < 0 then
    X12_look_14 n σ1
  else
    if a1 ≤ ((1 : Int32)) then
      sp_bv (X12_tellFits n σ1) fun σ4 =>
      sp_bv (X12_pack n σ4 25 88 ((0 : Int32))) fun σ6 =>
      sp_pl ((0 : Int32)) fun x7 =>
      X12_look_35 n n σ6 a1 x7
    else
      X12_look_14 n σ1
set_option maxRecDepth 100000 in
set_option maxHeartbeats 4000000 in
theorem hX12_look_164 {X : sp_X} (hX : sp_OK shM X cX12_look RX12 6 rmX12_look) {τ : sp_St} {r : Int32} (hR : sp_Ri shM X (some .int) τ r 0 0) {n : Nat}    {σ : sp_St} {z1 : Int32} {z2 : Int32} {z3 : Int32} (hf : X12_look_164 n σ z1 z2 z3 = some (τ, r)) : sp_GG shM X σ 6 [none, some (.int z1), some (.int z2), some (.int z3), none, none] [] 164 0 0 := by
  unfold X12_look_164 at hf
  refine sp_iload_n (i := 1) (q := 165) hX dX12_look_164 rfl rfl rfl ?_
  obtain ⟨v1, e2, hf⟩ := sp_pl_some hf
  have hj3 : sp_GG shM X σ 6 [none, some (.int z1), some (.int z2), some (.int z3), none, none] [.int v1] 173 0 0 := by
    exact sp_iret hX hR dX12_look_173 hf (Nat.le_of_ble_eq_true rfl) (Nat.le_of_ble_eq_true rfl)
  refine sp_if_ne (tgt := 172) (q := 168) hX dX12_look_165 (by decide) rfl (fun hc => ?_) (fun hc => ?_)
  · refine sp_iload_n (i := 3) (q := 173) hX dX12_look_172 rfl rfl rfl ?_
    exact sp_nmi (by rw [e2, if_neg hc]) hj3
  · refine sp_iload_n (i := 2) (q := 169) hX dX12_look_168 rfl rfl rfl ?_
    refine sp_goto (tgt := 173) hX dX12_look_169 (by decide) ?_
    exact sp_nmi (by rw [e2, if_pos hc]) hj3
set_option maxRecDepth 100000 in
set_option maxHeartbeats 4000000 in
theorem hX12_look_158 {X : sp_X} (hX : sp_OK shM X cX12_look RX12 6 rmX12_look) {τ : sp_St} {r : Int32} (hR : sp_Ri shM X (some .int) τ r 0 0) {n : Nat}   {k124 : sp_St → Int32 → Int32 → Int32 → Int32 → Option (sp_St × Int32)} (hk124 : ∀ (σ : sp_St) (z1 : Int32) (z2 : Int32) (z3 : Int32) (z4 : Int32), k124 σ z1 z2 z3 z4 = some (τ, r) → sp_GG shM X σ 6 [some (.ref (sx_ad X 0)), some (.int z1), some (.int z2), some (.int z3), some (.int z4), none] [] 124 0 0) {σ : sp_St} {z1 : Int32} {z2 : Int32} {z3 : Int32} {z4 : Int32} (hf : X12_look_158 n k124 σ z1 z2 z3 z4 = some (τ, r)) : sp_GG shM X σ 6 [some (.ref (sx_ad X 0)), some (.int z1), some (.int z2), some (.int z3), some (.int z4), none] [] 158 0 0 := by
  unfold X12_look_158 at hf
  obtain ⟨x1, e2, hf⟩ := sp_pl_some hf
  refine sp_iinc (i := 4) (v := x1) (lv' := [some (.ref (sx_ad X 0)), some (.int z1), some (.int z2), some (.int z3), some (.int x1), none]) (q := 161) hX dX12_look_158 rfl (by rw [e2, li_1]) (Nat.le_of_ble_eq_true rfl) rfl rfl rfl ?_
  refine sp_goto (tgt := 124) hX dX12_look_161 (by decide) ?_
  exact hk124 σ z1 z2 z3 x1 hf
set_option maxRecDepth 100000 in
set_option maxHeartbeats 4000000 in
theorem hX12_look_124 {X : sp_X} (hX : sp_OK shM X cX12_look RX12 6 rmX12_look) {τ : sp_St} {r : Int32} (hR : sp_Ri shM X (some .int) τ r 0 0) {n : Nat}    : ∀ (f : Nat) (σ : sp_St) (z1 : Int32) (z2 : Int32) (z3 : Int32) (z4 : Int32), X12_look_124 n f σ z1 z2 z3 z4 = some (τ, r) → sp_GG shM X σ 6 [some (.ref (sx_ad X 0)), some (.int z1), some (.int z2), some (.int z3), some (.int z4), none] [] 124 0 0 := by
  intro f
  induction f with
  | zero =>
    intro σ z1 z2 z3 z4 hf
    rw [X12_look_124] at hf
    cases hf
  | succ f ih =>
    intro σ z1 z2 z3 z4 hf
    rw [X12_look_124] at hf
    refine sp_iload (i := 4) (q := 126) hX dX12_look_124 rfl rfl ?_
    refine sp_aload_n (i := 0) (q := 127) hX dX12_look_126 rfl rfl rfl ?_
    refine sp_gets (t := 3) (q := 130) hX flX12_33 fkX12_4 atM_0 srM_0_4 dX12_look_127 rfl ?_
    refine sp_iconst (v := 2) (q := 131) hX dX12_look_130 li_2 rfl ?_
    refine sp_iald (q := 132) hX arM_3 (by decide) dX12_look_131 rfl ?_
    refine sp_icmp_ge (tgt := 164) (q := 135) hX dX12_look_132 (by decide) rfl (fun hc => ?_) (fun hc => ?_)
    · rw [if_pos hc] at hf
      refine sp_drop (lv' := [none, some (.int z1), some (.int z2), some (.int z3), none, none]) (And.intro rfl (And.intro rfl (And.intro rfl trivial))) ?_
      exact hX12_look_164 hX hR hf
    · rw [if_neg hc] at hf
      refine sp_aload_n (i := 0) (q := 136) hX dX12_look_135 rfl rfl rfl ?_
      refine sp_iload (i := 4) (q := 138) hX dX12_look_136 rfl rfl ?_
      obtain ⟨σ2, v3, h1, hf⟩ := sp_bd_so hf
      refine sp_callVi (As := [.int z4]) (rest := []) (q := 141) hX (cnX12_unlike (sp_st hX)  h1) cwX12_473 atM_0 rfl rfl rfl rfl rfl (Nat.le_of_ble_eq_true rfl) (Nat.le_of_ble_eq_true rfl) (Nat.le_of_ble_eq_true rfl) (Nat.le_of_ble_eq_true rfl) (Nat.le_of_ble_eq_true rfl) dX12_look_138 rfl ?_
      refine sp_istore (i := 5) (lv' := [some (.ref (sx_ad X 0)), some (.int z1), some (.int z2), some (.int z3), some (.int z4), some (.int v3)]) (q := 143) hX dX12_look_141 (Nat.le_of_ble_eq_true rfl) rfl rfl rfl ?_
      refine sp_iload (i := 5) (q := 145) hX dX12_look_143 rfl rfl ?_
      refine sp_iload_n (i := 3) (q := 146) hX dX12_look_145 rfl rfl rfl ?_
      refine sp_icmp_gt (tgt := 152) (q := 149) hX dX12_look_146 (by decide) rfl (fun hc => ?_) (fun hc => ?_)
      · rw [if_pos hc] at hf
        refine sp_iload (i := 4) (q := 154) hX dX12_look_152 rfl rfl ?_
        refine sp_istore_n (i := 2) (lv' := [some (.ref (sx_ad X 0)), some (.int z1), some (.int z4), some (.int z3), some (.int z4), some (.int v3)]) (q := 155) hX dX12_look_154 rfl (Nat.le_of_ble_eq_true rfl) rfl rfl rfl ?_
        refine sp_iload (i := 5) (q := 157) hX dX12_look_155 rfl rfl ?_
        refine sp_istore_n (i := 3) (lv' := [some (.ref (sx_ad X 0)), some (.int z1), some (.int z4), some (.int v3), some (.int z4), some (.int v3)]) (q := 158) hX dX12_look_157 rfl (Nat.le_of_ble_eq_true rfl) rfl rfl rfl ?_
        refine sp_drop (lv' := [some (.ref (sx_ad X 0)), some (.int z1), some (.int z4), some (.int v3), some (.int z4), none]) (And.intro rfl (And.intro rfl (And.intro rfl (And.intro rfl (And.intro rfl trivial))))) ?_
        exact hX12_look_158 hX hR ih hf
      · rw [if_neg hc] at hf
        refine sp_goto (tgt := 158) hX dX12_look_149 (by decide) ?_
        refine sp_drop (lv' := [some (.ref (sx_ad X 0)), some (.int z1), some (.int z2), some (.int z3), some (.int z4), none]) (And.intro rfl (And.intro rfl (And.intro rfl (And.intro rfl (And.intro rfl trivial))))) ?_
        exact hX12_look_158 hX hR ih hf
set_option maxRecDepth 100000 in
set_option maxHeartbeats 4000000 in
theorem hX12_look_117 {X : sp_X} (hX : sp_OK shM X cX12_look RX12 6 rmX12_look) {τ : sp_St} {r : Int32} (hR : sp_Ri shM X (some .int) τ r 0 0) {n : Nat}    {σ : sp_St} {z1 : Int32} (hf : X12_look_117 n σ z1 = some (τ, r)) : sp_GG shM X σ 6 [some (.ref (sx_ad X 0)), some (.int z1), none, none, none, none] [] 117 0 0 := by
  unfold X12_look_117 at hf
  refine sp_iconst (v := -1) (q := 118) hX dX12_look_117 li_m1 rfl ?_
  obtain ⟨x1, e2, hf⟩ := sp_pl_some hf
  refine sp_nmi e2 ?_
  refine sp_istore_n (i := 2) (lv' := [some (.ref (sx_ad X 0)), some (.int z1), some (.int x1), none, none, none]) (q := 119) hX dX12_look_118 rfl (Nat.le_of_ble_eq_true rfl) rfl rfl rfl ?_
  refine sp_iconst (v := 0) (q := 120) hX dX12_look_119 li_0 rfl ?_
  obtain ⟨x3, e4, hf⟩ := sp_pl_some hf
  refine sp_nmi e4 ?_
  refine sp_istore_n (i := 3) (lv' := [some (.ref (sx_ad X 0)), some (.int z1), some (.int x1), some (.int x3), none, none]) (q := 121) hX dX12_look_120 rfl (Nat.le_of_ble_eq_true rfl) rfl rfl rfl ?_
  refine sp_iconst (v := 0) (q := 122) hX dX12_look_121 li_0 rfl ?_
  obtain ⟨x5, e6, hf⟩ := sp_pl_some hf
  refine sp_nmi e6 ?_
  refine sp_istore (i := 4) (lv' := [some (.ref (sx_ad X 0)), some (.int z1), some (.int x1), some (.int x3), some (.int x5), none]) (q := 124) hX dX12_look_122 (Nat.le_of_ble_eq_true rfl) rfl rfl rfl ?_
  exact hX12_look_124 hX hR n σ z1 x1 x3 x5 hf
set_option maxRecDepth 100000 in
set_option maxHeartbeats 4000000 in
theorem hX12_look_102 {X : sp_X} (hX : sp_OK shM X cX12_look RX12 6 rmX12_look) {τ : sp_St} {r : Int32} (hR : sp_Ri shM X (some .int) τ r 0 0) {n : Nat}   {k35 : sp_St → Int32 → Int32 → Option (sp_St × Int32)} (hk35 : ∀ (σ : sp_St) (z1 : Int32) (z2 : Int32), k35 σ z1 z2 = some (τ, r) → sp_GG shM X σ 6 [some (.ref (sx_ad X 0)), some (.int z1), some (.int z2), none, none, none] [] 35 0 0) {σ : sp_St} {z1 : Int32} {z2 : Int32} (hf : X12_look_102 n k35 σ z1 z2 = some (τ, r)) : sp_GG shM X σ 6 [some (.ref (sx_ad X 0)), some (.int z1), some (.int z2), none, none, none] [] 102 0 0 := by
  unfold X12_look_102 at hf
  refine sp_aload_n (i := 0) (q := 103) hX dX12_look_102 rfl rfl rfl ?_
  refine sp_aload_n (i := 0) (q := 104) hX dX12_look_103 rfl rfl rfl ?_
  refine sp_gets (t := 25) (q := 107) hX flX12_102 fkX12_41 atM_0 srM_0_41 dX12_look_104 rfl ?_
  refine sp_iconst (v := 0) (q := 108) hX dX12_look_107 li_0 rfl ?_
  obtain ⟨σ2, h1, hf⟩ := sp_bv_so hf
  refine sp_callVv (As := [.ref (sx_ad X 25), .int ((0 : Int32))]) (rest := []) (q := 111) hX (cnX12_unpack (sp_st hX) arM_25 h1) cwX12_432 atM_0 rfl rfl rfl rfl rfl (Nat.le_of_ble_eq_true rfl) (Nat.le_of_ble_eq_true rfl) (Nat.le_of_ble_eq_true rfl) (Nat.le_of_ble_eq_true rfl) (Nat.le_of_ble_eq_true rfl) dX12_look_108 rfl ?_
  obtain ⟨x3, e4, hf⟩ := sp_pl_some hf
  refine sp_iinc (i := 2) (v := x3) (lv' := [some (.ref (sx_ad X 0)), some (.int z1), some (.int x3), none, none, none]) (q := 114) hX dX12_look_111 rfl (by rw [e4, li_1]) (Nat.le_of_ble_eq_true rfl) rfl rfl rfl ?_
  refine sp_goto (tgt := 35) hX dX12_look_114 (by decide) ?_
  exact hk35 σ2 z1 x3 hf
set_option maxRecDepth 100000 in
set_option maxHeartbeats 4000000 in
theorem hX12_look_73 {X : sp_X} (hX : sp_OK shM X cX12_look RX12 6 rmX12_look) {τ : sp_St} {r : Int32} (hR : sp_Ri shM X (some .int) τ r 0 0) {n : Nat}   {k35 : sp_St → Int32 → Int32 → Option (sp_St × Int32)} (hk35 : ∀ (σ : sp_St) (z1 : Int32) (z2 : Int32), k35 σ z1 z2 = some (τ, r) → sp_GG shM X σ 6 [some (.ref (sx_ad X 0)), some (.int z1), some (.int z2), none, none, none] [] 35 0 0) : ∀ (f : Nat) (σ : sp_St) (z1 : Int32) (z2 : Int32) (z3 : Int32), X12_look_73 n k35 f σ z1 z2 z3 = some (τ, r) → sp_GG shM X σ 6 [some (.ref (sx_ad X 0)), some (.int z1), some (.int z2), some (.int z3), none, none] [] 73 0 0 := by
  intro f
  induction f with
  | zero =>
    intro σ z1 z2 z3 hf
    rw [X12_look_73] at hf
    cases hf
  | succ f ih =>
    intro σ z1 z2 z3 hf
    rw [X12_look_73] at hf
    refine sp_iload_n (i := 3) (q := 74) hX dX12_look_73 rfl rfl rfl ?_
    refine sp_bipush (v := 10) (q := 76) hX dX12_look_74 lb_10 rfl ?_
    refine sp_icmp_ge (tgt := 102) (q := 79) hX dX12_look_76 (by decide) rfl (fun hc => ?_) (fun hc => ?_)
    · rw [if_pos hc] at hf
      refine sp_drop (lv' := [some (.ref (sx_ad X 0)), some (.int z1), some (.int z2), none, none, none]) (And.intro rfl (And.intro rfl (And.intro rfl trivial))) ?_
      exact hX12_look_102 hX hR hk35 hf
    · rw [if_neg hc] at hf
      refine sp_aload_n (i := 0) (q := 80) hX dX12_look_79 rfl rfl rfl ?_
      refine sp_gets (t := 34) (q := 83) hX flX12_131 fkX12_50 atM_0 srM_0_50 dX12_look_80 rfl ?_
      refine sp_bipush (v := 10) (q := 85) hX dX12_look_83 lb_10 rfl ?_
      refine sp_iload_n (i := 2) (q := 86) hX dX12_look_85 rfl rfl rfl ?_
      refine sp_imul (q := 87) hX dX12_look_86 rfl ?_
      refine sp_iload_n (i := 3) (q := 88) hX dX12_look_87 rfl rfl rfl ?_
      refine sp_iadd (q := 89) hX dX12_look_88 rfl ?_
      refine sp_aload_n (i := 0) (q := 90) hX dX12_look_89 rfl rfl rfl ?_
      refine sp_gets (t := 14) (q := 93) hX flX12_70 fkX12_26 atM_0 srM_0_26 dX12_look_90 rfl ?_
      refine sp_iload_n (i := 3) (q := 94) hX dX12_look_93 rfl rfl rfl ?_
      obtain ⟨h1, hf⟩ := sp_ck_some hf
      refine sp_iald (q := 95) hX arM_14 h1 dX12_look_94 rfl ?_
      obtain ⟨h2, hf⟩ := sp_ck_some hf
      obtain ⟨σ3, e4, hf⟩ := sp_pl_some hf
      refine sp_iast (q := 96) hX arM_34 h2 dX12_look_95 rfl ?_
      refine sp_nms e4 ?_
      obtain ⟨x5, e6, hf⟩ := sp_pl_some hf
      refine sp_iinc (i := 3) (v := x5) (lv' := [some (.ref (sx_ad X 0)), some (.int z1), some (.int z2), some (.int x5), none, none]) (q := 99) hX dX12_look_96 rfl (by rw [e6, li_1]) (Nat.le_of_ble_eq_true rfl) rfl rfl rfl ?_
      refine sp_goto (tgt := 73) hX dX12_look_99 (by decide) ?_
      exact ih σ3 z1 z2 x5 hf
set_option maxRecDepth 100000 in
set_option maxHeartbeats 4000000 in
theorem hX12_look_35 {X : sp_X} (hX : sp_OK shM X cX12_look RX12 6 rmX12_look) {τ : sp_St} {r : Int32} (hR : sp_Ri shM X (some .int) τ r 0 0) {n : Nat}    : ∀ (f : Nat) (σ : sp_St) (z1 : Int32) (z2 : Int32), X12_look_35 n f σ z1 z2 = some (τ, r) → sp_GG shM X σ 6 [some (.ref (sx_ad X 0)), some (.int z1), some (.int z2), none, none, none] [] 35 0 0 := by
  intro f
  induction f with
  | zero =>
    intro σ z1 z2 hf
    rw [X12_look_35] at hf
    cases hf
  | succ f ih =>
    intro σ z1 z2 hf
    rw [X12_look_35] at hf
    refine sp_iload_n (i := 2) (q := 36) hX dX12_look_35 rfl rfl rfl ?_
    refine sp_aload_n (i := 0) (q := 37) hX dX12_look_36 rfl rfl rfl ?_
    refine sp_geti (q := 40) hX flX12_461 fkX12_51 atM_0 dX12_look_37 rfl ?_
    refine sp_icmp_ge (tgt := 117) (q := 43) hX dX12_look_40 (by decide) rfl (fun hc => ?_) (fun hc => ?_)
    · rw [if_pos hc] at hf
      refine sp_drop (lv' := [some (.ref (sx_ad X 0)), some (.int z1), none, none, none, none]) (And.intro rfl (And.intro rfl trivial)) ?_
      exact hX12_look_117 hX hR hf
    · rw [if_neg hc] at hf
      refine sp_aload_n (i := 0) (q := 44) hX dX12_look_43 rfl rfl rfl ?_
      refine sp_gets (t := 14) (q := 47) hX flX12_70 fkX12_26 atM_0 srM_0_26 dX12_look_44 rfl ?_
      refine sp_aload_n (i := 0) (q := 48) hX dX12_look_47 rfl rfl rfl ?_
      refine sp_gets (t := 33) (q := 51) hX flX12_128 fkX12_49 atM_0 srM_0_49 dX12_look_48 rfl ?_
      refine sp_iload_n (i := 2) (q := 52) hX dX12_look_51 rfl rfl rfl ?_
      obtain ⟨h1, hf⟩ := sp_ck_some hf
      refine sp_iald (q := 53) hX arM_33 h1 dX12_look_52 rfl ?_
      refine sp_bipush (v := 100) (q := 55) hX dX12_look_53 lb_100 rfl ?_
      obtain ⟨h2, hf⟩ := sp_ck_some hf
      refine sp_idiv (q := 56) hX dX12_look_55 (sp_nz h2) rfl ?_
      refine sp_aload_n (i := 0) (q := 57) hX dX12_look_56 rfl rfl rfl ?_
      refine sp_gets (t := 33) (q := 60) hX flX12_128 fkX12_49 atM_0 srM_0_49 dX12_look_57 rfl ?_
      refine sp_iload_n (i := 2) (q := 61) hX dX12_look_60 rfl rfl rfl ?_
      obtain ⟨h3, hf⟩ := sp_ck_some hf
      refine sp_iald (q := 62) hX arM_33 h3 dX12_look_61 rfl ?_
      refine sp_bipush (v := 100) (q := 64) hX dX12_look_62 lb_100 rfl ?_
      obtain ⟨h4, hf⟩ := sp_ck_some hf
      refine sp_irem (q := 65) hX dX12_look_64 (sp_nz h4) rfl ?_
      obtain ⟨h5, hf⟩ := sp_ck_some hf
      obtain ⟨σ6, e7, hf⟩ := sp_pl_some hf
      refine sp_iast (q := 66) hX arM_14 h5 dX12_look_65 rfl ?_
      refine sp_nms e7 ?_
      refine sp_aload_n (i := 0) (q := 67) hX dX12_look_66 rfl rfl rfl ?_
      refine sp_iconst (v := 3) (q := 68) hX dX12_look_67 li_3 rfl ?_
      obtain ⟨σ9, h8, hf⟩ := sp_bv_so hf
      refine sp_callVv (As := [.int ((3 : Int32))]) (rest := []) (q := 71) hX (cnX12_goOn (sp_st hX)  h8) cwX12_426 atM_0 rfl rfl rfl rfl rfl (Nat.le_of_ble_eq_true rfl) (Nat.le_of_ble_eq_true rfl) (Nat.le_of_ble_eq_true rfl) (Nat.le_of_ble_eq_true rfl) (Nat.le_of_ble_eq_true rfl) dX12_look_68 rfl ?_
      refine sp_iconst (v := 0) (q := 72) hX dX12_look_71 li_0 rfl ?_
      obtain ⟨x10, e11, hf⟩ := sp_pl_some hf
      refine sp_nmi e11 ?_
      refine sp_istore_n (i := 3) (lv' := [some (.ref (sx_ad X 0)), some (.int z1), some (.int z2), some (.int x10), none, none]) (q := 73) hX dX12_look_72 rfl (Nat.le_of_ble_eq_true rfl) rfl rfl rfl ?_
      exact hX12_look_73 hX hR ih n σ9 z1 z2 x10 hf
set_option maxRecDepth 100000 in
set_option maxHeartbeats 4000000 in
theorem hX12_look_14 {X : sp_X} (hX : sp_OK shM X cX12_look RX12 6 rmX12_look) {τ : sp_St} {r : Int32} (hR : sp_Ri shM X (some .int) τ r 0 0) {n : Nat}    {σ : sp_St} (hf : X12_look_14 n σ = some (τ, r)) : sp_GG shM X σ 6 [some (.ref (sx_ad X 0)), none, none, none, none, none] [] 14 0 0 := by
  unfold X12_look_14 at hf
  refine sp_aload_n (i := 0) (q := 15) hX dX12_look_14 rfl rfl rfl ?_
  refine sp_iconst (v := 1) (q := 16) hX dX12_look_15 li_1 rfl ?_
  obtain ⟨σ2, v3, h1, hf⟩ := sp_bd_so hf
  refine sp_callVi (As := [.int ((1 : Int32))]) (rest := []) (q := 19) hX (cnX12_fail (sp_st hX)  h1) cwX12_312 atM_0 rfl rfl rfl rfl rfl (Nat.le_of_ble_eq_true rfl) (Nat.le_of_ble_eq_true rfl) (Nat.le_of_ble_eq_true rfl) (Nat.le_of_ble_eq_true rfl) (Nat.le_of_ble_eq_true rfl) dX12_look_16 rfl ?_
  exact sp_iret hX hR dX12_look_19 hf (Nat.le_of_ble_eq_true rfl) (Nat.le_of_ble_eq_true rfl)
set_option maxRecDepth 100000 in
set_option maxHeartbeats 4000000 in
theorem hX12_look {X : sp_X} (hX : sp_OK shM X cX12_look RX12 6 rmX12_look) {τ : sp_St} {r : Int32} (hR : sp_Ri shM X (some .int) τ r 0 0) {n : Nat}  {σ : sp_St} {a1 : Int32}  (hf : X12_look n σ a1 = some (τ, r)) : sp_GG shM X σ 6 [some (.ref (sx_ad X 0)), some (.int a1), none, none, none, none] [] 0 0 0 := by
  unfold X12_look at hf
  refine sp_aload_n (i := 0) (q := 1) hX dX12_look_0 rfl rfl rfl ?_
  refine sp_iconst (v := 0) (q := 2) hX dX12_look_1 li_0 rfl ?_
  obtain ⟨σ1, e2, hf⟩ := sp_pl_some hf
  refine sp_puti (q := 5) hX fpX12_158 fkX12_3 atM_0 dX12_look_2 rfl ?_
  refine sp_nms e2 ?_
  refine sp_iload_n (i := 1) (q := 6) hX dX12_look_5 rfl rfl rfl ?_
  refine sp_if_lt (tgt := 14) (q := 9) hX dX12_look_6 (by decide) rfl (fun hc => ?_) (fun hc => ?_)
  · rw [if_pos hc] at hf
    refine sp_drop (lv' := [some (.ref (sx_ad X 0)), none, none, none, none, none]) (And.intro rfl trivial) ?_
    exact hX12_look_14 hX hR hf
  · rw [if_neg hc] at hf
    refine sp_iload_n (i := 1) (q := 10) hX dX12_look_9 rfl rfl rfl ?_
    refine sp_iconst (v := 1) (q := 11) hX dX12_look_10 li_1 rfl ?_
    refine sp_icmp_le (tgt := 20) (q := 14) hX dX12_look_11 (by decide) rfl (fun hc => ?_) (fun hc => ?_)
    · rw [if_pos hc] at hf
      refine sp_aload_n (i := 0) (q := 21) hX dX12_look_20 rfl rfl rfl ?_
      obtain ⟨σ4, h3, hf⟩ := sp_bv_so hf
      refine sp_callVv (As := []) (rest := []) (q := 24) hX (cnX12_tellFits (sp_st hX)  h3) cwX12_470 atM_0 rfl rfl rfl rfl rfl (Nat.le_of_ble_eq_true rfl) (Nat.le_of_ble_eq_true rfl) (Nat.le_of_ble_eq_true rfl) (Nat.le_of_ble_eq_true rfl) (Nat.le_of_ble_eq_true rfl) dX12_look_21 rfl ?_
      refine sp_aload_n (i := 0) (q := 25) hX dX12_look_24 rfl rfl rfl ?_
      refine sp_aload_n (i := 0) (q := 26) hX dX12_look_25 rfl rfl rfl ?_
      refine sp_gets (t := 25) (q := 29) hX flX12_102 fkX12_41 atM_0 srM_0_41 dX12_look_26 rfl ?_
      refine sp_iconst (v := 0) (q := 30) hX dX12_look_29 li_0 rfl ?_
      obtain ⟨σ6, h5, hf⟩ := sp_bv_so hf
      refine sp_callVv (As := [.ref (sx_ad X 25), .int ((0 : Int32))]) (rest := []) (q := 33) hX (cnX12_pack (sp_st hX) arM_25 h5) cwX12_414 atM_0 rfl rfl rfl rfl rfl (Nat.le_of_ble_eq_true rfl) (Nat.le_of_ble_eq_true rfl) (Nat.le_of_ble_eq_true rfl) (Nat.le_of_ble_eq_true rfl) (Nat.le_of_ble_eq_true rfl) dX12_look_30 rfl ?_
      refine sp_iconst (v := 0) (q := 34) hX dX12_look_33 li_0 rfl ?_
      obtain ⟨x7, e8, hf⟩ := sp_pl_some hf
      refine sp_nmi e8 ?_
      refine sp_istore_n (i := 2) (lv' := [some (.ref (sx_ad X 0)), some (.int a1), some (.int x7), none, none, none]) (q := 35) hX dX12_look_34 rfl (Nat.le_of_ble_eq_true rfl) rfl rfl rfl ?_
      exact hX12_look_35 hX hR n σ6 a1 x7 hf
    · rw [if_neg hc] at hf
      refine sp_drop (lv' := [some (.ref (sx_ad X 0)), none, none, none, none, none]) (And.intro rfl trivial) ?_
      exact hX12_look_14 hX hR hf
set_option maxRecDepth 100000 in
set_option maxHeartbeats 4000000 in
theorem cnX12_look {l : Launch} (hst : l.stackTraces = false) {w : sp_Wd} {n : Nat}  {σ : sp_St} {a1 : Int32} {τ : sp_St} {r : Int32}  (hf : X12_look n σ a1 = some (τ, r)) : sp_Ci shM l w yX12_look cX12_look 6 (some .int) rmX12_look 0 0 σ [.ref (w.2.1 0), .int a1] τ r :=
  sp_ci (own := RX12) (by decide) rfl hst (Nat.le_of_ble_eq_true rfl) rfl (fun X hX hw hl hR => by subst hw; subst hl; exact hX12_look hX hR   hf)
def rmX12_forget : Room := { frames := 0, cells := 0, slots := 0, locals := 0 }
def X12_forget (n : Nat)  (σ : sp_St)  : Option (sp_St) :=
  sp_pl (sp_si σ 0 3 ((0 : Int32))) fun σ1 =>
  sp_pl (sp_si σ1 0 36 ((0 : Int32))) fun σ3 =>
  some σ3
set_option maxRecDepth 100000 in
set_option maxHeartbeats 4000000 in
theorem hX12_forget {X : sp_X} (hX : sp_OK shM X cX12_forget RX12 1 rmX12_forget) {τ : sp_St} (hR : sp_Rv shM X τ 0 0) {n : Nat}  {σ : sp_St}   (hf : X12_forget n σ = some τ) : sp_GG shM X σ 1 [some (.ref (sx_ad X 0))] [] 0 0 0 := by
  unfold X12_forget at hf
  refine sp_aload_n (i := 0) (q := 1) hX dX12_forget_0 rfl rfl rfl ?_
  refine sp_iconst (v := 0) (q := 2) hX dX12_forget_1 li_0 rfl ?_
  obtain ⟨σ1, e2, hf⟩ := sp_pl_some hf
  refine sp_puti (q := 5) hX fpX12_158 fkX12_3 atM_0 dX12_forget_2 rfl ?_
  refine sp_nms e2 ?_
  refine sp_aload_n (i := 0) (q := 6) hX dX12_forget_5 rfl rfl rfl ?_
  refine sp_iconst (v := 0) (q := 7) hX dX12_forget_6 li_0 rfl ?_
  obtain ⟨σ3, e4, hf⟩ := sp_pl_some hf
  refine sp_puti (q := 10) hX fpX12_333 fkX12_36 atM_0 dX12_forget_7 rfl ?_
  refine sp_nms e4 ?_
  exact sp_vret hX hR dX12_forget_10 hf (Nat.le_of_ble_eq_true rfl) (Nat.le_of_ble_eq_true rfl)
set_option maxRecDepth 100000 in
set_option maxHeartbeats 4000000 in
theorem cnX12_forget {l : Launch} (hst : l.stackTraces = false) {w : sp_Wd} {n : Nat}  {σ : sp_St}  {τ : sp_St}  (hf : X12_forget n σ = some τ) : sp_Cv shM l w yX12_forget cX12_forget 1 rmX12_forget 0 0 σ [.ref (w.2.1 0)] τ :=
  sp_cv (own := RX12) (by decide) rfl hst (Nat.le_of_ble_eq_true rfl) rfl (fun X hX hw hl hR => by subst hw; subst hl; exact hX12_forget hX hR   hf)
def rmX12_insideOf : Room := { frames := 0, cells := 0, slots := 0, locals := 0 }
def X12_insideOf_48 (n : Nat) (σ : sp_St) (z2 : Int32) : Option (sp_St × Int32) :=
  some (σ, z2)
def X12_insideOf_40 (n : Nat) (k4 : sp_St → Int32 → Int32 → Int32 → Option (sp_St × Int32)) (σ : sp_St) (z1 : Int32) (z3 : Int32) (zs0 : Int32) (zs1 : Int32) : Option (sp_St × Int32) :=
  sp_pl (zs1 + zs0) fun x1 =>
  sp_pl (z3 + 1) fun x3 =>
  k4 σ z1 x1 x3
def X12_insideOf_39 (n : Nat) (k4 : sp_St → Int32 → Int32 → Int32 → Option (sp_St × Int32)) (σ : sp_St) (z1 : Int32) (z3 : Int32) (zs0 : Int32) : Option (sp_St × Int32) :=
  X12_insideOf_40 n k4 σ z1 z3 ((0 : Int32)) zs0
def X12_insideOf_4 (n : Nat) : Nat → sp_St → Int32 → Int32 → Int32 → Option (sp_St × Int32)
  | 0, _, _, _, _ => none
  | f + 1, σ, z1, z2, z3 =>
    if (sp_g σ 3 ((2 : Int32))) ≤ z3 then
      X12_insideOf_48 n σ z2
    else
      sp_ck (sp_in z3 10) <|
      if (sp_g σ 15 z3) = ((1 : Int32)) then
        sp_ck (sp_in z3 20) <|
        if (sp_g σ 7 z3) = z1 then
          X12_insideOf_40 n (X12_insideOf_4 n f) σ z1 z3 ((1 : Int32)) z2
        else
          X12_insideOf_39 n (X12_insideOf_4 n f) σ z1 z3 z2
      else
        X12_insideOf_39 n (X12_insideOf_4 n f) σ z1 z3 z2
def X12_insideOf (n : Nat)  (σ : sp_St) (a1 : Int32) : Option (sp_St × Int32) :=
  sp_pl ((0 : Int32)) fun x1 =>
  sp_pl ((0 : Int32)) fun x3 =>
  X12_insideOf_4 n n σ a1 x1 x3
set_option maxRecDepth 100000 in
set_option maxHeartbeats 4000000 in
theorem hX12_insideOf_48 {X : sp_X} (hX : sp_OK shM X cX12_insideOf RX12 4 rmX12_insideOf) {τ : sp_St} {r : Int32} (hR : sp_Ri shM X (some .int) τ r 0 0) {n : Nat}    {σ : sp_St} {z2 : Int32} (hf : X12_insideOf_48 n σ z2 = some (τ, r)) : sp_GG shM X σ 4 [none, none, some (.int z2), none] [] 48 0 0 := by
  unfold X12_insideOf_48 at hf
  refine sp_iload_n (i := 2) (q := 49) hX dX12_insideOf_48 rfl rfl rfl ?_
  exact sp_iret hX hR dX12_insideOf_49 hf (Nat.le_of_ble_eq_true rfl) (Nat.le_of_ble_eq_true rfl)
set_option maxRecDepth 100000 in
set_option maxHeartbeats 4000000 in
theorem hX12_insideOf_40 {X : sp_X} (hX : sp_OK shM X cX12_insideOf RX12 4 rmX12_insideOf) {τ : sp_St} {r : Int32} (hR : sp_Ri shM X (some .int) τ r 0 0) {n : Nat}   {k4 : sp_St → Int32 → Int32 → Int32 → Option (sp_St × Int32)} (hk4 : ∀ (σ : sp_St) (z1 : Int32) (z2 : Int32) (z3 : Int32), k4 σ z1 z2 z3 = some (τ, r) → sp_GG shM X σ 4 [some (.ref (sx_ad X 0)), some (.int z1), some (.int z2), some (.int z3)] [] 4 0 0) {σ : sp_St} {z1 : Int32} {z3 : Int32} {zs0 : Int32} {zs1 : Int32} (hf : X12_insideOf_40 n k4 σ z1 z3 zs0 zs1 = some (τ, r)) : sp_GG shM X σ 4 [some (.ref (sx_ad X 0)), some (.int z1), none, some (.int z3)] [.int zs0, .int zs1] 40 0 0 := by
  unfold X12_insideOf_40 at hf
  refine sp_iadd (q := 41) hX dX12_insideOf_40 rfl ?_
  obtain ⟨x1, e2, hf⟩ := sp_pl_some hf
  refine sp_nmi e2 ?_
  refine sp_istore_n (i := 2) (lv' := [some (.ref (sx_ad X 0)), some (.int z1), some (.int x1), some (.int z3)]) (q := 42) hX dX12_insideOf_41 rfl (Nat.le_of_ble_eq_true rfl) rfl rfl rfl ?_
  obtain ⟨x3, e4, hf⟩ := sp_pl_some hf
  refine sp_iinc (i := 3) (v := x3) (lv' := [some (.ref (sx_ad X 0)), some (.int z1), some (.int x1), some (.int x3)]) (q := 45) hX dX12_insideOf_42 rfl (by rw [e4, li_1]) (Nat.le_of_ble_eq_true rfl) rfl rfl rfl ?_
  refine sp_goto (tgt := 4) hX dX12_insideOf_45 (by decide) ?_
  exact hk4 σ z1 x1 x3 hf
set_option maxRecDepth 100000 in
set_option maxHeartbeats 4000000 in
theorem hX12_insideOf_39 {X : sp_X} (hX : sp_OK shM X cX12_insideOf RX12 4 rmX12_insideOf) {τ : sp_St} {r : Int32} (hR : sp_Ri shM X (some .int) τ r 0 0) {n : Nat}   {k4 : sp_St → Int32 → Int32 → Int32 → Option (sp_St × Int32)} (hk4 : ∀ (σ : sp_St) (z1 : Int32) (z2 : Int32) (z3 : Int32), k4 σ z1 z2 z3 = some (τ, r) → sp_GG shM X σ 4 [some (.ref (sx_ad X 0)), some (.int z1), some (.int z2), some (.int z3)] [] 4 0 0) {σ : sp_St} {z1 : Int32} {z3 : Int32} {zs0 : Int32} (hf : X12_insideOf_39 n k4 σ z1 z3 zs0 = some (τ, r)) : sp_GG shM X σ 4 [some (.ref (sx_ad X 0)), some (.int z1), none, some (.int z3)] [.int zs0] 39 0 0 := by
  unfold X12_insideOf_39 at hf
  refine sp_iconst (v := 0) (q := 40) hX dX12_insideOf_39 li_0 rfl ?_
  exact hX12_insideOf_40 hX hR hk4 hf
set_option maxRecDepth 100000 in
set_option maxHeartbeats 4000000 in
theorem hX12_insideOf_4 {X : sp_X} (hX : sp_OK shM X cX12_insideOf RX12 4 rmX12_insideOf) {τ : sp_St} {r : Int32} (hR : sp_Ri shM X (some .int) τ r 0 0) {n : Nat}    : ∀ (f : Nat) (σ : sp_St) (z1 : Int32) (z2 : Int32) (z3 : Int32), X12_insideOf_4 n f σ z1 z2 z3 = some (τ, r) → sp_GG shM X σ 4 [some (.ref (sx_ad X 0)), some (.int z1), some (.int z2), some (.int z3)] [] 4 0 0 := by
  intro f
  induction f with
  | zero =>
    intro σ z1 z2 z3 hf
    rw [X12_insideOf_4] at hf
    cases hf
  | succ f ih =>
    intro σ z1 z2 z3 hf
    rw [X12_insideOf_4] at hf
    refine sp_iload_n (i := 3) (q := 5) hX dX12_insideOf_4 rfl rfl rfl ?_
    refine sp_aload_n (i := 0) (q := 6) hX dX12_insideOf_5 rfl rfl rfl ?_
    refine sp_gets (t := 3) (q := 9) hX flX12_33 fkX12_4 atM_0 srM_0_4 dX12_insideOf_6 rfl ?_
    refine sp_iconst (v := 2) (q := 10) hX dX12_insideOf_9 li_2 rfl ?_
    refine sp_iald (q := 11) hX arM_3 (by decide) dX12_insideOf_10 rfl ?_
    refine sp_icmp_ge (tgt := 48) (q := 14) hX dX12_insideOf_11 (by decide) rfl (fun hc => ?_) (fun hc => ?_)
    · rw [if_pos hc] at hf
      refine sp_drop (lv' := [none, none, some (.int z2), none]) (And.intro rfl trivial) ?_
      exact hX12_insideOf_48 hX hR hf
    · rw [if_neg hc] at hf
      refine sp_iload_n (i := 2) (q := 15) hX dX12_insideOf_14 rfl rfl rfl ?_
      refine sp_aload_n (i := 0) (q := 16) hX dX12_insideOf_15 rfl rfl rfl ?_
      refine sp_gets (t := 15) (q := 19) hX flX12_72 fkX12_27 atM_0 srM_0_27 dX12_insideOf_16 rfl ?_
      refine sp_iload_n (i := 3) (q := 20) hX dX12_insideOf_19 rfl rfl rfl ?_
      obtain ⟨h1, hf⟩ := sp_ck_some hf
      refine sp_iald (q := 21) hX arM_15 h1 dX12_insideOf_20 rfl ?_
      refine sp_iconst (v := 1) (q := 22) hX dX12_insideOf_21 li_1 rfl ?_
      refine sp_icmp_ne (tgt := 39) (q := 25) hX dX12_insideOf_22 (by decide) rfl (fun hc => ?_) (fun hc => ?_)
      · rw [if_neg hc] at hf
        refine sp_drop (lv' := [some (.ref (sx_ad X 0)), some (.int z1), none, some (.int z3)]) (And.intro rfl (And.intro rfl (And.intro rfl trivial))) ?_
        exact hX12_insideOf_39 hX hR ih hf
      · rw [if_pos hc] at hf
        refine sp_aload_n (i := 0) (q := 26) hX dX12_insideOf_25 rfl rfl rfl ?_
        refine sp_gets (t := 7) (q := 29) hX flX12_46 fkX12_8 atM_0 srM_0_8 dX12_insideOf_26 rfl ?_
        refine sp_iload_n (i := 3) (q := 30) hX dX12_insideOf_29 rfl rfl rfl ?_
        obtain ⟨h2, hf⟩ := sp_ck_some hf
        refine sp_iald (q := 31) hX arM_7 h2 dX12_insideOf_30 rfl ?_
        refine sp_iload_n (i := 1) (q := 32) hX dX12_insideOf_31 rfl rfl rfl ?_
        refine sp_icmp_ne (tgt := 39) (q := 35) hX dX12_insideOf_32 (by decide) rfl (fun hc => ?_) (fun hc => ?_)
        · rw [if_neg hc] at hf
          refine sp_drop (lv' := [some (.ref (sx_ad X 0)), some (.int z1), none, some (.int z3)]) (And.intro rfl (And.intro rfl (And.intro rfl trivial))) ?_
          exact hX12_insideOf_39 hX hR ih hf
        · rw [if_pos hc] at hf
          refine sp_iconst (v := 1) (q := 36) hX dX12_insideOf_35 li_1 rfl ?_
          refine sp_goto (tgt := 40) hX dX12_insideOf_36 (by decide) ?_
          refine sp_drop (lv' := [some (.ref (sx_ad X 0)), some (.int z1), none, some (.int z3)]) (And.intro rfl (And.intro rfl (And.intro rfl trivial))) ?_
          exact hX12_insideOf_40 hX hR ih hf
set_option maxRecDepth 100000 in
set_option maxHeartbeats 4000000 in
theorem hX12_insideOf {X : sp_X} (hX : sp_OK shM X cX12_insideOf RX12 4 rmX12_insideOf) {τ : sp_St} {r : Int32} (hR : sp_Ri shM X (some .int) τ r 0 0) {n : Nat}  {σ : sp_St} {a1 : Int32}  (hf : X12_insideOf n σ a1 = some (τ, r)) : sp_GG shM X σ 4 [some (.ref (sx_ad X 0)), some (.int a1), none, none] [] 0 0 0 := by
  unfold X12_insideOf at hf
  refine sp_iconst (v := 0) (q := 1) hX dX12_insideOf_0 li_0 rfl ?_
  obtain ⟨x1, e2, hf⟩ := sp_pl_some hf
  refine sp_nmi e2 ?_
  refine sp_istore_n (i := 2) (lv' := [some (.ref (sx_ad X 0)), some (.int a1), some (.int x1), none]) (q := 2) hX dX12_insideOf_1 rfl (Nat.le_of_ble_eq_true rfl) rfl rfl rfl ?_
  refine sp_iconst (v := 0) (q := 3) hX dX12_insideOf_2 li_0 rfl ?_
  obtain ⟨x3, e4, hf⟩ := sp_pl_some hf
  refine sp_nmi e4 ?_
  refine sp_istore_n (i := 3) (lv' := [some (.ref (sx_ad X 0)), some (.int a1), some (.int x1), some (.int x3)]) (q := 4) hX dX12_insideOf_3 rfl (Nat.le_of_ble_eq_true rfl) rfl rfl rfl ?_
  exact hX12_insideOf_4 hX hR n σ a1 x1 x3 hf
set_option maxRecDepth 100000 in
set_option maxHeartbeats 4000000 in
theorem cnX12_insideOf {l : Launch} (hst : l.stackTraces = false) {w : sp_Wd} {n : Nat}  {σ : sp_St} {a1 : Int32} {τ : sp_St} {r : Int32}  (hf : X12_insideOf n σ a1 = some (τ, r)) : sp_Ci shM l w yX12_insideOf cX12_insideOf 4 (some .int) rmX12_insideOf 0 0 σ [.ref (w.2.1 0), .int a1] τ r :=
  sp_ci (own := RX12) (by decide) rfl hst (Nat.le_of_ble_eq_true rfl) rfl (fun X hX hw hl hR => by subst hw; subst hl; exact hX12_insideOf hX hR   hf)
def rmX12_tellLosses : Room := { frames := 7, cells := 0, slots := 0, locals := 154 }
def X12_tellLosses_144 (n : Nat) (k11 : sp_St → Int32 → Int32 → Int32 → Option (sp_St)) (σ : sp_St) (z1 : Int32) (z2 : Int32) (z3 : Int32) : Option (sp_St) :=
  sp_bv (X12_goOn n σ ((10 : Int32))) fun σ2 =>
  sp_ck (sp_in z1 6) <|
  sp_bd (X12_insideOf n σ2 z1) fun σ5 v6 =>
  sp_ck (sp_in (((2 : Int32)) * z3) 8) <|
  sp_pl (sp_sa σ5 36 (((2 : Int32)) * z3).toNatClampNeg ((((5 : Int32)) * (sp_g σ2 24 z1)) + v6)) fun σ8 =>
  sp_ck (sp_in z2 6) <|
  sp_bd (X12_insideOf n σ8 z2) fun σ12 v13 =>
  sp_ck (sp_in ((((2 : Int32)) * z3) + ((1 : Int32))) 8) <|
  sp_pl (sp_sa σ12 36 ((((2 : Int32)) * z3) + ((1 : Int32))).toNatClampNeg ((((5 : Int32)) * (sp_g σ8 24 z2)) + v13)) fun σ15 =>
  sp_bv (X12_unpack n σ15 25 88 ((0 : Int32))) fun σ18 =>
  sp_pl (z3 + 1) fun x19 =>
  k11 σ18 z1 z2 x19
def X12_tellLosses_123 (n : Nat) (k11 : sp_St → Int32 → Int32 → Int32 → Option (sp_St)) : Nat → sp_St → Int32 → Int32 → Int32 → Int32 → Option (sp_St)
  | 0, _, _, _, _, _ => none
  | f + 1, σ, z1, z2, z3, z4 =>
    if ((6 : Int32)) ≤ z4 then
      X12_tellLosses_144 n k11 σ z1 z2 z3
    else
      sp_ck (sp_in z4 6) <|
      sp_pl (sp_sa σ 24 z4.toNatClampNeg ((0 : Int32))) fun σ2 =>
      sp_pl (z4 + 1) fun x4 =>
      X12_tellLosses_123 n k11 f σ2 z1 z2 z3 x4
def X12_tellLosses_120 (n : Nat) (k11 : sp_St → Int32 → Int32 → Int32 → Option (sp_St)) (σ : sp_St) (z1 : Int32) (z2 : Int32) (z3 : Int32) : Option (sp_St) :=
  sp_pl ((0 : Int32)) fun x1 =>
  X12_tellLosses_123 n k11 n σ z1 z2 z3 x1
def X12_tellLosses_114 (n : Nat) (k11 : sp_St → Int32 → Int32 → Int32 → Option (sp_St)) (k19 : sp_St → Int32 → Int32 → Int32 → Int32 → Option (sp_St)) (σ : sp_St) (z1 : Int32) (z2 : Int32) (z3 : Int32) (z4 : Int32) : Option (sp_St) :=
  sp_pl (z4 + 1) fun x1 =>
  k19 σ z1 z2 z3 x1
def X12_tellLosses_98 (n : Nat) (k11 : sp_St → Int32 → Int32 → Int32 → Option (sp_St)) (k19 : sp_St → Int32 → Int32 → Int32 → Int32 → Option (sp_St)) (σ : sp_St) (z1 : Int32) (z2 : Int32) (z3 : Int32) (z4 : Int32) (zs0 : Int32) : Option (sp_St) :=
  if zs0 = ((-1 : Int32)) then
    X12_tellLosses_114 n k11 k19 σ z1 z2 z3 z4
  else
    sp_bv (X12_putIn n σ z4 zs0) fun σ2 =>
    X12_tellLosses_114 n k11 k19 σ2 z1 z2 z3 z4
def X12_tellLosses_97 (n : Nat) (k11 : sp_St → Int32 → Int32 → Int32 → Option (sp_St)) (k19 : sp_St → Int32 → Int32 → Int32 → Int32 → Option (sp_St)) (σ : sp_St) (z1 : Int32) (z2 : Int32) (z3 : Int32) (z4 : Int32) : Option (sp_St) :=
  X12_tellLosses_98 n k11 k19 σ z1 z2 z3 z4 ((-1 : Int32))
def X12_tellLosses_71 (n : Nat) (k11 : sp_St → Int32 → Int32 → Int32 → Option (sp_St)) (k19 : sp_St → Int32 → Int32 → Int32 → Int32 → Option (sp_St)) (σ : sp_St) (z1 : Int32) (z2 : Int32) (z3 : Int32) (z4 : Int32) (zs0 : Int32) : Option (sp_St) :=
  if zs0 = 0 then
    X12_tellLosses_97 n k11 k19 σ z1 z2 z3 z4
  else
    sp_ck (sp_in z4 10) <|
    if (sp_g σ 15 z4) = 0 then
      sp_bd (X12_firstRoom n σ z4) fun σ3 v4 =>
      X12_tellLosses_98 n k11 k19 σ3 z1 z2 z3 z4 v4
    else
      X12_tellLosses_97 n k11 k19 σ z1 z2 z3 z4
def X12_tellLosses_70 (n : Nat) (k11 : sp_St → Int32 → Int32 → Int32 → Option (sp_St)) (k19 : sp_St → Int32 → Int32 → Int32 → Int32 → Option (sp_St)) (σ : sp_St) (z1 : Int32) (z2 : Int32) (z3 : Int32) (z4 : Int32) : Option (sp_St) :=
  X12_tellLosses_71 n k11 k19 σ z1 z2 z3 z4 ((0 : Int32))
def X12_tellLosses_66 (n : Nat) (k11 : sp_St → Int32 → Int32 → Int32 → Option (sp_St)) (k19 : sp_St → Int32 → Int32 → Int32 → Int32 → Option (sp_St)) (σ : sp_St) (z1 : Int32) (z2 : Int32) (z3 : Int32) (z4 : Int32) : Option (sp_St) :=
  X12_tellLosses_71 n k11 k19 σ z1 z2 z3 z4 ((1 : Int32))
def X12_tellLosses_48 (n : Nat) (k11 : sp_St → Int32 → Int32 → Int32 → Option (sp_St)) (k19 : sp_St → Int32 → Int32 → Int32 → Int32 → Option (sp_St)) (σ : sp_St) (z1 : Int32) (z2 : Int32) (z3 : Int32) (z4 : Int32) : Option (sp_St) :=
  sp_ck (sp_in z4 20) <|
  if (sp_g σ 7 z4) = z2 then
    sp_ck (!decide (((2 : Int32)) = 0)) <|
    if (z3 - z3 / ((2 : Int32)) * ((2 : Int32))) = ((1 : Int32)) then
      X12_tellLosses_66 n k11 k19 σ z1 z2 z3 z4
    else
      X12_tellLosses_70 n k11 k19 σ z1 z2 z3 z4
  else
    X12_tellLosses_70 n k11 k19 σ z1 z2 z3 z4
def X12_tellLosses_19 (n : Nat) (k11 : sp_St → Int32 → Int32 → Int32 → Option (sp_St)) : Nat → sp_St → Int32 → Int32 → Int32 → Int32 → Option (sp_St)
  | 0, _, _, _, _, _ => none
  | f + 1, σ, z1, z2, z3, z4 =>
    if (sp_g σ 3 ((2 : Int32))) ≤ z4 then
      X12_tellLosses_120 n k11 σ z1 z2 z3
    else
      sp_ck (sp_in z4 20) <|
      if (sp_g σ 7 z4) = z1 then
        sp_ck (!decide (((2 : Int32)) = 0)) <|
        if (z3 / ((2 : Int32))) = ((1 : Int32)) then
          X12_tellLosses_66 n k11 (X12_tellLosses_19 n k11 f) σ z1 z2 z3 z4
        else
          X12_tellLosses_48 n k11 (X12_tellLosses_19 n k11 f) σ z1 z2 z3 z4
      else
        X12_tellLosses_48 n k11 (X12_tellLosses_19 n k11 f) σ z1 z2 z3 z4
def X12_tellLosses_11 (n : Nat) : Nat → sp_St → Int32 → Int32 → Int32 → Option (sp_St)
  | 0, _, _, _, _ => none
  | f + 1, σ, z1, z2, z3 =>
    if ((4 : Int32)) ≤ z3 then
      some σ
    else
      sp_pl ((0 : Int32)) fun x1 =>
      X12_tellLosses_19 n (X12_tellLosses_11 n f) n σ z1 z2 z3 x1
def X12_tellLosses (n : Nat)  (σ : sp_St) (a1 : Int32) (a2 : Int32) : Option (sp_St) :=
  sp_bv (X12_pack n σ 25 88 ((0 : Int32))) fun σ2 =>
  sp_pl ((0 : Int32)) fun x3 =>
  X12_tellLosses_11 n n σ2 a1 a2 x3
set_option maxRecDepth 100000 in
set_option maxHeartbeats 4000000 in
theorem hX12_tellLosses_144 {X : sp_X} (hX : sp_OK shM X cX12_tellLosses RX12 7 rmX12_tellLosses) {τ : sp_St} (hR : sp_Rv shM X τ 0 0) {n : Nat}   {k11 : sp_St → Int32 → Int32 → Int32 → Option (sp_St)} (hk11 : ∀ (σ : sp_St) (z1 : Int32) (z2 : Int32) (z3 : Int32), k11 σ z1 z2 z3 = some τ → sp_GG shM X σ 7 [some (.ref (sx_ad X 0)), some (.int z1), some (.int z2), some (.int z3), none, none, none] [] 11 0 0) {σ : sp_St} {z1 : Int32} {z2 : Int32} {z3 : Int32} (hf : X12_tellLosses_144 n k11 σ z1 z2 z3 = some τ) : sp_GG shM X σ 7 [some (.ref (sx_ad X 0)), some (.int z1), some (.int z2), some (.int z3), none, none, none] [] 144 0 0 := by
  unfold X12_tellLosses_144 at hf
  refine sp_aload_n (i := 0) (q := 145) hX dX12_tellLosses_144 rfl rfl rfl ?_
  refine sp_bipush (v := 10) (q := 147) hX dX12_tellLosses_145 lb_10 rfl ?_
  obtain ⟨σ2, h1, hf⟩ := sp_bv_so hf
  refine sp_callVv (As := [.int ((10 : Int32))]) (rest := []) (q := 150) hX (cnX12_goOn (sp_st hX)  h1) cwX12_426 atM_0 rfl rfl rfl rfl rfl (Nat.le_of_ble_eq_true rfl) (Nat.le_of_ble_eq_true rfl) (Nat.le_of_ble_eq_true rfl) (Nat.le_of_ble_eq_true rfl) (Nat.le_of_ble_eq_true rfl) dX12_tellLosses_147 rfl ?_
  refine sp_aload_n (i := 0) (q := 151) hX dX12_tellLosses_150 rfl rfl rfl ?_
  refine sp_gets (t := 36) (q := 154) hX flX12_137 fkX12_53 atM_0 srM_0_53 dX12_tellLosses_151 rfl ?_
  refine sp_iconst (v := 2) (q := 155) hX dX12_tellLosses_154 li_2 rfl ?_
  refine sp_iload_n (i := 3) (q := 156) hX dX12_tellLosses_155 rfl rfl rfl ?_
  refine sp_imul (q := 157) hX dX12_tellLosses_156 rfl ?_
  refine sp_iconst (v := 5) (q := 158) hX dX12_tellLosses_157 li_5 rfl ?_
  refine sp_aload_n (i := 0) (q := 159) hX dX12_tellLosses_158 rfl rfl rfl ?_
  refine sp_gets (t := 24) (q := 162) hX flX12_99 fkX12_40 atM_0 srM_0_40 dX12_tellLosses_159 rfl ?_
  refine sp_iload_n (i := 1) (q := 163) hX dX12_tellLosses_162 rfl rfl rfl ?_
  obtain ⟨h3, hf⟩ := sp_ck_some hf
  refine sp_iald (q := 164) hX arM_24 h3 dX12_tellLosses_163 rfl ?_
  refine sp_imul (q := 165) hX dX12_tellLosses_164 rfl ?_
  refine sp_aload_n (i := 0) (q := 166) hX dX12_tellLosses_165 rfl rfl rfl ?_
  refine sp_iload_n (i := 1) (q := 167) hX dX12_tellLosses_166 rfl rfl rfl ?_
  obtain ⟨σ5, v6, h4, hf⟩ := sp_bd_so hf
  refine sp_callVi (As := [.int z1]) (rest := [.int (((5 : Int32)) * (sp_g σ2 24 z1)), .int (((2 : Int32)) * z3), .ref (sx_ad X 36)]) (q := 170) hX (cnX12_insideOf (sp_st hX)  h4) cwX12_476 atM_0 rfl rfl rfl rfl rfl (Nat.le_of_ble_eq_true rfl) (Nat.le_of_ble_eq_true rfl) (Nat.le_of_ble_eq_true rfl) (Nat.le_of_ble_eq_true rfl) (Nat.le_of_ble_eq_true rfl) dX12_tellLosses_167 rfl ?_
  refine sp_iadd (q := 171) hX dX12_tellLosses_170 rfl ?_
  obtain ⟨h7, hf⟩ := sp_ck_some hf
  obtain ⟨σ8, e9, hf⟩ := sp_pl_some hf
  refine sp_iast (q := 172) hX arM_36 h7 dX12_tellLosses_171 rfl ?_
  refine sp_nms e9 ?_
  refine sp_aload_n (i := 0) (q := 173) hX dX12_tellLosses_172 rfl rfl rfl ?_
  refine sp_gets (t := 36) (q := 176) hX flX12_137 fkX12_53 atM_0 srM_0_53 dX12_tellLosses_173 rfl ?_
  refine sp_iconst (v := 2) (q := 177) hX dX12_tellLosses_176 li_2 rfl ?_
  refine sp_iload_n (i := 3) (q := 178) hX dX12_tellLosses_177 rfl rfl rfl ?_
  refine sp_imul (q := 179) hX dX12_tellLosses_178 rfl ?_
  refine sp_iconst (v := 1) (q := 180) hX dX12_tellLosses_179 li_1 rfl ?_
  refine sp_iadd (q := 181) hX dX12_tellLosses_180 rfl ?_
  refine sp_iconst (v := 5) (q := 182) hX dX12_tellLosses_181 li_5 rfl ?_
  refine sp_aload_n (i := 0) (q := 183) hX dX12_tellLosses_182 rfl rfl rfl ?_
  refine sp_gets (t := 24) (q := 186) hX flX12_99 fkX12_40 atM_0 srM_0_40 dX12_tellLosses_183 rfl ?_
  refine sp_iload_n (i := 2) (q := 187) hX dX12_tellLosses_186 rfl rfl rfl ?_
  obtain ⟨h10, hf⟩ := sp_ck_some hf
  refine sp_iald (q := 188) hX arM_24 h10 dX12_tellLosses_187 rfl ?_
  refine sp_imul (q := 189) hX dX12_tellLosses_188 rfl ?_
  refine sp_aload_n (i := 0) (q := 190) hX dX12_tellLosses_189 rfl rfl rfl ?_
  refine sp_iload_n (i := 2) (q := 191) hX dX12_tellLosses_190 rfl rfl rfl ?_
  obtain ⟨σ12, v13, h11, hf⟩ := sp_bd_so hf
  refine sp_callVi (As := [.int z2]) (rest := [.int (((5 : Int32)) * (sp_g σ8 24 z2)), .int ((((2 : Int32)) * z3) + ((1 : Int32))), .ref (sx_ad X 36)]) (q := 194) hX (cnX12_insideOf (sp_st hX)  h11) cwX12_476 atM_0 rfl rfl rfl rfl rfl (Nat.le_of_ble_eq_true rfl) (Nat.le_of_ble_eq_true rfl) (Nat.le_of_ble_eq_true rfl) (Nat.le_of_ble_eq_true rfl) (Nat.le_of_ble_eq_true rfl) dX12_tellLosses_191 rfl ?_
  refine sp_iadd (q := 195) hX dX12_tellLosses_194 rfl ?_
  obtain ⟨h14, hf⟩ := sp_ck_some hf
  obtain ⟨σ15, e16, hf⟩ := sp_pl_some hf
  refine sp_iast (q := 196) hX arM_36 h14 dX12_tellLosses_195 rfl ?_
  refine sp_nms e16 ?_
  refine sp_aload_n (i := 0) (q := 197) hX dX12_tellLosses_196 rfl rfl rfl ?_
  refine sp_aload_n (i := 0) (q := 198) hX dX12_tellLosses_197 rfl rfl rfl ?_
  refine sp_gets (t := 25) (q := 201) hX flX12_102 fkX12_41 atM_0 srM_0_41 dX12_tellLosses_198 rfl ?_
  refine sp_iconst (v := 0) (q := 202) hX dX12_tellLosses_201 li_0 rfl ?_
  obtain ⟨σ18, h17, hf⟩ := sp_bv_so hf
  refine sp_callVv (As := [.ref (sx_ad X 25), .int ((0 : Int32))]) (rest := []) (q := 205) hX (cnX12_unpack (sp_st hX) arM_25 h17) cwX12_432 atM_0 rfl rfl rfl rfl rfl (Nat.le_of_ble_eq_true rfl) (Nat.le_of_ble_eq_true rfl) (Nat.le_of_ble_eq_true rfl) (Nat.le_of_ble_eq_true rfl) (Nat.le_of_ble_eq_true rfl) dX12_tellLosses_202 rfl ?_
  obtain ⟨x19, e20, hf⟩ := sp_pl_some hf
  refine sp_iinc (i := 3) (v := x19) (lv' := [some (.ref (sx_ad X 0)), some (.int z1), some (.int z2), some (.int x19), none, none, none]) (q := 208) hX dX12_tellLosses_205 rfl (by rw [e20, li_1]) (Nat.le_of_ble_eq_true rfl) rfl rfl rfl ?_
  refine sp_goto (tgt := 11) hX dX12_tellLosses_208 (by decide) ?_
  exact hk11 σ18 z1 z2 x19 hf
set_option maxRecDepth 100000 in
set_option maxHeartbeats 4000000 in
theorem hX12_tellLosses_123 {X : sp_X} (hX : sp_OK shM X cX12_tellLosses RX12 7 rmX12_tellLosses) {τ : sp_St} (hR : sp_Rv shM X τ 0 0) {n : Nat}   {k11 : sp_St → Int32 → Int32 → Int32 → Option (sp_St)} (hk11 : ∀ (σ : sp_St) (z1 : Int32) (z2 : Int32) (z3 : Int32), k11 σ z1 z2 z3 = some τ → sp_GG shM X σ 7 [some (.ref (sx_ad X 0)), some (.int z1), some (.int z2), some (.int z3), none, none, none] [] 11 0 0) : ∀ (f : Nat) (σ : sp_St) (z1 : Int32) (z2 : Int32) (z3 : Int32) (z4 : Int32), X12_tellLosses_123 n k11 f σ z1 z2 z3 z4 = some τ → sp_GG shM X σ 7 [some (.ref (sx_ad X 0)), some (.int z1), some (.int z2), some (.int z3), some (.int z4), none, none] [] 123 0 0 := by
  intro f
  induction f with
  | zero =>
    intro σ z1 z2 z3 z4 hf
    rw [X12_tellLosses_123] at hf
    cases hf
  | succ f ih =>
    intro σ z1 z2 z3 z4 hf
    rw [X12_tellLosses_123] at hf
    refine sp_iload (i := 4) (q := 125) hX dX12_tellLosses_123 rfl rfl ?_
    refine sp_bipush (v := 6) (q := 127) hX dX12_tellLosses_125 lb_6 rfl ?_
    refine sp_icmp_ge (tgt := 144) (q := 130) hX dX12_tellLosses_127 (by decide) rfl (fun hc => ?_) (fun hc => ?_)
    · rw [if_pos hc] at hf
      refine sp_drop (lv' := [some (.ref (sx_ad X 0)), some (.int z1), some (.int z2), some (.int z3), none, none, none]) (And.intro rfl (And.intro rfl (And.intro rfl (And.intro rfl trivial)))) ?_
      exact hX12_tellLosses_144 hX hR hk11 hf
    · rw [if_neg hc] at hf
      refine sp_aload_n (i := 0) (q := 131) hX dX12_tellLosses_130 rfl rfl rfl ?_
      refine sp_gets (t := 24) (q := 134) hX flX12_99 fkX12_40 atM_0 srM_0_40 dX12_tellLosses_131 rfl ?_
      refine sp_iload (i := 4) (q := 136) hX dX12_tellLosses_134 rfl rfl ?_
      refine sp_iconst (v := 0) (q := 137) hX dX12_tellLosses_136 li_0 rfl ?_
      obtain ⟨h1, hf⟩ := sp_ck_some hf
      obtain ⟨σ2, e3, hf⟩ := sp_pl_some hf
      refine sp_iast (q := 138) hX arM_24 h1 dX12_tellLosses_137 rfl ?_
      refine sp_nms e3 ?_
      obtain ⟨x4, e5, hf⟩ := sp_pl_some hf
      refine sp_iinc (i := 4) (v := x4) (lv' := [some (.ref (sx_ad X 0)), some (.int z1), some (.int z2), some (.int z3), some (.int x4), none, none]) (q := 141) hX dX12_tellLosses_138 rfl (by rw [e5, li_1]) (Nat.le_of_ble_eq_true rfl) rfl rfl rfl ?_
      refine sp_goto (tgt := 123) hX dX12_tellLosses_141 (by decide) ?_
      exact ih σ2 z1 z2 z3 x4 hf
set_option maxRecDepth 100000 in
set_option maxHeartbeats 4000000 in
theorem hX12_tellLosses_120 {X : sp_X} (hX : sp_OK shM X cX12_tellLosses RX12 7 rmX12_tellLosses) {τ : sp_St} (hR : sp_Rv shM X τ 0 0) {n : Nat}   {k11 : sp_St → Int32 → Int32 → Int32 → Option (sp_St)} (hk11 : ∀ (σ : sp_St) (z1 : Int32) (z2 : Int32) (z3 : Int32), k11 σ z1 z2 z3 = some τ → sp_GG shM X σ 7 [some (.ref (sx_ad X 0)), some (.int z1), some (.int z2), some (.int z3), none, none, none] [] 11 0 0) {σ : sp_St} {z1 : Int32} {z2 : Int32} {z3 : Int32} (hf : X12_tellLosses_120 n k11 σ z1 z2 z3 = some τ) : sp_GG shM X σ 7 [some (.ref (sx_ad X 0)), some (.int z1), some (.int z2), some (.int z3), none, none, none] [] 120 0 0 := by
  unfold X12_tellLosses_120 at hf
  refine sp_iconst (v := 0) (q := 121) hX dX12_tellLosses_120 li_0 rfl ?_
  obtain ⟨x1, e2, hf⟩ := sp_pl_some hf
  refine sp_nmi e2 ?_
  refine sp_istore (i := 4) (lv' := [some (.ref (sx_ad X 0)), some (.int z1), some (.int z2), some (.int z3), some (.int x1), none, none]) (q := 123) hX dX12_tellLosses_121 (Nat.le_of_ble_eq_true rfl) rfl rfl rfl ?_
  exact hX12_tellLosses_123 hX hR hk11 n σ z1 z2 z3 x1 hf
set_option maxRecDepth 100000 in
set_option maxHeartbeats 4000000 in
theorem hX12_tellLosses_114 {X : sp_X} (hX : sp_OK shM X cX12_tellLosses RX12 7 rmX12_tellLosses) {τ : sp_St} (hR : sp_Rv shM X τ 0 0) {n : Nat}   {k11 : sp_St → Int32 → Int32 → Int32 → Option (sp_St)} (hk11 : ∀ (σ : sp_St) (z1 : Int32) (z2 : Int32) (z3 : Int32), k11 σ z1 z2 z3 = some τ → sp_GG shM X σ 7 [some (.ref (sx_ad X 0)), some (.int z1), some (.int z2), some (.int z3), none, none, none] [] 11 0 0) {k19 : sp_St → Int32 → Int32 → Int32 → Int32 → Option (sp_St)} (hk19 : ∀ (σ : sp_St) (z1 : Int32) (z2 : Int32) (z3 : Int32) (z4 : Int32), k19 σ z1 z2 z3 z4 = some τ → sp_GG shM X σ 7 [some (.ref (sx_ad X 0)), some (.int z1), some (.int z2), some (.int z3), some (.int z4), none, none] [] 19 0 0) {σ : sp_St} {z1 : Int32} {z2 : Int32} {z3 : Int32} {z4 : Int32} (hf : X12_tellLosses_114 n k11 k19 σ z1 z2 z3 z4 = some τ) : sp_GG shM X σ 7 [some (.ref (sx_ad X 0)), some (.int z1), some (.int z2), some (.int z3), some (.int z4), none, none] [] 114 0 0 := by
  unfold X12_tellLosses_114 at hf
  obtain ⟨x1, e2, hf⟩ := sp_pl_some hf
  refine sp_iinc (i := 4) (v := x1) (lv' := [some (.ref (sx_ad X 0)), some (.int z1), some (.int z2), some (.int z3), some (.int x1), none, none]) (q := 117) hX dX12_tellLosses_114 rfl (by rw [e2, li_1]) (Nat.le_of_ble_eq_true rfl) rfl rfl rfl ?_
  refine sp_goto (tgt := 19) hX dX12_tellLosses_117 (by decide) ?_
  exact hk19 σ z1 z2 z3 x1 hf
set_option maxRecDepth 100000 in
set_option maxHeartbeats 4000000 in
theorem hX12_tellLosses_98 {X : sp_X} (hX : sp_OK shM X cX12_tellLosses RX12 7 rmX12_tellLosses) {τ : sp_St} (hR : sp_Rv shM X τ 0 0) {n : Nat}   {k11 : sp_St → Int32 → Int32 → Int32 → Option (sp_St)} (hk11 : ∀ (σ : sp_St) (z1 : Int32) (z2 : Int32) (z3 : Int32), k11 σ z1 z2 z3 = some τ → sp_GG shM X σ 7 [some (.ref (sx_ad X 0)), some (.int z1), some (.int z2), some (.int z3), none, none, none] [] 11 0 0) {k19 : sp_St → Int32 → Int32 → Int32 → Int32 → Option (sp_St)} (hk19 : ∀ (σ : sp_St) (z1 : Int32) (z2 : Int32) (z3 : Int32) (z4 : Int32), k19 σ z1 z2 z3 z4 = some τ → sp_GG shM X σ 7 [some (.ref (sx_ad X 0)), some (.int z1), some (.int z2), some (.int z3), some (.int z4), none, none] [] 19 0 0) {σ : sp_St} {z1 : Int32} {z2 : Int32} {z3 : Int32} {z4 : Int32} {zs0 : Int32} (hf : X12_tellLosses_98 n k11 k19 σ z1 z2 z3 z4 zs0 = some τ) : sp_GG shM X σ 7 [some (.ref (sx_ad X 0)), some (.int z1), some (.int z2), some (.int z3), some (.int z4), none, none] [.int zs0] 98 0 0 := by
  unfold X12_tellLosses_98 at hf
  refine sp_istore (i := 6) (lv' := [some (.ref (sx_ad X 0)), some (.int z1), some (.int z2), some (.int z3), some (.int z4), none, some (.int zs0)]) (q := 100) hX dX12_tellLosses_98 (Nat.le_of_ble_eq_true rfl) rfl rfl rfl ?_
  refine sp_iload (i := 6) (q := 102) hX dX12_tellLosses_100 rfl rfl ?_
  refine sp_iconst (v := -1) (q := 103) hX dX12_tellLosses_102 li_m1 rfl ?_
  refine sp_icmp_eq (tgt := 114) (q := 106) hX dX12_tellLosses_103 (by decide) rfl (fun hc => ?_) (fun hc => ?_)
  · rw [if_pos hc] at hf
    refine sp_drop (lv' := [some (.ref (sx_ad X 0)), some (.int z1), some (.int z2), some (.int z3), some (.int z4), none, none]) (And.intro rfl (And.intro rfl (And.intro rfl (And.intro rfl (And.intro rfl trivial))))) ?_
    exact hX12_tellLosses_114 hX hR hk11 hk19 hf
  · rw [if_neg hc] at hf
    refine sp_aload_n (i := 0) (q := 107) hX dX12_tellLosses_106 rfl rfl rfl ?_
    refine sp_iload (i := 4) (q := 109) hX dX12_tellLosses_107 rfl rfl ?_
    refine sp_iload (i := 6) (q := 111) hX dX12_tellLosses_109 rfl rfl ?_
    obtain ⟨σ2, h1, hf⟩ := sp_bv_so hf
    refine sp_callVv (As := [.int z4, .int zs0]) (rest := []) (q := 114) hX (cnX12_putIn (sp_st hX)  h1) cwX12_429 atM_0 rfl rfl rfl rfl rfl (Nat.le_of_ble_eq_true rfl) (Nat.le_of_ble_eq_true rfl) (Nat.le_of_ble_eq_true rfl) (Nat.le_of_ble_eq_true rfl) (Nat.le_of_ble_eq_true rfl) dX12_tellLosses_111 rfl ?_
    refine sp_drop (lv' := [some (.ref (sx_ad X 0)), some (.int z1), some (.int z2), some (.int z3), some (.int z4), none, none]) (And.intro rfl (And.intro rfl (And.intro rfl (And.intro rfl (And.intro rfl trivial))))) ?_
    exact hX12_tellLosses_114 hX hR hk11 hk19 hf
set_option maxRecDepth 100000 in
set_option maxHeartbeats 4000000 in
theorem hX12_tellLosses_97 {X : sp_X} (hX : sp_OK shM X cX12_tellLosses RX12 7 rmX12_tellLosses) {τ : sp_St} (hR : sp_Rv shM X τ 0 0) {n : Nat}   {k11 : sp_St → Int32 → Int32 → Int32 → Option (sp_St)} (hk11 : ∀ (σ : sp_St) (z1 : Int32) (z2 : Int32) (z3 : Int32), k11 σ z1 z2 z3 = some τ → sp_GG shM X σ 7 [some (.ref (sx_ad X 0)), some (.int z1), some (.int z2), some (.int z3), none, none, none] [] 11 0 0) {k19 : sp_St → Int32 → Int32 → Int32 → Int32 → Option (sp_St)} (hk19 : ∀ (σ : sp_St) (z1 : Int32) (z2 : Int32) (z3 : Int32) (z4 : Int32), k19 σ z1 z2 z3 z4 = some τ → sp_GG shM X σ 7 [some (.ref (sx_ad X 0)), some (.int z1), some (.int z2), some (.int z3), some (.int z4), none, none] [] 19 0 0) {σ : sp_St} {z1 : Int32} {z2 : Int32} {z3 : Int32} {z4 : Int32} (hf : X12_tellLosses_97 n k11 k19 σ z1 z2 z3 z4 = some τ) : sp_GG shM X σ 7 [some (.ref (sx_ad X 0)), some (.int z1), some (.int z2), some (.int z3), some (.int z4), none, none] [] 97 0 0 := by
  unfold X12_tellLosses_97 at hf
  refine sp_iconst (v := -1) (q := 98) hX dX12_tellLosses_97 li_m1 rfl ?_
  exact hX12_tellLosses_98 hX hR hk11 hk19 hf
set_option maxRecDepth 100000 in
set_option maxHeartbeats 4000000 in
theorem hX12_tellLosses_71 {X : sp_X} (hX : sp_OK shM X cX12_tellLosses RX12 7 rmX12_tellLosses) {τ : sp_St} (hR : sp_Rv shM X τ 0 0) {n : Nat}   {k11 : sp_St → Int32 → Int32 → Int32 → Option (sp_St)} (hk11 : ∀ (σ : sp_St) (z1 : Int32) (z2 : Int32) (z3 : Int32), k11 σ z1 z2 z3 = some τ → sp_GG shM X σ 7 [some (.ref (sx_ad X 0)), some (.int z1), some (.int z2), some (.int z3), none, none, none] [] 11 0 0) {k19 : sp_St → Int32 → Int32 → Int32 → Int32 → Option (sp_St)} (hk19 : ∀ (σ : sp_St) (z1 : Int32) (z2 : Int32) (z3 : Int32) (z4 : Int32), k19 σ z1 z2 z3 z4 = some τ → sp_GG shM X σ 7 [some (.ref (sx_ad X 0)), some (.int z1), some (.int z2), some (.int z3), some (.int z4), none, none] [] 19 0 0) {σ : sp_St} {z1 : Int32} {z2 : Int32} {z3 : Int32} {z4 : Int32} {zs0 : Int32} (hf : X12_tellLosses_71 n k11 k19 σ z1 z2 z3 z4 zs0 = some τ) : sp_GG shM X σ 7 [some (.ref (sx_ad X 0)), some (.int z1), some (.int z2), some (.int z3), some (.int z4), none, none] [.int zs0] 71 0 0 := by
  unfold X12_tellLosses_71 at hf
  refine sp_istore (i := 5) (lv' := [some (.ref (sx_ad X 0)), some (.int z1), some (.int z2), some (.int z3), some (.int z4), some (.int zs0), none]) (q := 73) hX dX12_tellLosses_71 (Nat.le_of_ble_eq_true rfl) rfl rfl rfl ?_
  refine sp_iload (i := 5) (q := 75) hX dX12_tellLosses_73 rfl rfl ?_
  refine sp_if_eq (tgt := 97) (q := 78) hX dX12_tellLosses_75 (by decide) rfl (fun hc => ?_) (fun hc => ?_)
  · rw [if_pos hc] at hf
    refine sp_drop (lv' := [some (.ref (sx_ad X 0)), some (.int z1), some (.int z2), some (.int z3), some (.int z4), none, none]) (And.intro rfl (And.intro rfl (And.intro rfl (And.intro rfl (And.intro rfl trivial))))) ?_
    exact hX12_tellLosses_97 hX hR hk11 hk19 hf
  · rw [if_neg hc] at hf
    refine sp_aload_n (i := 0) (q := 79) hX dX12_tellLosses_78 rfl rfl rfl ?_
    refine sp_gets (t := 15) (q := 82) hX flX12_72 fkX12_27 atM_0 srM_0_27 dX12_tellLosses_79 rfl ?_
    refine sp_iload (i := 4) (q := 84) hX dX12_tellLosses_82 rfl rfl ?_
    obtain ⟨h1, hf⟩ := sp_ck_some hf
    refine sp_iald (q := 85) hX arM_15 h1 dX12_tellLosses_84 rfl ?_
    refine sp_if_ne (tgt := 97) (q := 88) hX dX12_tellLosses_85 (by decide) rfl (fun hc => ?_) (fun hc => ?_)
    · rw [if_neg hc] at hf
      refine sp_drop (lv' := [some (.ref (sx_ad X 0)), some (.int z1), some (.int z2), some (.int z3), some (.int z4), none, none]) (And.intro rfl (And.intro rfl (And.intro rfl (And.intro rfl (And.intro rfl trivial))))) ?_
      exact hX12_tellLosses_97 hX hR hk11 hk19 hf
    · rw [if_pos hc] at hf
      refine sp_aload_n (i := 0) (q := 89) hX dX12_tellLosses_88 rfl rfl rfl ?_
      refine sp_iload (i := 4) (q := 91) hX dX12_tellLosses_89 rfl rfl ?_
      obtain ⟨σ3, v4, h2, hf⟩ := sp_bd_so hf
      refine sp_callVi (As := [.int z4]) (rest := []) (q := 94) hX (cnX12_firstRoom (sp_st hX)  h2) cwX12_451 atM_0 rfl rfl rfl rfl rfl (Nat.le_of_ble_eq_true rfl) (Nat.le_of_ble_eq_true rfl) (Nat.le_of_ble_eq_true rfl) (Nat.le_of_ble_eq_true rfl) (Nat.le_of_ble_eq_true rfl) dX12_tellLosses_91 rfl ?_
      refine sp_goto (tgt := 98) hX dX12_tellLosses_94 (by decide) ?_
      refine sp_drop (lv' := [some (.ref (sx_ad X 0)), some (.int z1), some (.int z2), some (.int z3), some (.int z4), none, none]) (And.intro rfl (And.intro rfl (And.intro rfl (And.intro rfl (And.intro rfl trivial))))) ?_
      exact hX12_tellLosses_98 hX hR hk11 hk19 hf
set_option maxRecDepth 100000 in
set_option maxHeartbeats 4000000 in
theorem hX12_tellLosses_70 {X : sp_X} (hX : sp_OK shM X cX12_tellLosses RX12 7 rmX12_tellLosses) {τ : sp_St} (hR : sp_Rv shM X τ 0 0) {n : Nat}   {k11 : sp_St → Int32 → Int32 → Int32 → Option (sp_St)} (hk11 : ∀ (σ : sp_St) (z1 : Int32) (z2 : Int32) (z3 : Int32), k11 σ z1 z2 z3 = some τ → sp_GG shM X σ 7 [some (.ref (sx_ad X 0)), some (.int z1), some (.int z2), some (.int z3), none, none, none] [] 11 0 0) {k19 : sp_St → Int32 → Int32 → Int32 → Int32 → Option (sp_St)} (hk19 : ∀ (σ : sp_St) (z1 : Int32) (z2 : Int32) (z3 : Int32) (z4 : Int32), k19 σ z1 z2 z3 z4 = some τ → sp_GG shM X σ 7 [some (.ref (sx_ad X 0)), some (.int z1), some (.int z2), some (.int z3), some (.int z4), none, none] [] 19 0 0) {σ : sp_St} {z1 : Int32} {z2 : Int32} {z3 : Int32} {z4 : Int32} (hf : X12_tellLosses_70 n k11 k19 σ z1 z2 z3 z4 = some τ) : sp_GG shM X σ 7 [some (.ref (sx_ad X 0)), some (.int z1), some (.int z2), some (.int z3), some (.int z4), none, none] [] 70 0 0 := by
  unfold X12_tellLosses_70 at hf
  refine sp_iconst (v := 0) (q := 71) hX dX12_tellLosses_70 li_0 rfl ?_
  exact hX12_tellLosses_71 hX hR hk11 hk19 hf
set_option maxRecDepth 100000 in
set_option maxHeartbeats 4000000 in
theorem hX12_tellLosses_66 {X : sp_X} (hX : sp_OK shM X cX12_tellLosses RX12 7 rmX12_tellLosses) {τ : sp_St} (hR : sp_Rv shM X τ 0 0) {n : Nat}   {k11 : sp_St → Int32 → Int32 → Int32 → Option (sp_St)} (hk11 : ∀ (σ : sp_St) (z1 : Int32) (z2 : Int32) (z3 : Int32), k11 σ z1 z2 z3 = some τ → sp_GG shM X σ 7 [some (.ref (sx_ad X 0)), some (.int z1), some (.int z2), some (.int z3), none, none, none] [] 11 0 0) {k19 : sp_St → Int32 → Int32 → Int32 → Int32 → Option (sp_St)} (hk19 : ∀ (σ : sp_St) (z1 : Int32) (z2 : Int32) (z3 : Int32) (z4 : Int32), k19 σ z1 z2 z3 z4 = some τ → sp_GG shM X σ 7 [some (.ref (sx_ad X 0)), some (.int z1), some (.int z2), some (.int z3), some (.int z4), none, none] [] 19 0 0) {σ : sp_St} {z1 : Int32} {z2 : Int32} {z3 : Int32} {z4 : Int32} (hf : X12_tellLosses_66 n k11 k19 σ z1 z2 z3 z4 = some τ) : sp_GG shM X σ 7 [some (.ref (sx_ad X 0)), some (.int z1), some (.int z2), some (.int z3), some (.int z4), none, none] [] 66 0 0 := by
  unfold X12_tellLosses_66 at hf
  refine sp_iconst (v := 1) (q := 67) hX dX12_tellLosses_66 li_1 rfl ?_
  refine sp_goto (tgt := 71) hX dX12_tellLosses_67 (by decide) ?_
  exact hX12_tellLosses_71 hX hR hk11 hk19 hf
set_option maxRecDepth 100000 in
set_option maxHeartbeats 4000000 in
theorem hX12_tellLosses_48 {X : sp_X} (hX : sp_OK shM X cX12_tellLosses RX12 7 rmX12_tellLosses) {τ : sp_St} (hR : sp_Rv shM X τ 0 0) {n : Nat}   {k11 : sp_St → Int32 → Int32 → Int32 → Option (sp_St)} (hk11 : ∀ (σ : sp_St) (z1 : Int32) (z2 : Int32) (z3 : Int32), k11 σ z1 z2 z3 = some τ → sp_GG shM X σ 7 [some (.ref (sx_ad X 0)), some (.int z1), some (.int z2), some (.int z3), none, none, none] [] 11 0 0) {k19 : sp_St → Int32 → Int32 → Int32 → Int32 → Option (sp_St)} (hk19 : ∀ (σ : sp_St) (z1 : Int32) (z2 : Int32) (z3 : Int32) (z4 : Int32), k19 σ z1 z2 z3 z4 = some τ → sp_GG shM X σ 7 [some (.ref (sx_ad X 0)), some (.int z1), some (.int z2), some (.int z3), some (.int z4), none, none] [] 19 0 0) {σ : sp_St} {z1 : Int32} {z2 : Int32} {z3 : Int32} {z4 : Int32} (hf : X12_tellLosses_48 n k11 k19 σ z1 z2 z3 z4 = some τ) : sp_GG shM X σ 7 [some (.ref (sx_ad X 0)), some (.int z1), some (.int z2), some (.int z3), some (.int z4), none, none] [] 48 0 0 := by
  unfold X12_tellLosses_48 at hf
  refine sp_aload_n (i := 0) (q := 49) hX dX12_tellLosses_48 rfl rfl rfl ?_
  refine sp_gets (t := 7) (q := 52) hX flX12_46 fkX12_8 atM_0 srM_0_8 dX12_tellLosses_49 rfl ?_
  refine sp_iload (i := 4) (q := 54) hX dX12_tellLosses_52 rfl rfl ?_
  obtain ⟨h1, hf⟩ := sp_ck_some hf
  refine sp_iald (q := 55) hX arM_7 h1 dX12_tellLosses_54 rfl ?_
  refine sp_iload_n (i := 2) (q := 56) hX dX12_tellLosses_55 rfl rfl rfl ?_
  refine sp_icmp_ne (tgt := 70) (q := 59) hX dX12_tellLosses_56 (by decide) rfl (fun hc => ?_) (fun hc => ?_)
  · rw [if_neg hc] at hf
    exact hX12_tellLosses_70 hX hR hk11 hk19 hf
  · rw [if_pos hc] at hf
    refine sp_iload_n (i := 3) (q := 60) hX dX12_tellLosses_59 rfl rfl rfl ?_
    refine sp_iconst (v := 2) (q := 61) hX dX12_tellLosses_60 li_2 rfl ?_
    obtain ⟨h2, hf⟩ := sp_ck_some hf
    refine sp_irem (q := 62) hX dX12_tellLosses_61 (sp_nz h2) rfl ?_
    refine sp_iconst (v := 1) (q := 63) hX dX12_tellLosses_62 li_1 rfl ?_
    refine sp_icmp_ne (tgt := 70) (q := 66) hX dX12_tellLosses_63 (by decide) rfl (fun hc => ?_) (fun hc => ?_)
    · rw [if_neg hc] at hf
      exact hX12_tellLosses_70 hX hR hk11 hk19 hf
    · rw [if_pos hc] at hf
      exact hX12_tellLosses_66 hX hR hk11 hk19 hf
set_option maxRecDepth 100000 in
set_option maxHeartbeats 4000000 in
theorem hX12_tellLosses_19 {X : sp_X} (hX : sp_OK shM X cX12_tellLosses RX12 7 rmX12_tellLosses) {τ : sp_St} (hR : sp_Rv shM X τ 0 0) {n : Nat}   {k11 : sp_St → Int32 → Int32 → Int32 → Option (sp_St)} (hk11 : ∀ (σ : sp_St) (z1 : Int32) (z2 : Int32) (z3 : Int32), k11 σ z1 z2 z3 = some τ → sp_GG shM X σ 7 [some (.ref (sx_ad X 0)), some (.int z1), some (.int z2), some (.int z3), none, none, none] [] 11 0 0) : ∀ (f : Nat) (σ : sp_St) (z1 : Int32) (z2 : Int32) (z3 : Int32) (z4 : Int32), X12_tellLosses_19 n k11 f σ z1 z2 z3 z4 = some τ → sp_GG shM X σ 7 [some (.ref (sx_ad X 0)), some (.int z1), some (.int z2), some (.int z3), some (.int z4), none, none] [] 19 0 0 := by
  intro f
  induction f with
  | zero =>
    intro σ z1 z2 z3 z4 hf
    rw [X12_tellLosses_19] at hf
    cases hf
  | succ f ih =>
    intro σ z1 z2 z3 z4 hf
    rw [X12_tellLosses_19] at hf
    refine sp_iload (i := 4) (q := 21) hX dX12_tellLosses_19 rfl rfl ?_
    refine sp_aload_n (i := 0) (q := 22) hX dX12_tellLosses_21 rfl rfl rfl ?_
    refine sp_gets (t := 3) (q := 25) hX flX12_33 fkX12_4 atM_0 srM_0_4 dX12_tellLosses_22 rfl ?_
    refine sp_iconst (v := 2) (q := 26) hX dX12_tellLosses_25 li_2 rfl ?_
    refine sp_iald (q := 27) hX arM_3 (by decide) dX12_tellLosses_26 rfl ?_
    refine sp_icmp_ge (tgt := 120) (q := 30) hX dX12_tellLosses_27 (by decide) rfl (fun hc => ?_) (fun hc => ?_)
    · rw [if_pos hc] at hf
      refine sp_drop (lv' := [some (.ref (sx_ad X 0)), some (.int z1), some (.int z2), some (.int z3), none, none, none]) (And.intro rfl (And.intro rfl (And.intro rfl (And.intro rfl trivial)))) ?_
      exact hX12_tellLosses_120 hX hR hk11 hf
    · rw [if_neg hc] at hf
      refine sp_aload_n (i := 0) (q := 31) hX dX12_tellLosses_30 rfl rfl rfl ?_
      refine sp_gets (t := 7) (q := 34) hX flX12_46 fkX12_8 atM_0 srM_0_8 dX12_tellLosses_31 rfl ?_
      refine sp_iload (i := 4) (q := 36) hX dX12_tellLosses_34 rfl rfl ?_
      obtain ⟨h1, hf⟩ := sp_ck_some hf
      refine sp_iald (q := 37) hX arM_7 h1 dX12_tellLosses_36 rfl ?_
      refine sp_iload_n (i := 1) (q := 38) hX dX12_tellLosses_37 rfl rfl rfl ?_
      refine sp_icmp_ne (tgt := 48) (q := 41) hX dX12_tellLosses_38 (by decide) rfl (fun hc => ?_) (fun hc => ?_)
      · rw [if_neg hc] at hf
        exact hX12_tellLosses_48 hX hR hk11 ih hf
      · rw [if_pos hc] at hf
        refine sp_iload_n (i := 3) (q := 42) hX dX12_tellLosses_41 rfl rfl rfl ?_
        refine sp_iconst (v := 2) (q := 43) hX dX12_tellLosses_42 li_2 rfl ?_
        obtain ⟨h2, hf⟩ := sp_ck_some hf
        refine sp_idiv (q := 44) hX dX12_tellLosses_43 (sp_nz h2) rfl ?_
        refine sp_iconst (v := 1) (q := 45) hX dX12_tellLosses_44 li_1 rfl ?_
        refine sp_icmp_eq (tgt := 66) (q := 48) hX dX12_tellLosses_45 (by decide) rfl (fun hc => ?_) (fun hc => ?_)
        · rw [if_pos hc] at hf
          exact hX12_tellLosses_66 hX hR hk11 ih hf
        · rw [if_neg hc] at hf
          exact hX12_tellLosses_48 hX hR hk11 ih hf
set_option maxRecDepth 100000 in
set_option maxHeartbeats 4000000 in
theorem hX12_tellLosses_11 {X : sp_X} (hX : sp_OK shM X cX12_tellLosses RX12 7 rmX12_tellLosses) {τ : sp_St} (hR : sp_Rv shM X τ 0 0) {n : Nat}    : ∀ (f : Nat) (σ : sp_St) (z1 : Int32) (z2 : Int32) (z3 : Int32), X12_tellLosses_11 n f σ z1 z2 z3 = some τ → sp_GG shM X σ 7 [some (.ref (sx_ad X 0)), some (.int z1), some (.int z2), some (.int z3), none, none, none] [] 11 0 0 := by
  intro f
  induction f with
  | zero =>
    intro σ z1 z2 z3 hf
    rw [X12_tellLosses_11] at hf
    cases hf
  | succ f ih =>
    intro σ z1 z2 z3 hf
    rw [X12_tellLosses_11] at hf
    refine sp_iload_n (i := 3) (q := 12) hX dX12_tellLosses_11 rfl rfl rfl ?_
    refine sp_iconst (v := 4) (q := 13) hX dX12_tellLosses_12 li_4 rfl ?_
    refine sp_icmp_ge (tgt := 211) (q := 16) hX dX12_tellLosses_13 (by decide) rfl (fun hc => ?_) (fun hc => ?_)
    · rw [if_pos hc] at hf
      exact sp_vret hX hR dX12_tellLosses_211 hf (Nat.le_of_ble_eq_true rfl) (Nat.le_of_ble_eq_true rfl)
    · rw [if_neg hc] at hf
      refine sp_iconst (v := 0) (q := 17) hX dX12_tellLosses_16 li_0 rfl ?_
      obtain ⟨x1, e2, hf⟩ := sp_pl_some hf
      refine sp_nmi e2 ?_
      refine sp_istore (i := 4) (lv' := [some (.ref (sx_ad X 0)), some (.int z1), some (.int z2), some (.int z3), some (.int x1), none, none]) (q := 19) hX dX12_tellLosses_17 (Nat.le_of_ble_eq_true rfl) rfl rfl rfl ?_
      exact hX12_tellLosses_19 hX hR ih n σ z1 z2 z3 x1 hf
set_option maxRecDepth 100000 in
set_option maxHeartbeats 4000000 in
theorem hX12_tellLosses {X : sp_X} (hX : sp_OK shM X cX12_tellLosses RX12 7 rmX12_tellLosses) {τ : sp_St} (hR : sp_Rv shM X τ 0 0) {n : Nat}  {σ : sp_St} {a1 : Int32} {a2 : Int32}  (hf : X12_tellLosses n σ a1 a2 = some τ) : sp_GG shM X σ 7 [some (.ref (sx_ad X 0)), some (.int a1), some (.int a2), none, none, none, none] [] 0 0 0 := by
  unfold X12_tellLosses at hf
  refine sp_aload_n (i := 0) (q := 1) hX dX12_tellLosses_0 rfl rfl rfl ?_
  refine sp_aload_n (i := 0) (q := 2) hX dX12_tellLosses_1 rfl rfl rfl ?_
  refine sp_gets (t := 25) (q := 5) hX flX12_102 fkX12_41 atM_0 srM_0_41 dX12_tellLosses_2 rfl ?_
  refine sp_iconst (v := 0) (q := 6) hX dX12_tellLosses_5 li_0 rfl ?_
  obtain ⟨σ2, h1, hf⟩ := sp_bv_so hf
  refine sp_callVv (As := [.ref (sx_ad X 25), .int ((0 : Int32))]) (rest := []) (q := 9) hX (cnX12_pack (sp_st hX) arM_25 h1) cwX12_414 atM_0 rfl rfl rfl rfl rfl (Nat.le_of_ble_eq_true rfl) (Nat.le_of_ble_eq_true rfl) (Nat.le_of_ble_eq_true rfl) (Nat.le_of_ble_eq_true rfl) (Nat.le_of_ble_eq_true rfl) dX12_tellLosses_6 rfl ?_
  refine sp_iconst (v := 0) (q := 10) hX dX12_tellLosses_9 li_0 rfl ?_
  obtain ⟨x3, e4, hf⟩ := sp_pl_some hf
  refine sp_nmi e4 ?_
  refine sp_istore_n (i := 3) (lv' := [some (.ref (sx_ad X 0)), some (.int a1), some (.int a2), some (.int x3), none, none, none]) (q := 11) hX dX12_tellLosses_10 rfl (Nat.le_of_ble_eq_true rfl) rfl rfl rfl ?_
  exact hX12_tellLosses_11 hX hR n σ2 a1 a2 x3 hf
set_option maxRecDepth 100000 in
set_option maxHeartbeats 4000000 in
theorem cnX12_tellLosses {l : Launch} (hst : l.stackTraces = false) {w : sp_Wd} {n : Nat}  {σ : sp_St} {a1 : Int32} {a2 : Int32} {τ : sp_St}  (hf : X12_tellLosses n σ a1 a2 = some τ) : sp_Cv shM l w yX12_tellLosses cX12_tellLosses 7 rmX12_tellLosses 0 0 σ [.ref (w.2.1 0), .int a1, .int a2] τ :=
  sp_cv (own := RX12) (by decide) rfl hst (Nat.le_of_ble_eq_true rfl) rfl (fun X hX hw hl hR => by subst hw; subst hl; exact hX12_tellLosses hX hR   hf)
def rmX12_game : Room := { frames := 8, cells := 0, slots := 0, locals := 180 }
def X12_game_161 (n : Nat) (σ : sp_St) (z3 : Int32) (z4 : Int32) (z5 : Int32) : Option (sp_St × Int32) :=
  sp_pl (if z3 = 0 then z4 else z5) fun v1 =>
  some (σ, v1)
def X12_game_155 (n : Nat) (k68 : sp_St → Int32 → Int32 → Int32 → Int32 → Option (sp_St × Int32)) (σ : sp_St) (z3 : Int32) (z4 : Int32) (z5 : Int32) (z6 : Int32) : Option (sp_St × Int32) :=
  sp_pl (z6 + 1) fun x1 =>
  k68 σ z3 z4 z5 x1
def X12_game_153 (n : Nat) (k68 : sp_St → Int32 → Int32 → Int32 → Int32 → Option (sp_St × Int32)) (σ : sp_St) (z3 : Int32) (z4 : Int32) (z6 : Int32) (zs0 : Int32) : Option (sp_St × Int32) :=
  X12_game_155 n k68 σ z3 z4 zs0 z6
def X12_game_68 (n : Nat) : Nat → sp_St → Int32 → Int32 → Int32 → Int32 → Option (sp_St × Int32)
  | 0, _, _, _, _, _ => none
  | f + 1, σ, z3, z4, z5, z6 =>
    if ((4 : Int32)) ≤ z6 then
      X12_game_161 n σ z3 z4 z5
    else
      sp_ck (sp_in (((2 : Int32)) * (z6 ^^^ ((2 : Int32)))) 8) <|
      sp_ck (sp_in (((2 : Int32)) * z6) 8) <|
      if (sp_g σ 36 (((2 : Int32)) * (z6 ^^^ ((2 : Int32))))) < (sp_g σ 36 (((2 : Int32)) * z6)) then
        X12_game_155 n (X12_game_68 n f) σ z3 z4 z5 z6
      else
        sp_ck (sp_in ((((2 : Int32)) * (z6 ^^^ ((1 : Int32)))) + ((1 : Int32))) 8) <|
        sp_ck (sp_in ((((2 : Int32)) * z6) + ((1 : Int32))) 8) <|
        if (sp_g σ 36 ((((2 : Int32)) * z6) + ((1 : Int32)))) ≤ (sp_g σ 36 ((((2 : Int32)) * (z6 ^^^ ((1 : Int32)))) + ((1 : Int32)))) then
          sp_pl (z4 + 1) fun x5 =>
          if z5 = ((-1 : Int32)) then
            sp_ck (!decide (((2 : Int32)) = 0)) <|
            sp_ck (!decide (((2 : Int32)) = 0)) <|
            X12_game_153 n (X12_game_68 n f) σ z3 x5 z6 ((((10 : Int32)) * (z6 / ((2 : Int32)))) + (z6 - z6 / ((2 : Int32)) * ((2 : Int32))))
          else
            X12_game_153 n (X12_game_68 n f) σ z3 x5 z6 z5
        else
          X12_game_155 n (X12_game_68 n f) σ z3 z4 z5 z6
def X12_game_28 (n : Nat) (σ : sp_St) : Option (sp_St × Int32) :=
  sp_bd (X12_fail n σ ((1 : Int32))) fun σ2 v3 =>
  some (σ2, v3)
def X12_game (n : Nat)  (σ : sp_St) (a1 : Int32) (a2 : Int32) (a3 : Int32) : Option (sp_St × Int32) :=
  sp_pl (sp_si σ 0 3 ((0 : Int32))) fun σ1 =>
  sp_bd (X12_isHouse n σ1 a1) fun σ4 v5 =>
  if v5 = 0 then
    X12_game_28 n σ4
  else
    sp_bd (X12_isHouse n σ4 a2) fun σ7 v8 =>
    if v8 = 0 then
      X12_game_28 n σ7
    else
      if a3 < 0 then
        X12_game_28 n σ7
      else
        if a3 ≤ ((1 : Int32)) then
          sp_ck (sp_in a1 6) <|
          sp_bd (X12_isOf n σ7 (sp_g σ7 19 a1) a2) fun σ11 v12 =>
          if v12 = 0 then
            sp_bd (X12_fail n σ11 ((2 : Int32))) fun σ22 v23 =>
            some (σ22, v23)
          else
            sp_bv (X12_tellLosses n σ11 a1 a2) fun σ14 =>
            sp_pl ((0 : Int32)) fun x15 =>
            sp_pl ((-1 : Int32)) fun x17 =>
            sp_pl ((0 : Int32)) fun x19 =>
            X12_game_68 n n σ14 a3 x15 x17 x19
        else
          X12_game_28 n σ7
set_option maxRecDepth 100000 in
set_option maxHeartbeats 4000000 in
theorem hX12_game_161 {X : sp_X} (hX : sp_OK shM X cX12_game RX12 7 rmX12_game) {τ : sp_St} {r : Int32} (hR : sp_Ri shM X (some .int) τ r 0 0) {n : Nat}    {σ : sp_St} {z3 : Int32} {z4 : Int32} {z5 : Int32} (hf : X12_game_161 n σ z3 z4 z5 = some (τ, r)) : sp_GG shM X σ 7 [none, none, none, some (.int z3), some (.int z4), some (.int z5), none] [] 161 0 0 := by
  unfold X12_game_161 at hf
  refine sp_iload_n (i := 3) (q := 162) hX dX12_game_161 rfl rfl rfl ?_
  obtain ⟨v1, e2, hf⟩ := sp_pl_some hf
  have hj3 : sp_GG shM X σ 7 [none, none, none, some (.int z3), some (.int z4), some (.int z5), none] [.int v1] 172 0 0 := by
    exact sp_iret hX hR dX12_game_172 hf (Nat.le_of_ble_eq_true rfl) (Nat.le_of_ble_eq_true rfl)
  refine sp_if_ne (tgt := 170) (q := 165) hX dX12_game_162 (by decide) rfl (fun hc => ?_) (fun hc => ?_)
  · refine sp_iload (i := 5) (q := 172) hX dX12_game_170 rfl rfl ?_
    exact sp_nmi (by rw [e2, if_neg hc]) hj3
  · refine sp_iload (i := 4) (q := 167) hX dX12_game_165 rfl rfl ?_
    refine sp_goto (tgt := 172) hX dX12_game_167 (by decide) ?_
    exact sp_nmi (by rw [e2, if_pos hc]) hj3
set_option maxRecDepth 100000 in
set_option maxHeartbeats 4000000 in
theorem hX12_game_155 {X : sp_X} (hX : sp_OK shM X cX12_game RX12 7 rmX12_game) {τ : sp_St} {r : Int32} (hR : sp_Ri shM X (some .int) τ r 0 0) {n : Nat}   {k68 : sp_St → Int32 → Int32 → Int32 → Int32 → Option (sp_St × Int32)} (hk68 : ∀ (σ : sp_St) (z3 : Int32) (z4 : Int32) (z5 : Int32) (z6 : Int32), k68 σ z3 z4 z5 z6 = some (τ, r) → sp_GG shM X σ 7 [some (.ref (sx_ad X 0)), none, none, some (.int z3), some (.int z4), some (.int z5), some (.int z6)] [] 68 0 0) {σ : sp_St} {z3 : Int32} {z4 : Int32} {z5 : Int32} {z6 : Int32} (hf : X12_game_155 n k68 σ z3 z4 z5 z6 = some (τ, r)) : sp_GG shM X σ 7 [some (.ref (sx_ad X 0)), none, none, some (.int z3), some (.int z4), some (.int z5), some (.int z6)] [] 155 0 0 := by
  unfold X12_game_155 at hf
  obtain ⟨x1, e2, hf⟩ := sp_pl_some hf
  refine sp_iinc (i := 6) (v := x1) (lv' := [some (.ref (sx_ad X 0)), none, none, some (.int z3), some (.int z4), some (.int z5), some (.int x1)]) (q := 158) hX dX12_game_155 rfl (by rw [e2, li_1]) (Nat.le_of_ble_eq_true rfl) rfl rfl rfl ?_
  refine sp_goto (tgt := 68) hX dX12_game_158 (by decide) ?_
  exact hk68 σ z3 z4 z5 x1 hf
set_option maxRecDepth 100000 in
set_option maxHeartbeats 4000000 in
theorem hX12_game_153 {X : sp_X} (hX : sp_OK shM X cX12_game RX12 7 rmX12_game) {τ : sp_St} {r : Int32} (hR : sp_Ri shM X (some .int) τ r 0 0) {n : Nat}   {k68 : sp_St → Int32 → Int32 → Int32 → Int32 → Option (sp_St × Int32)} (hk68 : ∀ (σ : sp_St) (z3 : Int32) (z4 : Int32) (z5 : Int32) (z6 : Int32), k68 σ z3 z4 z5 z6 = some (τ, r) → sp_GG shM X σ 7 [some (.ref (sx_ad X 0)), none, none, some (.int z3), some (.int z4), some (.int z5), some (.int z6)] [] 68 0 0) {σ : sp_St} {z3 : Int32} {z4 : Int32} {z6 : Int32} {zs0 : Int32} (hf : X12_game_153 n k68 σ z3 z4 z6 zs0 = some (τ, r)) : sp_GG shM X σ 7 [some (.ref (sx_ad X 0)), none, none, some (.int z3), some (.int z4), none, some (.int z6)] [.int zs0] 153 0 0 := by
  unfold X12_game_153 at hf
  refine sp_istore (i := 5) (lv' := [some (.ref (sx_ad X 0)), none, none, some (.int z3), some (.int z4), some (.int zs0), some (.int z6)]) (q := 155) hX dX12_game_153 (Nat.le_of_ble_eq_true rfl) rfl rfl rfl ?_
  exact hX12_game_155 hX hR hk68 hf
set_option maxRecDepth 100000 in
set_option maxHeartbeats 4000000 in
theorem hX12_game_68 {X : sp_X} (hX : sp_OK shM X cX12_game RX12 7 rmX12_game) {τ : sp_St} {r : Int32} (hR : sp_Ri shM X (some .int) τ r 0 0) {n : Nat}    : ∀ (f : Nat) (σ : sp_St) (z3 : Int32) (z4 : Int32) (z5 : Int32) (z6 : Int32), X12_game_68 n f σ z3 z4 z5 z6 = some (τ, r) → sp_GG shM X σ 7 [some (.ref (sx_ad X 0)), none, none, some (.int z3), some (.int z4), some (.int z5), some (.int z6)] [] 68 0 0 := by
  intro f
  induction f with
  | zero =>
    intro σ z3 z4 z5 z6 hf
    rw [X12_game_68] at hf
    cases hf
  | succ f ih =>
    intro σ z3 z4 z5 z6 hf
    rw [X12_game_68] at hf
    refine sp_iload (i := 6) (q := 70) hX dX12_game_68 rfl rfl ?_
    refine sp_iconst (v := 4) (q := 71) hX dX12_game_70 li_4 rfl ?_
    refine sp_icmp_ge (tgt := 161) (q := 74) hX dX12_game_71 (by decide) rfl (fun hc => ?_) (fun hc => ?_)
    · rw [if_pos hc] at hf
      refine sp_drop (lv' := [none, none, none, some (.int z3), some (.int z4), some (.int z5), none]) (And.intro rfl (And.intro rfl (And.intro rfl trivial))) ?_
      exact hX12_game_161 hX hR hf
    · rw [if_neg hc] at hf
      refine sp_aload_n (i := 0) (q := 75) hX dX12_game_74 rfl rfl rfl ?_
      refine sp_gets (t := 36) (q := 78) hX flX12_137 fkX12_53 atM_0 srM_0_53 dX12_game_75 rfl ?_
      refine sp_iconst (v := 2) (q := 79) hX dX12_game_78 li_2 rfl ?_
      refine sp_iload (i := 6) (q := 81) hX dX12_game_79 rfl rfl ?_
      refine sp_iconst (v := 2) (q := 82) hX dX12_game_81 li_2 rfl ?_
      refine sp_ixor (q := 83) hX dX12_game_82 rfl ?_
      refine sp_imul (q := 84) hX dX12_game_83 rfl ?_
      obtain ⟨h1, hf⟩ := sp_ck_some hf
      refine sp_iald (q := 85) hX arM_36 h1 dX12_game_84 rfl ?_
      refine sp_aload_n (i := 0) (q := 86) hX dX12_game_85 rfl rfl rfl ?_
      refine sp_gets (t := 36) (q := 89) hX flX12_137 fkX12_53 atM_0 srM_0_53 dX12_game_86 rfl ?_
      refine sp_iconst (v := 2) (q := 90) hX dX12_game_89 li_2 rfl ?_
      refine sp_iload (i := 6) (q := 92) hX dX12_game_90 rfl rfl ?_
      refine sp_imul (q := 93) hX dX12_game_92 rfl ?_
      obtain ⟨h2, hf⟩ := sp_ck_some hf
      refine sp_iald (q := 94) hX arM_36 h2 dX12_game_93 rfl ?_
      refine sp_icmp_lt (tgt := 155) (q := 97) hX dX12_game_94 (by decide) rfl (fun hc => ?_) (fun hc => ?_)
      · rw [if_pos hc] at hf
        exact hX12_game_155 hX hR ih hf
      · rw [if_neg hc] at hf
        refine sp_aload_n (i := 0) (q := 98) hX dX12_game_97 rfl rfl rfl ?_
        refine sp_gets (t := 36) (q := 101) hX flX12_137 fkX12_53 atM_0 srM_0_53 dX12_game_98 rfl ?_
        refine sp_iconst (v := 2) (q := 102) hX dX12_game_101 li_2 rfl ?_
        refine sp_iload (i := 6) (q := 104) hX dX12_game_102 rfl rfl ?_
        refine sp_iconst (v := 1) (q := 105) hX dX12_game_104 li_1 rfl ?_
        refine sp_ixor (q := 106) hX dX12_game_105 rfl ?_
        refine sp_imul (q := 107) hX dX12_game_106 rfl ?_
        refine sp_iconst (v := 1) (q := 108) hX dX12_game_107 li_1 rfl ?_
        refine sp_iadd (q := 109) hX dX12_game_108 rfl ?_
        obtain ⟨h3, hf⟩ := sp_ck_some hf
        refine sp_iald (q := 110) hX arM_36 h3 dX12_game_109 rfl ?_
        refine sp_aload_n (i := 0) (q := 111) hX dX12_game_110 rfl rfl rfl ?_
        refine sp_gets (t := 36) (q := 114) hX flX12_137 fkX12_53 atM_0 srM_0_53 dX12_game_111 rfl ?_
        refine sp_iconst (v := 2) (q := 115) hX dX12_game_114 li_2 rfl ?_
        refine sp_iload (i := 6) (q := 117) hX dX12_game_115 rfl rfl ?_
        refine sp_imul (q := 118) hX dX12_game_117 rfl ?_
        refine sp_iconst (v := 1) (q := 119) hX dX12_game_118 li_1 rfl ?_
        refine sp_iadd (q := 120) hX dX12_game_119 rfl ?_
        obtain ⟨h4, hf⟩ := sp_ck_some hf
        refine sp_iald (q := 121) hX arM_36 h4 dX12_game_120 rfl ?_
        refine sp_icmp_ge (tgt := 127) (q := 124) hX dX12_game_121 (by decide) rfl (fun hc => ?_) (fun hc => ?_)
        · rw [if_pos hc] at hf
          obtain ⟨x5, e6, hf⟩ := sp_pl_some hf
          refine sp_iinc (i := 4) (v := x5) (lv' := [some (.ref (sx_ad X 0)), none, none, some (.int z3), some (.int x5), some (.int z5), some (.int z6)]) (q := 130) hX dX12_game_127 rfl (by rw [e6, li_1]) (Nat.le_of_ble_eq_true rfl) rfl rfl rfl ?_
          refine sp_iload (i := 5) (q := 132) hX dX12_game_130 rfl rfl ?_
          refine sp_iconst (v := -1) (q := 133) hX dX12_game_132 li_m1 rfl ?_
          refine sp_icmp_ne (tgt := 151) (q := 136) hX dX12_game_133 (by decide) rfl (fun hc => ?_) (fun hc => ?_)
          · rw [if_neg hc] at hf
            refine sp_iload (i := 5) (q := 153) hX dX12_game_151 rfl rfl ?_
            refine sp_drop (lv' := [some (.ref (sx_ad X 0)), none, none, some (.int z3), some (.int x5), none, some (.int z6)]) (And.intro rfl (And.intro rfl (And.intro rfl (And.intro rfl trivial)))) ?_
            exact hX12_game_153 hX hR ih hf
          · rw [if_pos hc] at hf
            refine sp_bipush (v := 10) (q := 138) hX dX12_game_136 lb_10 rfl ?_
            refine sp_iload (i := 6) (q := 140) hX dX12_game_138 rfl rfl ?_
            refine sp_iconst (v := 2) (q := 141) hX dX12_game_140 li_2 rfl ?_
            obtain ⟨h7, hf⟩ := sp_ck_some hf
            refine sp_idiv (q := 142) hX dX12_game_141 (sp_nz h7) rfl ?_
            refine sp_imul (q := 143) hX dX12_game_142 rfl ?_
            refine sp_iload (i := 6) (q := 145) hX dX12_game_143 rfl rfl ?_
            refine sp_iconst (v := 2) (q := 146) hX dX12_game_145 li_2 rfl ?_
            obtain ⟨h8, hf⟩ := sp_ck_some hf
            refine sp_irem (q := 147) hX dX12_game_146 (sp_nz h8) rfl ?_
            refine sp_iadd (q := 148) hX dX12_game_147 rfl ?_
            refine sp_goto (tgt := 153) hX dX12_game_148 (by decide) ?_
            refine sp_drop (lv' := [some (.ref (sx_ad X 0)), none, none, some (.int z3), some (.int x5), none, some (.int z6)]) (And.intro rfl (And.intro rfl (And.intro rfl (And.intro rfl trivial)))) ?_
            exact hX12_game_153 hX hR ih hf
        · rw [if_neg hc] at hf
          refine sp_goto (tgt := 155) hX dX12_game_124 (by decide) ?_
          exact hX12_game_155 hX hR ih hf
set_option maxRecDepth 100000 in
set_option maxHeartbeats 4000000 in
theorem hX12_game_28 {X : sp_X} (hX : sp_OK shM X cX12_game RX12 7 rmX12_game) {τ : sp_St} {r : Int32} (hR : sp_Ri shM X (some .int) τ r 0 0) {n : Nat}    {σ : sp_St} (hf : X12_game_28 n σ = some (τ, r)) : sp_GG shM X σ 7 [some (.ref (sx_ad X 0)), none, none, none, none, none, none] [] 28 0 0 := by
  unfold X12_game_28 at hf
  refine sp_aload_n (i := 0) (q := 29) hX dX12_game_28 rfl rfl rfl ?_
  refine sp_iconst (v := 1) (q := 30) hX dX12_game_29 li_1 rfl ?_
  obtain ⟨σ2, v3, h1, hf⟩ := sp_bd_so hf
  refine sp_callVi (As := [.int ((1 : Int32))]) (rest := []) (q := 33) hX (cnX12_fail (sp_st hX)  h1) cwX12_312 atM_0 rfl rfl rfl rfl rfl (Nat.le_of_ble_eq_true rfl) (Nat.le_of_ble_eq_true rfl) (Nat.le_of_ble_eq_true rfl) (Nat.le_of_ble_eq_true rfl) (Nat.le_of_ble_eq_true rfl) dX12_game_30 rfl ?_
  exact sp_iret hX hR dX12_game_33 hf (Nat.le_of_ble_eq_true rfl) (Nat.le_of_ble_eq_true rfl)
set_option maxRecDepth 100000 in
set_option maxHeartbeats 4000000 in
theorem hX12_game {X : sp_X} (hX : sp_OK shM X cX12_game RX12 7 rmX12_game) {τ : sp_St} {r : Int32} (hR : sp_Ri shM X (some .int) τ r 0 0) {n : Nat}  {σ : sp_St} {a1 : Int32} {a2 : Int32} {a3 : Int32}  (hf : X12_game n σ a1 a2 a3 = some (τ, r)) : sp_GG shM X σ 7 [some (.ref (sx_ad X 0)), some (.int a1), some (.int a2), some (.int a3), none, none, none] [] 0 0 0 := by
  unfold X12_game at hf
  refine sp_aload_n (i := 0) (q := 1) hX dX12_game_0 rfl rfl rfl ?_
  refine sp_iconst (v := 0) (q := 2) hX dX12_game_1 li_0 rfl ?_
  obtain ⟨σ1, e2, hf⟩ := sp_pl_some hf
  refine sp_puti (q := 5) hX fpX12_158 fkX12_3 atM_0 dX12_game_2 rfl ?_
  refine sp_nms e2 ?_
  refine sp_iload_n (i := 1) (q := 6) hX dX12_game_5 rfl rfl rfl ?_
  obtain ⟨σ4, v5, h3, hf⟩ := sp_bd_so hf
  refine sp_callSi (As := [.int a1]) (rest := []) (q := 9) hX (cnX12_isHouse (sp_st hX)  h3) cwX12_408 rfl rfl rfl rfl (Nat.le_of_ble_eq_true rfl) (Nat.le_of_ble_eq_true rfl) (Nat.le_of_ble_eq_true rfl) (Nat.le_of_ble_eq_true rfl) (Nat.le_of_ble_eq_true rfl) dX12_game_6 rfl ?_
  refine sp_if_eq (tgt := 28) (q := 12) hX dX12_game_9 (by decide) rfl (fun hc => ?_) (fun hc => ?_)
  · rw [if_pos hc] at hf
    refine sp_drop (lv' := [some (.ref (sx_ad X 0)), none, none, none, none, none, none]) (And.intro rfl trivial) ?_
    exact hX12_game_28 hX hR hf
  · rw [if_neg hc] at hf
    refine sp_iload_n (i := 2) (q := 13) hX dX12_game_12 rfl rfl rfl ?_
    obtain ⟨σ7, v8, h6, hf⟩ := sp_bd_so hf
    refine sp_callSi (As := [.int a2]) (rest := []) (q := 16) hX (cnX12_isHouse (sp_st hX)  h6) cwX12_408 rfl rfl rfl rfl (Nat.le_of_ble_eq_true rfl) (Nat.le_of_ble_eq_true rfl) (Nat.le_of_ble_eq_true rfl) (Nat.le_of_ble_eq_true rfl) (Nat.le_of_ble_eq_true rfl) dX12_game_13 rfl ?_
    refine sp_if_eq (tgt := 28) (q := 19) hX dX12_game_16 (by decide) rfl (fun hc => ?_) (fun hc => ?_)
    · rw [if_pos hc] at hf
      refine sp_drop (lv' := [some (.ref (sx_ad X 0)), none, none, none, none, none, none]) (And.intro rfl trivial) ?_
      exact hX12_game_28 hX hR hf
    · rw [if_neg hc] at hf
      refine sp_iload_n (i := 3) (q := 20) hX dX12_game_19 rfl rfl rfl ?_
      refine sp_if_lt (tgt := 28) (q := 23) hX dX12_game_20 (by decide) rfl (fun hc => ?_) (fun hc => ?_)
      · rw [if_pos hc] at hf
        refine sp_drop (lv' := [some (.ref (sx_ad X 0)), none, none, none, none, none, none]) (And.intro rfl trivial) ?_
        exact hX12_game_28 hX hR hf
      · rw [if_neg hc] at hf
        refine sp_iload_n (i := 3) (q := 24) hX dX12_game_23 rfl rfl rfl ?_
        refine sp_iconst (v := 1) (q := 25) hX dX12_game_24 li_1 rfl ?_
        refine sp_icmp_le (tgt := 34) (q := 28) hX dX12_game_25 (by decide) rfl (fun hc => ?_) (fun hc => ?_)
        · rw [if_pos hc] at hf
          refine sp_aload_n (i := 0) (q := 35) hX dX12_game_34 rfl rfl rfl ?_
          refine sp_gets (t := 19) (q := 38) hX flX12_84 fkX12_31 atM_0 srM_0_31 dX12_game_35 rfl ?_
          refine sp_iload_n (i := 1) (q := 39) hX dX12_game_38 rfl rfl rfl ?_
          obtain ⟨h9, hf⟩ := sp_ck_some hf
          refine sp_iald (q := 40) hX arM_19 h9 dX12_game_39 rfl ?_
          refine sp_iload_n (i := 2) (q := 41) hX dX12_game_40 rfl rfl rfl ?_
          obtain ⟨σ11, v12, h10, hf⟩ := sp_bd_so hf
          refine sp_callSi (As := [.int (sp_g σ7 19 a1), .int a2]) (rest := []) (q := 44) hX (cnX12_isOf (sp_st hX)  h10) cwX12_284 rfl rfl rfl rfl (Nat.le_of_ble_eq_true rfl) (Nat.le_of_ble_eq_true rfl) (Nat.le_of_ble_eq_true rfl) (Nat.le_of_ble_eq_true rfl) (Nat.le_of_ble_eq_true rfl) dX12_game_41 rfl ?_
          refine sp_if_ne (tgt := 53) (q := 47) hX dX12_game_44 (by decide) rfl (fun hc => ?_) (fun hc => ?_)
          · rw [if_neg hc] at hf
            refine sp_aload_n (i := 0) (q := 54) hX dX12_game_53 rfl rfl rfl ?_
            refine sp_iload_n (i := 1) (q := 55) hX dX12_game_54 rfl rfl rfl ?_
            refine sp_iload_n (i := 2) (q := 56) hX dX12_game_55 rfl rfl rfl ?_
            obtain ⟨σ14, h13, hf⟩ := sp_bv_so hf
            refine sp_callVv (As := [.int a1, .int a2]) (rest := []) (q := 59) hX (cnX12_tellLosses (sp_st hX)  h13) cwX12_479 atM_0 rfl rfl rfl rfl rfl (Nat.le_of_ble_eq_true rfl) (Nat.le_of_ble_eq_true rfl) (Nat.le_of_ble_eq_true rfl) (Nat.le_of_ble_eq_true rfl) (Nat.le_of_ble_eq_true rfl) dX12_game_56 rfl ?_
            refine sp_iconst (v := 0) (q := 60) hX dX12_game_59 li_0 rfl ?_
            obtain ⟨x15, e16, hf⟩ := sp_pl_some hf
            refine sp_nmi e16 ?_
            refine sp_istore (i := 4) (lv' := [some (.ref (sx_ad X 0)), some (.int a1), some (.int a2), some (.int a3), some (.int x15), none, none]) (q := 62) hX dX12_game_60 (Nat.le_of_ble_eq_true rfl) rfl rfl rfl ?_
            refine sp_iconst (v := -1) (q := 63) hX dX12_game_62 li_m1 rfl ?_
            obtain ⟨x17, e18, hf⟩ := sp_pl_some hf
            refine sp_nmi e18 ?_
            refine sp_istore (i := 5) (lv' := [some (.ref (sx_ad X 0)), some (.int a1), some (.int a2), some (.int a3), some (.int x15), some (.int x17), none]) (q := 65) hX dX12_game_63 (Nat.le_of_ble_eq_true rfl) rfl rfl rfl ?_
            refine sp_iconst (v := 0) (q := 66) hX dX12_game_65 li_0 rfl ?_
            obtain ⟨x19, e20, hf⟩ := sp_pl_some hf
            refine sp_nmi e20 ?_
            refine sp_istore (i := 6) (lv' := [some (.ref (sx_ad X 0)), some (.int a1), some (.int a2), some (.int a3), some (.int x15), some (.int x17), some (.int x19)]) (q := 68) hX dX12_game_66 (Nat.le_of_ble_eq_true rfl) rfl rfl rfl ?_
            refine sp_drop (lv' := [some (.ref (sx_ad X 0)), none, none, some (.int a3), some (.int x15), some (.int x17), some (.int x19)]) (And.intro rfl (And.intro rfl (And.intro rfl (And.intro rfl (And.intro rfl trivial))))) ?_
            exact hX12_game_68 hX hR n σ14 a3 x15 x17 x19 hf
          · rw [if_pos hc] at hf
            refine sp_aload_n (i := 0) (q := 48) hX dX12_game_47 rfl rfl rfl ?_
            refine sp_iconst (v := 2) (q := 49) hX dX12_game_48 li_2 rfl ?_
            obtain ⟨σ22, v23, h21, hf⟩ := sp_bd_so hf
            refine sp_callVi (As := [.int ((2 : Int32))]) (rest := []) (q := 52) hX (cnX12_fail (sp_st hX)  h21) cwX12_312 atM_0 rfl rfl rfl rfl rfl (Nat.le_of_ble_eq_true rfl) (Nat.le_of_ble_eq_true rfl) (Nat.le_of_ble_eq_true rfl) (Nat.le_of_ble_eq_true rfl) (Nat.le_of_ble_eq_true rfl) dX12_game_49 rfl ?_
            exact sp_iret hX hR dX12_game_52 hf (Nat.le_of_ble_eq_true rfl) (Nat.le_of_ble_eq_true rfl)
        · rw [if_neg hc] at hf
          refine sp_drop (lv' := [some (.ref (sx_ad X 0)), none, none, none, none, none, none]) (And.intro rfl trivial) ?_
          exact hX12_game_28 hX hR hf
set_option maxRecDepth 100000 in
set_option maxHeartbeats 4000000 in
theorem cnX12_game {l : Launch} (hst : l.stackTraces = false) {w : sp_Wd} {n : Nat}  {σ : sp_St} {a1 : Int32} {a2 : Int32} {a3 : Int32} {τ : sp_St} {r : Int32}  (hf : X12_game n σ a1 a2 a3 = some (τ, r)) : sp_Ci shM l w yX12_game cX12_game 7 (some .int) rmX12_game 0 0 σ [.ref (w.2.1 0), .int a1, .int a2, .int a3] τ r :=
  sp_ci (own := RX12) (by decide) rfl hst (Nat.le_of_ble_eq_true rfl) rfl (fun X hX hw hl hR => by subst hw; subst hl; exact hX12_game hX hR   hf)
def rmX12_drawOf : Room := { frames := 0, cells := 0, slots := 0, locals := 0 }
def X12_drawOf (n : Nat)  (σ : sp_St) (a1 : Int32) : Option (sp_St × Int32) :=
  sp_pl (sp_si σ 0 54 (((σ.1 0 54) * ((1103515245 : Int32))) + ((12345 : Int32)))) fun σ1 =>
  sp_ck (!decide (a1 = 0)) <|
  some (σ1, (((σ1.1 0 54) >>> (((16 : Int32)) &&& 31)) &&& ((32767 : Int32))) - (((σ1.1 0 54) >>> (((16 : Int32)) &&& 31)) &&& ((32767 : Int32))) / a1 * a1)
set_option maxRecDepth 100000 in
set_option maxHeartbeats 4000000 in
theorem hX12_drawOf {X : sp_X} (hX : sp_OK shM X cX12_drawOf RX12 2 rmX12_drawOf) {τ : sp_St} {r : Int32} (hR : sp_Ri shM X (some .int) τ r 0 0) {n : Nat}  {σ : sp_St} {a1 : Int32}  (hf : X12_drawOf n σ a1 = some (τ, r)) : sp_GG shM X σ 2 [some (.ref (sx_ad X 0)), some (.int a1)] [] 0 0 0 := by
  unfold X12_drawOf at hf
  refine sp_aload_n (i := 0) (q := 1) hX dX12_drawOf_0 rfl rfl rfl ?_
  refine sp_aload_n (i := 0) (q := 2) hX dX12_drawOf_1 rfl rfl rfl ?_
  refine sp_geti (q := 5) hX flX12_482 fkX12_54 atM_0 dX12_drawOf_2 rfl ?_
  refine sp_ldcw (v := 1103515245) (q := 8) hX wd_2246 dX12_drawOf_5 rfl ?_
  refine sp_imul (q := 9) hX dX12_drawOf_8 rfl ?_
  refine sp_sipush (v := 12345) (q := 12) hX dX12_drawOf_9 ls_12345 rfl ?_
  refine sp_iadd (q := 13) hX dX12_drawOf_12 rfl ?_
  obtain ⟨σ1, e2, hf⟩ := sp_pl_some hf
  refine sp_puti (q := 16) hX fpX12_482 fkX12_54 atM_0 dX12_drawOf_13 rfl ?_
  refine sp_nms e2 ?_
  refine sp_aload_n (i := 0) (q := 17) hX dX12_drawOf_16 rfl rfl rfl ?_
  refine sp_geti (q := 20) hX flX12_482 fkX12_54 atM_0 dX12_drawOf_17 rfl ?_
  refine sp_bipush (v := 16) (q := 22) hX dX12_drawOf_20 lb_16 rfl ?_
  refine sp_ishr (q := 23) hX dX12_drawOf_22 rfl ?_
  refine sp_sipush (v := 32767) (q := 26) hX dX12_drawOf_23 ls_32767 rfl ?_
  refine sp_iand (q := 27) hX dX12_drawOf_26 rfl ?_
  refine sp_iload_n (i := 1) (q := 28) hX dX12_drawOf_27 rfl rfl rfl ?_
  obtain ⟨h3, hf⟩ := sp_ck_some hf
  refine sp_irem (q := 29) hX dX12_drawOf_28 (sp_nz h3) rfl ?_
  exact sp_iret hX hR dX12_drawOf_29 hf (Nat.le_of_ble_eq_true rfl) (Nat.le_of_ble_eq_true rfl)
set_option maxRecDepth 100000 in
set_option maxHeartbeats 4000000 in
theorem cnX12_drawOf {l : Launch} (hst : l.stackTraces = false) {w : sp_Wd} {n : Nat}  {σ : sp_St} {a1 : Int32} {τ : sp_St} {r : Int32}  (hf : X12_drawOf n σ a1 = some (τ, r)) : sp_Ci shM l w yX12_drawOf cX12_drawOf 2 (some .int) rmX12_drawOf 0 0 σ [.ref (w.2.1 0), .int a1] τ r :=
  sp_ci (own := RX12) (by decide) rfl hst (Nat.le_of_ble_eq_true rfl) rfl (fun X hX hw hl hR => by subst hw; subst hl; exact hX12_drawOf hX hR   hf)
def rmX12_something : Room := { frames := 2, cells := 0, slots := 0, locals := 49 }
def X12_something_104 (n : Nat) (σ : sp_St) : Option (sp_St) :=
  some σ
def X12_something_60 (n : Nat) (σ : sp_St) (z1 : Int32) : Option (sp_St) :=
  if z1 = ((1 : Int32)) then
    if (sp_g σ 3 ((1 : Int32))) ≤ 0 then
      X12_something_104 n σ
    else
      sp_bd (X12_drawOf n σ (sp_g σ 3 ((1 : Int32)))) fun σ2 v3 =>
      sp_ck (sp_in v3 5) <|
      if (sp_g σ2 17 v3) ≤ 0 then
        X12_something_104 n σ2
      else
        sp_bd (X12_topOf n σ2 v3) fun σ6 v7 =>
        sp_bv (X12_takeOut n σ6 v7 ((0 : Int32))) fun σ9 =>
        X12_something_104 n σ9
  else
    X12_something_104 n σ
def X12_something (n : Nat)  (σ : sp_St)  : Option (sp_St) :=
  sp_bd (X12_drawOf n σ ((7 : Int32))) fun σ2 v3 =>
  if v3 = 0 then
    if (sp_g σ2 3 ((2 : Int32))) ≤ 0 then
      X12_something_60 n σ2 v3
    else
      sp_bd (X12_drawOf n σ2 (sp_g σ2 3 ((2 : Int32)))) fun σ5 v6 =>
      sp_ck (sp_in v6 10) <|
      if (sp_g σ5 15 v6) = 0 then
        sp_ck (sp_in v6 10) <|
        sp_pl (sp_min ((99 : Int32)) ((sp_g σ5 14 v6) + ((20 : Int32)))) fun v9 =>
        sp_ck (sp_in v6 10) <|
        sp_pl (sp_sa σ5 14 v6.toNatClampNeg v9) fun σ12 =>
        X12_something_60 n σ12 v3
      else
        X12_something_60 n σ5 v3
  else
    X12_something_60 n σ2 v3
set_option maxRecDepth 100000 in
set_option maxHeartbeats 4000000 in
theorem hX12_something_104 {X : sp_X} (hX : sp_OK shM X cX12_something RX12 3 rmX12_something) {τ : sp_St} (hR : sp_Rv shM X τ 0 0) {n : Nat}    {σ : sp_St} (hf : X12_something_104 n σ = some τ) : sp_GG shM X σ 3 [none, none, none] [] 104 0 0 := by
  unfold X12_something_104 at hf
  exact sp_vret hX hR dX12_something_104 hf (Nat.le_of_ble_eq_true rfl) (Nat.le_of_ble_eq_true rfl)
set_option maxRecDepth 100000 in
set_option maxHeartbeats 4000000 in
theorem hX12_something_60 {X : sp_X} (hX : sp_OK shM X cX12_something RX12 3 rmX12_something) {τ : sp_St} (hR : sp_Rv shM X τ 0 0) {n : Nat}    {σ : sp_St} {z1 : Int32} (hf : X12_something_60 n σ z1 = some τ) : sp_GG shM X σ 3 [some (.ref (sx_ad X 0)), some (.int z1), none] [] 60 0 0 := by
  unfold X12_something_60 at hf
  refine sp_iload_n (i := 1) (q := 61) hX dX12_something_60 rfl rfl rfl ?_
  refine sp_iconst (v := 1) (q := 62) hX dX12_something_61 li_1 rfl ?_
  refine sp_icmp_ne (tgt := 104) (q := 65) hX dX12_something_62 (by decide) rfl (fun hc => ?_) (fun hc => ?_)
  · rw [if_neg hc] at hf
    refine sp_drop (lv' := [none, none, none]) trivial ?_
    exact hX12_something_104 hX hR hf
  · rw [if_pos hc] at hf
    refine sp_aload_n (i := 0) (q := 66) hX dX12_something_65 rfl rfl rfl ?_
    refine sp_gets (t := 3) (q := 69) hX flX12_33 fkX12_4 atM_0 srM_0_4 dX12_something_66 rfl ?_
    refine sp_iconst (v := 1) (q := 70) hX dX12_something_69 li_1 rfl ?_
    refine sp_iald (q := 71) hX arM_3 (by decide) dX12_something_70 rfl ?_
    refine sp_if_le (tgt := 104) (q := 74) hX dX12_something_71 (by decide) rfl (fun hc => ?_) (fun hc => ?_)
    · rw [if_pos hc] at hf
      refine sp_drop (lv' := [none, none, none]) trivial ?_
      exact hX12_something_104 hX hR hf
    · rw [if_neg hc] at hf
      refine sp_aload_n (i := 0) (q := 75) hX dX12_something_74 rfl rfl rfl ?_
      refine sp_aload_n (i := 0) (q := 76) hX dX12_something_75 rfl rfl rfl ?_
      refine sp_gets (t := 3) (q := 79) hX flX12_33 fkX12_4 atM_0 srM_0_4 dX12_something_76 rfl ?_
      refine sp_iconst (v := 1) (q := 80) hX dX12_something_79 li_1 rfl ?_
      refine sp_iald (q := 81) hX arM_3 (by decide) dX12_something_80 rfl ?_
      obtain ⟨σ2, v3, h1, hf⟩ := sp_bd_so hf
      refine sp_callVi (As := [.int (sp_g σ 3 ((1 : Int32)))]) (rest := []) (q := 84) hX (cnX12_drawOf (sp_st hX)  h1) cwX12_486 atM_0 rfl rfl rfl rfl rfl (Nat.le_of_ble_eq_true rfl) (Nat.le_of_ble_eq_true rfl) (Nat.le_of_ble_eq_true rfl) (Nat.le_of_ble_eq_true rfl) (Nat.le_of_ble_eq_true rfl) dX12_something_81 rfl ?_
      refine sp_istore_n (i := 2) (lv' := [some (.ref (sx_ad X 0)), some (.int z1), some (.int v3)]) (q := 85) hX dX12_something_84 rfl (Nat.le_of_ble_eq_true rfl) rfl rfl rfl ?_
      refine sp_aload_n (i := 0) (q := 86) hX dX12_something_85 rfl rfl rfl ?_
      refine sp_gets (t := 17) (q := 89) hX flX12_78 fkX12_29 atM_0 srM_0_29 dX12_something_86 rfl ?_
      refine sp_iload_n (i := 2) (q := 90) hX dX12_something_89 rfl rfl rfl ?_
      obtain ⟨h4, hf⟩ := sp_ck_some hf
      refine sp_iald (q := 91) hX arM_17 h4 dX12_something_90 rfl ?_
      refine sp_if_le (tgt := 104) (q := 94) hX dX12_something_91 (by decide) rfl (fun hc => ?_) (fun hc => ?_)
      · rw [if_pos hc] at hf
        refine sp_drop (lv' := [none, none, none]) trivial ?_
        exact hX12_something_104 hX hR hf
      · rw [if_neg hc] at hf
        refine sp_aload_n (i := 0) (q := 95) hX dX12_something_94 rfl rfl rfl ?_
        refine sp_aload_n (i := 0) (q := 96) hX dX12_something_95 rfl rfl rfl ?_
        refine sp_iload_n (i := 2) (q := 97) hX dX12_something_96 rfl rfl rfl ?_
        obtain ⟨σ6, v7, h5, hf⟩ := sp_bd_so hf
        refine sp_callVi (As := [.int v3]) (rest := [.ref (sx_ad X 0)]) (q := 100) hX (cnX12_topOf (sp_st hX)  h5) cwX12_387 atM_0 rfl rfl rfl rfl rfl (Nat.le_of_ble_eq_true rfl) (Nat.le_of_ble_eq_true rfl) (Nat.le_of_ble_eq_true rfl) (Nat.le_of_ble_eq_true rfl) (Nat.le_of_ble_eq_true rfl) dX12_something_97 rfl ?_
        refine sp_iconst (v := 0) (q := 101) hX dX12_something_100 li_0 rfl ?_
        obtain ⟨σ9, h8, hf⟩ := sp_bv_so hf
        refine sp_callVv (As := [.int v7, .int ((0 : Int32))]) (rest := []) (q := 104) hX (cnX12_takeOut (sp_st hX)  h8) cwX12_377 atM_0 rfl rfl rfl rfl rfl (Nat.le_of_ble_eq_true rfl) (Nat.le_of_ble_eq_true rfl) (Nat.le_of_ble_eq_true rfl) (Nat.le_of_ble_eq_true rfl) (Nat.le_of_ble_eq_true rfl) dX12_something_101 rfl ?_
        refine sp_drop (lv' := [none, none, none]) trivial ?_
        exact hX12_something_104 hX hR hf
set_option maxRecDepth 100000 in
set_option maxHeartbeats 4000000 in
theorem hX12_something {X : sp_X} (hX : sp_OK shM X cX12_something RX12 3 rmX12_something) {τ : sp_St} (hR : sp_Rv shM X τ 0 0) {n : Nat}  {σ : sp_St}   (hf : X12_something n σ = some τ) : sp_GG shM X σ 3 [some (.ref (sx_ad X 0)), none, none] [] 0 0 0 := by
  unfold X12_something at hf
  refine sp_aload_n (i := 0) (q := 1) hX dX12_something_0 rfl rfl rfl ?_
  refine sp_bipush (v := 7) (q := 3) hX dX12_something_1 lb_7 rfl ?_
  obtain ⟨σ2, v3, h1, hf⟩ := sp_bd_so hf
  refine sp_callVi (As := [.int ((7 : Int32))]) (rest := []) (q := 6) hX (cnX12_drawOf (sp_st hX)  h1) cwX12_486 atM_0 rfl rfl rfl rfl rfl (Nat.le_of_ble_eq_true rfl) (Nat.le_of_ble_eq_true rfl) (Nat.le_of_ble_eq_true rfl) (Nat.le_of_ble_eq_true rfl) (Nat.le_of_ble_eq_true rfl) dX12_something_3 rfl ?_
  refine sp_istore_n (i := 1) (lv' := [some (.ref (sx_ad X 0)), some (.int v3), none]) (q := 7) hX dX12_something_6 rfl (Nat.le_of_ble_eq_true rfl) rfl rfl rfl ?_
  refine sp_iload_n (i := 1) (q := 8) hX dX12_something_7 rfl rfl rfl ?_
  refine sp_if_ne (tgt := 60) (q := 11) hX dX12_something_8 (by decide) rfl (fun hc => ?_) (fun hc => ?_)
  · rw [if_neg hc] at hf
    exact hX12_something_60 hX hR hf
  · rw [if_pos hc] at hf
    refine sp_aload_n (i := 0) (q := 12) hX dX12_something_11 rfl rfl rfl ?_
    refine sp_gets (t := 3) (q := 15) hX flX12_33 fkX12_4 atM_0 srM_0_4 dX12_something_12 rfl ?_
    refine sp_iconst (v := 2) (q := 16) hX dX12_something_15 li_2 rfl ?_
    refine sp_iald (q := 17) hX arM_3 (by decide) dX12_something_16 rfl ?_
    refine sp_if_le (tgt := 60) (q := 20) hX dX12_something_17 (by decide) rfl (fun hc => ?_) (fun hc => ?_)
    · rw [if_pos hc] at hf
      exact hX12_something_60 hX hR hf
    · rw [if_neg hc] at hf
      refine sp_aload_n (i := 0) (q := 21) hX dX12_something_20 rfl rfl rfl ?_
      refine sp_aload_n (i := 0) (q := 22) hX dX12_something_21 rfl rfl rfl ?_
      refine sp_gets (t := 3) (q := 25) hX flX12_33 fkX12_4 atM_0 srM_0_4 dX12_something_22 rfl ?_
      refine sp_iconst (v := 2) (q := 26) hX dX12_something_25 li_2 rfl ?_
      refine sp_iald (q := 27) hX arM_3 (by decide) dX12_something_26 rfl ?_
      obtain ⟨σ5, v6, h4, hf⟩ := sp_bd_so hf
      refine sp_callVi (As := [.int (sp_g σ2 3 ((2 : Int32)))]) (rest := []) (q := 30) hX (cnX12_drawOf (sp_st hX)  h4) cwX12_486 atM_0 rfl rfl rfl rfl rfl (Nat.le_of_ble_eq_true rfl) (Nat.le_of_ble_eq_true rfl) (Nat.le_of_ble_eq_true rfl) (Nat.le_of_ble_eq_true rfl) (Nat.le_of_ble_eq_true rfl) dX12_something_27 rfl ?_
      refine sp_istore_n (i := 2) (lv' := [some (.ref (sx_ad X 0)), some (.int v3), some (.int v6)]) (q := 31) hX dX12_something_30 rfl (Nat.le_of_ble_eq_true rfl) rfl rfl rfl ?_
      refine sp_aload_n (i := 0) (q := 32) hX dX12_something_31 rfl rfl rfl ?_
      refine sp_gets (t := 15) (q := 35) hX flX12_72 fkX12_27 atM_0 srM_0_27 dX12_something_32 rfl ?_
      refine sp_iload_n (i := 2) (q := 36) hX dX12_something_35 rfl rfl rfl ?_
      obtain ⟨h7, hf⟩ := sp_ck_some hf
      refine sp_iald (q := 37) hX arM_15 h7 dX12_something_36 rfl ?_
      refine sp_if_ne (tgt := 60) (q := 40) hX dX12_something_37 (by decide) rfl (fun hc => ?_) (fun hc => ?_)
      · rw [if_neg hc] at hf
        refine sp_drop (lv' := [some (.ref (sx_ad X 0)), some (.int v3), none]) (And.intro rfl (And.intro rfl trivial)) ?_
        exact hX12_something_60 hX hR hf
      · rw [if_pos hc] at hf
        refine sp_aload_n (i := 0) (q := 41) hX dX12_something_40 rfl rfl rfl ?_
        refine sp_gets (t := 14) (q := 44) hX flX12_70 fkX12_26 atM_0 srM_0_26 dX12_something_41 rfl ?_
        refine sp_iload_n (i := 2) (q := 45) hX dX12_something_44 rfl rfl rfl ?_
        refine sp_bipush (v := 99) (q := 47) hX dX12_something_45 lb_99 rfl ?_
        refine sp_aload_n (i := 0) (q := 48) hX dX12_something_47 rfl rfl rfl ?_
        refine sp_gets (t := 14) (q := 51) hX flX12_70 fkX12_26 atM_0 srM_0_26 dX12_something_48 rfl ?_
        refine sp_iload_n (i := 2) (q := 52) hX dX12_something_51 rfl rfl rfl ?_
        obtain ⟨h8, hf⟩ := sp_ck_some hf
        refine sp_iald (q := 53) hX arM_14 h8 dX12_something_52 rfl ?_
        refine sp_bipush (v := 20) (q := 55) hX dX12_something_53 lb_20 rfl ?_
        refine sp_iadd (q := 56) hX dX12_something_55 rfl ?_
        obtain ⟨v9, e10, hf⟩ := sp_pl_some hf
        refine sp_mmin (q := 59) hX wd_1825 wd_607 wd_144 wd_608 (Nat.le_of_ble_eq_true rfl) (Nat.le_of_ble_eq_true rfl) (Nat.le_of_ble_eq_true rfl) (Nat.le_of_ble_eq_true rfl) dX12_something_56 rfl ?_
        refine sp_nmi e10 ?_
        obtain ⟨h11, hf⟩ := sp_ck_some hf
        obtain ⟨σ12, e13, hf⟩ := sp_pl_some hf
        refine sp_iast (q := 60) hX arM_14 h11 dX12_something_59 rfl ?_
        refine sp_nms e13 ?_
        refine sp_drop (lv' := [some (.ref (sx_ad X 0)), some (.int v3), none]) (And.intro rfl (And.intro rfl trivial)) ?_
        exact hX12_something_60 hX hR hf
set_option maxRecDepth 100000 in
set_option maxHeartbeats 4000000 in
theorem cnX12_something {l : Launch} (hst : l.stackTraces = false) {w : sp_Wd} {n : Nat}  {σ : sp_St}  {τ : sp_St}  (hf : X12_something n σ = some τ) : sp_Cv shM l w yX12_something cX12_something 3 rmX12_something 0 0 σ [.ref (w.2.1 0)] τ :=
  sp_cv (own := RX12) (by decide) rfl hst (Nat.le_of_ble_eq_true rfl) rfl (fun X hX hw hl hR => by subst hw; subst hl; exact hX12_something hX hR   hf)
