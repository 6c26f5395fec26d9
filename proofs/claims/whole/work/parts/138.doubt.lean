def rmX3_dreamFitsOn : Room := { frames := 0, cells := 0, slots := 0, locals := 0 }
def X3_dreamFitsOn_63 (n : Nat) (σ : sp_St) : Option (sp_St × Int32) :=
  some (σ, (1 : Int32))
def X3_dreamFitsOn_57 (n : Nat) (k2 : sp_St → Int32 → Int32 → Option (sp_St × Int32)) (σ : sp_St) (z1 : Int32) (z2 : Int32) : Option (sp_St × Int32) :=
  sp_pl (z2 + 1) fun x1 =>
  k2 σ z1 x1
def X3_dreamFitsOn_55 (n : Nat) (σ : sp_St) : Option (sp_St × Int32) :=
  some (σ, (0 : Int32))
def X3_dreamFitsOn_2 (n : Nat) : Nat → sp_St → Int32 → Int32 → Option (sp_St × Int32)
  | 0, _, _, _ => none
  | f + 1, σ, z1, z2 =>
    if (σ.1 30 3) ≤ z2 then
      X3_dreamFitsOn_63 n σ
    else
      sp_ck (sp_in z2 8) <|
      if (sp_g σ 32 z2) = z1 then
        sp_ck (sp_in z2 8) <|
        sp_ck (sp_in (sp_g σ 31 z2) 50) <|
        sp_ck (sp_in z2 8) <|
        if (sp_g σ 51 (sp_g σ 31 z2)) = (sp_g σ 33 z2) then
          X3_dreamFitsOn_57 n (X3_dreamFitsOn_2 n f) σ z1 z2
        else
          X3_dreamFitsOn_55 n σ
      else
        X3_dreamFitsOn_57 n (X3_dreamFitsOn_2 n f) σ z1 z2
def X3_dreamFitsOn (n : Nat)  (σ : sp_St) (a1 : Int32) : Option (sp_St × Int32) :=
  sp_pl ((0 : Int32)) fun x1 =>
  X3_dreamFitsOn_2 n n σ a1 x1
set_option maxRecDepth 100000 in
set_option maxHeartbeats 4000000 in
theorem hX3_dreamFitsOn_63 {X : sp_X} (hX : sp_OK shX X cX3_dreamFitsOn RX3 3 rmX3_dreamFitsOn) {τ : sp_St} {r : Int32} (hR : sp_Ri shX X (some .boolean) τ r 0 0) {n : Nat}    {σ : sp_St} (hf : X3_dreamFitsOn_63 n σ = some (τ, r)) : sp_GG shX X σ 3 [none, none, none] [] 63 0 0 := by
  unfold X3_dreamFitsOn_63 at hf
  refine sp_iconst (v := 1) (q := 64) hX dX3_dreamFitsOn_63 li_1 rfl ?_
  exact sp_zret hX hR (by decide) dX3_dreamFitsOn_64 hf (Nat.le_of_ble_eq_true rfl) (Nat.le_of_ble_eq_true rfl)
set_option maxRecDepth 100000 in
set_option maxHeartbeats 4000000 in
theorem hX3_dreamFitsOn_57 {X : sp_X} (hX : sp_OK shX X cX3_dreamFitsOn RX3 3 rmX3_dreamFitsOn) {τ : sp_St} {r : Int32} (hR : sp_Ri shX X (some .boolean) τ r 0 0) {n : Nat}   {k2 : sp_St → Int32 → Int32 → Option (sp_St × Int32)} (hk2 : ∀ (σ : sp_St) (z1 : Int32) (z2 : Int32), k2 σ z1 z2 = some (τ, r) → sp_GG shX X σ 3 [some (.ref (sx_ad X 64)), some (.int z1), some (.int z2)] [] 2 0 0) {σ : sp_St} {z1 : Int32} {z2 : Int32} (hf : X3_dreamFitsOn_57 n k2 σ z1 z2 = some (τ, r)) : sp_GG shX X σ 3 [some (.ref (sx_ad X 64)), some (.int z1), some (.int z2)] [] 57 0 0 := by
  unfold X3_dreamFitsOn_57 at hf
  obtain ⟨x1, e2, hf⟩ := sp_pl_some hf
  refine sp_iinc (i := 2) (v := x1) (lv' := [some (.ref (sx_ad X 64)), some (.int z1), some (.int x1)]) (q := 60) hX dX3_dreamFitsOn_57 rfl (by rw [e2, li_1]) (Nat.le_of_ble_eq_true rfl) rfl rfl rfl ?_
  refine sp_goto (tgt := 2) hX dX3_dreamFitsOn_60 (by decide) ?_
  exact hk2 σ z1 x1 hf
set_option maxRecDepth 100000 in
set_option maxHeartbeats 4000000 in
theorem hX3_dreamFitsOn_55 {X : sp_X} (hX : sp_OK shX X cX3_dreamFitsOn RX3 3 rmX3_dreamFitsOn) {τ : sp_St} {r : Int32} (hR : sp_Ri shX X (some .boolean) τ r 0 0) {n : Nat}    {σ : sp_St} (hf : X3_dreamFitsOn_55 n σ = some (τ, r)) : sp_GG shX X σ 3 [none, none, none] [] 55 0 0 := by
  unfold X3_dreamFitsOn_55 at hf
  refine sp_iconst (v := 0) (q := 56) hX dX3_dreamFitsOn_55 li_0 rfl ?_
  exact sp_zret hX hR (by decide) dX3_dreamFitsOn_56 hf (Nat.le_of_ble_eq_true rfl) (Nat.le_of_ble_eq_true rfl)
set_option maxRecDepth 100000 in
set_option maxHeartbeats 4000000 in
theorem hX3_dreamFitsOn_2 {X : sp_X} (hX : sp_OK shX X cX3_dreamFitsOn RX3 3 rmX3_dreamFitsOn) {τ : sp_St} {r : Int32} (hR : sp_Ri shX X (some .boolean) τ r 0 0) {n : Nat}    : ∀ (f : Nat) (σ : sp_St) (z1 : Int32) (z2 : Int32), X3_dreamFitsOn_2 n f σ z1 z2 = some (τ, r) → sp_GG shX X σ 3 [some (.ref (sx_ad X 64)), some (.int z1), some (.int z2)] [] 2 0 0 := by
  intro f
  induction f with
  | zero =>
    intro σ z1 z2 hf
    rw [X3_dreamFitsOn_2] at hf
    cases hf
  | succ f ih =>
    intro σ z1 z2 hf
    rw [X3_dreamFitsOn_2] at hf
    refine sp_iload_n (i := 2) (q := 3) hX dX3_dreamFitsOn_2 rfl rfl rfl ?_
    refine sp_aload_n (i := 0) (q := 4) hX dX3_dreamFitsOn_3 rfl rfl rfl ?_
    refine sp_gets (t := 30) (q := 7) hX flX3_19 fkX3_1 atX_64 srX_64_1 dX3_dreamFitsOn_4 rfl ?_
    refine sp_geti (q := 10) hX flX3_79 fkX9_3 atX_30 dX3_dreamFitsOn_7 rfl ?_
    refine sp_icmp_ge (tgt := 63) (q := 13) hX dX3_dreamFitsOn_10 (by decide) rfl (fun hc => ?_) (fun hc => ?_)
    · rw [if_pos hc] at hf
      refine sp_drop (lv' := [none, none, none]) trivial ?_
      exact hX3_dreamFitsOn_63 hX hR hf
    · rw [if_neg hc] at hf
      refine sp_aload_n (i := 0) (q := 14) hX dX3_dreamFitsOn_13 rfl rfl rfl ?_
      refine sp_gets (t := 30) (q := 17) hX flX3_19 fkX3_1 atX_64 srX_64_1 dX3_dreamFitsOn_14 rfl ?_
      refine sp_gets (t := 32) (q := 20) hX flX3_82 fkX9_1 atX_30 srX_30_1 dX3_dreamFitsOn_17 rfl ?_
      refine sp_iload_n (i := 2) (q := 21) hX dX3_dreamFitsOn_20 rfl rfl rfl ?_
      obtain ⟨h1, hf⟩ := sp_ck_some hf
      refine sp_iald (q := 22) hX arX_32 h1 dX3_dreamFitsOn_21 rfl ?_
      refine sp_iload_n (i := 1) (q := 23) hX dX3_dreamFitsOn_22 rfl rfl rfl ?_
      refine sp_icmp_ne (tgt := 57) (q := 26) hX dX3_dreamFitsOn_23 (by decide) rfl (fun hc => ?_) (fun hc => ?_)
      · rw [if_neg hc] at hf
        exact hX3_dreamFitsOn_57 hX hR ih hf
      · rw [if_pos hc] at hf
        refine sp_aload_n (i := 0) (q := 27) hX dX3_dreamFitsOn_26 rfl rfl rfl ?_
        refine sp_gets (t := 50) (q := 30) hX flX3_23 fkX3_2 atX_64 srX_64_2 dX3_dreamFitsOn_27 rfl ?_
        refine sp_gets (t := 51) (q := 33) hX flX3_42 fkX8_1 atX_50 srX_50_1 dX3_dreamFitsOn_30 rfl ?_
        refine sp_aload_n (i := 0) (q := 34) hX dX3_dreamFitsOn_33 rfl rfl rfl ?_
        refine sp_gets (t := 30) (q := 37) hX flX3_19 fkX3_1 atX_64 srX_64_1 dX3_dreamFitsOn_34 rfl ?_
        refine sp_gets (t := 31) (q := 40) hX flX3_85 fkX9_0 atX_30 srX_30_0 dX3_dreamFitsOn_37 rfl ?_
        refine sp_iload_n (i := 2) (q := 41) hX dX3_dreamFitsOn_40 rfl rfl rfl ?_
        obtain ⟨h2, hf⟩ := sp_ck_some hf
        refine sp_iald (q := 42) hX arX_31 h2 dX3_dreamFitsOn_41 rfl ?_
        obtain ⟨h3, hf⟩ := sp_ck_some hf
        refine sp_iald (q := 43) hX arX_51 h3 dX3_dreamFitsOn_42 rfl ?_
        refine sp_aload_n (i := 0) (q := 44) hX dX3_dreamFitsOn_43 rfl rfl rfl ?_
        refine sp_gets (t := 30) (q := 47) hX flX3_19 fkX3_1 atX_64 srX_64_1 dX3_dreamFitsOn_44 rfl ?_
        refine sp_gets (t := 33) (q := 50) hX flX3_88 fkX9_2 atX_30 srX_30_2 dX3_dreamFitsOn_47 rfl ?_
        refine sp_iload_n (i := 2) (q := 51) hX dX3_dreamFitsOn_50 rfl rfl rfl ?_
        obtain ⟨h4, hf⟩ := sp_ck_some hf
        refine sp_iald (q := 52) hX arX_33 h4 dX3_dreamFitsOn_51 rfl ?_
        refine sp_icmp_eq (tgt := 57) (q := 55) hX dX3_dreamFitsOn_52 (by decide) rfl (fun hc => ?_) (fun hc => ?_)
        · rw [if_pos hc] at hf
          exact hX3_dreamFitsOn_57 hX hR ih hf
        · rw [if_neg hc] at hf
          refine sp_drop (lv' := [none, none, none]) trivial ?_
          exact hX3_dreamFitsOn_55 hX hR hf
set_option maxRecDepth 100000 in
set_option maxHeartbeats 4000000 in
theorem hX3_dreamFitsOn {X : sp_X} (hX : sp_OK shX X cX3_dreamFitsOn RX3 3 rmX3_dreamFitsOn) {τ : sp_St} {r : Int32} (hR : sp_Ri shX X (some .boolean) τ r 0 0) {n : Nat}  {σ : sp_St} {a1 : Int32}  (hf : X3_dreamFitsOn n σ a1 = some (τ, r)) : sp_GG shX X σ 3 [some (.ref (sx_ad X 64)), some (.int a1), none] [] 0 0 0 := by
  unfold X3_dreamFitsOn at hf
  refine sp_iconst (v := 0) (q := 1) hX dX3_dreamFitsOn_0 li_0 rfl ?_
  obtain ⟨x1, e2, hf⟩ := sp_pl_some hf
  refine sp_nmi e2 ?_
  refine sp_istore_n (i := 2) (lv' := [some (.ref (sx_ad X 64)), some (.int a1), some (.int x1)]) (q := 2) hX dX3_dreamFitsOn_1 rfl (Nat.le_of_ble_eq_true rfl) rfl rfl rfl ?_
  exact hX3_dreamFitsOn_2 hX hR n σ a1 x1 hf
set_option maxRecDepth 100000 in
set_option maxHeartbeats 4000000 in
theorem cnX3_dreamFitsOn {l : Launch} (hst : l.stackTraces = false) {w : sp_Wd} {n : Nat}  {σ : sp_St} {a1 : Int32} {τ : sp_St} {r : Int32}  (hf : X3_dreamFitsOn n σ a1 = some (τ, r)) : sp_Ci shX l w yX3_dreamFitsOn cX3_dreamFitsOn 3 (some .boolean) rmX3_dreamFitsOn 0 0 σ [.ref (w.2.1 64), .int a1] τ r :=
  sp_ci (own := RX3) (by decide) rfl hst (Nat.le_of_ble_eq_true rfl) rfl (fun X hX hw hl hR => by subst hw; subst hl; exact hX3_dreamFitsOn hX hR   hf)
def rmX3_markAngers : Room := { frames := 5, cells := 0, slots := 0, locals := 122 }
def X3_markAngers_43 (n : Nat) : Nat → sp_St → Int32 → Option (sp_St)
  | 0, _, _ => none
  | f + 1, σ, z3 =>
    sp_pl (σ.2.1 23 0) fun c1 =>
    sp_ck (sp_isc c1) <|
    if (σ.1 c1 13) ≤ z3 then
      some σ
    else
      sp_ck (sp_in z3 50) <|
      sp_pl (sp_g σ 51 z3) fun x5 =>
      sp_ck (!decide (((64 : Int32)) = 0)) <|
      sp_ck (sp_in ((((2 : Int32)) * z3) + (x5 / ((64 : Int32)))) 20) <|
      sp_ck (!decide (((64 : Int32)) = 0)) <|
      sp_ck (sp_in ((((2 : Int32)) * z3) + (x5 / ((64 : Int32)))) 20) <|
      sp_pl (sp_sl σ 65 ((((2 : Int32)) * z3) + (x5 / ((64 : Int32)))).toNatClampNeg ((sp_gl σ 65 ((((2 : Int32)) * z3) + (x5 / ((64 : Int32))))) ||| (((1 : Int64)) <<< ((x5 - x5 / ((64 : Int32)) * ((64 : Int32))).toInt64 &&& 63)))) fun σ11 =>
      sp_pl (z3 + 1) fun x13 =>
      X3_markAngers_43 n f σ11 x13
def X3_markAngers_41 (n : Nat) (σ : sp_St) : Option (sp_St) :=
  sp_pl ((0 : Int32)) fun x1 =>
  X3_markAngers_43 n n σ x1
def X3_markAngers_23 (n : Nat) : Nat → sp_St → Int32 → Option (sp_St)
  | 0, _, _ => none
  | f + 1, σ, z3 =>
    if ((3 : Int32)) ≤ z3 then
      X3_markAngers_41 n σ
    else
      sp_bv (X8_passDay n σ 50) fun σ2 =>
      sp_pl (z3 + 1) fun x3 =>
      X3_markAngers_23 n f σ2 x3
def X3_markAngers (n : Nat)  (σ : sp_St) (a1 : Int32) (a2 : Int32) : Option (sp_St) :=
  sp_bv (X8_copy n σ 50 23) fun σ2 =>
  sp_ck (sp_in a1 50) <|
  sp_pl (sp_sa σ2 51 a1.toNatClampNeg a2) fun σ4 =>
  sp_pl ((0 : Int32)) fun x6 =>
  X3_markAngers_23 n n σ4 x6
set_option maxRecDepth 100000 in
set_option maxHeartbeats 4000000 in
theorem hX3_markAngers_43 {X : sp_X} (hX : sp_OK shX X cX3_markAngers RX3 5 rmX3_markAngers) {τ : sp_St} (hR : sp_Rv shX X τ 0 0) {n : Nat}    : ∀ (f : Nat) (σ : sp_St) (z3 : Int32), X3_markAngers_43 n f σ z3 = some τ → sp_GG shX X σ 5 [some (.ref (sx_ad X 64)), none, none, some (.int z3), none] [] 43 0 0 := by
  intro f
  induction f with
  | zero =>
    intro σ z3 hf
    rw [X3_markAngers_43] at hf
    cases hf
  | succ f ih =>
    intro σ z3 hf
    rw [X3_markAngers_43] at hf
    refine sp_iload_n (i := 3) (q := 44) hX dX3_markAngers_43 rfl rfl rfl ?_
    refine sp_aload_n (i := 0) (q := 45) hX dX3_markAngers_44 rfl rfl rfl ?_
    refine sp_gets (t := 23) (q := 48) hX flX3_15 fkX3_0 atX_64 srX_64_0 dX3_markAngers_45 rfl ?_
    obtain ⟨c1, e3, hf⟩ := sp_pl_some hf
    obtain ⟨h2, hf⟩ := sp_ck_some hf
    refine sp_getr (q := 51) hX flX3_30 fkX8_0 atX_23 dX3_markAngers_48 rfl ?_
    refine sp_nmr e3 ?_
    refine sp_geti (q := 54) hX flX3_36 fkX2_13 (sp_isc_at h2) dX3_markAngers_51 rfl ?_
    refine sp_icmp_ge (tgt := 98) (q := 57) hX dX3_markAngers_54 (by decide) rfl (fun hc => ?_) (fun hc => ?_)
    · rw [if_pos hc] at hf
      exact sp_vret hX hR dX3_markAngers_98 hf (Nat.le_of_ble_eq_true rfl) (Nat.le_of_ble_eq_true rfl)
    · rw [if_neg hc] at hf
      refine sp_aload_n (i := 0) (q := 58) hX dX3_markAngers_57 rfl rfl rfl ?_
      refine sp_gets (t := 50) (q := 61) hX flX3_23 fkX3_2 atX_64 srX_64_2 dX3_markAngers_58 rfl ?_
      refine sp_gets (t := 51) (q := 64) hX flX3_42 fkX8_1 atX_50 srX_50_1 dX3_markAngers_61 rfl ?_
      refine sp_iload_n (i := 3) (q := 65) hX dX3_markAngers_64 rfl rfl rfl ?_
      obtain ⟨h4, hf⟩ := sp_ck_some hf
      refine sp_iald (q := 66) hX arX_51 h4 dX3_markAngers_65 rfl ?_
      obtain ⟨x5, e6, hf⟩ := sp_pl_some hf
      refine sp_nmi e6 ?_
      refine sp_istore (i := 4) (lv' := [some (.ref (sx_ad X 64)), none, none, some (.int z3), some (.int x5)]) (q := 68) hX dX3_markAngers_66 (Nat.le_of_ble_eq_true rfl) rfl rfl rfl ?_
      refine sp_aload_n (i := 0) (q := 69) hX dX3_markAngers_68 rfl rfl rfl ?_
      refine sp_gets (t := 65) (q := 72) hX flX3_9 fkX3_3 atX_64 srX_64_3 dX3_markAngers_69 rfl ?_
      refine sp_iconst (v := 2) (q := 73) hX dX3_markAngers_72 li_2 rfl ?_
      refine sp_iload_n (i := 3) (q := 74) hX dX3_markAngers_73 rfl rfl rfl ?_
      refine sp_imul (q := 75) hX dX3_markAngers_74 rfl ?_
      refine sp_iload (i := 4) (q := 77) hX dX3_markAngers_75 rfl rfl ?_
      refine sp_bipush (v := 64) (q := 79) hX dX3_markAngers_77 lb_64 rfl ?_
      obtain ⟨h7, hf⟩ := sp_ck_some hf
      refine sp_idiv (q := 80) hX dX3_markAngers_79 (sp_nz h7) rfl ?_
      refine sp_iadd (q := 81) hX dX3_markAngers_80 rfl ?_
      refine sp_dup2 (q := 82) hX dX3_markAngers_81 rfl rfl rfl ?_
      obtain ⟨h8, hf⟩ := sp_ck_some hf
      refine sp_lald (q := 83) hX arX_65 h8 dX3_markAngers_82 rfl ?_
      refine sp_lconst (v := 1) (q := 84) hX dX3_markAngers_83 (by decide) rfl ?_
      refine sp_iload (i := 4) (q := 86) hX dX3_markAngers_84 rfl rfl ?_
      refine sp_bipush (v := 64) (q := 88) hX dX3_markAngers_86 lb_64 rfl ?_
      obtain ⟨h9, hf⟩ := sp_ck_some hf
      refine sp_irem (q := 89) hX dX3_markAngers_88 (sp_nz h9) rfl ?_
      refine sp_lshl (q := 90) hX dX3_markAngers_89 rfl ?_
      refine sp_lor (q := 91) hX dX3_markAngers_90 rfl ?_
      obtain ⟨h10, hf⟩ := sp_ck_some hf
      obtain ⟨σ11, e12, hf⟩ := sp_pl_some hf
      refine sp_last (q := 92) hX arX_65 h10 dX3_markAngers_91 rfl ?_
      refine sp_nms e12 ?_
      obtain ⟨x13, e14, hf⟩ := sp_pl_some hf
      refine sp_iinc (i := 3) (v := x13) (lv' := [some (.ref (sx_ad X 64)), none, none, some (.int x13), some (.int x5)]) (q := 95) hX dX3_markAngers_92 rfl (by rw [e14, li_1]) (Nat.le_of_ble_eq_true rfl) rfl rfl rfl ?_
      refine sp_goto (tgt := 43) hX dX3_markAngers_95 (by decide) ?_
      refine sp_drop (lv' := [some (.ref (sx_ad X 64)), none, none, some (.int x13), none]) (And.intro rfl (And.intro rfl trivial)) ?_
      exact ih σ11 x13 hf
set_option maxRecDepth 100000 in
set_option maxHeartbeats 4000000 in
theorem hX3_markAngers_41 {X : sp_X} (hX : sp_OK shX X cX3_markAngers RX3 5 rmX3_markAngers) {τ : sp_St} (hR : sp_Rv shX X τ 0 0) {n : Nat}    {σ : sp_St} (hf : X3_markAngers_41 n σ = some τ) : sp_GG shX X σ 5 [some (.ref (sx_ad X 64)), none, none, none, none] [] 41 0 0 := by
  unfold X3_markAngers_41 at hf
  refine sp_iconst (v := 0) (q := 42) hX dX3_markAngers_41 li_0 rfl ?_
  obtain ⟨x1, e2, hf⟩ := sp_pl_some hf
  refine sp_nmi e2 ?_
  refine sp_istore_n (i := 3) (lv' := [some (.ref (sx_ad X 64)), none, none, some (.int x1), none]) (q := 43) hX dX3_markAngers_42 rfl (Nat.le_of_ble_eq_true rfl) rfl rfl rfl ?_
  exact hX3_markAngers_43 hX hR n σ x1 hf
set_option maxRecDepth 100000 in
set_option maxHeartbeats 4000000 in
theorem hX3_markAngers_23 {X : sp_X} (hX : sp_OK shX X cX3_markAngers RX3 5 rmX3_markAngers) {τ : sp_St} (hR : sp_Rv shX X τ 0 0) {n : Nat}    : ∀ (f : Nat) (σ : sp_St) (z3 : Int32), X3_markAngers_23 n f σ z3 = some τ → sp_GG shX X σ 5 [some (.ref (sx_ad X 64)), none, none, some (.int z3), none] [] 23 0 0 := by
  intro f
  induction f with
  | zero =>
    intro σ z3 hf
    rw [X3_markAngers_23] at hf
    cases hf
  | succ f ih =>
    intro σ z3 hf
    rw [X3_markAngers_23] at hf
    refine sp_iload_n (i := 3) (q := 24) hX dX3_markAngers_23 rfl rfl rfl ?_
    refine sp_iconst (v := 3) (q := 25) hX dX3_markAngers_24 li_3 rfl ?_
    refine sp_icmp_ge (tgt := 41) (q := 28) hX dX3_markAngers_25 (by decide) rfl (fun hc => ?_) (fun hc => ?_)
    · rw [if_pos hc] at hf
      refine sp_drop (lv' := [some (.ref (sx_ad X 64)), none, none, none, none]) (And.intro rfl trivial) ?_
      exact hX3_markAngers_41 hX hR hf
    · rw [if_neg hc] at hf
      refine sp_aload_n (i := 0) (q := 29) hX dX3_markAngers_28 rfl rfl rfl ?_
      refine sp_gets (t := 50) (q := 32) hX flX3_23 fkX3_2 atX_64 srX_64_2 dX3_markAngers_29 rfl ?_
      obtain ⟨σ2, h1, hf⟩ := sp_bv_so hf
      refine sp_callVv (As := []) (rest := []) (q := 35) hX (cnX8_passDay (sp_st hX) atX_50 h1) cwX3_72 atX_50 rfl rfl rfl rfl rfl (Nat.le_of_ble_eq_true rfl) (Nat.le_of_ble_eq_true rfl) (Nat.le_of_ble_eq_true rfl) (Nat.le_of_ble_eq_true rfl) (Nat.le_of_ble_eq_true rfl) dX3_markAngers_32 rfl ?_
      obtain ⟨x3, e4, hf⟩ := sp_pl_some hf
      refine sp_iinc (i := 3) (v := x3) (lv' := [some (.ref (sx_ad X 64)), none, none, some (.int x3), none]) (q := 38) hX dX3_markAngers_35 rfl (by rw [e4, li_1]) (Nat.le_of_ble_eq_true rfl) rfl rfl rfl ?_
      refine sp_goto (tgt := 23) hX dX3_markAngers_38 (by decide) ?_
      exact ih σ2 x3 hf
set_option maxRecDepth 100000 in
set_option maxHeartbeats 4000000 in
theorem hX3_markAngers {X : sp_X} (hX : sp_OK shX X cX3_markAngers RX3 5 rmX3_markAngers) {τ : sp_St} (hR : sp_Rv shX X τ 0 0) {n : Nat}  {σ : sp_St} {a1 : Int32} {a2 : Int32}  (hf : X3_markAngers n σ a1 a2 = some τ) : sp_GG shX X σ 5 [some (.ref (sx_ad X 64)), some (.int a1), some (.int a2), none, none] [] 0 0 0 := by
  unfold X3_markAngers at hf
  refine sp_aload_n (i := 0) (q := 1) hX dX3_markAngers_0 rfl rfl rfl ?_
  refine sp_gets (t := 50) (q := 4) hX flX3_23 fkX3_2 atX_64 srX_64_2 dX3_markAngers_1 rfl ?_
  refine sp_aload_n (i := 0) (q := 5) hX dX3_markAngers_4 rfl rfl rfl ?_
  refine sp_gets (t := 23) (q := 8) hX flX3_15 fkX3_0 atX_64 srX_64_0 dX3_markAngers_5 rfl ?_
  obtain ⟨σ2, h1, hf⟩ := sp_bv_so hf
  refine sp_callVv (As := [.ref (sx_ad X 23)]) (rest := []) (q := 11) hX (cnX8_copy (sp_st hX) atX_50 atX_23 h1) cwX3_62 atX_50 rfl rfl rfl rfl rfl (Nat.le_of_ble_eq_true rfl) (Nat.le_of_ble_eq_true rfl) (Nat.le_of_ble_eq_true rfl) (Nat.le_of_ble_eq_true rfl) (Nat.le_of_ble_eq_true rfl) dX3_markAngers_8 rfl ?_
  refine sp_aload_n (i := 0) (q := 12) hX dX3_markAngers_11 rfl rfl rfl ?_
  refine sp_gets (t := 50) (q := 15) hX flX3_23 fkX3_2 atX_64 srX_64_2 dX3_markAngers_12 rfl ?_
  refine sp_gets (t := 51) (q := 18) hX flX3_42 fkX8_1 atX_50 srX_50_1 dX3_markAngers_15 rfl ?_
  refine sp_iload_n (i := 1) (q := 19) hX dX3_markAngers_18 rfl rfl rfl ?_
  refine sp_iload_n (i := 2) (q := 20) hX dX3_markAngers_19 rfl rfl rfl ?_
  obtain ⟨h3, hf⟩ := sp_ck_some hf
  obtain ⟨σ4, e5, hf⟩ := sp_pl_some hf
  refine sp_iast (q := 21) hX arX_51 h3 dX3_markAngers_20 rfl ?_
  refine sp_nms e5 ?_
  refine sp_iconst (v := 0) (q := 22) hX dX3_markAngers_21 li_0 rfl ?_
  obtain ⟨x6, e7, hf⟩ := sp_pl_some hf
  refine sp_nmi e7 ?_
  refine sp_istore_n (i := 3) (lv' := [some (.ref (sx_ad X 64)), some (.int a1), some (.int a2), some (.int x6), none]) (q := 23) hX dX3_markAngers_22 rfl (Nat.le_of_ble_eq_true rfl) rfl rfl rfl ?_
  refine sp_drop (lv' := [some (.ref (sx_ad X 64)), none, none, some (.int x6), none]) (And.intro rfl (And.intro rfl trivial)) ?_
  exact hX3_markAngers_23 hX hR n σ4 x6 hf
set_option maxRecDepth 100000 in
set_option maxHeartbeats 4000000 in
theorem cnX3_markAngers {l : Launch} (hst : l.stackTraces = false) {w : sp_Wd} {n : Nat}  {σ : sp_St} {a1 : Int32} {a2 : Int32} {τ : sp_St}  (hf : X3_markAngers n σ a1 a2 = some τ) : sp_Cv shX l w yX3_markAngers cX3_markAngers 5 rmX3_markAngers 0 0 σ [.ref (w.2.1 64), .int a1, .int a2] τ :=
  sp_cv (own := RX3) (by decide) rfl hst (Nat.le_of_ble_eq_true rfl) rfl (fun X hX hw hl hR => by subst hw; subst hl; exact hX3_markAngers hX hR   hf)
def rmX3_fits : Room := { frames := 5, cells := 0, slots := 0, locals := 122 }
def X3_fits_72 (n : Nat) (σ : sp_St) : Option (sp_St × Int32) :=
  some (σ, (1 : Int32))
def X3_fits_64 (n : Nat) (σ : sp_St) : Option (sp_St × Int32) :=
  some (σ, (0 : Int32))
def X3_fits_55 (n : Nat) (k37 : sp_St → Int32 → Int32 → Option (sp_St × Int32)) (σ : sp_St) (z3 : Int32) (z4 : Int32) : Option (sp_St × Int32) :=
  sp_bd (X3_dreamFitsOn n σ z4) fun σ2 v3 =>
  if v3 = 0 then
    X3_fits_64 n σ2
  else
    sp_pl (z4 + 1) fun x4 =>
    k37 σ2 z3 x4
def X3_fits_37 (n : Nat) : Nat → sp_St → Int32 → Int32 → Option (sp_St × Int32)
  | 0, _, _, _ => none
  | f + 1, σ, z3, z4 =>
    if z3 < z4 then
      X3_fits_72 n σ
    else
      if z4 ≤ 0 then
        X3_fits_55 n (X3_fits_37 n f) σ z3 z4
      else
        sp_bv (X8_passDay n σ 50) fun σ2 =>
        X3_fits_55 n (X3_fits_37 n f) σ2 z3 z4
def X3_fits_26 (n : Nat) (σ : sp_St) : Option (sp_St × Int32) :=
  sp_bd (X9_lastDay n σ 30) fun σ2 v3 =>
  sp_pl ((0 : Int32)) fun x4 =>
  X3_fits_37 n n σ2 v3 x4
def X3_fits (n : Nat)  (σ : sp_St) (a1 : Int32) (a2 : Int32) : Option (sp_St × Int32) :=
  sp_bv (X8_copy n σ 50 23) fun σ2 =>
  if a1 = ((-1 : Int32)) then
    X3_fits_26 n σ2
  else
    sp_ck (sp_in a1 50) <|
    sp_pl (sp_sa σ2 51 a1.toNatClampNeg a2) fun σ4 =>
    X3_fits_26 n σ4
set_option maxRecDepth 100000 in
set_option maxHeartbeats 4000000 in
theorem hX3_fits_72 {X : sp_X} (hX : sp_OK shX X cX3_fits RX3 5 rmX3_fits) {τ : sp_St} {r : Int32} (hR : sp_Ri shX X (some .boolean) τ r 0 0) {n : Nat}    {σ : sp_St} (hf : X3_fits_72 n σ = some (τ, r)) : sp_GG shX X σ 5 [none, none, none, none, none] [] 72 0 0 := by
  unfold X3_fits_72 at hf
  refine sp_iconst (v := 1) (q := 73) hX dX3_fits_72 li_1 rfl ?_
  exact sp_zret hX hR (by decide) dX3_fits_73 hf (Nat.le_of_ble_eq_true rfl) (Nat.le_of_ble_eq_true rfl)
set_option maxRecDepth 100000 in
set_option maxHeartbeats 4000000 in
theorem hX3_fits_64 {X : sp_X} (hX : sp_OK shX X cX3_fits RX3 5 rmX3_fits) {τ : sp_St} {r : Int32} (hR : sp_Ri shX X (some .boolean) τ r 0 0) {n : Nat}    {σ : sp_St} (hf : X3_fits_64 n σ = some (τ, r)) : sp_GG shX X σ 5 [none, none, none, none, none] [] 64 0 0 := by
  unfold X3_fits_64 at hf
  refine sp_iconst (v := 0) (q := 65) hX dX3_fits_64 li_0 rfl ?_
  exact sp_zret hX hR (by decide) dX3_fits_65 hf (Nat.le_of_ble_eq_true rfl) (Nat.le_of_ble_eq_true rfl)
set_option maxRecDepth 100000 in
set_option maxHeartbeats 4000000 in
theorem hX3_fits_55 {X : sp_X} (hX : sp_OK shX X cX3_fits RX3 5 rmX3_fits) {τ : sp_St} {r : Int32} (hR : sp_Ri shX X (some .boolean) τ r 0 0) {n : Nat}   {k37 : sp_St → Int32 → Int32 → Option (sp_St × Int32)} (hk37 : ∀ (σ : sp_St) (z3 : Int32) (z4 : Int32), k37 σ z3 z4 = some (τ, r) → sp_GG shX X σ 5 [some (.ref (sx_ad X 64)), none, none, some (.int z3), some (.int z4)] [] 37 0 0) {σ : sp_St} {z3 : Int32} {z4 : Int32} (hf : X3_fits_55 n k37 σ z3 z4 = some (τ, r)) : sp_GG shX X σ 5 [some (.ref (sx_ad X 64)), none, none, some (.int z3), some (.int z4)] [] 55 0 0 := by
  unfold X3_fits_55 at hf
  refine sp_aload_n (i := 0) (q := 56) hX dX3_fits_55 rfl rfl rfl ?_
  refine sp_iload (i := 4) (q := 58) hX dX3_fits_56 rfl rfl ?_
  obtain ⟨σ2, v3, h1, hf⟩ := sp_bd_so hf
  refine sp_callVi (As := [.int z4]) (rest := []) (q := 61) hX (cnX3_dreamFitsOn (sp_st hX)  h1) cwX3_75 atX_64 rfl rfl rfl rfl rfl (Nat.le_of_ble_eq_true rfl) (Nat.le_of_ble_eq_true rfl) (Nat.le_of_ble_eq_true rfl) (Nat.le_of_ble_eq_true rfl) (Nat.le_of_ble_eq_true rfl) dX3_fits_58 rfl ?_
  refine sp_if_ne (tgt := 66) (q := 64) hX dX3_fits_61 (by decide) rfl (fun hc => ?_) (fun hc => ?_)
  · rw [if_neg hc] at hf
    obtain ⟨x4, e5, hf⟩ := sp_pl_some hf
    refine sp_iinc (i := 4) (v := x4) (lv' := [some (.ref (sx_ad X 64)), none, none, some (.int z3), some (.int x4)]) (q := 69) hX dX3_fits_66 rfl (by rw [e5, li_1]) (Nat.le_of_ble_eq_true rfl) rfl rfl rfl ?_
    refine sp_goto (tgt := 37) hX dX3_fits_69 (by decide) ?_
    exact hk37 σ2 z3 x4 hf
  · rw [if_pos hc] at hf
    refine sp_drop (lv' := [none, none, none, none, none]) trivial ?_
    exact hX3_fits_64 hX hR hf
set_option maxRecDepth 100000 in
set_option maxHeartbeats 4000000 in
theorem hX3_fits_37 {X : sp_X} (hX : sp_OK shX X cX3_fits RX3 5 rmX3_fits) {τ : sp_St} {r : Int32} (hR : sp_Ri shX X (some .boolean) τ r 0 0) {n : Nat}    : ∀ (f : Nat) (σ : sp_St) (z3 : Int32) (z4 : Int32), X3_fits_37 n f σ z3 z4 = some (τ, r) → sp_GG shX X σ 5 [some (.ref (sx_ad X 64)), none, none, some (.int z3), some (.int z4)] [] 37 0 0 := by
  intro f
  induction f with
  | zero =>
    intro σ z3 z4 hf
    rw [X3_fits_37] at hf
    cases hf
  | succ f ih =>
    intro σ z3 z4 hf
    rw [X3_fits_37] at hf
    refine sp_iload (i := 4) (q := 39) hX dX3_fits_37 rfl rfl ?_
    refine sp_iload_n (i := 3) (q := 40) hX dX3_fits_39 rfl rfl rfl ?_
    refine sp_icmp_gt (tgt := 72) (q := 43) hX dX3_fits_40 (by decide) rfl (fun hc => ?_) (fun hc => ?_)
    · rw [if_pos hc] at hf
      refine sp_drop (lv' := [none, none, none, none, none]) trivial ?_
      exact hX3_fits_72 hX hR hf
    · rw [if_neg hc] at hf
      refine sp_iload (i := 4) (q := 45) hX dX3_fits_43 rfl rfl ?_
      refine sp_if_le (tgt := 55) (q := 48) hX dX3_fits_45 (by decide) rfl (fun hc => ?_) (fun hc => ?_)
      · rw [if_pos hc] at hf
        exact hX3_fits_55 hX hR ih hf
      · rw [if_neg hc] at hf
        refine sp_aload_n (i := 0) (q := 49) hX dX3_fits_48 rfl rfl rfl ?_
        refine sp_gets (t := 50) (q := 52) hX flX3_23 fkX3_2 atX_64 srX_64_2 dX3_fits_49 rfl ?_
        obtain ⟨σ2, h1, hf⟩ := sp_bv_so hf
        refine sp_callVv (As := []) (rest := []) (q := 55) hX (cnX8_passDay (sp_st hX) atX_50 h1) cwX3_72 atX_50 rfl rfl rfl rfl rfl (Nat.le_of_ble_eq_true rfl) (Nat.le_of_ble_eq_true rfl) (Nat.le_of_ble_eq_true rfl) (Nat.le_of_ble_eq_true rfl) (Nat.le_of_ble_eq_true rfl) dX3_fits_52 rfl ?_
        exact hX3_fits_55 hX hR ih hf
set_option maxRecDepth 100000 in
set_option maxHeartbeats 4000000 in
theorem hX3_fits_26 {X : sp_X} (hX : sp_OK shX X cX3_fits RX3 5 rmX3_fits) {τ : sp_St} {r : Int32} (hR : sp_Ri shX X (some .boolean) τ r 0 0) {n : Nat}    {σ : sp_St} (hf : X3_fits_26 n σ = some (τ, r)) : sp_GG shX X σ 5 [some (.ref (sx_ad X 64)), none, none, none, none] [] 26 0 0 := by
  unfold X3_fits_26 at hf
  refine sp_aload_n (i := 0) (q := 27) hX dX3_fits_26 rfl rfl rfl ?_
  refine sp_gets (t := 30) (q := 30) hX flX3_19 fkX3_1 atX_64 srX_64_1 dX3_fits_27 rfl ?_
  obtain ⟨σ2, v3, h1, hf⟩ := sp_bd_so hf
  refine sp_callVi (As := []) (rest := []) (q := 33) hX (cnX9_lastDay (sp_st hX) atX_30 h1) cwX3_66 atX_30 rfl rfl rfl rfl rfl (Nat.le_of_ble_eq_true rfl) (Nat.le_of_ble_eq_true rfl) (Nat.le_of_ble_eq_true rfl) (Nat.le_of_ble_eq_true rfl) (Nat.le_of_ble_eq_true rfl) dX3_fits_30 rfl ?_
  refine sp_istore_n (i := 3) (lv' := [some (.ref (sx_ad X 64)), none, none, some (.int v3), none]) (q := 34) hX dX3_fits_33 rfl (Nat.le_of_ble_eq_true rfl) rfl rfl rfl ?_
  refine sp_iconst (v := 0) (q := 35) hX dX3_fits_34 li_0 rfl ?_
  obtain ⟨x4, e5, hf⟩ := sp_pl_some hf
  refine sp_nmi e5 ?_
  refine sp_istore (i := 4) (lv' := [some (.ref (sx_ad X 64)), none, none, some (.int v3), some (.int x4)]) (q := 37) hX dX3_fits_35 (Nat.le_of_ble_eq_true rfl) rfl rfl rfl ?_
  exact hX3_fits_37 hX hR n σ2 v3 x4 hf
set_option maxRecDepth 100000 in
set_option maxHeartbeats 4000000 in
theorem hX3_fits {X : sp_X} (hX : sp_OK shX X cX3_fits RX3 5 rmX3_fits) {τ : sp_St} {r : Int32} (hR : sp_Ri shX X (some .boolean) τ r 0 0) {n : Nat}  {σ : sp_St} {a1 : Int32} {a2 : Int32}  (hf : X3_fits n σ a1 a2 = some (τ, r)) : sp_GG shX X σ 5 [some (.ref (sx_ad X 64)), some (.int a1), some (.int a2), none, none] [] 0 0 0 := by
  unfold X3_fits at hf
  refine sp_aload_n (i := 0) (q := 1) hX dX3_fits_0 rfl rfl rfl ?_
  refine sp_gets (t := 50) (q := 4) hX flX3_23 fkX3_2 atX_64 srX_64_2 dX3_fits_1 rfl ?_
  refine sp_aload_n (i := 0) (q := 5) hX dX3_fits_4 rfl rfl rfl ?_
  refine sp_gets (t := 23) (q := 8) hX flX3_15 fkX3_0 atX_64 srX_64_0 dX3_fits_5 rfl ?_
  obtain ⟨σ2, h1, hf⟩ := sp_bv_so hf
  refine sp_callVv (As := [.ref (sx_ad X 23)]) (rest := []) (q := 11) hX (cnX8_copy (sp_st hX) atX_50 atX_23 h1) cwX3_62 atX_50 rfl rfl rfl rfl rfl (Nat.le_of_ble_eq_true rfl) (Nat.le_of_ble_eq_true rfl) (Nat.le_of_ble_eq_true rfl) (Nat.le_of_ble_eq_true rfl) (Nat.le_of_ble_eq_true rfl) dX3_fits_8 rfl ?_
  refine sp_iload_n (i := 1) (q := 12) hX dX3_fits_11 rfl rfl rfl ?_
  refine sp_iconst (v := -1) (q := 13) hX dX3_fits_12 li_m1 rfl ?_
  refine sp_icmp_eq (tgt := 26) (q := 16) hX dX3_fits_13 (by decide) rfl (fun hc => ?_) (fun hc => ?_)
  · rw [if_pos hc] at hf
    refine sp_drop (lv' := [some (.ref (sx_ad X 64)), none, none, none, none]) (And.intro rfl trivial) ?_
    exact hX3_fits_26 hX hR hf
  · rw [if_neg hc] at hf
    refine sp_aload_n (i := 0) (q := 17) hX dX3_fits_16 rfl rfl rfl ?_
    refine sp_gets (t := 50) (q := 20) hX flX3_23 fkX3_2 atX_64 srX_64_2 dX3_fits_17 rfl ?_
    refine sp_gets (t := 51) (q := 23) hX flX3_42 fkX8_1 atX_50 srX_50_1 dX3_fits_20 rfl ?_
    refine sp_iload_n (i := 1) (q := 24) hX dX3_fits_23 rfl rfl rfl ?_
    refine sp_iload_n (i := 2) (q := 25) hX dX3_fits_24 rfl rfl rfl ?_
    obtain ⟨h3, hf⟩ := sp_ck_some hf
    obtain ⟨σ4, e5, hf⟩ := sp_pl_some hf
    refine sp_iast (q := 26) hX arX_51 h3 dX3_fits_25 rfl ?_
    refine sp_nms e5 ?_
    refine sp_drop (lv' := [some (.ref (sx_ad X 64)), none, none, none, none]) (And.intro rfl trivial) ?_
    exact hX3_fits_26 hX hR hf
set_option maxRecDepth 100000 in
set_option maxHeartbeats 4000000 in
theorem cnX3_fits {l : Launch} (hst : l.stackTraces = false) {w : sp_Wd} {n : Nat}  {σ : sp_St} {a1 : Int32} {a2 : Int32} {τ : sp_St} {r : Int32}  (hf : X3_fits n σ a1 a2 = some (τ, r)) : sp_Ci shX l w yX3_fits cX3_fits 5 (some .boolean) rmX3_fits 0 0 σ [.ref (w.2.1 64), .int a1, .int a2] τ r :=
  sp_ci (own := RX3) (by decide) rfl hst (Nat.le_of_ble_eq_true rfl) rfl (fun X hX hw hl hR => by subst hw; subst hl; exact hX3_fits hX hR   hf)
def rmX3_fitsAsItIs : Room := { frames := 6, cells := 0, slots := 0, locals := 146 }
def X3_fitsAsItIs (n : Nat)  (σ : sp_St)  : Option (sp_St × Int32) :=
  sp_bd (X3_fits n σ ((-1 : Int32)) ((0 : Int32))) fun σ2 v3 =>
  sp_ck (sp_zb v3) <|
  some (σ2, v3)
set_option maxRecDepth 100000 in
set_option maxHeartbeats 4000000 in
theorem hX3_fitsAsItIs {X : sp_X} (hX : sp_OK shX X cX3_fitsAsItIs RX3 1 rmX3_fitsAsItIs) {τ : sp_St} {r : Int32} (hR : sp_Ri shX X (some .boolean) τ r 0 0) {n : Nat}  {σ : sp_St}   (hf : X3_fitsAsItIs n σ = some (τ, r)) : sp_GG shX X σ 1 [some (.ref (sx_ad X 64))] [] 0 0 0 := by
  unfold X3_fitsAsItIs at hf
  refine sp_aload_n (i := 0) (q := 1) hX dX3_fitsAsItIs_0 rfl rfl rfl ?_
  refine sp_iconst (v := -1) (q := 2) hX dX3_fitsAsItIs_1 li_m1 rfl ?_
  refine sp_iconst (v := 0) (q := 3) hX dX3_fitsAsItIs_2 li_0 rfl ?_
  obtain ⟨σ2, v3, h1, hf⟩ := sp_bd_so hf
  refine sp_callVi (As := [.int ((-1 : Int32)), .int ((0 : Int32))]) (rest := []) (q := 6) hX (cnX3_fits (sp_st hX)  h1) cwX3_26 atX_64 rfl rfl rfl rfl rfl (Nat.le_of_ble_eq_true rfl) (Nat.le_of_ble_eq_true rfl) (Nat.le_of_ble_eq_true rfl) (Nat.le_of_ble_eq_true rfl) (Nat.le_of_ble_eq_true rfl) dX3_fitsAsItIs_3 rfl ?_
  obtain ⟨h4, hf⟩ := sp_ck_some hf
  exact sp_zret hX hR h4 dX3_fitsAsItIs_6 hf (Nat.le_of_ble_eq_true rfl) (Nat.le_of_ble_eq_true rfl)
set_option maxRecDepth 100000 in
set_option maxHeartbeats 4000000 in
theorem cnX3_fitsAsItIs {l : Launch} (hst : l.stackTraces = false) {w : sp_Wd} {n : Nat}  {σ : sp_St}  {τ : sp_St} {r : Int32}  (hf : X3_fitsAsItIs n σ = some (τ, r)) : sp_Ci shX l w yX3_fitsAsItIs cX3_fitsAsItIs 1 (some .boolean) rmX3_fitsAsItIs 0 0 σ [.ref (w.2.1 64)] τ r :=
  sp_ci (own := RX3) (by decide) rfl hst (Nat.le_of_ble_eq_true rfl) rfl (fun X hX hw hl hR => by subst hw; subst hl; exact hX3_fitsAsItIs hX hR   hf)
def rmX3_howMany : Room := { frames := 6, cells := 0, slots := 0, locals := 146 }
def X3_howMany_63 (n : Nat) (σ : sp_St) (z1 : Int32) : Option (sp_St × Int32) :=
  some (σ, z1)
def X3_howMany_57 (n : Nat) (k4 : sp_St → Int32 → Int32 → Option (sp_St × Int32)) (σ : sp_St) (z1 : Int32) (z2 : Int32) : Option (sp_St × Int32) :=
  sp_pl (z2 + 1) fun x1 =>
  k4 σ z1 x1
def X3_howMany_51 (n : Nat) (k4 : sp_St → Int32 → Int32 → Option (sp_St × Int32)) (k20 : sp_St → Int32 → Int32 → Int32 → Option (sp_St × Int32)) (σ : sp_St) (z1 : Int32) (z2 : Int32) (z3 : Int32) : Option (sp_St × Int32) :=
  sp_pl (z3 + 1) fun x1 =>
  k20 σ z1 z2 x1
def X3_howMany_20 (n : Nat) (k4 : sp_St → Int32 → Int32 → Option (sp_St × Int32)) : Nat → sp_St → Int32 → Int32 → Int32 → Option (sp_St × Int32)
  | 0, _, _, _, _ => none
  | f + 1, σ, z1, z2, z3 =>
    if ((99 : Int32)) < z3 then
      X3_howMany_57 n k4 σ z1 z2
    else
      sp_ck (sp_in z2 50) <|
      if z3 = (sp_g σ 24 z2) then
        X3_howMany_51 n k4 (X3_howMany_20 n k4 f) σ z1 z2 z3
      else
        sp_bd (X3_fits n σ z2 z3) fun σ3 v4 =>
        if v4 = 0 then
          X3_howMany_51 n k4 (X3_howMany_20 n k4 f) σ3 z1 z2 z3
        else
          sp_pl (z1 + 1) fun x5 =>
          X3_howMany_51 n k4 (X3_howMany_20 n k4 f) σ3 x5 z2 z3
def X3_howMany_4 (n : Nat) : Nat → sp_St → Int32 → Int32 → Option (sp_St × Int32)
  | 0, _, _, _ => none
  | f + 1, σ, z1, z2 =>
    sp_pl (σ.2.1 23 0) fun c1 =>
    sp_ck (sp_isc c1) <|
    if (σ.1 c1 13) ≤ z2 then
      X3_howMany_63 n σ z1
    else
      sp_pl ((0 : Int32)) fun x4 =>
      X3_howMany_20 n (X3_howMany_4 n f) n σ z1 z2 x4
def X3_howMany (n : Nat)  (σ : sp_St)  : Option (sp_St × Int32) :=
  sp_pl ((0 : Int32)) fun x1 =>
  sp_pl ((0 : Int32)) fun x3 =>
  X3_howMany_4 n n σ x1 x3
set_option maxRecDepth 100000 in
set_option maxHeartbeats 4000000 in
theorem hX3_howMany_63 {X : sp_X} (hX : sp_OK shX X cX3_howMany RX3 4 rmX3_howMany) {τ : sp_St} {r : Int32} (hR : sp_Ri shX X (some .int) τ r 0 0) {n : Nat}    {σ : sp_St} {z1 : Int32} (hf : X3_howMany_63 n σ z1 = some (τ, r)) : sp_GG shX X σ 4 [none, some (.int z1), none, none] [] 63 0 0 := by
  unfold X3_howMany_63 at hf
  refine sp_iload_n (i := 1) (q := 64) hX dX3_howMany_63 rfl rfl rfl ?_
  exact sp_iret hX hR dX3_howMany_64 hf (Nat.le_of_ble_eq_true rfl) (Nat.le_of_ble_eq_true rfl)
set_option maxRecDepth 100000 in
set_option maxHeartbeats 4000000 in
theorem hX3_howMany_57 {X : sp_X} (hX : sp_OK shX X cX3_howMany RX3 4 rmX3_howMany) {τ : sp_St} {r : Int32} (hR : sp_Ri shX X (some .int) τ r 0 0) {n : Nat}   {k4 : sp_St → Int32 → Int32 → Option (sp_St × Int32)} (hk4 : ∀ (σ : sp_St) (z1 : Int32) (z2 : Int32), k4 σ z1 z2 = some (τ, r) → sp_GG shX X σ 4 [some (.ref (sx_ad X 64)), some (.int z1), some (.int z2), none] [] 4 0 0) {σ : sp_St} {z1 : Int32} {z2 : Int32} (hf : X3_howMany_57 n k4 σ z1 z2 = some (τ, r)) : sp_GG shX X σ 4 [some (.ref (sx_ad X 64)), some (.int z1), some (.int z2), none] [] 57 0 0 := by
  unfold X3_howMany_57 at hf
  obtain ⟨x1, e2, hf⟩ := sp_pl_some hf
  refine sp_iinc (i := 2) (v := x1) (lv' := [some (.ref (sx_ad X 64)), some (.int z1), some (.int x1), none]) (q := 60) hX dX3_howMany_57 rfl (by rw [e2, li_1]) (Nat.le_of_ble_eq_true rfl) rfl rfl rfl ?_
  refine sp_goto (tgt := 4) hX dX3_howMany_60 (by decide) ?_
  exact hk4 σ z1 x1 hf
set_option maxRecDepth 100000 in
set_option maxHeartbeats 4000000 in
theorem hX3_howMany_51 {X : sp_X} (hX : sp_OK shX X cX3_howMany RX3 4 rmX3_howMany) {τ : sp_St} {r : Int32} (hR : sp_Ri shX X (some .int) τ r 0 0) {n : Nat}   {k4 : sp_St → Int32 → Int32 → Option (sp_St × Int32)} (hk4 : ∀ (σ : sp_St) (z1 : Int32) (z2 : Int32), k4 σ z1 z2 = some (τ, r) → sp_GG shX X σ 4 [some (.ref (sx_ad X 64)), some (.int z1), some (.int z2), none] [] 4 0 0) {k20 : sp_St → Int32 → Int32 → Int32 → Option (sp_St × Int32)} (hk20 : ∀ (σ : sp_St) (z1 : Int32) (z2 : Int32) (z3 : Int32), k20 σ z1 z2 z3 = some (τ, r) → sp_GG shX X σ 4 [some (.ref (sx_ad X 64)), some (.int z1), some (.int z2), some (.int z3)] [] 20 0 0) {σ : sp_St} {z1 : Int32} {z2 : Int32} {z3 : Int32} (hf : X3_howMany_51 n k4 k20 σ z1 z2 z3 = some (τ, r)) : sp_GG shX X σ 4 [some (.ref (sx_ad X 64)), some (.int z1), some (.int z2), some (.int z3)] [] 51 0 0 := by
  unfold X3_howMany_51 at hf
  obtain ⟨x1, e2, hf⟩ := sp_pl_some hf
  refine sp_iinc (i := 3) (v := x1) (lv' := [some (.ref (sx_ad X 64)), some (.int z1), some (.int z2), some (.int x1)]) (q := 54) hX dX3_howMany_51 rfl (by rw [e2, li_1]) (Nat.le_of_ble_eq_true rfl) rfl rfl rfl ?_
  refine sp_goto (tgt := 20) hX dX3_howMany_54 (by decide) ?_
  exact hk20 σ z1 z2 x1 hf
set_option maxRecDepth 100000 in
set_option maxHeartbeats 4000000 in
theorem hX3_howMany_20 {X : sp_X} (hX : sp_OK shX X cX3_howMany RX3 4 rmX3_howMany) {τ : sp_St} {r : Int32} (hR : sp_Ri shX X (some .int) τ r 0 0) {n : Nat}   {k4 : sp_St → Int32 → Int32 → Option (sp_St × Int32)} (hk4 : ∀ (σ : sp_St) (z1 : Int32) (z2 : Int32), k4 σ z1 z2 = some (τ, r) → sp_GG shX X σ 4 [some (.ref (sx_ad X 64)), some (.int z1), some (.int z2), none] [] 4 0 0) : ∀ (f : Nat) (σ : sp_St) (z1 : Int32) (z2 : Int32) (z3 : Int32), X3_howMany_20 n k4 f σ z1 z2 z3 = some (τ, r) → sp_GG shX X σ 4 [some (.ref (sx_ad X 64)), some (.int z1), some (.int z2), some (.int z3)] [] 20 0 0 := by
  intro f
  induction f with
  | zero =>
    intro σ z1 z2 z3 hf
    rw [X3_howMany_20] at hf
    cases hf
  | succ f ih =>
    intro σ z1 z2 z3 hf
    rw [X3_howMany_20] at hf
    refine sp_iload_n (i := 3) (q := 21) hX dX3_howMany_20 rfl rfl rfl ?_
    refine sp_bipush (v := 99) (q := 23) hX dX3_howMany_21 lb_99 rfl ?_
    refine sp_icmp_gt (tgt := 57) (q := 26) hX dX3_howMany_23 (by decide) rfl (fun hc => ?_) (fun hc => ?_)
    · rw [if_pos hc] at hf
      refine sp_drop (lv' := [some (.ref (sx_ad X 64)), some (.int z1), some (.int z2), none]) (And.intro rfl (And.intro rfl (And.intro rfl trivial))) ?_
      exact hX3_howMany_57 hX hR hk4 hf
    · rw [if_neg hc] at hf
      refine sp_iload_n (i := 3) (q := 27) hX dX3_howMany_26 rfl rfl rfl ?_
      refine sp_aload_n (i := 0) (q := 28) hX dX3_howMany_27 rfl rfl rfl ?_
      refine sp_gets (t := 23) (q := 31) hX flX3_15 fkX3_0 atX_64 srX_64_0 dX3_howMany_28 rfl ?_
      refine sp_gets (t := 24) (q := 34) hX flX3_42 fkX8_1 atX_23 srX_23_1 dX3_howMany_31 rfl ?_
      refine sp_iload_n (i := 2) (q := 35) hX dX3_howMany_34 rfl rfl rfl ?_
      obtain ⟨h1, hf⟩ := sp_ck_some hf
      refine sp_iald (q := 36) hX arX_24 h1 dX3_howMany_35 rfl ?_
      refine sp_icmp_eq (tgt := 51) (q := 39) hX dX3_howMany_36 (by decide) rfl (fun hc => ?_) (fun hc => ?_)
      · rw [if_pos hc] at hf
        exact hX3_howMany_51 hX hR hk4 ih hf
      · rw [if_neg hc] at hf
        refine sp_aload_n (i := 0) (q := 40) hX dX3_howMany_39 rfl rfl rfl ?_
        refine sp_iload_n (i := 2) (q := 41) hX dX3_howMany_40 rfl rfl rfl ?_
        refine sp_iload_n (i := 3) (q := 42) hX dX3_howMany_41 rfl rfl rfl ?_
        obtain ⟨σ3, v4, h2, hf⟩ := sp_bd_so hf
        refine sp_callVi (As := [.int z2, .int z3]) (rest := []) (q := 45) hX (cnX3_fits (sp_st hX)  h2) cwX3_26 atX_64 rfl rfl rfl rfl rfl (Nat.le_of_ble_eq_true rfl) (Nat.le_of_ble_eq_true rfl) (Nat.le_of_ble_eq_true rfl) (Nat.le_of_ble_eq_true rfl) (Nat.le_of_ble_eq_true rfl) dX3_howMany_42 rfl ?_
        refine sp_if_eq (tgt := 51) (q := 48) hX dX3_howMany_45 (by decide) rfl (fun hc => ?_) (fun hc => ?_)
        · rw [if_pos hc] at hf
          exact hX3_howMany_51 hX hR hk4 ih hf
        · rw [if_neg hc] at hf
          obtain ⟨x5, e6, hf⟩ := sp_pl_some hf
          refine sp_iinc (i := 1) (v := x5) (lv' := [some (.ref (sx_ad X 64)), some (.int x5), some (.int z2), some (.int z3)]) (q := 51) hX dX3_howMany_48 rfl (by rw [e6, li_1]) (Nat.le_of_ble_eq_true rfl) rfl rfl rfl ?_
          exact hX3_howMany_51 hX hR hk4 ih hf
set_option maxRecDepth 100000 in
set_option maxHeartbeats 4000000 in
theorem hX3_howMany_4 {X : sp_X} (hX : sp_OK shX X cX3_howMany RX3 4 rmX3_howMany) {τ : sp_St} {r : Int32} (hR : sp_Ri shX X (some .int) τ r 0 0) {n : Nat}    : ∀ (f : Nat) (σ : sp_St) (z1 : Int32) (z2 : Int32), X3_howMany_4 n f σ z1 z2 = some (τ, r) → sp_GG shX X σ 4 [some (.ref (sx_ad X 64)), some (.int z1), some (.int z2), none] [] 4 0 0 := by
  intro f
  induction f with
  | zero =>
    intro σ z1 z2 hf
    rw [X3_howMany_4] at hf
    cases hf
  | succ f ih =>
    intro σ z1 z2 hf
    rw [X3_howMany_4] at hf
    refine sp_iload_n (i := 2) (q := 5) hX dX3_howMany_4 rfl rfl rfl ?_
    refine sp_aload_n (i := 0) (q := 6) hX dX3_howMany_5 rfl rfl rfl ?_
    refine sp_gets (t := 23) (q := 9) hX flX3_15 fkX3_0 atX_64 srX_64_0 dX3_howMany_6 rfl ?_
    obtain ⟨c1, e3, hf⟩ := sp_pl_some hf
    obtain ⟨h2, hf⟩ := sp_ck_some hf
    refine sp_getr (q := 12) hX flX3_30 fkX8_0 atX_23 dX3_howMany_9 rfl ?_
    refine sp_nmr e3 ?_
    refine sp_geti (q := 15) hX flX3_36 fkX2_13 (sp_isc_at h2) dX3_howMany_12 rfl ?_
    refine sp_icmp_ge (tgt := 63) (q := 18) hX dX3_howMany_15 (by decide) rfl (fun hc => ?_) (fun hc => ?_)
    · rw [if_pos hc] at hf
      refine sp_drop (lv' := [none, some (.int z1), none, none]) (And.intro rfl trivial) ?_
      exact hX3_howMany_63 hX hR hf
    · rw [if_neg hc] at hf
      refine sp_iconst (v := 0) (q := 19) hX dX3_howMany_18 li_0 rfl ?_
      obtain ⟨x4, e5, hf⟩ := sp_pl_some hf
      refine sp_nmi e5 ?_
      refine sp_istore_n (i := 3) (lv' := [some (.ref (sx_ad X 64)), some (.int z1), some (.int z2), some (.int x4)]) (q := 20) hX dX3_howMany_19 rfl (Nat.le_of_ble_eq_true rfl) rfl rfl rfl ?_
      exact hX3_howMany_20 hX hR ih n σ z1 z2 x4 hf
set_option maxRecDepth 100000 in
set_option maxHeartbeats 4000000 in
theorem hX3_howMany {X : sp_X} (hX : sp_OK shX X cX3_howMany RX3 4 rmX3_howMany) {τ : sp_St} {r : Int32} (hR : sp_Ri shX X (some .int) τ r 0 0) {n : Nat}  {σ : sp_St}   (hf : X3_howMany n σ = some (τ, r)) : sp_GG shX X σ 4 [some (.ref (sx_ad X 64)), none, none, none] [] 0 0 0 := by
  unfold X3_howMany at hf
  refine sp_iconst (v := 0) (q := 1) hX dX3_howMany_0 li_0 rfl ?_
  obtain ⟨x1, e2, hf⟩ := sp_pl_some hf
  refine sp_nmi e2 ?_
  refine sp_istore_n (i := 1) (lv' := [some (.ref (sx_ad X 64)), some (.int x1), none, none]) (q := 2) hX dX3_howMany_1 rfl (Nat.le_of_ble_eq_true rfl) rfl rfl rfl ?_
  refine sp_iconst (v := 0) (q := 3) hX dX3_howMany_2 li_0 rfl ?_
  obtain ⟨x3, e4, hf⟩ := sp_pl_some hf
  refine sp_nmi e4 ?_
  refine sp_istore_n (i := 2) (lv' := [some (.ref (sx_ad X 64)), some (.int x1), some (.int x3), none]) (q := 4) hX dX3_howMany_3 rfl (Nat.le_of_ble_eq_true rfl) rfl rfl rfl ?_
  exact hX3_howMany_4 hX hR n σ x1 x3 hf
set_option maxRecDepth 100000 in
set_option maxHeartbeats 4000000 in
theorem cnX3_howMany {l : Launch} (hst : l.stackTraces = false) {w : sp_Wd} {n : Nat}  {σ : sp_St}  {τ : sp_St} {r : Int32}  (hf : X3_howMany n σ = some (τ, r)) : sp_Ci shX l w yX3_howMany cX3_howMany 4 (some .int) rmX3_howMany 0 0 σ [.ref (w.2.1 64)] τ r :=
  sp_ci (own := RX3) (by decide) rfl hst (Nat.le_of_ble_eq_true rfl) rfl (fun X hX hw hl hR => by subst hw; subst hl; exact hX3_howMany hX hR   hf)
def rmX3_first : Room := { frames := 6, cells := 0, slots := 0, locals := 146 }
def X3_first_65 (n : Nat) (σ : sp_St) : Option (sp_St × Int32) :=
  some (σ, (-1 : Int32))
def X3_first_59 (n : Nat) (k2 : sp_St → Int32 → Option (sp_St × Int32)) (σ : sp_St) (z1 : Int32) : Option (sp_St × Int32) :=
  sp_pl (z1 + 1) fun x1 =>
  k2 σ x1
def X3_first_53 (n : Nat) (k2 : sp_St → Int32 → Option (sp_St × Int32)) (k18 : sp_St → Int32 → Int32 → Option (sp_St × Int32)) (σ : sp_St) (z1 : Int32) (z2 : Int32) : Option (sp_St × Int32) :=
  sp_pl (z2 + 1) fun x1 =>
  k18 σ z1 x1
def X3_first_46 (n : Nat) (σ : sp_St) (z1 : Int32) (z2 : Int32) : Option (sp_St × Int32) :=
  some (σ, (((100 : Int32)) * z1) + z2)
def X3_first_18 (n : Nat) (k2 : sp_St → Int32 → Option (sp_St × Int32)) : Nat → sp_St → Int32 → Int32 → Option (sp_St × Int32)
  | 0, _, _, _ => none
  | f + 1, σ, z1, z2 =>
    if ((99 : Int32)) < z2 then
      X3_first_59 n k2 σ z1
    else
      sp_ck (sp_in z1 50) <|
      if z2 = (sp_g σ 24 z1) then
        X3_first_53 n k2 (X3_first_18 n k2 f) σ z1 z2
      else
        sp_bd (X3_fits n σ z1 z2) fun σ3 v4 =>
        if v4 = 0 then
          X3_first_53 n k2 (X3_first_18 n k2 f) σ3 z1 z2
        else
          X3_first_46 n σ3 z1 z2
def X3_first_2 (n : Nat) : Nat → sp_St → Int32 → Option (sp_St × Int32)
  | 0, _, _ => none
  | f + 1, σ, z1 =>
    sp_pl (σ.2.1 23 0) fun c1 =>
    sp_ck (sp_isc c1) <|
    if (σ.1 c1 13) ≤ z1 then
      X3_first_65 n σ
    else
      sp_pl ((0 : Int32)) fun x4 =>
      X3_first_18 n (X3_first_2 n f) n σ z1 x4
def X3_first (n : Nat)  (σ : sp_St)  : Option (sp_St × Int32) :=
  sp_pl ((0 : Int32)) fun x1 =>
  X3_first_2 n n σ x1
set_option maxRecDepth 100000 in
set_option maxHeartbeats 4000000 in
theorem hX3_first_65 {X : sp_X} (hX : sp_OK shX X cX3_first RX3 3 rmX3_first) {τ : sp_St} {r : Int32} (hR : sp_Ri shX X (some .int) τ r 0 0) {n : Nat}    {σ : sp_St} (hf : X3_first_65 n σ = some (τ, r)) : sp_GG shX X σ 3 [none, none, none] [] 65 0 0 := by
  unfold X3_first_65 at hf
  refine sp_iconst (v := -1) (q := 66) hX dX3_first_65 li_m1 rfl ?_
  exact sp_iret hX hR dX3_first_66 hf (Nat.le_of_ble_eq_true rfl) (Nat.le_of_ble_eq_true rfl)
set_option maxRecDepth 100000 in
set_option maxHeartbeats 4000000 in
theorem hX3_first_59 {X : sp_X} (hX : sp_OK shX X cX3_first RX3 3 rmX3_first) {τ : sp_St} {r : Int32} (hR : sp_Ri shX X (some .int) τ r 0 0) {n : Nat}   {k2 : sp_St → Int32 → Option (sp_St × Int32)} (hk2 : ∀ (σ : sp_St) (z1 : Int32), k2 σ z1 = some (τ, r) → sp_GG shX X σ 3 [some (.ref (sx_ad X 64)), some (.int z1), none] [] 2 0 0) {σ : sp_St} {z1 : Int32} (hf : X3_first_59 n k2 σ z1 = some (τ, r)) : sp_GG shX X σ 3 [some (.ref (sx_ad X 64)), some (.int z1), none] [] 59 0 0 := by
  unfold X3_first_59 at hf
  obtain ⟨x1, e2, hf⟩ := sp_pl_some hf
  refine sp_iinc (i := 1) (v := x1) (lv' := [some (.ref (sx_ad X 64)), some (.int x1), none]) (q := 62) hX dX3_first_59 rfl (by rw [e2, li_1]) (Nat.le_of_ble_eq_true rfl) rfl rfl rfl ?_
  refine sp_goto (tgt := 2) hX dX3_first_62 (by decide) ?_
  exact hk2 σ x1 hf
set_option maxRecDepth 100000 in
set_option maxHeartbeats 4000000 in
theorem hX3_first_53 {X : sp_X} (hX : sp_OK shX X cX3_first RX3 3 rmX3_first) {τ : sp_St} {r : Int32} (hR : sp_Ri shX X (some .int) τ r 0 0) {n : Nat}   {k2 : sp_St → Int32 → Option (sp_St × Int32)} (hk2 : ∀ (σ : sp_St) (z1 : Int32), k2 σ z1 = some (τ, r) → sp_GG shX X σ 3 [some (.ref (sx_ad X 64)), some (.int z1), none] [] 2 0 0) {k18 : sp_St → Int32 → Int32 → Option (sp_St × Int32)} (hk18 : ∀ (σ : sp_St) (z1 : Int32) (z2 : Int32), k18 σ z1 z2 = some (τ, r) → sp_GG shX X σ 3 [some (.ref (sx_ad X 64)), some (.int z1), some (.int z2)] [] 18 0 0) {σ : sp_St} {z1 : Int32} {z2 : Int32} (hf : X3_first_53 n k2 k18 σ z1 z2 = some (τ, r)) : sp_GG shX X σ 3 [some (.ref (sx_ad X 64)), some (.int z1), some (.int z2)] [] 53 0 0 := by
  unfold X3_first_53 at hf
  obtain ⟨x1, e2, hf⟩ := sp_pl_some hf
  refine sp_iinc (i := 2) (v := x1) (lv' := [some (.ref (sx_ad X 64)), some (.int z1), some (.int x1)]) (q := 56) hX dX3_first_53 rfl (by rw [e2, li_1]) (Nat.le_of_ble_eq_true rfl) rfl rfl rfl ?_
  refine sp_goto (tgt := 18) hX dX3_first_56 (by decide) ?_
  exact hk18 σ z1 x1 hf
set_option maxRecDepth 100000 in
set_option maxHeartbeats 4000000 in
theorem hX3_first_46 {X : sp_X} (hX : sp_OK shX X cX3_first RX3 3 rmX3_first) {τ : sp_St} {r : Int32} (hR : sp_Ri shX X (some .int) τ r 0 0) {n : Nat}    {σ : sp_St} {z1 : Int32} {z2 : Int32} (hf : X3_first_46 n σ z1 z2 = some (τ, r)) : sp_GG shX X σ 3 [none, some (.int z1), some (.int z2)] [] 46 0 0 := by
  unfold X3_first_46 at hf
  refine sp_bipush (v := 100) (q := 48) hX dX3_first_46 lb_100 rfl ?_
  refine sp_iload_n (i := 1) (q := 49) hX dX3_first_48 rfl rfl rfl ?_
  refine sp_imul (q := 50) hX dX3_first_49 rfl ?_
  refine sp_iload_n (i := 2) (q := 51) hX dX3_first_50 rfl rfl rfl ?_
  refine sp_iadd (q := 52) hX dX3_first_51 rfl ?_
  exact sp_iret hX hR dX3_first_52 hf (Nat.le_of_ble_eq_true rfl) (Nat.le_of_ble_eq_true rfl)
set_option maxRecDepth 100000 in
set_option maxHeartbeats 4000000 in
theorem hX3_first_18 {X : sp_X} (hX : sp_OK shX X cX3_first RX3 3 rmX3_first) {τ : sp_St} {r : Int32} (hR : sp_Ri shX X (some .int) τ r 0 0) {n : Nat}   {k2 : sp_St → Int32 → Option (sp_St × Int32)} (hk2 : ∀ (σ : sp_St) (z1 : Int32), k2 σ z1 = some (τ, r) → sp_GG shX X σ 3 [some (.ref (sx_ad X 64)), some (.int z1), none] [] 2 0 0) : ∀ (f : Nat) (σ : sp_St) (z1 : Int32) (z2 : Int32), X3_first_18 n k2 f σ z1 z2 = some (τ, r) → sp_GG shX X σ 3 [some (.ref (sx_ad X 64)), some (.int z1), some (.int z2)] [] 18 0 0 := by
  intro f
  induction f with
  | zero =>
    intro σ z1 z2 hf
    rw [X3_first_18] at hf
    cases hf
  | succ f ih =>
    intro σ z1 z2 hf
    rw [X3_first_18] at hf
    refine sp_iload_n (i := 2) (q := 19) hX dX3_first_18 rfl rfl rfl ?_
    refine sp_bipush (v := 99) (q := 21) hX dX3_first_19 lb_99 rfl ?_
    refine sp_icmp_gt (tgt := 59) (q := 24) hX dX3_first_21 (by decide) rfl (fun hc => ?_) (fun hc => ?_)
    · rw [if_pos hc] at hf
      refine sp_drop (lv' := [some (.ref (sx_ad X 64)), some (.int z1), none]) (And.intro rfl (And.intro rfl trivial)) ?_
      exact hX3_first_59 hX hR hk2 hf
    · rw [if_neg hc] at hf
      refine sp_iload_n (i := 2) (q := 25) hX dX3_first_24 rfl rfl rfl ?_
      refine sp_aload_n (i := 0) (q := 26) hX dX3_first_25 rfl rfl rfl ?_
      refine sp_gets (t := 23) (q := 29) hX flX3_15 fkX3_0 atX_64 srX_64_0 dX3_first_26 rfl ?_
      refine sp_gets (t := 24) (q := 32) hX flX3_42 fkX8_1 atX_23 srX_23_1 dX3_first_29 rfl ?_
      refine sp_iload_n (i := 1) (q := 33) hX dX3_first_32 rfl rfl rfl ?_
      obtain ⟨h1, hf⟩ := sp_ck_some hf
      refine sp_iald (q := 34) hX arX_24 h1 dX3_first_33 rfl ?_
      refine sp_icmp_eq (tgt := 53) (q := 37) hX dX3_first_34 (by decide) rfl (fun hc => ?_) (fun hc => ?_)
      · rw [if_pos hc] at hf
        exact hX3_first_53 hX hR hk2 ih hf
      · rw [if_neg hc] at hf
        refine sp_aload_n (i := 0) (q := 38) hX dX3_first_37 rfl rfl rfl ?_
        refine sp_iload_n (i := 1) (q := 39) hX dX3_first_38 rfl rfl rfl ?_
        refine sp_iload_n (i := 2) (q := 40) hX dX3_first_39 rfl rfl rfl ?_
        obtain ⟨σ3, v4, h2, hf⟩ := sp_bd_so hf
        refine sp_callVi (As := [.int z1, .int z2]) (rest := []) (q := 43) hX (cnX3_fits (sp_st hX)  h2) cwX3_26 atX_64 rfl rfl rfl rfl rfl (Nat.le_of_ble_eq_true rfl) (Nat.le_of_ble_eq_true rfl) (Nat.le_of_ble_eq_true rfl) (Nat.le_of_ble_eq_true rfl) (Nat.le_of_ble_eq_true rfl) dX3_first_40 rfl ?_
        refine sp_if_eq (tgt := 53) (q := 46) hX dX3_first_43 (by decide) rfl (fun hc => ?_) (fun hc => ?_)
        · rw [if_pos hc] at hf
          exact hX3_first_53 hX hR hk2 ih hf
        · rw [if_neg hc] at hf
          refine sp_drop (lv' := [none, some (.int z1), some (.int z2)]) (And.intro rfl (And.intro rfl trivial)) ?_
          exact hX3_first_46 hX hR hf
set_option maxRecDepth 100000 in
set_option maxHeartbeats 4000000 in
theorem hX3_first_2 {X : sp_X} (hX : sp_OK shX X cX3_first RX3 3 rmX3_first) {τ : sp_St} {r : Int32} (hR : sp_Ri shX X (some .int) τ r 0 0) {n : Nat}    : ∀ (f : Nat) (σ : sp_St) (z1 : Int32), X3_first_2 n f σ z1 = some (τ, r) → sp_GG shX X σ 3 [some (.ref (sx_ad X 64)), some (.int z1), none] [] 2 0 0 := by
  intro f
  induction f with
  | zero =>
    intro σ z1 hf
    rw [X3_first_2] at hf
    cases hf
  | succ f ih =>
    intro σ z1 hf
    rw [X3_first_2] at hf
    refine sp_iload_n (i := 1) (q := 3) hX dX3_first_2 rfl rfl rfl ?_
    refine sp_aload_n (i := 0) (q := 4) hX dX3_first_3 rfl rfl rfl ?_
    refine sp_gets (t := 23) (q := 7) hX flX3_15 fkX3_0 atX_64 srX_64_0 dX3_first_4 rfl ?_
    obtain ⟨c1, e3, hf⟩ := sp_pl_some hf
    obtain ⟨h2, hf⟩ := sp_ck_some hf
    refine sp_getr (q := 10) hX flX3_30 fkX8_0 atX_23 dX3_first_7 rfl ?_
    refine sp_nmr e3 ?_
    refine sp_geti (q := 13) hX flX3_36 fkX2_13 (sp_isc_at h2) dX3_first_10 rfl ?_
    refine sp_icmp_ge (tgt := 65) (q := 16) hX dX3_first_13 (by decide) rfl (fun hc => ?_) (fun hc => ?_)
    · rw [if_pos hc] at hf
      refine sp_drop (lv' := [none, none, none]) trivial ?_
      exact hX3_first_65 hX hR hf
    · rw [if_neg hc] at hf
      refine sp_iconst (v := 0) (q := 17) hX dX3_first_16 li_0 rfl ?_
      obtain ⟨x4, e5, hf⟩ := sp_pl_some hf
      refine sp_nmi e5 ?_
      refine sp_istore_n (i := 2) (lv' := [some (.ref (sx_ad X 64)), some (.int z1), some (.int x4)]) (q := 18) hX dX3_first_17 rfl (Nat.le_of_ble_eq_true rfl) rfl rfl rfl ?_
      exact hX3_first_18 hX hR ih n σ z1 x4 hf
set_option maxRecDepth 100000 in
set_option maxHeartbeats 4000000 in
theorem hX3_first {X : sp_X} (hX : sp_OK shX X cX3_first RX3 3 rmX3_first) {τ : sp_St} {r : Int32} (hR : sp_Ri shX X (some .int) τ r 0 0) {n : Nat}  {σ : sp_St}   (hf : X3_first n σ = some (τ, r)) : sp_GG shX X σ 3 [some (.ref (sx_ad X 64)), none, none] [] 0 0 0 := by
  unfold X3_first at hf
  refine sp_iconst (v := 0) (q := 1) hX dX3_first_0 li_0 rfl ?_
  obtain ⟨x1, e2, hf⟩ := sp_pl_some hf
  refine sp_nmi e2 ?_
  refine sp_istore_n (i := 1) (lv' := [some (.ref (sx_ad X 64)), some (.int x1), none]) (q := 2) hX dX3_first_1 rfl (Nat.le_of_ble_eq_true rfl) rfl rfl rfl ?_
  exact hX3_first_2 hX hR n σ x1 hf
set_option maxRecDepth 100000 in
set_option maxHeartbeats 4000000 in
theorem cnX3_first {l : Launch} (hst : l.stackTraces = false) {w : sp_Wd} {n : Nat}  {σ : sp_St}  {τ : sp_St} {r : Int32}  (hf : X3_first n σ = some (τ, r)) : sp_Ci shX l w yX3_first cX3_first 3 (some .int) rmX3_first 0 0 σ [.ref (w.2.1 64)] τ r :=
  sp_ci (own := RX3) (by decide) rfl hst (Nat.le_of_ble_eq_true rfl) rfl (fun X hX hw hl hR => by subst hw; subst hl; exact hX3_first hX hR   hf)
def rmX3_seekNext : Room := { frames := 6, cells := 0, slots := 0, locals := 146 }
def X3_seekNext_158 (n : Nat) (k100 : sp_St → Int32 → Option (sp_St)) (σ : sp_St) (z1 : Int32) : Option (sp_St) :=
  sp_pl (z1 + 1) fun x1 =>
  k100 σ x1
def X3_seekNext_100 (n : Nat) : Nat → sp_St → Int32 → Option (sp_St)
  | 0, _, _ => none
  | f + 1, σ, z1 =>
    sp_pl (σ.2.1 23 0) fun c1 =>
    sp_ck (sp_isc c1) <|
    if (σ.1 c1 13) ≤ z1 then
      some σ
    else
      sp_ck (sp_in (((2 : Int32)) * z1) 20) <|
      sp_bd (J13_bitCount_95d88 n σ (sp_gl σ 65 (((2 : Int32)) * z1))) fun σ6 v7 =>
      sp_ck (sp_in ((((2 : Int32)) * z1) + ((1 : Int32))) 20) <|
      sp_bd (J13_bitCount_95d88 n σ6 (sp_gl σ6 65 ((((2 : Int32)) * z1) + ((1 : Int32))))) fun σ10 v11 =>
      sp_pl (v7 + v11) fun x12 =>
      if x12 ≤ (σ10.1 64 5) then
        X3_seekNext_158 n (X3_seekNext_100 n f) σ10 z1
      else
        sp_pl (sp_si σ10 64 5 x12) fun σ14 =>
        sp_pl (sp_si σ14 64 4 z1) fun σ16 =>
        X3_seekNext_158 n (X3_seekNext_100 n f) σ16 z1
def X3_seekNext_88 (n : Nat) (σ : sp_St) : Option (sp_St) :=
  sp_pl (sp_si σ 64 4 ((-1 : Int32))) fun σ1 =>
  sp_pl (sp_si σ1 64 5 ((0 : Int32))) fun σ3 =>
  sp_pl ((0 : Int32)) fun x5 =>
  X3_seekNext_100 n n σ3 x5
def X3_seekNext_82 (n : Nat) (k26 : sp_St → Int32 → Option (sp_St)) (σ : sp_St) (z1 : Int32) : Option (sp_St) :=
  sp_pl (z1 + 1) fun x1 =>
  k26 σ x1
def X3_seekNext_76 (n : Nat) (k26 : sp_St → Int32 → Option (sp_St)) (k42 : sp_St → Int32 → Int32 → Option (sp_St)) (σ : sp_St) (z1 : Int32) (z2 : Int32) : Option (sp_St) :=
  sp_pl (z2 + 1) fun x1 =>
  k42 σ z1 x1
def X3_seekNext_42 (n : Nat) (k26 : sp_St → Int32 → Option (sp_St)) : Nat → sp_St → Int32 → Int32 → Option (sp_St)
  | 0, _, _, _ => none
  | f + 1, σ, z1, z2 =>
    if ((99 : Int32)) < z2 then
      X3_seekNext_82 n k26 σ z1
    else
      sp_ck (sp_in z1 50) <|
      if z2 = (sp_g σ 24 z1) then
        X3_seekNext_76 n k26 (X3_seekNext_42 n k26 f) σ z1 z2
      else
        sp_bd (X3_fits n σ z1 z2) fun σ3 v4 =>
        if v4 = 0 then
          X3_seekNext_76 n k26 (X3_seekNext_42 n k26 f) σ3 z1 z2
        else
          sp_bv (X3_markAngers n σ3 z1 z2) fun σ6 =>
          X3_seekNext_76 n k26 (X3_seekNext_42 n k26 f) σ6 z1 z2
def X3_seekNext_26 (n : Nat) : Nat → sp_St → Int32 → Option (sp_St)
  | 0, _, _ => none
  | f + 1, σ, z1 =>
    sp_pl (σ.2.1 23 0) fun c1 =>
    sp_ck (sp_isc c1) <|
    if (σ.1 c1 13) ≤ z1 then
      X3_seekNext_88 n σ
    else
      sp_pl ((0 : Int32)) fun x4 =>
      X3_seekNext_42 n (X3_seekNext_26 n f) n σ z1 x4
def X3_seekNext_24 (n : Nat) (σ : sp_St) : Option (sp_St) :=
  sp_pl ((0 : Int32)) fun x1 =>
  X3_seekNext_26 n n σ x1
def X3_seekNext_2 (n : Nat) : Nat → sp_St → Int32 → Option (sp_St)
  | 0, _, _ => none
  | f + 1, σ, z1 =>
    if ((20 : Int32)) ≤ z1 then
      X3_seekNext_24 n σ
    else
      sp_ck (sp_in z1 20) <|
      sp_pl (sp_sl σ 65 z1.toNatClampNeg ((0 : Int64))) fun σ2 =>
      sp_pl (z1 + 1) fun x4 =>
      X3_seekNext_2 n f σ2 x4
def X3_seekNext (n : Nat)  (σ : sp_St)  : Option (sp_St) :=
  sp_pl ((0 : Int32)) fun x1 =>
  X3_seekNext_2 n n σ x1
set_option maxRecDepth 100000 in
set_option maxHeartbeats 4000000 in
theorem hX3_seekNext_158 {X : sp_X} (hX : sp_OK shX X cX3_seekNext RX3 3 rmX3_seekNext) {τ : sp_St} (hR : sp_Rv shX X τ 0 0) {n : Nat}   {k100 : sp_St → Int32 → Option (sp_St)} (hk100 : ∀ (σ : sp_St) (z1 : Int32), k100 σ z1 = some τ → sp_GG shX X σ 3 [some (.ref (sx_ad X 64)), some (.int z1), none] [] 100 0 0) {σ : sp_St} {z1 : Int32} (hf : X3_seekNext_158 n k100 σ z1 = some τ) : sp_GG shX X σ 3 [some (.ref (sx_ad X 64)), some (.int z1), none] [] 158 0 0 := by
  unfold X3_seekNext_158 at hf
  obtain ⟨x1, e2, hf⟩ := sp_pl_some hf
  refine sp_iinc (i := 1) (v := x1) (lv' := [some (.ref (sx_ad X 64)), some (.int x1), none]) (q := 161) hX dX3_seekNext_158 rfl (by rw [e2, li_1]) (Nat.le_of_ble_eq_true rfl) rfl rfl rfl ?_
  refine sp_goto (tgt := 100) hX dX3_seekNext_161 (by decide) ?_
  exact hk100 σ x1 hf
set_option maxRecDepth 100000 in
set_option maxHeartbeats 4000000 in
theorem hX3_seekNext_100 {X : sp_X} (hX : sp_OK shX X cX3_seekNext RX3 3 rmX3_seekNext) {τ : sp_St} (hR : sp_Rv shX X τ 0 0) {n : Nat}    : ∀ (f : Nat) (σ : sp_St) (z1 : Int32), X3_seekNext_100 n f σ z1 = some τ → sp_GG shX X σ 3 [some (.ref (sx_ad X 64)), some (.int z1), none] [] 100 0 0 := by
  intro f
  induction f with
  | zero =>
    intro σ z1 hf
    rw [X3_seekNext_100] at hf
    cases hf
  | succ f ih =>
    intro σ z1 hf
    rw [X3_seekNext_100] at hf
    refine sp_iload_n (i := 1) (q := 101) hX dX3_seekNext_100 rfl rfl rfl ?_
    refine sp_aload_n (i := 0) (q := 102) hX dX3_seekNext_101 rfl rfl rfl ?_
    refine sp_gets (t := 23) (q := 105) hX flX3_15 fkX3_0 atX_64 srX_64_0 dX3_seekNext_102 rfl ?_
    obtain ⟨c1, e3, hf⟩ := sp_pl_some hf
    obtain ⟨h2, hf⟩ := sp_ck_some hf
    refine sp_getr (q := 108) hX flX3_30 fkX8_0 atX_23 dX3_seekNext_105 rfl ?_
    refine sp_nmr e3 ?_
    refine sp_geti (q := 111) hX flX3_36 fkX2_13 (sp_isc_at h2) dX3_seekNext_108 rfl ?_
    refine sp_icmp_ge (tgt := 164) (q := 114) hX dX3_seekNext_111 (by decide) rfl (fun hc => ?_) (fun hc => ?_)
    · rw [if_pos hc] at hf
      exact sp_vret hX hR dX3_seekNext_164 hf (Nat.le_of_ble_eq_true rfl) (Nat.le_of_ble_eq_true rfl)
    · rw [if_neg hc] at hf
      refine sp_aload_n (i := 0) (q := 115) hX dX3_seekNext_114 rfl rfl rfl ?_
      refine sp_gets (t := 65) (q := 118) hX flX3_9 fkX3_3 atX_64 srX_64_3 dX3_seekNext_115 rfl ?_
      refine sp_iconst (v := 2) (q := 119) hX dX3_seekNext_118 li_2 rfl ?_
      refine sp_iload_n (i := 1) (q := 120) hX dX3_seekNext_119 rfl rfl rfl ?_
      refine sp_imul (q := 121) hX dX3_seekNext_120 rfl ?_
      obtain ⟨h4, hf⟩ := sp_ck_some hf
      refine sp_lald (q := 122) hX arX_65 h4 dX3_seekNext_121 rfl ?_
      obtain ⟨σ6, v7, h5, hf⟩ := sp_bd_so hf
      refine sp_callSi (As := [.long (sp_gl σ 65 (((2 : Int32)) * z1))]) (rest := []) (q := 125) hX (cnJ13_bitCount_95d88 (sp_st hX)  h5) cwX3_56 rfl rfl rfl rfl (Nat.le_of_ble_eq_true rfl) (Nat.le_of_ble_eq_true rfl) (Nat.le_of_ble_eq_true rfl) (Nat.le_of_ble_eq_true rfl) (Nat.le_of_ble_eq_true rfl) dX3_seekNext_122 rfl ?_
      refine sp_aload_n (i := 0) (q := 126) hX dX3_seekNext_125 rfl rfl rfl ?_
      refine sp_gets (t := 65) (q := 129) hX flX3_9 fkX3_3 atX_64 srX_64_3 dX3_seekNext_126 rfl ?_
      refine sp_iconst (v := 2) (q := 130) hX dX3_seekNext_129 li_2 rfl ?_
      refine sp_iload_n (i := 1) (q := 131) hX dX3_seekNext_130 rfl rfl rfl ?_
      refine sp_imul (q := 132) hX dX3_seekNext_131 rfl ?_
      refine sp_iconst (v := 1) (q := 133) hX dX3_seekNext_132 li_1 rfl ?_
      refine sp_iadd (q := 134) hX dX3_seekNext_133 rfl ?_
      obtain ⟨h8, hf⟩ := sp_ck_some hf
      refine sp_lald (q := 135) hX arX_65 h8 dX3_seekNext_134 rfl ?_
      obtain ⟨σ10, v11, h9, hf⟩ := sp_bd_so hf
      refine sp_callSi (As := [.long (sp_gl σ6 65 ((((2 : Int32)) * z1) + ((1 : Int32))))]) (rest := [.int v7]) (q := 138) hX (cnJ13_bitCount_95d88 (sp_st hX)  h9) cwX3_56 rfl rfl rfl rfl (Nat.le_of_ble_eq_true rfl) (Nat.le_of_ble_eq_true rfl) (Nat.le_of_ble_eq_true rfl) (Nat.le_of_ble_eq_true rfl) (Nat.le_of_ble_eq_true rfl) dX3_seekNext_135 rfl ?_
      refine sp_iadd (q := 139) hX dX3_seekNext_138 rfl ?_
      obtain ⟨x12, e13, hf⟩ := sp_pl_some hf
      refine sp_nmi e13 ?_
      refine sp_istore_n (i := 2) (lv' := [some (.ref (sx_ad X 64)), some (.int z1), some (.int x12)]) (q := 140) hX dX3_seekNext_139 rfl (Nat.le_of_ble_eq_true rfl) rfl rfl rfl ?_
      refine sp_iload_n (i := 2) (q := 141) hX dX3_seekNext_140 rfl rfl rfl ?_
      refine sp_aload_n (i := 0) (q := 142) hX dX3_seekNext_141 rfl rfl rfl ?_
      refine sp_geti (q := 145) hX flX3_53 fkX3_5 atX_64 dX3_seekNext_142 rfl ?_
      refine sp_icmp_le (tgt := 158) (q := 148) hX dX3_seekNext_145 (by decide) rfl (fun hc => ?_) (fun hc => ?_)
      · rw [if_pos hc] at hf
        refine sp_drop (lv' := [some (.ref (sx_ad X 64)), some (.int z1), none]) (And.intro rfl (And.intro rfl trivial)) ?_
        exact hX3_seekNext_158 hX hR ih hf
      · rw [if_neg hc] at hf
        refine sp_aload_n (i := 0) (q := 149) hX dX3_seekNext_148 rfl rfl rfl ?_
        refine sp_iload_n (i := 2) (q := 150) hX dX3_seekNext_149 rfl rfl rfl ?_
        obtain ⟨σ14, e15, hf⟩ := sp_pl_some hf
        refine sp_puti (q := 153) hX fpX3_53 fkX3_5 atX_64 dX3_seekNext_150 rfl ?_
        refine sp_nms e15 ?_
        refine sp_aload_n (i := 0) (q := 154) hX dX3_seekNext_153 rfl rfl rfl ?_
        refine sp_iload_n (i := 1) (q := 155) hX dX3_seekNext_154 rfl rfl rfl ?_
        obtain ⟨σ16, e17, hf⟩ := sp_pl_some hf
        refine sp_puti (q := 158) hX fpX3_50 fkX3_4 atX_64 dX3_seekNext_155 rfl ?_
        refine sp_nms e17 ?_
        refine sp_drop (lv' := [some (.ref (sx_ad X 64)), some (.int z1), none]) (And.intro rfl (And.intro rfl trivial)) ?_
        exact hX3_seekNext_158 hX hR ih hf
set_option maxRecDepth 100000 in
set_option maxHeartbeats 4000000 in
theorem hX3_seekNext_88 {X : sp_X} (hX : sp_OK shX X cX3_seekNext RX3 3 rmX3_seekNext) {τ : sp_St} (hR : sp_Rv shX X τ 0 0) {n : Nat}    {σ : sp_St} (hf : X3_seekNext_88 n σ = some τ) : sp_GG shX X σ 3 [some (.ref (sx_ad X 64)), none, none] [] 88 0 0 := by
  unfold X3_seekNext_88 at hf
  refine sp_aload_n (i := 0) (q := 89) hX dX3_seekNext_88 rfl rfl rfl ?_
  refine sp_iconst (v := -1) (q := 90) hX dX3_seekNext_89 li_m1 rfl ?_
  obtain ⟨σ1, e2, hf⟩ := sp_pl_some hf
  refine sp_puti (q := 93) hX fpX3_50 fkX3_4 atX_64 dX3_seekNext_90 rfl ?_
  refine sp_nms e2 ?_
  refine sp_aload_n (i := 0) (q := 94) hX dX3_seekNext_93 rfl rfl rfl ?_
  refine sp_iconst (v := 0) (q := 95) hX dX3_seekNext_94 li_0 rfl ?_
  obtain ⟨σ3, e4, hf⟩ := sp_pl_some hf
  refine sp_puti (q := 98) hX fpX3_53 fkX3_5 atX_64 dX3_seekNext_95 rfl ?_
  refine sp_nms e4 ?_
  refine sp_iconst (v := 0) (q := 99) hX dX3_seekNext_98 li_0 rfl ?_
  obtain ⟨x5, e6, hf⟩ := sp_pl_some hf
  refine sp_nmi e6 ?_
  refine sp_istore_n (i := 1) (lv' := [some (.ref (sx_ad X 64)), some (.int x5), none]) (q := 100) hX dX3_seekNext_99 rfl (Nat.le_of_ble_eq_true rfl) rfl rfl rfl ?_
  exact hX3_seekNext_100 hX hR n σ3 x5 hf
set_option maxRecDepth 100000 in
set_option maxHeartbeats 4000000 in
theorem hX3_seekNext_82 {X : sp_X} (hX : sp_OK shX X cX3_seekNext RX3 3 rmX3_seekNext) {τ : sp_St} (hR : sp_Rv shX X τ 0 0) {n : Nat}   {k26 : sp_St → Int32 → Option (sp_St)} (hk26 : ∀ (σ : sp_St) (z1 : Int32), k26 σ z1 = some τ → sp_GG shX X σ 3 [some (.ref (sx_ad X 64)), some (.int z1), none] [] 26 0 0) {σ : sp_St} {z1 : Int32} (hf : X3_seekNext_82 n k26 σ z1 = some τ) : sp_GG shX X σ 3 [some (.ref (sx_ad X 64)), some (.int z1), none] [] 82 0 0 := by
  unfold X3_seekNext_82 at hf
  obtain ⟨x1, e2, hf⟩ := sp_pl_some hf
  refine sp_iinc (i := 1) (v := x1) (lv' := [some (.ref (sx_ad X 64)), some (.int x1), none]) (q := 85) hX dX3_seekNext_82 rfl (by rw [e2, li_1]) (Nat.le_of_ble_eq_true rfl) rfl rfl rfl ?_
  refine sp_goto (tgt := 26) hX dX3_seekNext_85 (by decide) ?_
  exact hk26 σ x1 hf
set_option maxRecDepth 100000 in
set_option maxHeartbeats 4000000 in
theorem hX3_seekNext_76 {X : sp_X} (hX : sp_OK shX X cX3_seekNext RX3 3 rmX3_seekNext) {τ : sp_St} (hR : sp_Rv shX X τ 0 0) {n : Nat}   {k26 : sp_St → Int32 → Option (sp_St)} (hk26 : ∀ (σ : sp_St) (z1 : Int32), k26 σ z1 = some τ → sp_GG shX X σ 3 [some (.ref (sx_ad X 64)), some (.int z1), none] [] 26 0 0) {k42 : sp_St → Int32 → Int32 → Option (sp_St)} (hk42 : ∀ (σ : sp_St) (z1 : Int32) (z2 : Int32), k42 σ z1 z2 = some τ → sp_GG shX X σ 3 [some (.ref (sx_ad X 64)), some (.int z1), some (.int z2)] [] 42 0 0) {σ : sp_St} {z1 : Int32} {z2 : Int32} (hf : X3_seekNext_76 n k26 k42 σ z1 z2 = some τ) : sp_GG shX X σ 3 [some (.ref (sx_ad X 64)), some (.int z1), some (.int z2)] [] 76 0 0 := by
  unfold X3_seekNext_76 at hf
  obtain ⟨x1, e2, hf⟩ := sp_pl_some hf
  refine sp_iinc (i := 2) (v := x1) (lv' := [some (.ref (sx_ad X 64)), some (.int z1), some (.int x1)]) (q := 79) hX dX3_seekNext_76 rfl (by rw [e2, li_1]) (Nat.le_of_ble_eq_true rfl) rfl rfl rfl ?_
  refine sp_goto (tgt := 42) hX dX3_seekNext_79 (by decide) ?_
  exact hk42 σ z1 x1 hf
set_option maxRecDepth 100000 in
set_option maxHeartbeats 4000000 in
theorem hX3_seekNext_42 {X : sp_X} (hX : sp_OK shX X cX3_seekNext RX3 3 rmX3_seekNext) {τ : sp_St} (hR : sp_Rv shX X τ 0 0) {n : Nat}   {k26 : sp_St → Int32 → Option (sp_St)} (hk26 : ∀ (σ : sp_St) (z1 : Int32), k26 σ z1 = some τ → sp_GG shX X σ 3 [some (.ref (sx_ad X 64)), some (.int z1), none] [] 26 0 0) : ∀ (f : Nat) (σ : sp_St) (z1 : Int32) (z2 : Int32), X3_seekNext_42 n k26 f σ z1 z2 = some τ → sp_GG shX X σ 3 [some (.ref (sx_ad X 64)), some (.int z1), some (.int z2)] [] 42 0 0 := by
  intro f
  induction f with
  | zero =>
    intro σ z1 z2 hf
    rw [X3_seekNext_42] at hf
    cases hf
  | succ f ih =>
    intro σ z1 z2 hf
    rw [X3_seekNext_42] at hf
    refine sp_iload_n (i := 2) (q := 43) hX dX3_seekNext_42 rfl rfl rfl ?_
    refine sp_bipush (v := 99) (q := 45) hX dX3_seekNext_43 lb_99 rfl ?_
    refine sp_icmp_gt (tgt := 82) (q := 48) hX dX3_seekNext_45 (by decide) rfl (fun hc => ?_) (fun hc => ?_)
    · rw [if_pos hc] at hf
      refine sp_drop (lv' := [some (.ref (sx_ad X 64)), some (.int z1), none]) (And.intro rfl (And.intro rfl trivial)) ?_
      exact hX3_seekNext_82 hX hR hk26 hf
    · rw [if_neg hc] at hf
      refine sp_iload_n (i := 2) (q := 49) hX dX3_seekNext_48 rfl rfl rfl ?_
      refine sp_aload_n (i := 0) (q := 50) hX dX3_seekNext_49 rfl rfl rfl ?_
      refine sp_gets (t := 23) (q := 53) hX flX3_15 fkX3_0 atX_64 srX_64_0 dX3_seekNext_50 rfl ?_
      refine sp_gets (t := 24) (q := 56) hX flX3_42 fkX8_1 atX_23 srX_23_1 dX3_seekNext_53 rfl ?_
      refine sp_iload_n (i := 1) (q := 57) hX dX3_seekNext_56 rfl rfl rfl ?_
      obtain ⟨h1, hf⟩ := sp_ck_some hf
      refine sp_iald (q := 58) hX arX_24 h1 dX3_seekNext_57 rfl ?_
      refine sp_icmp_eq (tgt := 76) (q := 61) hX dX3_seekNext_58 (by decide) rfl (fun hc => ?_) (fun hc => ?_)
      · rw [if_pos hc] at hf
        exact hX3_seekNext_76 hX hR hk26 ih hf
      · rw [if_neg hc] at hf
        refine sp_aload_n (i := 0) (q := 62) hX dX3_seekNext_61 rfl rfl rfl ?_
        refine sp_iload_n (i := 1) (q := 63) hX dX3_seekNext_62 rfl rfl rfl ?_
        refine sp_iload_n (i := 2) (q := 64) hX dX3_seekNext_63 rfl rfl rfl ?_
        obtain ⟨σ3, v4, h2, hf⟩ := sp_bd_so hf
        refine sp_callVi (As := [.int z1, .int z2]) (rest := []) (q := 67) hX (cnX3_fits (sp_st hX)  h2) cwX3_26 atX_64 rfl rfl rfl rfl rfl (Nat.le_of_ble_eq_true rfl) (Nat.le_of_ble_eq_true rfl) (Nat.le_of_ble_eq_true rfl) (Nat.le_of_ble_eq_true rfl) (Nat.le_of_ble_eq_true rfl) dX3_seekNext_64 rfl ?_
        refine sp_if_eq (tgt := 76) (q := 70) hX dX3_seekNext_67 (by decide) rfl (fun hc => ?_) (fun hc => ?_)
        · rw [if_pos hc] at hf
          exact hX3_seekNext_76 hX hR hk26 ih hf
        · rw [if_neg hc] at hf
          refine sp_aload_n (i := 0) (q := 71) hX dX3_seekNext_70 rfl rfl rfl ?_
          refine sp_iload_n (i := 1) (q := 72) hX dX3_seekNext_71 rfl rfl rfl ?_
          refine sp_iload_n (i := 2) (q := 73) hX dX3_seekNext_72 rfl rfl rfl ?_
          obtain ⟨σ6, h5, hf⟩ := sp_bv_so hf
          refine sp_callVv (As := [.int z1, .int z2]) (rest := []) (q := 76) hX (cnX3_markAngers (sp_st hX)  h5) cwX3_46 atX_64 rfl rfl rfl rfl rfl (Nat.le_of_ble_eq_true rfl) (Nat.le_of_ble_eq_true rfl) (Nat.le_of_ble_eq_true rfl) (Nat.le_of_ble_eq_true rfl) (Nat.le_of_ble_eq_true rfl) dX3_seekNext_73 rfl ?_
          exact hX3_seekNext_76 hX hR hk26 ih hf
set_option maxRecDepth 100000 in
set_option maxHeartbeats 4000000 in
theorem hX3_seekNext_26 {X : sp_X} (hX : sp_OK shX X cX3_seekNext RX3 3 rmX3_seekNext) {τ : sp_St} (hR : sp_Rv shX X τ 0 0) {n : Nat}    : ∀ (f : Nat) (σ : sp_St) (z1 : Int32), X3_seekNext_26 n f σ z1 = some τ → sp_GG shX X σ 3 [some (.ref (sx_ad X 64)), some (.int z1), none] [] 26 0 0 := by
  intro f
  induction f with
  | zero =>
    intro σ z1 hf
    rw [X3_seekNext_26] at hf
    cases hf
  | succ f ih =>
    intro σ z1 hf
    rw [X3_seekNext_26] at hf
    refine sp_iload_n (i := 1) (q := 27) hX dX3_seekNext_26 rfl rfl rfl ?_
    refine sp_aload_n (i := 0) (q := 28) hX dX3_seekNext_27 rfl rfl rfl ?_
    refine sp_gets (t := 23) (q := 31) hX flX3_15 fkX3_0 atX_64 srX_64_0 dX3_seekNext_28 rfl ?_
    obtain ⟨c1, e3, hf⟩ := sp_pl_some hf
    obtain ⟨h2, hf⟩ := sp_ck_some hf
    refine sp_getr (q := 34) hX flX3_30 fkX8_0 atX_23 dX3_seekNext_31 rfl ?_
    refine sp_nmr e3 ?_
    refine sp_geti (q := 37) hX flX3_36 fkX2_13 (sp_isc_at h2) dX3_seekNext_34 rfl ?_
    refine sp_icmp_ge (tgt := 88) (q := 40) hX dX3_seekNext_37 (by decide) rfl (fun hc => ?_) (fun hc => ?_)
    · rw [if_pos hc] at hf
      refine sp_drop (lv' := [some (.ref (sx_ad X 64)), none, none]) (And.intro rfl trivial) ?_
      exact hX3_seekNext_88 hX hR hf
    · rw [if_neg hc] at hf
      refine sp_iconst (v := 0) (q := 41) hX dX3_seekNext_40 li_0 rfl ?_
      obtain ⟨x4, e5, hf⟩ := sp_pl_some hf
      refine sp_nmi e5 ?_
      refine sp_istore_n (i := 2) (lv' := [some (.ref (sx_ad X 64)), some (.int z1), some (.int x4)]) (q := 42) hX dX3_seekNext_41 rfl (Nat.le_of_ble_eq_true rfl) rfl rfl rfl ?_
      exact hX3_seekNext_42 hX hR ih n σ z1 x4 hf
set_option maxRecDepth 100000 in
set_option maxHeartbeats 4000000 in
theorem hX3_seekNext_24 {X : sp_X} (hX : sp_OK shX X cX3_seekNext RX3 3 rmX3_seekNext) {τ : sp_St} (hR : sp_Rv shX X τ 0 0) {n : Nat}    {σ : sp_St} (hf : X3_seekNext_24 n σ = some τ) : sp_GG shX X σ 3 [some (.ref (sx_ad X 64)), none, none] [] 24 0 0 := by
  unfold X3_seekNext_24 at hf
  refine sp_iconst (v := 0) (q := 25) hX dX3_seekNext_24 li_0 rfl ?_
  obtain ⟨x1, e2, hf⟩ := sp_pl_some hf
  refine sp_nmi e2 ?_
  refine sp_istore_n (i := 1) (lv' := [some (.ref (sx_ad X 64)), some (.int x1), none]) (q := 26) hX dX3_seekNext_25 rfl (Nat.le_of_ble_eq_true rfl) rfl rfl rfl ?_
  exact hX3_seekNext_26 hX hR n σ x1 hf
set_option maxRecDepth 100000 in
set_option maxHeartbeats 4000000 in
theorem hX3_seekNext_2 {X : sp_X} (hX : sp_OK shX X cX3_seekNext RX3 3 rmX3_seekNext) {τ : sp_St} (hR : sp_Rv shX X τ 0 0) {n : Nat}    : ∀ (f : Nat) (σ : sp_St) (z1 : Int32), X3_seekNext_2 n f σ z1 = some τ → sp_GG shX X σ 3 [some (.ref (sx_ad X 64)), some (.int z1), none] [] 2 0 0 := by
  intro f
  induction f with
  | zero =>
    intro σ z1 hf
    rw [X3_seekNext_2] at hf
    cases hf
  | succ f ih =>
    intro σ z1 hf
    rw [X3_seekNext_2] at hf
    refine sp_iload_n (i := 1) (q := 3) hX dX3_seekNext_2 rfl rfl rfl ?_
    refine sp_aload_n (i := 0) (q := 4) hX dX3_seekNext_3 rfl rfl rfl ?_
    refine sp_gets (t := 65) (q := 7) hX flX3_9 fkX3_3 atX_64 srX_64_3 dX3_seekNext_4 rfl ?_
    refine sp_alenl (v := (20 : Int32)) (q := 8) hX arX_65 (by decide) dX3_seekNext_7 rfl ?_
    refine sp_icmp_ge (tgt := 24) (q := 11) hX dX3_seekNext_8 (by decide) rfl (fun hc => ?_) (fun hc => ?_)
    · rw [if_pos hc] at hf
      refine sp_drop (lv' := [some (.ref (sx_ad X 64)), none, none]) (And.intro rfl trivial) ?_
      exact hX3_seekNext_24 hX hR hf
    · rw [if_neg hc] at hf
      refine sp_aload_n (i := 0) (q := 12) hX dX3_seekNext_11 rfl rfl rfl ?_
      refine sp_gets (t := 65) (q := 15) hX flX3_9 fkX3_3 atX_64 srX_64_3 dX3_seekNext_12 rfl ?_
      refine sp_iload_n (i := 1) (q := 16) hX dX3_seekNext_15 rfl rfl rfl ?_
      refine sp_lconst (v := 0) (q := 17) hX dX3_seekNext_16 (by decide) rfl ?_
      obtain ⟨h1, hf⟩ := sp_ck_some hf
      obtain ⟨σ2, e3, hf⟩ := sp_pl_some hf
      refine sp_last (q := 18) hX arX_65 h1 dX3_seekNext_17 rfl ?_
      refine sp_nms e3 ?_
      obtain ⟨x4, e5, hf⟩ := sp_pl_some hf
      refine sp_iinc (i := 1) (v := x4) (lv' := [some (.ref (sx_ad X 64)), some (.int x4), none]) (q := 21) hX dX3_seekNext_18 rfl (by rw [e5, li_1]) (Nat.le_of_ble_eq_true rfl) rfl rfl rfl ?_
      refine sp_goto (tgt := 2) hX dX3_seekNext_21 (by decide) ?_
      exact ih σ2 x4 hf
set_option maxRecDepth 100000 in
set_option maxHeartbeats 4000000 in
theorem hX3_seekNext {X : sp_X} (hX : sp_OK shX X cX3_seekNext RX3 3 rmX3_seekNext) {τ : sp_St} (hR : sp_Rv shX X τ 0 0) {n : Nat}  {σ : sp_St}   (hf : X3_seekNext n σ = some τ) : sp_GG shX X σ 3 [some (.ref (sx_ad X 64)), none, none] [] 0 0 0 := by
  unfold X3_seekNext at hf
  refine sp_iconst (v := 0) (q := 1) hX dX3_seekNext_0 li_0 rfl ?_
  obtain ⟨x1, e2, hf⟩ := sp_pl_some hf
  refine sp_nmi e2 ?_
  refine sp_istore_n (i := 1) (lv' := [some (.ref (sx_ad X 64)), some (.int x1), none]) (q := 2) hX dX3_seekNext_1 rfl (Nat.le_of_ble_eq_true rfl) rfl rfl rfl ?_
  exact hX3_seekNext_2 hX hR n σ x1 hf
set_option maxRecDepth 100000 in
set_option maxHeartbeats 4000000 in
theorem cnX3_seekNext {l : Launch} (hst : l.stackTraces = false) {w : sp_Wd} {n : Nat}  {σ : sp_St}  {τ : sp_St}  (hf : X3_seekNext n σ = some τ) : sp_Cv shX l w yX3_seekNext cX3_seekNext 3 rmX3_seekNext 0 0 σ [.ref (w.2.1 64)] τ :=
  sp_cv (own := RX3) (by decide) rfl hst (Nat.le_of_ble_eq_true rfl) rfl (fun X hX hw hl hR => by subst hw; subst hl; exact hX3_seekNext hX hR   hf)
