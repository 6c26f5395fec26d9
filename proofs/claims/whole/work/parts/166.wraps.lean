def rmL_city : Room := { frames := 115, cells := 1, slots := 6, locals := 5311 }
def L_city (n : Nat)  (σ : sp_St) (a1 : Int32) : Option (sp_St × Int32) :=
  sp_bc (X11_city n σ a1) (fun σ2 v6 =>
    sp_pl (sp_sl σ2 68 ((0 : Int32)).toNatClampNeg v6.toInt64) fun σ8 =>
    some (σ8, (0 : Int32)))
    (fun σ2 k7 =>
    sp_ck (decide (k7 = 2)) <|
    some (σ2, (1 : Int32)))
set_option maxRecDepth 100000 in
set_option maxHeartbeats 4000000 in
theorem hL_city {X : sp_X} (hX : sp_OK shX X cL_city "SwordPeaceLaw" 4 rmL_city) {τ : sp_St} {r : Int32} (hR : sp_Ri shX X (some .int) τ r 1 6) {n : Nat} (htab : (sx_c X).exceptionTable.toList = tableOf [(0, 9, 12, 13)])  {σ : sp_St} {a1 : Int32}  (hf : L_city n σ a1 = some (τ, r)) : sp_GG shX X σ 4 [some (.ref (sx_ad X 0)), some (.int a1), some (.ref (sx_ad X 68)), none] [] 0 0 0 := by
  unfold L_city at hf
  refine sp_aload_n (i := 2) (q := 1) hX dL_city_0 rfl rfl rfl ?_
  refine sp_iconst (v := 0) (q := 2) hX dL_city_1 li_0 rfl ?_
  refine sp_aload_n (i := 0) (q := 3) hX dL_city_2 rfl rfl rfl ?_
  refine sp_iload_n (i := 1) (q := 4) hX dL_city_3 rfl rfl rfl ?_
  obtain ⟨σ2, ρ3, h1, hr4, hx5⟩ := sp_bc_so hf
  refine sp_callXc (As := [.int a1]) (rest := [.int ((0 : Int32)), .ref (sx_ad X 68)]) (q := 7) hX (cnX11_city (sp_st hX) h1) cwL_7 atX_0 rfl rfl rfl rfl rfl (Nat.le_of_ble_eq_true rfl) (Nat.le_of_ble_eq_true rfl) (Nat.le_of_ble_eq_true rfl) (Nat.le_of_ble_eq_true rfl) (Nat.le_of_ble_eq_true rfl) dL_city_4 rfl (fun v6 hv => ?_) (fun k7 hk => ?_)
  · have hf := hr4 v6 hv
    refine sp_i2l (q := 8) hX dL_city_7 rfl ?_
    obtain ⟨σ8, e9, hf⟩ := sp_pl_some hf
    refine sp_last (q := 9) hX arX_68 (by decide) dL_city_8 rfl ?_
    refine sp_nms e9 ?_
    refine sp_goto (tgt := 15) hX dL_city_9 (by decide) ?_
    refine sp_iconst (v := 0) (q := 16) hX dL_city_15 li_0 rfl ?_
    exact sp_iret hX hR dL_city_16 hf (Nat.le_of_ble_eq_true rfl) (Nat.le_of_ble_eq_true rfl)
  · have hf := hx5 k7 hk
    obtain ⟨e10, hf⟩ := sp_ck_some hf
    replace e10 := of_decide_eq_true e10
    refine ⟨[], ⟨0, 9, 12, 13⟩, [], by rw [htab]; rfl, (fun z hz => by cases hz), by decide, by decide, by rw [e10]; exact clL_13, fun a9 => ?_⟩
    refine sp_astore_n (i := 3) (lv' := [some (.ref (sx_ad X 0)), some (.int a1), some (.ref (sx_ad X 68)), some (.ref a9)]) (q := 13) hX dL_city_12 rfl (Nat.le_of_ble_eq_true rfl) rfl rfl rfl ?_
    refine sp_iconst (v := 1) (q := 14) hX dL_city_13 li_1 rfl ?_
    exact sp_iret hX hR dL_city_14 hf (Nat.le_of_ble_eq_true rfl) (Nat.le_of_ble_eq_true rfl)
set_option maxRecDepth 100000 in
set_option maxHeartbeats 4000000 in
theorem cnL_city {l : Launch} (hst : l.stackTraces = false) {w : sp_Wd} {n : Nat}  {σ : sp_St} {a1 : Int32} {τ : sp_St} {r : Int32}  (hf : L_city n σ a1 = some (τ, r)) : sp_Cw shX l w yL_city cL_city 4 (some .int) [(0, 9, 12, 13)] rmL_city 1 6 σ [.ref (w.2.1 0), .int a1, .ref (w.2.1 68)] τ r :=
  sp_cw (by decide) rfl hst (Nat.le_of_ble_eq_true rfl) rfl (fun X hX htab hw hl hR => by subst hw; subst hl; exact hL_city hX hR htab  hf)
def rmL_count : Room := { frames := 7, cells := 1, slots := 6, locals := 121 }
def L_count (n : Nat)  (σ : sp_St) (a1 : Int32) : Option (sp_St × Int32) :=
  sp_bc (X11_count n σ a1) (fun σ2 v6 =>
    sp_pl (sp_sl σ2 68 ((0 : Int32)).toNatClampNeg v6.toInt64) fun σ8 =>
    some (σ8, (0 : Int32)))
    (fun σ2 k7 =>
    sp_ck (decide (k7 = 1)) <|
    some (σ2, (1 : Int32)))
set_option maxRecDepth 100000 in
set_option maxHeartbeats 4000000 in
theorem hL_count {X : sp_X} (hX : sp_OK shX X cL_count "SwordPeaceLaw" 4 rmL_count) {τ : sp_St} {r : Int32} (hR : sp_Ri shX X (some .int) τ r 1 6) {n : Nat} (htab : (sx_c X).exceptionTable.toList = tableOf [(0, 9, 12, 18)])  {σ : sp_St} {a1 : Int32}  (hf : L_count n σ a1 = some (τ, r)) : sp_GG shX X σ 4 [some (.ref (sx_ad X 0)), some (.int a1), some (.ref (sx_ad X 68)), none] [] 0 0 0 := by
  unfold L_count at hf
  refine sp_aload_n (i := 2) (q := 1) hX dL_count_0 rfl rfl rfl ?_
  refine sp_iconst (v := 0) (q := 2) hX dL_count_1 li_0 rfl ?_
  refine sp_aload_n (i := 0) (q := 3) hX dL_count_2 rfl rfl rfl ?_
  refine sp_iload_n (i := 1) (q := 4) hX dL_count_3 rfl rfl rfl ?_
  obtain ⟨σ2, ρ3, h1, hr4, hx5⟩ := sp_bc_so hf
  refine sp_callXc (As := [.int a1]) (rest := [.int ((0 : Int32)), .ref (sx_ad X 68)]) (q := 7) hX (cnX11_count (sp_st hX) h1) cwL_15 atX_0 rfl rfl rfl rfl rfl (Nat.le_of_ble_eq_true rfl) (Nat.le_of_ble_eq_true rfl) (Nat.le_of_ble_eq_true rfl) (Nat.le_of_ble_eq_true rfl) (Nat.le_of_ble_eq_true rfl) dL_count_4 rfl (fun v6 hv => ?_) (fun k7 hk => ?_)
  · have hf := hr4 v6 hv
    refine sp_i2l (q := 8) hX dL_count_7 rfl ?_
    obtain ⟨σ8, e9, hf⟩ := sp_pl_some hf
    refine sp_last (q := 9) hX arX_68 (by decide) dL_count_8 rfl ?_
    refine sp_nms e9 ?_
    refine sp_goto (tgt := 15) hX dL_count_9 (by decide) ?_
    refine sp_iconst (v := 0) (q := 16) hX dL_count_15 li_0 rfl ?_
    exact sp_iret hX hR dL_count_16 hf (Nat.le_of_ble_eq_true rfl) (Nat.le_of_ble_eq_true rfl)
  · have hf := hx5 k7 hk
    obtain ⟨e10, hf⟩ := sp_ck_some hf
    replace e10 := of_decide_eq_true e10
    refine ⟨[], ⟨0, 9, 12, 18⟩, [], by rw [htab]; rfl, (fun z hz => by cases hz), by decide, by decide, by rw [e10]; exact clL_18, fun a9 => ?_⟩
    refine sp_astore_n (i := 3) (lv' := [some (.ref (sx_ad X 0)), some (.int a1), some (.ref (sx_ad X 68)), some (.ref a9)]) (q := 13) hX dL_count_12 rfl (Nat.le_of_ble_eq_true rfl) rfl rfl rfl ?_
    refine sp_iconst (v := 1) (q := 14) hX dL_count_13 li_1 rfl ?_
    exact sp_iret hX hR dL_count_14 hf (Nat.le_of_ble_eq_true rfl) (Nat.le_of_ble_eq_true rfl)
set_option maxRecDepth 100000 in
set_option maxHeartbeats 4000000 in
theorem cnL_count {l : Launch} (hst : l.stackTraces = false) {w : sp_Wd} {n : Nat}  {σ : sp_St} {a1 : Int32} {τ : sp_St} {r : Int32}  (hf : L_count n σ a1 = some (τ, r)) : sp_Cw shX l w yL_count cL_count 4 (some .int) [(0, 9, 12, 18)] rmL_count 1 6 σ [.ref (w.2.1 0), .int a1, .ref (w.2.1 68)] τ r :=
  sp_cw (by decide) rfl hst (Nat.le_of_ble_eq_true rfl) rfl (fun X hX htab hw hl hR => by subst hw; subst hl; exact hL_count hX hR htab  hf)
def rmL_blade : Room := { frames := 8, cells := 2, slots := 12, locals := 144 }
def L_blade (n : Nat)  (σ : sp_St) (a1 : Int32) (a2 : Int32) : Option (sp_St × Int32) :=
  sp_bc (X11_blade n σ a1 a2) (fun σ2 v6 =>
    sp_pl (sp_sl σ2 68 ((0 : Int32)).toNatClampNeg v6.toInt64) fun σ8 =>
    some (σ8, (0 : Int32)))
    (fun σ2 k7 =>
    sp_ck (decide (k7 = 1)) <|
    some (σ2, (1 : Int32)))
set_option maxRecDepth 100000 in
set_option maxHeartbeats 4000000 in
theorem hL_blade {X : sp_X} (hX : sp_OK shX X cL_blade "SwordPeaceLaw" 5 rmL_blade) {τ : sp_St} {r : Int32} (hR : sp_Ri shX X (some .int) τ r 2 12) {n : Nat} (htab : (sx_c X).exceptionTable.toList = tableOf [(0, 10, 13, 18)])  {σ : sp_St} {a1 : Int32} {a2 : Int32}  (hf : L_blade n σ a1 a2 = some (τ, r)) : sp_GG shX X σ 5 [some (.ref (sx_ad X 0)), some (.int a1), some (.int a2), some (.ref (sx_ad X 68)), none] [] 0 0 0 := by
  unfold L_blade at hf
  refine sp_aload_n (i := 3) (q := 1) hX dL_blade_0 rfl rfl rfl ?_
  refine sp_iconst (v := 0) (q := 2) hX dL_blade_1 li_0 rfl ?_
  refine sp_aload_n (i := 0) (q := 3) hX dL_blade_2 rfl rfl rfl ?_
  refine sp_iload_n (i := 1) (q := 4) hX dL_blade_3 rfl rfl rfl ?_
  refine sp_iload_n (i := 2) (q := 5) hX dL_blade_4 rfl rfl rfl ?_
  obtain ⟨σ2, ρ3, h1, hr4, hx5⟩ := sp_bc_so hf
  refine sp_callXc (As := [.int a1, .int a2]) (rest := [.int ((0 : Int32)), .ref (sx_ad X 68)]) (q := 8) hX (cnX11_blade (sp_st hX) h1) cwL_20 atX_0 rfl rfl rfl rfl rfl (Nat.le_of_ble_eq_true rfl) (Nat.le_of_ble_eq_true rfl) (Nat.le_of_ble_eq_true rfl) (Nat.le_of_ble_eq_true rfl) (Nat.le_of_ble_eq_true rfl) dL_blade_5 rfl (fun v6 hv => ?_) (fun k7 hk => ?_)
  · have hf := hr4 v6 hv
    refine sp_i2l (q := 9) hX dL_blade_8 rfl ?_
    obtain ⟨σ8, e9, hf⟩ := sp_pl_some hf
    refine sp_last (q := 10) hX arX_68 (by decide) dL_blade_9 rfl ?_
    refine sp_nms e9 ?_
    refine sp_goto (tgt := 17) hX dL_blade_10 (by decide) ?_
    refine sp_iconst (v := 0) (q := 18) hX dL_blade_17 li_0 rfl ?_
    exact sp_iret hX hR dL_blade_18 hf (Nat.le_of_ble_eq_true rfl) (Nat.le_of_ble_eq_true rfl)
  · have hf := hx5 k7 hk
    obtain ⟨e10, hf⟩ := sp_ck_some hf
    replace e10 := of_decide_eq_true e10
    refine ⟨[], ⟨0, 10, 13, 18⟩, [], by rw [htab]; rfl, (fun z hz => by cases hz), by decide, by decide, by rw [e10]; exact clL_18, fun a9 => ?_⟩
    refine sp_astore (i := 4) (lv' := [some (.ref (sx_ad X 0)), some (.int a1), some (.int a2), some (.ref (sx_ad X 68)), some (.ref a9)]) (q := 15) hX dL_blade_13 (Nat.le_of_ble_eq_true rfl) rfl rfl rfl ?_
    refine sp_iconst (v := 1) (q := 16) hX dL_blade_15 li_1 rfl ?_
    exact sp_iret hX hR dL_blade_16 hf (Nat.le_of_ble_eq_true rfl) (Nat.le_of_ble_eq_true rfl)
set_option maxRecDepth 100000 in
set_option maxHeartbeats 4000000 in
theorem cnL_blade {l : Launch} (hst : l.stackTraces = false) {w : sp_Wd} {n : Nat}  {σ : sp_St} {a1 : Int32} {a2 : Int32} {τ : sp_St} {r : Int32}  (hf : L_blade n σ a1 a2 = some (τ, r)) : sp_Cw shX l w yL_blade cL_blade 5 (some .int) [(0, 10, 13, 18)] rmL_blade 2 12 σ [.ref (w.2.1 0), .int a1, .int a2, .ref (w.2.1 68)] τ r :=
  sp_cw (by decide) rfl hst (Nat.le_of_ble_eq_true rfl) rfl (fun X hX htab hw hl hR => by subst hw; subst hl; exact hL_blade hX hR htab  hf)
def rmL_throat : Room := { frames := 8, cells := 2, slots := 12, locals := 144 }
def L_throat (n : Nat)  (σ : sp_St) (a1 : Int32) (a2 : Int32) : Option (sp_St × Int32) :=
  sp_bc (X11_throat n σ a1 a2) (fun σ2 v6 =>
    sp_pl (sp_sl σ2 68 ((0 : Int32)).toNatClampNeg v6.toInt64) fun σ8 =>
    some (σ8, (0 : Int32)))
    (fun σ2 k7 =>
    sp_ck (decide (k7 = 1)) <|
    some (σ2, (1 : Int32)))
set_option maxRecDepth 100000 in
set_option maxHeartbeats 4000000 in
theorem hL_throat {X : sp_X} (hX : sp_OK shX X cL_throat "SwordPeaceLaw" 5 rmL_throat) {τ : sp_St} {r : Int32} (hR : sp_Ri shX X (some .int) τ r 2 12) {n : Nat} (htab : (sx_c X).exceptionTable.toList = tableOf [(0, 10, 13, 18)])  {σ : sp_St} {a1 : Int32} {a2 : Int32}  (hf : L_throat n σ a1 a2 = some (τ, r)) : sp_GG shX X σ 5 [some (.ref (sx_ad X 0)), some (.int a1), some (.int a2), some (.ref (sx_ad X 68)), none] [] 0 0 0 := by
  unfold L_throat at hf
  refine sp_aload_n (i := 3) (q := 1) hX dL_throat_0 rfl rfl rfl ?_
  refine sp_iconst (v := 0) (q := 2) hX dL_throat_1 li_0 rfl ?_
  refine sp_aload_n (i := 0) (q := 3) hX dL_throat_2 rfl rfl rfl ?_
  refine sp_iload_n (i := 1) (q := 4) hX dL_throat_3 rfl rfl rfl ?_
  refine sp_iload_n (i := 2) (q := 5) hX dL_throat_4 rfl rfl rfl ?_
  obtain ⟨σ2, ρ3, h1, hr4, hx5⟩ := sp_bc_so hf
  refine sp_callXc (As := [.int a1, .int a2]) (rest := [.int ((0 : Int32)), .ref (sx_ad X 68)]) (q := 8) hX (cnX11_throat (sp_st hX) h1) cwL_24 atX_0 rfl rfl rfl rfl rfl (Nat.le_of_ble_eq_true rfl) (Nat.le_of_ble_eq_true rfl) (Nat.le_of_ble_eq_true rfl) (Nat.le_of_ble_eq_true rfl) (Nat.le_of_ble_eq_true rfl) dL_throat_5 rfl (fun v6 hv => ?_) (fun k7 hk => ?_)
  · have hf := hr4 v6 hv
    refine sp_i2l (q := 9) hX dL_throat_8 rfl ?_
    obtain ⟨σ8, e9, hf⟩ := sp_pl_some hf
    refine sp_last (q := 10) hX arX_68 (by decide) dL_throat_9 rfl ?_
    refine sp_nms e9 ?_
    refine sp_goto (tgt := 17) hX dL_throat_10 (by decide) ?_
    refine sp_iconst (v := 0) (q := 18) hX dL_throat_17 li_0 rfl ?_
    exact sp_iret hX hR dL_throat_18 hf (Nat.le_of_ble_eq_true rfl) (Nat.le_of_ble_eq_true rfl)
  · have hf := hx5 k7 hk
    obtain ⟨e10, hf⟩ := sp_ck_some hf
    replace e10 := of_decide_eq_true e10
    refine ⟨[], ⟨0, 10, 13, 18⟩, [], by rw [htab]; rfl, (fun z hz => by cases hz), by decide, by decide, by rw [e10]; exact clL_18, fun a9 => ?_⟩
    refine sp_astore (i := 4) (lv' := [some (.ref (sx_ad X 0)), some (.int a1), some (.int a2), some (.ref (sx_ad X 68)), some (.ref a9)]) (q := 15) hX dL_throat_13 (Nat.le_of_ble_eq_true rfl) rfl rfl rfl ?_
    refine sp_iconst (v := 1) (q := 16) hX dL_throat_15 li_1 rfl ?_
    exact sp_iret hX hR dL_throat_16 hf (Nat.le_of_ble_eq_true rfl) (Nat.le_of_ble_eq_true rfl)
set_option maxRecDepth 100000 in
set_option maxHeartbeats 4000000 in
theorem cnL_throat {l : Launch} (hst : l.stackTraces = false) {w : sp_Wd} {n : Nat}  {σ : sp_St} {a1 : Int32} {a2 : Int32} {τ : sp_St} {r : Int32}  (hf : L_throat n σ a1 a2 = some (τ, r)) : sp_Cw shX l w yL_throat cL_throat 5 (some .int) [(0, 10, 13, 18)] rmL_throat 2 12 σ [.ref (w.2.1 0), .int a1, .int a2, .ref (w.2.1 68)] τ r :=
  sp_cw (by decide) rfl hst (Nat.le_of_ble_eq_true rfl) rfl (fun X hX htab hw hl hR => by subst hw; subst hl; exact hL_throat hX hR htab  hf)
def rmL_feud : Room := { frames := 8, cells := 2, slots := 12, locals := 143 }
def L_feud_16 (n : Nat) (σ : sp_St) (zs0 : Int64) (zs1 : Int32) : Option (sp_St × Int32) :=
  sp_ck (sp_in zs1 1) <|
  sp_pl (sp_sl σ 68 zs1.toNatClampNeg zs0) fun σ2 =>
  some (σ2, (0 : Int32))
def L_feud (n : Nat)  (σ : sp_St) (a1 : Int32) (a2 : Int32) : Option (sp_St × Int32) :=
  sp_bc (X11_feud n σ a1 a2) (fun σ2 v6 =>
    if v6 = 0 then
      L_feud_16 n σ2 ((0 : Int64)) ((0 : Int32))
    else
      L_feud_16 n σ2 ((1 : Int64)) ((0 : Int32)))
    (fun σ2 k7 =>
    sp_ck (decide (k7 = 1)) <|
    some (σ2, (1 : Int32)))
set_option maxRecDepth 100000 in
set_option maxHeartbeats 4000000 in
theorem hL_feud_16 {X : sp_X} (hX : sp_OK shX X cL_feud "SwordPeaceLaw" 5 rmL_feud) {τ : sp_St} {r : Int32} (hR : sp_Ri shX X (some .int) τ r 2 12) {n : Nat} (htab : (sx_c X).exceptionTable.toList = tableOf [(0, 17, 20, 18)])    {σ : sp_St} {zs0 : Int64} {zs1 : Int32} (hf : L_feud_16 n σ zs0 zs1 = some (τ, r)) : sp_GG shX X σ 5 [none, none, none, none, none] [.long zs0, .int zs1, .ref (sx_ad X 68)] 16 2 12 := by
  unfold L_feud_16 at hf
  obtain ⟨h1, hf⟩ := sp_ck_some hf
  obtain ⟨σ2, e3, hf⟩ := sp_pl_some hf
  refine sp_last (q := 17) hX arX_68 h1 dL_feud_16 rfl ?_
  refine sp_nms e3 ?_
  refine sp_goto (tgt := 24) hX dL_feud_17 (by decide) ?_
  refine sp_iconst (v := 0) (q := 25) hX dL_feud_24 li_0 rfl ?_
  exact sp_iret hX hR dL_feud_25 hf (Nat.le_of_ble_eq_true rfl) (Nat.le_of_ble_eq_true rfl)
set_option maxRecDepth 100000 in
set_option maxHeartbeats 4000000 in
theorem hL_feud {X : sp_X} (hX : sp_OK shX X cL_feud "SwordPeaceLaw" 5 rmL_feud) {τ : sp_St} {r : Int32} (hR : sp_Ri shX X (some .int) τ r 2 12) {n : Nat} (htab : (sx_c X).exceptionTable.toList = tableOf [(0, 17, 20, 18)])  {σ : sp_St} {a1 : Int32} {a2 : Int32}  (hf : L_feud n σ a1 a2 = some (τ, r)) : sp_GG shX X σ 5 [some (.ref (sx_ad X 0)), some (.int a1), some (.int a2), some (.ref (sx_ad X 68)), none] [] 0 0 0 := by
  unfold L_feud at hf
  refine sp_aload_n (i := 3) (q := 1) hX dL_feud_0 rfl rfl rfl ?_
  refine sp_iconst (v := 0) (q := 2) hX dL_feud_1 li_0 rfl ?_
  refine sp_aload_n (i := 0) (q := 3) hX dL_feud_2 rfl rfl rfl ?_
  refine sp_iload_n (i := 1) (q := 4) hX dL_feud_3 rfl rfl rfl ?_
  refine sp_iload_n (i := 2) (q := 5) hX dL_feud_4 rfl rfl rfl ?_
  obtain ⟨σ2, ρ3, h1, hr4, hx5⟩ := sp_bc_so hf
  refine sp_callXc (As := [.int a1, .int a2]) (rest := [.int ((0 : Int32)), .ref (sx_ad X 68)]) (q := 8) hX (cnX11_feud (sp_st hX) h1) cwL_27 atX_0 rfl rfl rfl rfl rfl (Nat.le_of_ble_eq_true rfl) (Nat.le_of_ble_eq_true rfl) (Nat.le_of_ble_eq_true rfl) (Nat.le_of_ble_eq_true rfl) (Nat.le_of_ble_eq_true rfl) dL_feud_5 rfl (fun v6 hv => ?_) (fun k7 hk => ?_)
  · have hf := hr4 v6 hv
    refine sp_if_eq (tgt := 15) (q := 11) hX dL_feud_8 (by decide) rfl (fun hc => ?_) (fun hc => ?_)
    · rw [if_pos hc] at hf
      refine sp_lconst (v := 0) (q := 16) hX dL_feud_15 (by decide) rfl ?_
      refine sp_drop (lv' := [none, none, none, none, none]) trivial ?_
      exact hL_feud_16 hX hR htab hf
    · rw [if_neg hc] at hf
      refine sp_lconst (v := 1) (q := 12) hX dL_feud_11 (by decide) rfl ?_
      refine sp_goto (tgt := 16) hX dL_feud_12 (by decide) ?_
      refine sp_drop (lv' := [none, none, none, none, none]) trivial ?_
      exact hL_feud_16 hX hR htab hf
  · have hf := hx5 k7 hk
    obtain ⟨e8, hf⟩ := sp_ck_some hf
    replace e8 := of_decide_eq_true e8
    refine ⟨[], ⟨0, 17, 20, 18⟩, [], by rw [htab]; rfl, (fun z hz => by cases hz), by decide, by decide, by rw [e8]; exact clL_18, fun a9 => ?_⟩
    refine sp_astore (i := 4) (lv' := [some (.ref (sx_ad X 0)), some (.int a1), some (.int a2), some (.ref (sx_ad X 68)), some (.ref a9)]) (q := 22) hX dL_feud_20 (Nat.le_of_ble_eq_true rfl) rfl rfl rfl ?_
    refine sp_iconst (v := 1) (q := 23) hX dL_feud_22 li_1 rfl ?_
    exact sp_iret hX hR dL_feud_23 hf (Nat.le_of_ble_eq_true rfl) (Nat.le_of_ble_eq_true rfl)
set_option maxRecDepth 100000 in
set_option maxHeartbeats 4000000 in
theorem cnL_feud {l : Launch} (hst : l.stackTraces = false) {w : sp_Wd} {n : Nat}  {σ : sp_St} {a1 : Int32} {a2 : Int32} {τ : sp_St} {r : Int32}  (hf : L_feud n σ a1 a2 = some (τ, r)) : sp_Cw shX l w yL_feud cL_feud 5 (some .int) [(0, 17, 20, 18)] rmL_feud 2 12 σ [.ref (w.2.1 0), .int a1, .int a2, .ref (w.2.1 68)] τ r :=
  sp_cw (by decide) rfl hst (Nat.le_of_ble_eq_true rfl) rfl (fun X hX htab hw hl hR => by subst hw; subst hl; exact hL_feud hX hR htab  hf)
def rmL_swallow : Room := { frames := 8, cells := 2, slots := 12, locals := 144 }
def L_swallow (n : Nat)  (σ : sp_St) (a1 : Int32) (a2 : Int32) : Option (sp_St × Int32) :=
  sp_bc (X11_swallow n σ a1 a2) (fun σ2 v6 =>
    sp_pl (sp_sl σ2 68 ((0 : Int32)).toNatClampNeg v6.toInt64) fun σ8 =>
    some (σ8, (0 : Int32)))
    (fun σ2 k7 =>
    sp_ck (decide (k7 = 1)) <|
    some (σ2, (1 : Int32)))
set_option maxRecDepth 100000 in
set_option maxHeartbeats 4000000 in
theorem hL_swallow {X : sp_X} (hX : sp_OK shX X cL_swallow "SwordPeaceLaw" 5 rmL_swallow) {τ : sp_St} {r : Int32} (hR : sp_Ri shX X (some .int) τ r 2 12) {n : Nat} (htab : (sx_c X).exceptionTable.toList = tableOf [(0, 10, 13, 18)])  {σ : sp_St} {a1 : Int32} {a2 : Int32}  (hf : L_swallow n σ a1 a2 = some (τ, r)) : sp_GG shX X σ 5 [some (.ref (sx_ad X 0)), some (.int a1), some (.int a2), some (.ref (sx_ad X 68)), none] [] 0 0 0 := by
  unfold L_swallow at hf
  refine sp_aload_n (i := 3) (q := 1) hX dL_swallow_0 rfl rfl rfl ?_
  refine sp_iconst (v := 0) (q := 2) hX dL_swallow_1 li_0 rfl ?_
  refine sp_aload_n (i := 0) (q := 3) hX dL_swallow_2 rfl rfl rfl ?_
  refine sp_iload_n (i := 1) (q := 4) hX dL_swallow_3 rfl rfl rfl ?_
  refine sp_iload_n (i := 2) (q := 5) hX dL_swallow_4 rfl rfl rfl ?_
  obtain ⟨σ2, ρ3, h1, hr4, hx5⟩ := sp_bc_so hf
  refine sp_callXc (As := [.int a1, .int a2]) (rest := [.int ((0 : Int32)), .ref (sx_ad X 68)]) (q := 8) hX (cnX11_swallow (sp_st hX) h1) cwL_31 atX_0 rfl rfl rfl rfl rfl (Nat.le_of_ble_eq_true rfl) (Nat.le_of_ble_eq_true rfl) (Nat.le_of_ble_eq_true rfl) (Nat.le_of_ble_eq_true rfl) (Nat.le_of_ble_eq_true rfl) dL_swallow_5 rfl (fun v6 hv => ?_) (fun k7 hk => ?_)
  · have hf := hr4 v6 hv
    refine sp_i2l (q := 9) hX dL_swallow_8 rfl ?_
    obtain ⟨σ8, e9, hf⟩ := sp_pl_some hf
    refine sp_last (q := 10) hX arX_68 (by decide) dL_swallow_9 rfl ?_
    refine sp_nms e9 ?_
    refine sp_goto (tgt := 17) hX dL_swallow_10 (by decide) ?_
    refine sp_iconst (v := 0) (q := 18) hX dL_swallow_17 li_0 rfl ?_
    exact sp_iret hX hR dL_swallow_18 hf (Nat.le_of_ble_eq_true rfl) (Nat.le_of_ble_eq_true rfl)
  · have hf := hx5 k7 hk
    obtain ⟨e10, hf⟩ := sp_ck_some hf
    replace e10 := of_decide_eq_true e10
    refine ⟨[], ⟨0, 10, 13, 18⟩, [], by rw [htab]; rfl, (fun z hz => by cases hz), by decide, by decide, by rw [e10]; exact clL_18, fun a9 => ?_⟩
    refine sp_astore (i := 4) (lv' := [some (.ref (sx_ad X 0)), some (.int a1), some (.int a2), some (.ref (sx_ad X 68)), some (.ref a9)]) (q := 15) hX dL_swallow_13 (Nat.le_of_ble_eq_true rfl) rfl rfl rfl ?_
    refine sp_iconst (v := 1) (q := 16) hX dL_swallow_15 li_1 rfl ?_
    exact sp_iret hX hR dL_swallow_16 hf (Nat.le_of_ble_eq_true rfl) (Nat.le_of_ble_eq_true rfl)
set_option maxRecDepth 100000 in
set_option maxHeartbeats 4000000 in
theorem cnL_swallow {l : Launch} (hst : l.stackTraces = false) {w : sp_Wd} {n : Nat}  {σ : sp_St} {a1 : Int32} {a2 : Int32} {τ : sp_St} {r : Int32}  (hf : L_swallow n σ a1 a2 = some (τ, r)) : sp_Cw shX l w yL_swallow cL_swallow 5 (some .int) [(0, 10, 13, 18)] rmL_swallow 2 12 σ [.ref (w.2.1 0), .int a1, .int a2, .ref (w.2.1 68)] τ r :=
  sp_cw (by decide) rfl hst (Nat.le_of_ble_eq_true rfl) rfl (fun X hX htab hw hl hR => by subst hw; subst hl; exact hL_swallow hX hR htab  hf)
def rmL_draw : Room := { frames := 8, cells := 1, slots := 6, locals := 143 }
def L_draw (n : Nat)  (σ : sp_St) (a1 : Int32) : Option (sp_St × Int32) :=
  sp_bc (X11_draw n σ a1) (fun σ2 v6 =>
    sp_pl (sp_sl σ2 68 ((0 : Int32)).toNatClampNeg v6.toInt64) fun σ8 =>
    some (σ8, (0 : Int32)))
    (fun σ2 k7 =>
    sp_ck (decide (k7 = 1)) <|
    some (σ2, (1 : Int32)))
set_option maxRecDepth 100000 in
set_option maxHeartbeats 4000000 in
theorem hL_draw {X : sp_X} (hX : sp_OK shX X cL_draw "SwordPeaceLaw" 4 rmL_draw) {τ : sp_St} {r : Int32} (hR : sp_Ri shX X (some .int) τ r 1 6) {n : Nat} (htab : (sx_c X).exceptionTable.toList = tableOf [(0, 9, 12, 18)])  {σ : sp_St} {a1 : Int32}  (hf : L_draw n σ a1 = some (τ, r)) : sp_GG shX X σ 4 [some (.ref (sx_ad X 0)), some (.int a1), some (.ref (sx_ad X 68)), none] [] 0 0 0 := by
  unfold L_draw at hf
  refine sp_aload_n (i := 2) (q := 1) hX dL_draw_0 rfl rfl rfl ?_
  refine sp_iconst (v := 0) (q := 2) hX dL_draw_1 li_0 rfl ?_
  refine sp_aload_n (i := 0) (q := 3) hX dL_draw_2 rfl rfl rfl ?_
  refine sp_iload_n (i := 1) (q := 4) hX dL_draw_3 rfl rfl rfl ?_
  obtain ⟨σ2, ρ3, h1, hr4, hx5⟩ := sp_bc_so hf
  refine sp_callXc (As := [.int a1]) (rest := [.int ((0 : Int32)), .ref (sx_ad X 68)]) (q := 7) hX (cnX11_draw (sp_st hX) h1) cwL_34 atX_0 rfl rfl rfl rfl rfl (Nat.le_of_ble_eq_true rfl) (Nat.le_of_ble_eq_true rfl) (Nat.le_of_ble_eq_true rfl) (Nat.le_of_ble_eq_true rfl) (Nat.le_of_ble_eq_true rfl) dL_draw_4 rfl (fun v6 hv => ?_) (fun k7 hk => ?_)
  · have hf := hr4 v6 hv
    refine sp_i2l (q := 8) hX dL_draw_7 rfl ?_
    obtain ⟨σ8, e9, hf⟩ := sp_pl_some hf
    refine sp_last (q := 9) hX arX_68 (by decide) dL_draw_8 rfl ?_
    refine sp_nms e9 ?_
    refine sp_goto (tgt := 15) hX dL_draw_9 (by decide) ?_
    refine sp_iconst (v := 0) (q := 16) hX dL_draw_15 li_0 rfl ?_
    exact sp_iret hX hR dL_draw_16 hf (Nat.le_of_ble_eq_true rfl) (Nat.le_of_ble_eq_true rfl)
  · have hf := hx5 k7 hk
    obtain ⟨e10, hf⟩ := sp_ck_some hf
    replace e10 := of_decide_eq_true e10
    refine ⟨[], ⟨0, 9, 12, 18⟩, [], by rw [htab]; rfl, (fun z hz => by cases hz), by decide, by decide, by rw [e10]; exact clL_18, fun a9 => ?_⟩
    refine sp_astore_n (i := 3) (lv' := [some (.ref (sx_ad X 0)), some (.int a1), some (.ref (sx_ad X 68)), some (.ref a9)]) (q := 13) hX dL_draw_12 rfl (Nat.le_of_ble_eq_true rfl) rfl rfl rfl ?_
    refine sp_iconst (v := 1) (q := 14) hX dL_draw_13 li_1 rfl ?_
    exact sp_iret hX hR dL_draw_14 hf (Nat.le_of_ble_eq_true rfl) (Nat.le_of_ble_eq_true rfl)
set_option maxRecDepth 100000 in
set_option maxHeartbeats 4000000 in
theorem cnL_draw {l : Launch} (hst : l.stackTraces = false) {w : sp_Wd} {n : Nat}  {σ : sp_St} {a1 : Int32} {τ : sp_St} {r : Int32}  (hf : L_draw n σ a1 = some (τ, r)) : sp_Cw shX l w yL_draw cL_draw 4 (some .int) [(0, 9, 12, 18)] rmL_draw 1 6 σ [.ref (w.2.1 0), .int a1, .ref (w.2.1 68)] τ r :=
  sp_cw (by decide) rfl hst (Nat.le_of_ble_eq_true rfl) rfl (fun X hX htab hw hl hR => by subst hw; subst hl; exact hL_draw hX hR htab  hf)
def rmL_broth : Room := { frames := 8, cells := 1, slots := 6, locals := 145 }
def L_broth (n : Nat)  (σ : sp_St) (a1 : Int32) (a2 : Int32) : Option (sp_St × Int32) :=
  sp_bc (X11_broth n σ a1 a2) (fun σ2 v6 =>
    sp_pl (sp_sl σ2 68 ((0 : Int32)).toNatClampNeg v6.toInt64) fun σ8 =>
    some (σ8, (0 : Int32)))
    (fun σ2 k7 =>
    sp_ck (decide (k7 = 1)) <|
    some (σ2, (1 : Int32)))
set_option maxRecDepth 100000 in
set_option maxHeartbeats 4000000 in
theorem hL_broth {X : sp_X} (hX : sp_OK shX X cL_broth "SwordPeaceLaw" 5 rmL_broth) {τ : sp_St} {r : Int32} (hR : sp_Ri shX X (some .int) τ r 1 6) {n : Nat} (htab : (sx_c X).exceptionTable.toList = tableOf [(0, 10, 13, 18)])  {σ : sp_St} {a1 : Int32} {a2 : Int32}  (hf : L_broth n σ a1 a2 = some (τ, r)) : sp_GG shX X σ 5 [some (.ref (sx_ad X 0)), some (.int a1), some (.int a2), some (.ref (sx_ad X 68)), none] [] 0 0 0 := by
  unfold L_broth at hf
  refine sp_aload_n (i := 3) (q := 1) hX dL_broth_0 rfl rfl rfl ?_
  refine sp_iconst (v := 0) (q := 2) hX dL_broth_1 li_0 rfl ?_
  refine sp_aload_n (i := 0) (q := 3) hX dL_broth_2 rfl rfl rfl ?_
  refine sp_iload_n (i := 1) (q := 4) hX dL_broth_3 rfl rfl rfl ?_
  refine sp_iload_n (i := 2) (q := 5) hX dL_broth_4 rfl rfl rfl ?_
  obtain ⟨σ2, ρ3, h1, hr4, hx5⟩ := sp_bc_so hf
  refine sp_callXc (As := [.int a1, .int a2]) (rest := [.int ((0 : Int32)), .ref (sx_ad X 68)]) (q := 8) hX (cnX11_broth (sp_st hX) h1) cwL_37 atX_0 rfl rfl rfl rfl rfl (Nat.le_of_ble_eq_true rfl) (Nat.le_of_ble_eq_true rfl) (Nat.le_of_ble_eq_true rfl) (Nat.le_of_ble_eq_true rfl) (Nat.le_of_ble_eq_true rfl) dL_broth_5 rfl (fun v6 hv => ?_) (fun k7 hk => ?_)
  · have hf := hr4 v6 hv
    refine sp_i2l (q := 9) hX dL_broth_8 rfl ?_
    obtain ⟨σ8, e9, hf⟩ := sp_pl_some hf
    refine sp_last (q := 10) hX arX_68 (by decide) dL_broth_9 rfl ?_
    refine sp_nms e9 ?_
    refine sp_goto (tgt := 17) hX dL_broth_10 (by decide) ?_
    refine sp_iconst (v := 0) (q := 18) hX dL_broth_17 li_0 rfl ?_
    exact sp_iret hX hR dL_broth_18 hf (Nat.le_of_ble_eq_true rfl) (Nat.le_of_ble_eq_true rfl)
  · have hf := hx5 k7 hk
    obtain ⟨e10, hf⟩ := sp_ck_some hf
    replace e10 := of_decide_eq_true e10
    refine ⟨[], ⟨0, 10, 13, 18⟩, [], by rw [htab]; rfl, (fun z hz => by cases hz), by decide, by decide, by rw [e10]; exact clL_18, fun a9 => ?_⟩
    refine sp_astore (i := 4) (lv' := [some (.ref (sx_ad X 0)), some (.int a1), some (.int a2), some (.ref (sx_ad X 68)), some (.ref a9)]) (q := 15) hX dL_broth_13 (Nat.le_of_ble_eq_true rfl) rfl rfl rfl ?_
    refine sp_iconst (v := 1) (q := 16) hX dL_broth_15 li_1 rfl ?_
    exact sp_iret hX hR dL_broth_16 hf (Nat.le_of_ble_eq_true rfl) (Nat.le_of_ble_eq_true rfl)
set_option maxRecDepth 100000 in
set_option maxHeartbeats 4000000 in
theorem cnL_broth {l : Launch} (hst : l.stackTraces = false) {w : sp_Wd} {n : Nat}  {σ : sp_St} {a1 : Int32} {a2 : Int32} {τ : sp_St} {r : Int32}  (hf : L_broth n σ a1 a2 = some (τ, r)) : sp_Cw shX l w yL_broth cL_broth 5 (some .int) [(0, 10, 13, 18)] rmL_broth 1 6 σ [.ref (w.2.1 0), .int a1, .int a2, .ref (w.2.1 68)] τ r :=
  sp_cw (by decide) rfl hst (Nat.le_of_ble_eq_true rfl) rfl (fun X hX htab hw hl hR => by subst hw; subst hl; exact hL_broth hX hR htab  hf)
def rmL_make : Room := { frames := 8, cells := 2, slots := 12, locals := 144 }
def L_make_18 (n : Nat) (σ : sp_St) (zs0 : Int64) (zs1 : Int32) : Option (sp_St × Int32) :=
  sp_ck (sp_in zs1 1) <|
  sp_pl (sp_sl σ 68 zs1.toNatClampNeg zs0) fun σ2 =>
  some (σ2, (0 : Int32))
def L_make (n : Nat)  (σ : sp_St) (a1 : Int32) (a2 : Int32) (a3 : Int32) : Option (sp_St × Int32) :=
  sp_bc (X11_make n σ a1 a2 a3) (fun σ2 v6 =>
    if v6 = 0 then
      L_make_18 n σ2 ((0 : Int64)) ((0 : Int32))
    else
      L_make_18 n σ2 ((1 : Int64)) ((0 : Int32)))
    (fun σ2 k7 =>
    sp_ck (decide (k7 = 1)) <|
    some (σ2, (1 : Int32)))
set_option maxRecDepth 100000 in
set_option maxHeartbeats 4000000 in
theorem hL_make_18 {X : sp_X} (hX : sp_OK shX X cL_make "SwordPeaceLaw" 6 rmL_make) {τ : sp_St} {r : Int32} (hR : sp_Ri shX X (some .int) τ r 2 12) {n : Nat} (htab : (sx_c X).exceptionTable.toList = tableOf [(0, 19, 22, 18)])    {σ : sp_St} {zs0 : Int64} {zs1 : Int32} (hf : L_make_18 n σ zs0 zs1 = some (τ, r)) : sp_GG shX X σ 6 [none, none, none, none, none, none] [.long zs0, .int zs1, .ref (sx_ad X 68)] 18 2 12 := by
  unfold L_make_18 at hf
  obtain ⟨h1, hf⟩ := sp_ck_some hf
  obtain ⟨σ2, e3, hf⟩ := sp_pl_some hf
  refine sp_last (q := 19) hX arX_68 h1 dL_make_18 rfl ?_
  refine sp_nms e3 ?_
  refine sp_goto (tgt := 26) hX dL_make_19 (by decide) ?_
  refine sp_iconst (v := 0) (q := 27) hX dL_make_26 li_0 rfl ?_
  exact sp_iret hX hR dL_make_27 hf (Nat.le_of_ble_eq_true rfl) (Nat.le_of_ble_eq_true rfl)
set_option maxRecDepth 100000 in
set_option maxHeartbeats 4000000 in
theorem hL_make {X : sp_X} (hX : sp_OK shX X cL_make "SwordPeaceLaw" 6 rmL_make) {τ : sp_St} {r : Int32} (hR : sp_Ri shX X (some .int) τ r 2 12) {n : Nat} (htab : (sx_c X).exceptionTable.toList = tableOf [(0, 19, 22, 18)])  {σ : sp_St} {a1 : Int32} {a2 : Int32} {a3 : Int32}  (hf : L_make n σ a1 a2 a3 = some (τ, r)) : sp_GG shX X σ 6 [some (.ref (sx_ad X 0)), some (.int a1), some (.int a2), some (.int a3), some (.ref (sx_ad X 68)), none] [] 0 0 0 := by
  unfold L_make at hf
  refine sp_aload (i := 4) (q := 2) hX dL_make_0 rfl rfl ?_
  refine sp_iconst (v := 0) (q := 3) hX dL_make_2 li_0 rfl ?_
  refine sp_aload_n (i := 0) (q := 4) hX dL_make_3 rfl rfl rfl ?_
  refine sp_iload_n (i := 1) (q := 5) hX dL_make_4 rfl rfl rfl ?_
  refine sp_iload_n (i := 2) (q := 6) hX dL_make_5 rfl rfl rfl ?_
  refine sp_iload_n (i := 3) (q := 7) hX dL_make_6 rfl rfl rfl ?_
  obtain ⟨σ2, ρ3, h1, hr4, hx5⟩ := sp_bc_so hf
  refine sp_callXc (As := [.int a1, .int a2, .int a3]) (rest := [.int ((0 : Int32)), .ref (sx_ad X 68)]) (q := 10) hX (cnX11_make (sp_st hX) h1) cwL_40 atX_0 rfl rfl rfl rfl rfl (Nat.le_of_ble_eq_true rfl) (Nat.le_of_ble_eq_true rfl) (Nat.le_of_ble_eq_true rfl) (Nat.le_of_ble_eq_true rfl) (Nat.le_of_ble_eq_true rfl) dL_make_7 rfl (fun v6 hv => ?_) (fun k7 hk => ?_)
  · have hf := hr4 v6 hv
    refine sp_if_eq (tgt := 17) (q := 13) hX dL_make_10 (by decide) rfl (fun hc => ?_) (fun hc => ?_)
    · rw [if_pos hc] at hf
      refine sp_lconst (v := 0) (q := 18) hX dL_make_17 (by decide) rfl ?_
      refine sp_drop (lv' := [none, none, none, none, none, none]) trivial ?_
      exact hL_make_18 hX hR htab hf
    · rw [if_neg hc] at hf
      refine sp_lconst (v := 1) (q := 14) hX dL_make_13 (by decide) rfl ?_
      refine sp_goto (tgt := 18) hX dL_make_14 (by decide) ?_
      refine sp_drop (lv' := [none, none, none, none, none, none]) trivial ?_
      exact hL_make_18 hX hR htab hf
  · have hf := hx5 k7 hk
    obtain ⟨e8, hf⟩ := sp_ck_some hf
    replace e8 := of_decide_eq_true e8
    refine ⟨[], ⟨0, 19, 22, 18⟩, [], by rw [htab]; rfl, (fun z hz => by cases hz), by decide, by decide, by rw [e8]; exact clL_18, fun a9 => ?_⟩
    refine sp_astore (i := 5) (lv' := [some (.ref (sx_ad X 0)), some (.int a1), some (.int a2), some (.int a3), some (.ref (sx_ad X 68)), some (.ref a9)]) (q := 24) hX dL_make_22 (Nat.le_of_ble_eq_true rfl) rfl rfl rfl ?_
    refine sp_iconst (v := 1) (q := 25) hX dL_make_24 li_1 rfl ?_
    exact sp_iret hX hR dL_make_25 hf (Nat.le_of_ble_eq_true rfl) (Nat.le_of_ble_eq_true rfl)
set_option maxRecDepth 100000 in
set_option maxHeartbeats 4000000 in
theorem cnL_make {l : Launch} (hst : l.stackTraces = false) {w : sp_Wd} {n : Nat}  {σ : sp_St} {a1 : Int32} {a2 : Int32} {a3 : Int32} {τ : sp_St} {r : Int32}  (hf : L_make n σ a1 a2 a3 = some (τ, r)) : sp_Cw shX l w yL_make cL_make 6 (some .int) [(0, 19, 22, 18)] rmL_make 2 12 σ [.ref (w.2.1 0), .int a1, .int a2, .int a3, .ref (w.2.1 68)] τ r :=
  sp_cw (by decide) rfl hst (Nat.le_of_ble_eq_true rfl) rfl (fun X hX htab hw hl hR => by subst hw; subst hl; exact hL_make hX hR htab  hf)
def rmL_then : Room := { frames := 8, cells := 3, slots := 18, locals := 168 }
def L_then (n : Nat)  (σ : sp_St) (a1 : Int32) (a2 : Int32) (a3 : Int32) : Option (sp_St × Int32) :=
  sp_bc (X11_then n σ a1 a2 a3) (fun σ2 v6 =>
    sp_pl (sp_sl σ2 68 ((0 : Int32)).toNatClampNeg v6.toInt64) fun σ8 =>
    some (σ8, (0 : Int32)))
    (fun σ2 k7 =>
    if k7 = 1 then
      some (σ2, (1 : Int32))
    else
      sp_ck (decide (k7 = 2)) <|
      some (σ2, (2 : Int32)))
set_option maxRecDepth 100000 in
set_option maxHeartbeats 4000000 in
theorem hL_then {X : sp_X} (hX : sp_OK shX X cL_then "SwordPeaceLaw" 6 rmL_then) {τ : sp_St} {r : Int32} (hR : sp_Ri shX X (some .int) τ r 3 18) {n : Nat} (htab : (sx_c X).exceptionTable.toList = tableOf [(0, 12, 15, 18), (0, 12, 19, 13)])  {σ : sp_St} {a1 : Int32} {a2 : Int32} {a3 : Int32}  (hf : L_then n σ a1 a2 a3 = some (τ, r)) : sp_GG shX X σ 6 [some (.ref (sx_ad X 0)), some (.int a1), some (.int a2), some (.int a3), some (.ref (sx_ad X 68)), none] [] 0 0 0 := by
  unfold L_then at hf
  refine sp_aload (i := 4) (q := 2) hX dL_then_0 rfl rfl ?_
  refine sp_iconst (v := 0) (q := 3) hX dL_then_2 li_0 rfl ?_
  refine sp_aload_n (i := 0) (q := 4) hX dL_then_3 rfl rfl rfl ?_
  refine sp_iload_n (i := 1) (q := 5) hX dL_then_4 rfl rfl rfl ?_
  refine sp_iload_n (i := 2) (q := 6) hX dL_then_5 rfl rfl rfl ?_
  refine sp_iload_n (i := 3) (q := 7) hX dL_then_6 rfl rfl rfl ?_
  obtain ⟨σ2, ρ3, h1, hr4, hx5⟩ := sp_bc_so hf
  refine sp_callXc (As := [.int a1, .int a2, .int a3]) (rest := [.int ((0 : Int32)), .ref (sx_ad X 68)]) (q := 10) hX (cnX11_then (sp_st hX) h1) cwL_44 atX_0 rfl rfl rfl rfl rfl (Nat.le_of_ble_eq_true rfl) (Nat.le_of_ble_eq_true rfl) (Nat.le_of_ble_eq_true rfl) (Nat.le_of_ble_eq_true rfl) (Nat.le_of_ble_eq_true rfl) dL_then_7 rfl (fun v6 hv => ?_) (fun k7 hk => ?_)
  · have hf := hr4 v6 hv
    refine sp_i2l (q := 11) hX dL_then_10 rfl ?_
    obtain ⟨σ8, e9, hf⟩ := sp_pl_some hf
    refine sp_last (q := 12) hX arX_68 (by decide) dL_then_11 rfl ?_
    refine sp_nms e9 ?_
    refine sp_goto (tgt := 23) hX dL_then_12 (by decide) ?_
    refine sp_iconst (v := 0) (q := 24) hX dL_then_23 li_0 rfl ?_
    exact sp_iret hX hR dL_then_24 hf (Nat.le_of_ble_eq_true rfl) (Nat.le_of_ble_eq_true rfl)
  · have hf := hx5 k7 hk
    by_cases e10 : k7 = 1
    · rw [if_pos e10] at hf
      refine ⟨[], ⟨0, 12, 15, 18⟩, [⟨0, 12, 19, 13⟩], by rw [htab]; rfl, (fun z hz => by cases hz), by decide, by decide, by rw [e10]; exact clL_18, fun a9 => ?_⟩
      refine sp_astore (i := 5) (lv' := [some (.ref (sx_ad X 0)), some (.int a1), some (.int a2), some (.int a3), some (.ref (sx_ad X 68)), some (.ref a9)]) (q := 17) hX dL_then_15 (Nat.le_of_ble_eq_true rfl) rfl rfl rfl ?_
      refine sp_iconst (v := 1) (q := 18) hX dL_then_17 li_1 rfl ?_
      exact sp_iret hX hR dL_then_18 hf (Nat.le_of_ble_eq_true rfl) (Nat.le_of_ble_eq_true rfl)
    · rw [if_neg e10] at hf
      obtain ⟨e10, hf⟩ := sp_ck_some hf
      replace e10 := of_decide_eq_true e10
      refine ⟨[⟨0, 12, 15, 18⟩], ⟨0, 12, 19, 13⟩, [], by rw [htab]; rfl, (fun z hz => by rw [List.mem_singleton.mp hz]; exact Or.inr ⟨by decide, _, clL_18, by rw [e10]; exact (sp_ev hX).2.2.2.2.2.2.2.2⟩), by decide, by decide, by rw [e10]; exact clL_13, fun a9 => ?_⟩
      refine sp_astore (i := 5) (lv' := [some (.ref (sx_ad X 0)), some (.int a1), some (.int a2), some (.int a3), some (.ref (sx_ad X 68)), some (.ref a9)]) (q := 21) hX dL_then_19 (Nat.le_of_ble_eq_true rfl) rfl rfl rfl ?_
      refine sp_iconst (v := 2) (q := 22) hX dL_then_21 li_2 rfl ?_
      exact sp_iret hX hR dL_then_22 hf (Nat.le_of_ble_eq_true rfl) (Nat.le_of_ble_eq_true rfl)
set_option maxRecDepth 100000 in
set_option maxHeartbeats 4000000 in
theorem cnL_then {l : Launch} (hst : l.stackTraces = false) {w : sp_Wd} {n : Nat}  {σ : sp_St} {a1 : Int32} {a2 : Int32} {a3 : Int32} {τ : sp_St} {r : Int32}  (hf : L_then n σ a1 a2 a3 = some (τ, r)) : sp_Cw shX l w yL_then cL_then 6 (some .int) [(0, 12, 15, 18), (0, 12, 19, 13)] rmL_then 3 18 σ [.ref (w.2.1 0), .int a1, .int a2, .int a3, .ref (w.2.1 68)] τ r :=
  sp_cw (by decide) rfl hst (Nat.le_of_ble_eq_true rfl) rfl (fun X hX htab hw hl hR => by subst hw; subst hl; exact hL_then hX hR htab  hf)
def rmL_fights : Room := { frames := 8, cells := 1, slots := 6, locals := 165 }
def L_fights (n : Nat)  (σ : sp_St) (a1 : Int32) : Option (sp_St × Int32) :=
  sp_bc (X11_fights n σ a1) (fun σ2 v6 =>
    sp_pl (sp_sl σ2 68 ((0 : Int32)).toNatClampNeg v6.toInt64) fun σ8 =>
    some (σ8, (0 : Int32)))
    (fun σ2 k7 =>
    sp_ck (decide (k7 = 2)) <|
    some (σ2, (1 : Int32)))
set_option maxRecDepth 100000 in
set_option maxHeartbeats 4000000 in
theorem hL_fights {X : sp_X} (hX : sp_OK shX X cL_fights "SwordPeaceLaw" 4 rmL_fights) {τ : sp_St} {r : Int32} (hR : sp_Ri shX X (some .int) τ r 1 6) {n : Nat} (htab : (sx_c X).exceptionTable.toList = tableOf [(0, 9, 12, 13)])  {σ : sp_St} {a1 : Int32}  (hf : L_fights n σ a1 = some (τ, r)) : sp_GG shX X σ 4 [some (.ref (sx_ad X 0)), some (.int a1), some (.ref (sx_ad X 68)), none] [] 0 0 0 := by
  unfold L_fights at hf
  refine sp_aload_n (i := 2) (q := 1) hX dL_fights_0 rfl rfl rfl ?_
  refine sp_iconst (v := 0) (q := 2) hX dL_fights_1 li_0 rfl ?_
  refine sp_aload_n (i := 0) (q := 3) hX dL_fights_2 rfl rfl rfl ?_
  refine sp_iload_n (i := 1) (q := 4) hX dL_fights_3 rfl rfl rfl ?_
  obtain ⟨σ2, ρ3, h1, hr4, hx5⟩ := sp_bc_so hf
  refine sp_callXc (As := [.int a1]) (rest := [.int ((0 : Int32)), .ref (sx_ad X 68)]) (q := 7) hX (cnX11_fights (sp_st hX) h1) cwL_48 atX_0 rfl rfl rfl rfl rfl (Nat.le_of_ble_eq_true rfl) (Nat.le_of_ble_eq_true rfl) (Nat.le_of_ble_eq_true rfl) (Nat.le_of_ble_eq_true rfl) (Nat.le_of_ble_eq_true rfl) dL_fights_4 rfl (fun v6 hv => ?_) (fun k7 hk => ?_)
  · have hf := hr4 v6 hv
    refine sp_i2l (q := 8) hX dL_fights_7 rfl ?_
    obtain ⟨σ8, e9, hf⟩ := sp_pl_some hf
    refine sp_last (q := 9) hX arX_68 (by decide) dL_fights_8 rfl ?_
    refine sp_nms e9 ?_
    refine sp_goto (tgt := 15) hX dL_fights_9 (by decide) ?_
    refine sp_iconst (v := 0) (q := 16) hX dL_fights_15 li_0 rfl ?_
    exact sp_iret hX hR dL_fights_16 hf (Nat.le_of_ble_eq_true rfl) (Nat.le_of_ble_eq_true rfl)
  · have hf := hx5 k7 hk
    obtain ⟨e10, hf⟩ := sp_ck_some hf
    replace e10 := of_decide_eq_true e10
    refine ⟨[], ⟨0, 9, 12, 13⟩, [], by rw [htab]; rfl, (fun z hz => by cases hz), by decide, by decide, by rw [e10]; exact clL_13, fun a9 => ?_⟩
    refine sp_astore_n (i := 3) (lv' := [some (.ref (sx_ad X 0)), some (.int a1), some (.ref (sx_ad X 68)), some (.ref a9)]) (q := 13) hX dL_fights_12 rfl (Nat.le_of_ble_eq_true rfl) rfl rfl rfl ?_
    refine sp_iconst (v := 1) (q := 14) hX dL_fights_13 li_1 rfl ?_
    exact sp_iret hX hR dL_fights_14 hf (Nat.le_of_ble_eq_true rfl) (Nat.le_of_ble_eq_true rfl)
set_option maxRecDepth 100000 in
set_option maxHeartbeats 4000000 in
theorem cnL_fights {l : Launch} (hst : l.stackTraces = false) {w : sp_Wd} {n : Nat}  {σ : sp_St} {a1 : Int32} {τ : sp_St} {r : Int32}  (hf : L_fights n σ a1 = some (τ, r)) : sp_Cw shX l w yL_fights cL_fights 4 (some .int) [(0, 9, 12, 13)] rmL_fights 1 6 σ [.ref (w.2.1 0), .int a1, .ref (w.2.1 68)] τ r :=
  sp_cw (by decide) rfl hst (Nat.le_of_ble_eq_true rfl) rfl (fun X hX htab hw hl hR => by subst hw; subst hl; exact hL_fights hX hR htab  hf)
def rmL_rests : Room := { frames := 8, cells := 1, slots := 6, locals := 165 }
def L_rests (n : Nat)  (σ : sp_St) (a1 : Int32) : Option (sp_St × Int32) :=
  sp_bc (X11_rests n σ a1) (fun σ2 v6 =>
    sp_pl (sp_sl σ2 68 ((0 : Int32)).toNatClampNeg v6.toInt64) fun σ8 =>
    some (σ8, (0 : Int32)))
    (fun σ2 k7 =>
    sp_ck (decide (k7 = 1)) <|
    some (σ2, (1 : Int32)))
set_option maxRecDepth 100000 in
set_option maxHeartbeats 4000000 in
theorem hL_rests {X : sp_X} (hX : sp_OK shX X cL_rests "SwordPeaceLaw" 4 rmL_rests) {τ : sp_St} {r : Int32} (hR : sp_Ri shX X (some .int) τ r 1 6) {n : Nat} (htab : (sx_c X).exceptionTable.toList = tableOf [(0, 9, 12, 18)])  {σ : sp_St} {a1 : Int32}  (hf : L_rests n σ a1 = some (τ, r)) : sp_GG shX X σ 4 [some (.ref (sx_ad X 0)), some (.int a1), some (.ref (sx_ad X 68)), none] [] 0 0 0 := by
  unfold L_rests at hf
  refine sp_aload_n (i := 2) (q := 1) hX dL_rests_0 rfl rfl rfl ?_
  refine sp_iconst (v := 0) (q := 2) hX dL_rests_1 li_0 rfl ?_
  refine sp_aload_n (i := 0) (q := 3) hX dL_rests_2 rfl rfl rfl ?_
  refine sp_iload_n (i := 1) (q := 4) hX dL_rests_3 rfl rfl rfl ?_
  obtain ⟨σ2, ρ3, h1, hr4, hx5⟩ := sp_bc_so hf
  refine sp_callXc (As := [.int a1]) (rest := [.int ((0 : Int32)), .ref (sx_ad X 68)]) (q := 7) hX (cnX11_rests (sp_st hX) h1) cwL_51 atX_0 rfl rfl rfl rfl rfl (Nat.le_of_ble_eq_true rfl) (Nat.le_of_ble_eq_true rfl) (Nat.le_of_ble_eq_true rfl) (Nat.le_of_ble_eq_true rfl) (Nat.le_of_ble_eq_true rfl) dL_rests_4 rfl (fun v6 hv => ?_) (fun k7 hk => ?_)
  · have hf := hr4 v6 hv
    refine sp_i2l (q := 8) hX dL_rests_7 rfl ?_
    obtain ⟨σ8, e9, hf⟩ := sp_pl_some hf
    refine sp_last (q := 9) hX arX_68 (by decide) dL_rests_8 rfl ?_
    refine sp_nms e9 ?_
    refine sp_goto (tgt := 15) hX dL_rests_9 (by decide) ?_
    refine sp_iconst (v := 0) (q := 16) hX dL_rests_15 li_0 rfl ?_
    exact sp_iret hX hR dL_rests_16 hf (Nat.le_of_ble_eq_true rfl) (Nat.le_of_ble_eq_true rfl)
  · have hf := hx5 k7 hk
    obtain ⟨e10, hf⟩ := sp_ck_some hf
    replace e10 := of_decide_eq_true e10
    refine ⟨[], ⟨0, 9, 12, 18⟩, [], by rw [htab]; rfl, (fun z hz => by cases hz), by decide, by decide, by rw [e10]; exact clL_18, fun a9 => ?_⟩
    refine sp_astore_n (i := 3) (lv' := [some (.ref (sx_ad X 0)), some (.int a1), some (.ref (sx_ad X 68)), some (.ref a9)]) (q := 13) hX dL_rests_12 rfl (Nat.le_of_ble_eq_true rfl) rfl rfl rfl ?_
    refine sp_iconst (v := 1) (q := 14) hX dL_rests_13 li_1 rfl ?_
    exact sp_iret hX hR dL_rests_14 hf (Nat.le_of_ble_eq_true rfl) (Nat.le_of_ble_eq_true rfl)
set_option maxRecDepth 100000 in
set_option maxHeartbeats 4000000 in
theorem cnL_rests {l : Launch} (hst : l.stackTraces = false) {w : sp_Wd} {n : Nat}  {σ : sp_St} {a1 : Int32} {τ : sp_St} {r : Int32}  (hf : L_rests n σ a1 = some (τ, r)) : sp_Cw shX l w yL_rests cL_rests 4 (some .int) [(0, 9, 12, 18)] rmL_rests 1 6 σ [.ref (w.2.1 0), .int a1, .ref (w.2.1 68)] τ r :=
  sp_cw (by decide) rfl hst (Nat.le_of_ble_eq_true rfl) rfl (fun X hX htab hw hl hR => by subst hw; subst hl; exact hL_rests hX hR htab  hf)
def rmL_worst : Room := { frames := 8, cells := 1, slots := 6, locals := 189 }
def L_worst (n : Nat)  (σ : sp_St) (a1 : Int32) : Option (sp_St × Int32) :=
  sp_bc (X11_worst n σ a1) (fun σ2 v6 =>
    sp_pl (sp_sl σ2 68 ((0 : Int32)).toNatClampNeg v6.toInt64) fun σ8 =>
    some (σ8, (0 : Int32)))
    (fun σ2 k7 =>
    sp_ck (decide (k7 = 2)) <|
    some (σ2, (1 : Int32)))
set_option maxRecDepth 100000 in
set_option maxHeartbeats 4000000 in
theorem hL_worst {X : sp_X} (hX : sp_OK shX X cL_worst "SwordPeaceLaw" 4 rmL_worst) {τ : sp_St} {r : Int32} (hR : sp_Ri shX X (some .int) τ r 1 6) {n : Nat} (htab : (sx_c X).exceptionTable.toList = tableOf [(0, 9, 12, 13)])  {σ : sp_St} {a1 : Int32}  (hf : L_worst n σ a1 = some (τ, r)) : sp_GG shX X σ 4 [some (.ref (sx_ad X 0)), some (.int a1), some (.ref (sx_ad X 68)), none] [] 0 0 0 := by
  unfold L_worst at hf
  refine sp_aload_n (i := 2) (q := 1) hX dL_worst_0 rfl rfl rfl ?_
  refine sp_iconst (v := 0) (q := 2) hX dL_worst_1 li_0 rfl ?_
  refine sp_aload_n (i := 0) (q := 3) hX dL_worst_2 rfl rfl rfl ?_
  refine sp_iload_n (i := 1) (q := 4) hX dL_worst_3 rfl rfl rfl ?_
  obtain ⟨σ2, ρ3, h1, hr4, hx5⟩ := sp_bc_so hf
  refine sp_callXc (As := [.int a1]) (rest := [.int ((0 : Int32)), .ref (sx_ad X 68)]) (q := 7) hX (cnX11_worst (sp_st hX) h1) cwL_54 atX_0 rfl rfl rfl rfl rfl (Nat.le_of_ble_eq_true rfl) (Nat.le_of_ble_eq_true rfl) (Nat.le_of_ble_eq_true rfl) (Nat.le_of_ble_eq_true rfl) (Nat.le_of_ble_eq_true rfl) dL_worst_4 rfl (fun v6 hv => ?_) (fun k7 hk => ?_)
  · have hf := hr4 v6 hv
    refine sp_i2l (q := 8) hX dL_worst_7 rfl ?_
    obtain ⟨σ8, e9, hf⟩ := sp_pl_some hf
    refine sp_last (q := 9) hX arX_68 (by decide) dL_worst_8 rfl ?_
    refine sp_nms e9 ?_
    refine sp_goto (tgt := 15) hX dL_worst_9 (by decide) ?_
    refine sp_iconst (v := 0) (q := 16) hX dL_worst_15 li_0 rfl ?_
    exact sp_iret hX hR dL_worst_16 hf (Nat.le_of_ble_eq_true rfl) (Nat.le_of_ble_eq_true rfl)
  · have hf := hx5 k7 hk
    obtain ⟨e10, hf⟩ := sp_ck_some hf
    replace e10 := of_decide_eq_true e10
    refine ⟨[], ⟨0, 9, 12, 13⟩, [], by rw [htab]; rfl, (fun z hz => by cases hz), by decide, by decide, by rw [e10]; exact clL_13, fun a9 => ?_⟩
    refine sp_astore_n (i := 3) (lv' := [some (.ref (sx_ad X 0)), some (.int a1), some (.ref (sx_ad X 68)), some (.ref a9)]) (q := 13) hX dL_worst_12 rfl (Nat.le_of_ble_eq_true rfl) rfl rfl rfl ?_
    refine sp_iconst (v := 1) (q := 14) hX dL_worst_13 li_1 rfl ?_
    exact sp_iret hX hR dL_worst_14 hf (Nat.le_of_ble_eq_true rfl) (Nat.le_of_ble_eq_true rfl)
set_option maxRecDepth 100000 in
set_option maxHeartbeats 4000000 in
theorem cnL_worst {l : Launch} (hst : l.stackTraces = false) {w : sp_Wd} {n : Nat}  {σ : sp_St} {a1 : Int32} {τ : sp_St} {r : Int32}  (hf : L_worst n σ a1 = some (τ, r)) : sp_Cw shX l w yL_worst cL_worst 4 (some .int) [(0, 9, 12, 13)] rmL_worst 1 6 σ [.ref (w.2.1 0), .int a1, .ref (w.2.1 68)] τ r :=
  sp_cw (by decide) rfl hst (Nat.le_of_ble_eq_true rfl) rfl (fun X hX htab hw hl hR => by subst hw; subst hl; exact hL_worst hX hR htab  hf)
def rmL_takeIn : Room := { frames := 8, cells := 1, slots := 6, locals := 142 }
def L_takeIn (n : Nat)  (σ : sp_St) (a1 : Int32) : Option (sp_St × Int32) :=
  sp_bc (X11_takeIn n σ a1) (fun σ2 v6 =>
    sp_pl (sp_sl σ2 68 ((0 : Int32)).toNatClampNeg v6.toInt64) fun σ8 =>
    some (σ8, (0 : Int32)))
    (fun σ2 k7 =>
    sp_ck (decide (k7 = 1)) <|
    some (σ2, (1 : Int32)))
set_option maxRecDepth 100000 in
set_option maxHeartbeats 4000000 in
theorem hL_takeIn {X : sp_X} (hX : sp_OK shX X cL_takeIn "SwordPeaceLaw" 4 rmL_takeIn) {τ : sp_St} {r : Int32} (hR : sp_Ri shX X (some .int) τ r 1 6) {n : Nat} (htab : (sx_c X).exceptionTable.toList = tableOf [(0, 9, 12, 18)])  {σ : sp_St} {a1 : Int32}  (hf : L_takeIn n σ a1 = some (τ, r)) : sp_GG shX X σ 4 [some (.ref (sx_ad X 0)), some (.int a1), some (.ref (sx_ad X 68)), none] [] 0 0 0 := by
  unfold L_takeIn at hf
  refine sp_aload_n (i := 2) (q := 1) hX dL_takeIn_0 rfl rfl rfl ?_
  refine sp_iconst (v := 0) (q := 2) hX dL_takeIn_1 li_0 rfl ?_
  refine sp_aload_n (i := 0) (q := 3) hX dL_takeIn_2 rfl rfl rfl ?_
  refine sp_iload_n (i := 1) (q := 4) hX dL_takeIn_3 rfl rfl rfl ?_
  obtain ⟨σ2, ρ3, h1, hr4, hx5⟩ := sp_bc_so hf
  refine sp_callXc (As := [.int a1]) (rest := [.int ((0 : Int32)), .ref (sx_ad X 68)]) (q := 7) hX (cnX11_takeIn (sp_st hX) h1) cwL_57 atX_0 rfl rfl rfl rfl rfl (Nat.le_of_ble_eq_true rfl) (Nat.le_of_ble_eq_true rfl) (Nat.le_of_ble_eq_true rfl) (Nat.le_of_ble_eq_true rfl) (Nat.le_of_ble_eq_true rfl) dL_takeIn_4 rfl (fun v6 hv => ?_) (fun k7 hk => ?_)
  · have hf := hr4 v6 hv
    refine sp_i2l (q := 8) hX dL_takeIn_7 rfl ?_
    obtain ⟨σ8, e9, hf⟩ := sp_pl_some hf
    refine sp_last (q := 9) hX arX_68 (by decide) dL_takeIn_8 rfl ?_
    refine sp_nms e9 ?_
    refine sp_goto (tgt := 15) hX dL_takeIn_9 (by decide) ?_
    refine sp_iconst (v := 0) (q := 16) hX dL_takeIn_15 li_0 rfl ?_
    exact sp_iret hX hR dL_takeIn_16 hf (Nat.le_of_ble_eq_true rfl) (Nat.le_of_ble_eq_true rfl)
  · have hf := hx5 k7 hk
    obtain ⟨e10, hf⟩ := sp_ck_some hf
    replace e10 := of_decide_eq_true e10
    refine ⟨[], ⟨0, 9, 12, 18⟩, [], by rw [htab]; rfl, (fun z hz => by cases hz), by decide, by decide, by rw [e10]; exact clL_18, fun a9 => ?_⟩
    refine sp_astore_n (i := 3) (lv' := [some (.ref (sx_ad X 0)), some (.int a1), some (.ref (sx_ad X 68)), some (.ref a9)]) (q := 13) hX dL_takeIn_12 rfl (Nat.le_of_ble_eq_true rfl) rfl rfl rfl ?_
    refine sp_iconst (v := 1) (q := 14) hX dL_takeIn_13 li_1 rfl ?_
    exact sp_iret hX hR dL_takeIn_14 hf (Nat.le_of_ble_eq_true rfl) (Nat.le_of_ble_eq_true rfl)
set_option maxRecDepth 100000 in
set_option maxHeartbeats 4000000 in
theorem cnL_takeIn {l : Launch} (hst : l.stackTraces = false) {w : sp_Wd} {n : Nat}  {σ : sp_St} {a1 : Int32} {τ : sp_St} {r : Int32}  (hf : L_takeIn n σ a1 = some (τ, r)) : sp_Cw shX l w yL_takeIn cL_takeIn 4 (some .int) [(0, 9, 12, 18)] rmL_takeIn 1 6 σ [.ref (w.2.1 0), .int a1, .ref (w.2.1 68)] τ r :=
  sp_cw (by decide) rfl hst (Nat.le_of_ble_eq_true rfl) rfl (fun X hX htab hw hl hR => by subst hw; subst hl; exact hL_takeIn hX hR htab  hf)
def rmL_toDraw : Room := { frames := 8, cells := 1, slots := 6, locals := 143 }
def L_toDraw (n : Nat)  (σ : sp_St) (a1 : Int32) : Option (sp_St × Int32) :=
  sp_bc (X11_toDraw n σ a1) (fun σ2 v6 =>
    sp_pl (sp_sl σ2 68 ((0 : Int32)).toNatClampNeg v6.toInt64) fun σ8 =>
    some (σ8, (0 : Int32)))
    (fun σ2 k7 =>
    sp_ck (decide (k7 = 1)) <|
    some (σ2, (1 : Int32)))
set_option maxRecDepth 100000 in
set_option maxHeartbeats 4000000 in
theorem hL_toDraw {X : sp_X} (hX : sp_OK shX X cL_toDraw "SwordPeaceLaw" 4 rmL_toDraw) {τ : sp_St} {r : Int32} (hR : sp_Ri shX X (some .int) τ r 1 6) {n : Nat} (htab : (sx_c X).exceptionTable.toList = tableOf [(0, 9, 12, 18)])  {σ : sp_St} {a1 : Int32}  (hf : L_toDraw n σ a1 = some (τ, r)) : sp_GG shX X σ 4 [some (.ref (sx_ad X 0)), some (.int a1), some (.ref (sx_ad X 68)), none] [] 0 0 0 := by
  unfold L_toDraw at hf
  refine sp_aload_n (i := 2) (q := 1) hX dL_toDraw_0 rfl rfl rfl ?_
  refine sp_iconst (v := 0) (q := 2) hX dL_toDraw_1 li_0 rfl ?_
  refine sp_aload_n (i := 0) (q := 3) hX dL_toDraw_2 rfl rfl rfl ?_
  refine sp_iload_n (i := 1) (q := 4) hX dL_toDraw_3 rfl rfl rfl ?_
  obtain ⟨σ2, ρ3, h1, hr4, hx5⟩ := sp_bc_so hf
  refine sp_callXc (As := [.int a1]) (rest := [.int ((0 : Int32)), .ref (sx_ad X 68)]) (q := 7) hX (cnX11_toDraw (sp_st hX) h1) cwL_60 atX_0 rfl rfl rfl rfl rfl (Nat.le_of_ble_eq_true rfl) (Nat.le_of_ble_eq_true rfl) (Nat.le_of_ble_eq_true rfl) (Nat.le_of_ble_eq_true rfl) (Nat.le_of_ble_eq_true rfl) dL_toDraw_4 rfl (fun v6 hv => ?_) (fun k7 hk => ?_)
  · have hf := hr4 v6 hv
    refine sp_i2l (q := 8) hX dL_toDraw_7 rfl ?_
    obtain ⟨σ8, e9, hf⟩ := sp_pl_some hf
    refine sp_last (q := 9) hX arX_68 (by decide) dL_toDraw_8 rfl ?_
    refine sp_nms e9 ?_
    refine sp_goto (tgt := 15) hX dL_toDraw_9 (by decide) ?_
    refine sp_iconst (v := 0) (q := 16) hX dL_toDraw_15 li_0 rfl ?_
    exact sp_iret hX hR dL_toDraw_16 hf (Nat.le_of_ble_eq_true rfl) (Nat.le_of_ble_eq_true rfl)
  · have hf := hx5 k7 hk
    obtain ⟨e10, hf⟩ := sp_ck_some hf
    replace e10 := of_decide_eq_true e10
    refine ⟨[], ⟨0, 9, 12, 18⟩, [], by rw [htab]; rfl, (fun z hz => by cases hz), by decide, by decide, by rw [e10]; exact clL_18, fun a9 => ?_⟩
    refine sp_astore_n (i := 3) (lv' := [some (.ref (sx_ad X 0)), some (.int a1), some (.ref (sx_ad X 68)), some (.ref a9)]) (q := 13) hX dL_toDraw_12 rfl (Nat.le_of_ble_eq_true rfl) rfl rfl rfl ?_
    refine sp_iconst (v := 1) (q := 14) hX dL_toDraw_13 li_1 rfl ?_
    exact sp_iret hX hR dL_toDraw_14 hf (Nat.le_of_ble_eq_true rfl) (Nat.le_of_ble_eq_true rfl)
set_option maxRecDepth 100000 in
set_option maxHeartbeats 4000000 in
theorem cnL_toDraw {l : Launch} (hst : l.stackTraces = false) {w : sp_Wd} {n : Nat}  {σ : sp_St} {a1 : Int32} {τ : sp_St} {r : Int32}  (hf : L_toDraw n σ a1 = some (τ, r)) : sp_Cw shX l w yL_toDraw cL_toDraw 4 (some .int) [(0, 9, 12, 18)] rmL_toDraw 1 6 σ [.ref (w.2.1 0), .int a1, .ref (w.2.1 68)] τ r :=
  sp_cw (by decide) rfl hst (Nat.le_of_ble_eq_true rfl) rfl (fun X hX htab hw hl hR => by subst hw; subst hl; exact hL_toDraw hX hR htab  hf)
def rmL_toSwallow : Room := { frames := 8, cells := 1, slots := 6, locals := 181 }
def L_toSwallow (n : Nat)  (σ : sp_St) (a1 : Int32) : Option (sp_St × Int32) :=
  sp_bc (X11_toSwallow n σ a1) (fun σ2 v6 =>
    sp_pl (sp_sl σ2 68 ((0 : Int32)).toNatClampNeg v6.toInt64) fun σ8 =>
    some (σ8, (0 : Int32)))
    (fun σ2 k7 =>
    sp_ck (decide (k7 = 1)) <|
    some (σ2, (1 : Int32)))
set_option maxRecDepth 100000 in
set_option maxHeartbeats 4000000 in
theorem hL_toSwallow {X : sp_X} (hX : sp_OK shX X cL_toSwallow "SwordPeaceLaw" 4 rmL_toSwallow) {τ : sp_St} {r : Int32} (hR : sp_Ri shX X (some .int) τ r 1 6) {n : Nat} (htab : (sx_c X).exceptionTable.toList = tableOf [(0, 9, 12, 18)])  {σ : sp_St} {a1 : Int32}  (hf : L_toSwallow n σ a1 = some (τ, r)) : sp_GG shX X σ 4 [some (.ref (sx_ad X 0)), some (.int a1), some (.ref (sx_ad X 68)), none] [] 0 0 0 := by
  unfold L_toSwallow at hf
  refine sp_aload_n (i := 2) (q := 1) hX dL_toSwallow_0 rfl rfl rfl ?_
  refine sp_iconst (v := 0) (q := 2) hX dL_toSwallow_1 li_0 rfl ?_
  refine sp_aload_n (i := 0) (q := 3) hX dL_toSwallow_2 rfl rfl rfl ?_
  refine sp_iload_n (i := 1) (q := 4) hX dL_toSwallow_3 rfl rfl rfl ?_
  obtain ⟨σ2, ρ3, h1, hr4, hx5⟩ := sp_bc_so hf
  refine sp_callXc (As := [.int a1]) (rest := [.int ((0 : Int32)), .ref (sx_ad X 68)]) (q := 7) hX (cnX11_toSwallow (sp_st hX) h1) cwL_63 atX_0 rfl rfl rfl rfl rfl (Nat.le_of_ble_eq_true rfl) (Nat.le_of_ble_eq_true rfl) (Nat.le_of_ble_eq_true rfl) (Nat.le_of_ble_eq_true rfl) (Nat.le_of_ble_eq_true rfl) dL_toSwallow_4 rfl (fun v6 hv => ?_) (fun k7 hk => ?_)
  · have hf := hr4 v6 hv
    refine sp_i2l (q := 8) hX dL_toSwallow_7 rfl ?_
    obtain ⟨σ8, e9, hf⟩ := sp_pl_some hf
    refine sp_last (q := 9) hX arX_68 (by decide) dL_toSwallow_8 rfl ?_
    refine sp_nms e9 ?_
    refine sp_goto (tgt := 15) hX dL_toSwallow_9 (by decide) ?_
    refine sp_iconst (v := 0) (q := 16) hX dL_toSwallow_15 li_0 rfl ?_
    exact sp_iret hX hR dL_toSwallow_16 hf (Nat.le_of_ble_eq_true rfl) (Nat.le_of_ble_eq_true rfl)
  · have hf := hx5 k7 hk
    obtain ⟨e10, hf⟩ := sp_ck_some hf
    replace e10 := of_decide_eq_true e10
    refine ⟨[], ⟨0, 9, 12, 18⟩, [], by rw [htab]; rfl, (fun z hz => by cases hz), by decide, by decide, by rw [e10]; exact clL_18, fun a9 => ?_⟩
    refine sp_astore_n (i := 3) (lv' := [some (.ref (sx_ad X 0)), some (.int a1), some (.ref (sx_ad X 68)), some (.ref a9)]) (q := 13) hX dL_toSwallow_12 rfl (Nat.le_of_ble_eq_true rfl) rfl rfl rfl ?_
    refine sp_iconst (v := 1) (q := 14) hX dL_toSwallow_13 li_1 rfl ?_
    exact sp_iret hX hR dL_toSwallow_14 hf (Nat.le_of_ble_eq_true rfl) (Nat.le_of_ble_eq_true rfl)
set_option maxRecDepth 100000 in
set_option maxHeartbeats 4000000 in
theorem cnL_toSwallow {l : Launch} (hst : l.stackTraces = false) {w : sp_Wd} {n : Nat}  {σ : sp_St} {a1 : Int32} {τ : sp_St} {r : Int32}  (hf : L_toSwallow n σ a1 = some (τ, r)) : sp_Cw shX l w yL_toSwallow cL_toSwallow 4 (some .int) [(0, 9, 12, 18)] rmL_toSwallow 1 6 σ [.ref (w.2.1 0), .int a1, .ref (w.2.1 68)] τ r :=
  sp_cw (by decide) rfl hst (Nat.le_of_ble_eq_true rfl) rfl (fun X hX htab hw hl hR => by subst hw; subst hl; exact hL_toSwallow hX hR htab  hf)
def rmL_grudge : Room := { frames := 8, cells := 1, slots := 6, locals := 144 }
def L_grudge (n : Nat)  (σ : sp_St) (a1 : Int32) : Option (sp_St × Int32) :=
  sp_bc (X11_grudge n σ a1) (fun σ2 v6 =>
    sp_pl (sp_sl σ2 68 ((0 : Int32)).toNatClampNeg v6.toInt64) fun σ8 =>
    some (σ8, (0 : Int32)))
    (fun σ2 k7 =>
    sp_ck (decide (k7 = 1)) <|
    some (σ2, (1 : Int32)))
set_option maxRecDepth 100000 in
set_option maxHeartbeats 4000000 in
theorem hL_grudge {X : sp_X} (hX : sp_OK shX X cL_grudge "SwordPeaceLaw" 4 rmL_grudge) {τ : sp_St} {r : Int32} (hR : sp_Ri shX X (some .int) τ r 1 6) {n : Nat} (htab : (sx_c X).exceptionTable.toList = tableOf [(0, 9, 12, 18)])  {σ : sp_St} {a1 : Int32}  (hf : L_grudge n σ a1 = some (τ, r)) : sp_GG shX X σ 4 [some (.ref (sx_ad X 0)), some (.int a1), some (.ref (sx_ad X 68)), none] [] 0 0 0 := by
  unfold L_grudge at hf
  refine sp_aload_n (i := 2) (q := 1) hX dL_grudge_0 rfl rfl rfl ?_
  refine sp_iconst (v := 0) (q := 2) hX dL_grudge_1 li_0 rfl ?_
  refine sp_aload_n (i := 0) (q := 3) hX dL_grudge_2 rfl rfl rfl ?_
  refine sp_iload_n (i := 1) (q := 4) hX dL_grudge_3 rfl rfl rfl ?_
  obtain ⟨σ2, ρ3, h1, hr4, hx5⟩ := sp_bc_so hf
  refine sp_callXc (As := [.int a1]) (rest := [.int ((0 : Int32)), .ref (sx_ad X 68)]) (q := 7) hX (cnX11_grudge (sp_st hX) h1) cwL_66 atX_0 rfl rfl rfl rfl rfl (Nat.le_of_ble_eq_true rfl) (Nat.le_of_ble_eq_true rfl) (Nat.le_of_ble_eq_true rfl) (Nat.le_of_ble_eq_true rfl) (Nat.le_of_ble_eq_true rfl) dL_grudge_4 rfl (fun v6 hv => ?_) (fun k7 hk => ?_)
  · have hf := hr4 v6 hv
    refine sp_i2l (q := 8) hX dL_grudge_7 rfl ?_
    obtain ⟨σ8, e9, hf⟩ := sp_pl_some hf
    refine sp_last (q := 9) hX arX_68 (by decide) dL_grudge_8 rfl ?_
    refine sp_nms e9 ?_
    refine sp_goto (tgt := 15) hX dL_grudge_9 (by decide) ?_
    refine sp_iconst (v := 0) (q := 16) hX dL_grudge_15 li_0 rfl ?_
    exact sp_iret hX hR dL_grudge_16 hf (Nat.le_of_ble_eq_true rfl) (Nat.le_of_ble_eq_true rfl)
  · have hf := hx5 k7 hk
    obtain ⟨e10, hf⟩ := sp_ck_some hf
    replace e10 := of_decide_eq_true e10
    refine ⟨[], ⟨0, 9, 12, 18⟩, [], by rw [htab]; rfl, (fun z hz => by cases hz), by decide, by decide, by rw [e10]; exact clL_18, fun a9 => ?_⟩
    refine sp_astore_n (i := 3) (lv' := [some (.ref (sx_ad X 0)), some (.int a1), some (.ref (sx_ad X 68)), some (.ref a9)]) (q := 13) hX dL_grudge_12 rfl (Nat.le_of_ble_eq_true rfl) rfl rfl rfl ?_
    refine sp_iconst (v := 1) (q := 14) hX dL_grudge_13 li_1 rfl ?_
    exact sp_iret hX hR dL_grudge_14 hf (Nat.le_of_ble_eq_true rfl) (Nat.le_of_ble_eq_true rfl)
set_option maxRecDepth 100000 in
set_option maxHeartbeats 4000000 in
theorem cnL_grudge {l : Launch} (hst : l.stackTraces = false) {w : sp_Wd} {n : Nat}  {σ : sp_St} {a1 : Int32} {τ : sp_St} {r : Int32}  (hf : L_grudge n σ a1 = some (τ, r)) : sp_Cw shX l w yL_grudge cL_grudge 4 (some .int) [(0, 9, 12, 18)] rmL_grudge 1 6 σ [.ref (w.2.1 0), .int a1, .ref (w.2.1 68)] τ r :=
  sp_cw (by decide) rfl hst (Nat.le_of_ble_eq_true rfl) rfl (fun X hX htab hw hl hR => by subst hw; subst hl; exact hL_grudge hX hR htab  hf)
def rmL_foes : Room := { frames := 8, cells := 2, slots := 12, locals := 143 }
def L_foes (n : Nat)  (σ : sp_St) (a1 : Int32) (a2 : Int32) : Option (sp_St × Int32) :=
  sp_bc (X11_foes n σ a1 a2) (fun σ2 v6 =>
    sp_pl (sp_sl σ2 68 ((0 : Int32)).toNatClampNeg v6.toInt64) fun σ8 =>
    some (σ8, (0 : Int32)))
    (fun σ2 k7 =>
    sp_ck (decide (k7 = 1)) <|
    some (σ2, (1 : Int32)))
set_option maxRecDepth 100000 in
set_option maxHeartbeats 4000000 in
theorem hL_foes {X : sp_X} (hX : sp_OK shX X cL_foes "SwordPeaceLaw" 5 rmL_foes) {τ : sp_St} {r : Int32} (hR : sp_Ri shX X (some .int) τ r 2 12) {n : Nat} (htab : (sx_c X).exceptionTable.toList = tableOf [(0, 10, 13, 18)])  {σ : sp_St} {a1 : Int32} {a2 : Int32}  (hf : L_foes n σ a1 a2 = some (τ, r)) : sp_GG shX X σ 5 [some (.ref (sx_ad X 0)), some (.int a1), some (.int a2), some (.ref (sx_ad X 68)), none] [] 0 0 0 := by
  unfold L_foes at hf
  refine sp_aload_n (i := 3) (q := 1) hX dL_foes_0 rfl rfl rfl ?_
  refine sp_iconst (v := 0) (q := 2) hX dL_foes_1 li_0 rfl ?_
  refine sp_aload_n (i := 0) (q := 3) hX dL_foes_2 rfl rfl rfl ?_
  refine sp_iload_n (i := 1) (q := 4) hX dL_foes_3 rfl rfl rfl ?_
  refine sp_iload_n (i := 2) (q := 5) hX dL_foes_4 rfl rfl rfl ?_
  obtain ⟨σ2, ρ3, h1, hr4, hx5⟩ := sp_bc_so hf
  refine sp_callXc (As := [.int a1, .int a2]) (rest := [.int ((0 : Int32)), .ref (sx_ad X 68)]) (q := 8) hX (cnX11_foes (sp_st hX) h1) cwL_69 atX_0 rfl rfl rfl rfl rfl (Nat.le_of_ble_eq_true rfl) (Nat.le_of_ble_eq_true rfl) (Nat.le_of_ble_eq_true rfl) (Nat.le_of_ble_eq_true rfl) (Nat.le_of_ble_eq_true rfl) dL_foes_5 rfl (fun v6 hv => ?_) (fun k7 hk => ?_)
  · have hf := hr4 v6 hv
    refine sp_i2l (q := 9) hX dL_foes_8 rfl ?_
    obtain ⟨σ8, e9, hf⟩ := sp_pl_some hf
    refine sp_last (q := 10) hX arX_68 (by decide) dL_foes_9 rfl ?_
    refine sp_nms e9 ?_
    refine sp_goto (tgt := 17) hX dL_foes_10 (by decide) ?_
    refine sp_iconst (v := 0) (q := 18) hX dL_foes_17 li_0 rfl ?_
    exact sp_iret hX hR dL_foes_18 hf (Nat.le_of_ble_eq_true rfl) (Nat.le_of_ble_eq_true rfl)
  · have hf := hx5 k7 hk
    obtain ⟨e10, hf⟩ := sp_ck_some hf
    replace e10 := of_decide_eq_true e10
    refine ⟨[], ⟨0, 10, 13, 18⟩, [], by rw [htab]; rfl, (fun z hz => by cases hz), by decide, by decide, by rw [e10]; exact clL_18, fun a9 => ?_⟩
    refine sp_astore (i := 4) (lv' := [some (.ref (sx_ad X 0)), some (.int a1), some (.int a2), some (.ref (sx_ad X 68)), some (.ref a9)]) (q := 15) hX dL_foes_13 (Nat.le_of_ble_eq_true rfl) rfl rfl rfl ?_
    refine sp_iconst (v := 1) (q := 16) hX dL_foes_15 li_1 rfl ?_
    exact sp_iret hX hR dL_foes_16 hf (Nat.le_of_ble_eq_true rfl) (Nat.le_of_ble_eq_true rfl)
set_option maxRecDepth 100000 in
set_option maxHeartbeats 4000000 in
theorem cnL_foes {l : Launch} (hst : l.stackTraces = false) {w : sp_Wd} {n : Nat}  {σ : sp_St} {a1 : Int32} {a2 : Int32} {τ : sp_St} {r : Int32}  (hf : L_foes n σ a1 a2 = some (τ, r)) : sp_Cw shX l w yL_foes cL_foes 5 (some .int) [(0, 10, 13, 18)] rmL_foes 2 12 σ [.ref (w.2.1 0), .int a1, .int a2, .ref (w.2.1 68)] τ r :=
  sp_cw (by decide) rfl hst (Nat.le_of_ble_eq_true rfl) rfl (fun X hX htab hw hl hR => by subst hw; subst hl; exact hL_foes hX hR htab  hf)
def rmL_calm : Room := { frames := 8, cells := 1, slots := 6, locals := 165 }
def L_calm (n : Nat)  (σ : sp_St) (a1 : Int32) : Option (sp_St × Int32) :=
  sp_bc (X11_calm n σ a1) (fun σ2 v6 =>
    sp_pl (sp_sl σ2 68 ((0 : Int32)).toNatClampNeg v6.toInt64) fun σ8 =>
    some (σ8, (0 : Int32)))
    (fun σ2 k7 =>
    sp_ck (decide (k7 = 2)) <|
    some (σ2, (1 : Int32)))
set_option maxRecDepth 100000 in
set_option maxHeartbeats 4000000 in
theorem hL_calm {X : sp_X} (hX : sp_OK shX X cL_calm "SwordPeaceLaw" 4 rmL_calm) {τ : sp_St} {r : Int32} (hR : sp_Ri shX X (some .int) τ r 1 6) {n : Nat} (htab : (sx_c X).exceptionTable.toList = tableOf [(0, 9, 12, 13)])  {σ : sp_St} {a1 : Int32}  (hf : L_calm n σ a1 = some (τ, r)) : sp_GG shX X σ 4 [some (.ref (sx_ad X 0)), some (.int a1), some (.ref (sx_ad X 68)), none] [] 0 0 0 := by
  unfold L_calm at hf
  refine sp_aload_n (i := 2) (q := 1) hX dL_calm_0 rfl rfl rfl ?_
  refine sp_iconst (v := 0) (q := 2) hX dL_calm_1 li_0 rfl ?_
  refine sp_aload_n (i := 0) (q := 3) hX dL_calm_2 rfl rfl rfl ?_
  refine sp_iload_n (i := 1) (q := 4) hX dL_calm_3 rfl rfl rfl ?_
  obtain ⟨σ2, ρ3, h1, hr4, hx5⟩ := sp_bc_so hf
  refine sp_callXc (As := [.int a1]) (rest := [.int ((0 : Int32)), .ref (sx_ad X 68)]) (q := 7) hX (cnX11_calm (sp_st hX) h1) cwL_72 atX_0 rfl rfl rfl rfl rfl (Nat.le_of_ble_eq_true rfl) (Nat.le_of_ble_eq_true rfl) (Nat.le_of_ble_eq_true rfl) (Nat.le_of_ble_eq_true rfl) (Nat.le_of_ble_eq_true rfl) dL_calm_4 rfl (fun v6 hv => ?_) (fun k7 hk => ?_)
  · have hf := hr4 v6 hv
    refine sp_i2l (q := 8) hX dL_calm_7 rfl ?_
    obtain ⟨σ8, e9, hf⟩ := sp_pl_some hf
    refine sp_last (q := 9) hX arX_68 (by decide) dL_calm_8 rfl ?_
    refine sp_nms e9 ?_
    refine sp_goto (tgt := 15) hX dL_calm_9 (by decide) ?_
    refine sp_iconst (v := 0) (q := 16) hX dL_calm_15 li_0 rfl ?_
    exact sp_iret hX hR dL_calm_16 hf (Nat.le_of_ble_eq_true rfl) (Nat.le_of_ble_eq_true rfl)
  · have hf := hx5 k7 hk
    obtain ⟨e10, hf⟩ := sp_ck_some hf
    replace e10 := of_decide_eq_true e10
    refine ⟨[], ⟨0, 9, 12, 13⟩, [], by rw [htab]; rfl, (fun z hz => by cases hz), by decide, by decide, by rw [e10]; exact clL_13, fun a9 => ?_⟩
    refine sp_astore_n (i := 3) (lv' := [some (.ref (sx_ad X 0)), some (.int a1), some (.ref (sx_ad X 68)), some (.ref a9)]) (q := 13) hX dL_calm_12 rfl (Nat.le_of_ble_eq_true rfl) rfl rfl rfl ?_
    refine sp_iconst (v := 1) (q := 14) hX dL_calm_13 li_1 rfl ?_
    exact sp_iret hX hR dL_calm_14 hf (Nat.le_of_ble_eq_true rfl) (Nat.le_of_ble_eq_true rfl)
set_option maxRecDepth 100000 in
set_option maxHeartbeats 4000000 in
theorem cnL_calm {l : Launch} (hst : l.stackTraces = false) {w : sp_Wd} {n : Nat}  {σ : sp_St} {a1 : Int32} {τ : sp_St} {r : Int32}  (hf : L_calm n σ a1 = some (τ, r)) : sp_Cw shX l w yL_calm cL_calm 4 (some .int) [(0, 9, 12, 13)] rmL_calm 1 6 σ [.ref (w.2.1 0), .int a1, .ref (w.2.1 68)] τ r :=
  sp_cw (by decide) rfl hst (Nat.le_of_ble_eq_true rfl) rfl (fun X hX htab hw hl hR => by subst hw; subst hl; exact hL_calm hX hR htab  hf)
def rmL_lacks : Room := { frames := 8, cells := 1, slots := 6, locals := 145 }
def L_lacks (n : Nat)  (σ : sp_St) (a1 : Int32) : Option (sp_St × Int32) :=
  sp_bc (X11_lacks n σ a1) (fun σ2 v6 =>
    sp_pl (sp_sl σ2 68 ((0 : Int32)).toNatClampNeg v6.toInt64) fun σ8 =>
    some (σ8, (0 : Int32)))
    (fun σ2 k7 =>
    sp_ck (decide (k7 = 1)) <|
    some (σ2, (1 : Int32)))
set_option maxRecDepth 100000 in
set_option maxHeartbeats 4000000 in
theorem hL_lacks {X : sp_X} (hX : sp_OK shX X cL_lacks "SwordPeaceLaw" 4 rmL_lacks) {τ : sp_St} {r : Int32} (hR : sp_Ri shX X (some .int) τ r 1 6) {n : Nat} (htab : (sx_c X).exceptionTable.toList = tableOf [(0, 9, 12, 18)])  {σ : sp_St} {a1 : Int32}  (hf : L_lacks n σ a1 = some (τ, r)) : sp_GG shX X σ 4 [some (.ref (sx_ad X 0)), some (.int a1), some (.ref (sx_ad X 68)), none] [] 0 0 0 := by
  unfold L_lacks at hf
  refine sp_aload_n (i := 2) (q := 1) hX dL_lacks_0 rfl rfl rfl ?_
  refine sp_iconst (v := 0) (q := 2) hX dL_lacks_1 li_0 rfl ?_
  refine sp_aload_n (i := 0) (q := 3) hX dL_lacks_2 rfl rfl rfl ?_
  refine sp_iload_n (i := 1) (q := 4) hX dL_lacks_3 rfl rfl rfl ?_
  obtain ⟨σ2, ρ3, h1, hr4, hx5⟩ := sp_bc_so hf
  refine sp_callXc (As := [.int a1]) (rest := [.int ((0 : Int32)), .ref (sx_ad X 68)]) (q := 7) hX (cnX11_lacks (sp_st hX) h1) cwL_75 atX_0 rfl rfl rfl rfl rfl (Nat.le_of_ble_eq_true rfl) (Nat.le_of_ble_eq_true rfl) (Nat.le_of_ble_eq_true rfl) (Nat.le_of_ble_eq_true rfl) (Nat.le_of_ble_eq_true rfl) dL_lacks_4 rfl (fun v6 hv => ?_) (fun k7 hk => ?_)
  · have hf := hr4 v6 hv
    refine sp_i2l (q := 8) hX dL_lacks_7 rfl ?_
    obtain ⟨σ8, e9, hf⟩ := sp_pl_some hf
    refine sp_last (q := 9) hX arX_68 (by decide) dL_lacks_8 rfl ?_
    refine sp_nms e9 ?_
    refine sp_goto (tgt := 15) hX dL_lacks_9 (by decide) ?_
    refine sp_iconst (v := 0) (q := 16) hX dL_lacks_15 li_0 rfl ?_
    exact sp_iret hX hR dL_lacks_16 hf (Nat.le_of_ble_eq_true rfl) (Nat.le_of_ble_eq_true rfl)
  · have hf := hx5 k7 hk
    obtain ⟨e10, hf⟩ := sp_ck_some hf
    replace e10 := of_decide_eq_true e10
    refine ⟨[], ⟨0, 9, 12, 18⟩, [], by rw [htab]; rfl, (fun z hz => by cases hz), by decide, by decide, by rw [e10]; exact clL_18, fun a9 => ?_⟩
    refine sp_astore_n (i := 3) (lv' := [some (.ref (sx_ad X 0)), some (.int a1), some (.ref (sx_ad X 68)), some (.ref a9)]) (q := 13) hX dL_lacks_12 rfl (Nat.le_of_ble_eq_true rfl) rfl rfl rfl ?_
    refine sp_iconst (v := 1) (q := 14) hX dL_lacks_13 li_1 rfl ?_
    exact sp_iret hX hR dL_lacks_14 hf (Nat.le_of_ble_eq_true rfl) (Nat.le_of_ble_eq_true rfl)
set_option maxRecDepth 100000 in
set_option maxHeartbeats 4000000 in
theorem cnL_lacks {l : Launch} (hst : l.stackTraces = false) {w : sp_Wd} {n : Nat}  {σ : sp_St} {a1 : Int32} {τ : sp_St} {r : Int32}  (hf : L_lacks n σ a1 = some (τ, r)) : sp_Cw shX l w yL_lacks cL_lacks 4 (some .int) [(0, 9, 12, 18)] rmL_lacks 1 6 σ [.ref (w.2.1 0), .int a1, .ref (w.2.1 68)] τ r :=
  sp_cw (by decide) rfl hst (Nat.le_of_ble_eq_true rfl) rfl (fun X hX htab hw hl hR => by subst hw; subst hl; exact hL_lacks hX hR htab  hf)
def rmL_above : Room := { frames := 8, cells := 1, slots := 6, locals := 143 }
def L_above (n : Nat)  (σ : sp_St) (a1 : Int32) : Option (sp_St × Int32) :=
  sp_bc (X11_above n σ a1) (fun σ2 v6 =>
    sp_pl (sp_sl σ2 68 ((0 : Int32)).toNatClampNeg v6.toInt64) fun σ8 =>
    some (σ8, (0 : Int32)))
    (fun σ2 k7 =>
    sp_ck (decide (k7 = 1)) <|
    some (σ2, (1 : Int32)))
set_option maxRecDepth 100000 in
set_option maxHeartbeats 4000000 in
theorem hL_above {X : sp_X} (hX : sp_OK shX X cL_above "SwordPeaceLaw" 4 rmL_above) {τ : sp_St} {r : Int32} (hR : sp_Ri shX X (some .int) τ r 1 6) {n : Nat} (htab : (sx_c X).exceptionTable.toList = tableOf [(0, 9, 12, 18)])  {σ : sp_St} {a1 : Int32}  (hf : L_above n σ a1 = some (τ, r)) : sp_GG shX X σ 4 [some (.ref (sx_ad X 0)), some (.int a1), some (.ref (sx_ad X 68)), none] [] 0 0 0 := by
  unfold L_above at hf
  refine sp_aload_n (i := 2) (q := 1) hX dL_above_0 rfl rfl rfl ?_
  refine sp_iconst (v := 0) (q := 2) hX dL_above_1 li_0 rfl ?_
  refine sp_aload_n (i := 0) (q := 3) hX dL_above_2 rfl rfl rfl ?_
  refine sp_iload_n (i := 1) (q := 4) hX dL_above_3 rfl rfl rfl ?_
  obtain ⟨σ2, ρ3, h1, hr4, hx5⟩ := sp_bc_so hf
  refine sp_callXc (As := [.int a1]) (rest := [.int ((0 : Int32)), .ref (sx_ad X 68)]) (q := 7) hX (cnX11_above (sp_st hX) h1) cwL_78 atX_0 rfl rfl rfl rfl rfl (Nat.le_of_ble_eq_true rfl) (Nat.le_of_ble_eq_true rfl) (Nat.le_of_ble_eq_true rfl) (Nat.le_of_ble_eq_true rfl) (Nat.le_of_ble_eq_true rfl) dL_above_4 rfl (fun v6 hv => ?_) (fun k7 hk => ?_)
  · have hf := hr4 v6 hv
    refine sp_i2l (q := 8) hX dL_above_7 rfl ?_
    obtain ⟨σ8, e9, hf⟩ := sp_pl_some hf
    refine sp_last (q := 9) hX arX_68 (by decide) dL_above_8 rfl ?_
    refine sp_nms e9 ?_
    refine sp_goto (tgt := 15) hX dL_above_9 (by decide) ?_
    refine sp_iconst (v := 0) (q := 16) hX dL_above_15 li_0 rfl ?_
    exact sp_iret hX hR dL_above_16 hf (Nat.le_of_ble_eq_true rfl) (Nat.le_of_ble_eq_true rfl)
  · have hf := hx5 k7 hk
    obtain ⟨e10, hf⟩ := sp_ck_some hf
    replace e10 := of_decide_eq_true e10
    refine ⟨[], ⟨0, 9, 12, 18⟩, [], by rw [htab]; rfl, (fun z hz => by cases hz), by decide, by decide, by rw [e10]; exact clL_18, fun a9 => ?_⟩
    refine sp_astore_n (i := 3) (lv' := [some (.ref (sx_ad X 0)), some (.int a1), some (.ref (sx_ad X 68)), some (.ref a9)]) (q := 13) hX dL_above_12 rfl (Nat.le_of_ble_eq_true rfl) rfl rfl rfl ?_
    refine sp_iconst (v := 1) (q := 14) hX dL_above_13 li_1 rfl ?_
    exact sp_iret hX hR dL_above_14 hf (Nat.le_of_ble_eq_true rfl) (Nat.le_of_ble_eq_true rfl)
set_option maxRecDepth 100000 in
set_option maxHeartbeats 4000000 in
theorem cnL_above {l : Launch} (hst : l.stackTraces = false) {w : sp_Wd} {n : Nat}  {σ : sp_St} {a1 : Int32} {τ : sp_St} {r : Int32}  (hf : L_above n σ a1 = some (τ, r)) : sp_Cw shX l w yL_above cL_above 4 (some .int) [(0, 9, 12, 18)] rmL_above 1 6 σ [.ref (w.2.1 0), .int a1, .ref (w.2.1 68)] τ r :=
  sp_cw (by decide) rfl hst (Nat.le_of_ble_eq_true rfl) rfl (fun X hX htab hw hl hR => by subst hw; subst hl; exact hL_above hX hR htab  hf)
def rmL_hiccup : Room := { frames := 8, cells := 1, slots := 6, locals := 143 }
def L_hiccup (n : Nat)  (σ : sp_St) (a1 : Int32) : Option (sp_St × Int32) :=
  sp_bc (X11_hiccup n σ a1) (fun σ2 v6 =>
    sp_pl (sp_sl σ2 68 ((0 : Int32)).toNatClampNeg v6.toInt64) fun σ8 =>
    some (σ8, (0 : Int32)))
    (fun σ2 k7 =>
    sp_ck (decide (k7 = 1)) <|
    some (σ2, (1 : Int32)))
set_option maxRecDepth 100000 in
set_option maxHeartbeats 4000000 in
theorem hL_hiccup {X : sp_X} (hX : sp_OK shX X cL_hiccup "SwordPeaceLaw" 4 rmL_hiccup) {τ : sp_St} {r : Int32} (hR : sp_Ri shX X (some .int) τ r 1 6) {n : Nat} (htab : (sx_c X).exceptionTable.toList = tableOf [(0, 9, 12, 18)])  {σ : sp_St} {a1 : Int32}  (hf : L_hiccup n σ a1 = some (τ, r)) : sp_GG shX X σ 4 [some (.ref (sx_ad X 0)), some (.int a1), some (.ref (sx_ad X 68)), none] [] 0 0 0 := by
  unfold L_hiccup at hf
  refine sp_aload_n (i := 2) (q := 1) hX dL_hiccup_0 rfl rfl rfl ?_
  refine sp_iconst (v := 0) (q := 2) hX dL_hiccup_1 li_0 rfl ?_
  refine sp_aload_n (i := 0) (q := 3) hX dL_hiccup_2 rfl rfl rfl ?_
  refine sp_iload_n (i := 1) (q := 4) hX dL_hiccup_3 rfl rfl rfl ?_
  obtain ⟨σ2, ρ3, h1, hr4, hx5⟩ := sp_bc_so hf
  refine sp_callXc (As := [.int a1]) (rest := [.int ((0 : Int32)), .ref (sx_ad X 68)]) (q := 7) hX (cnX11_hiccup (sp_st hX) h1) cwL_81 atX_0 rfl rfl rfl rfl rfl (Nat.le_of_ble_eq_true rfl) (Nat.le_of_ble_eq_true rfl) (Nat.le_of_ble_eq_true rfl) (Nat.le_of_ble_eq_true rfl) (Nat.le_of_ble_eq_true rfl) dL_hiccup_4 rfl (fun v6 hv => ?_) (fun k7 hk => ?_)
  · have hf := hr4 v6 hv
    refine sp_i2l (q := 8) hX dL_hiccup_7 rfl ?_
    obtain ⟨σ8, e9, hf⟩ := sp_pl_some hf
    refine sp_last (q := 9) hX arX_68 (by decide) dL_hiccup_8 rfl ?_
    refine sp_nms e9 ?_
    refine sp_goto (tgt := 15) hX dL_hiccup_9 (by decide) ?_
    refine sp_iconst (v := 0) (q := 16) hX dL_hiccup_15 li_0 rfl ?_
    exact sp_iret hX hR dL_hiccup_16 hf (Nat.le_of_ble_eq_true rfl) (Nat.le_of_ble_eq_true rfl)
  · have hf := hx5 k7 hk
    obtain ⟨e10, hf⟩ := sp_ck_some hf
    replace e10 := of_decide_eq_true e10
    refine ⟨[], ⟨0, 9, 12, 18⟩, [], by rw [htab]; rfl, (fun z hz => by cases hz), by decide, by decide, by rw [e10]; exact clL_18, fun a9 => ?_⟩
    refine sp_astore_n (i := 3) (lv' := [some (.ref (sx_ad X 0)), some (.int a1), some (.ref (sx_ad X 68)), some (.ref a9)]) (q := 13) hX dL_hiccup_12 rfl (Nat.le_of_ble_eq_true rfl) rfl rfl rfl ?_
    refine sp_iconst (v := 1) (q := 14) hX dL_hiccup_13 li_1 rfl ?_
    exact sp_iret hX hR dL_hiccup_14 hf (Nat.le_of_ble_eq_true rfl) (Nat.le_of_ble_eq_true rfl)
set_option maxRecDepth 100000 in
set_option maxHeartbeats 4000000 in
theorem cnL_hiccup {l : Launch} (hst : l.stackTraces = false) {w : sp_Wd} {n : Nat}  {σ : sp_St} {a1 : Int32} {τ : sp_St} {r : Int32}  (hf : L_hiccup n σ a1 = some (τ, r)) : sp_Cw shX l w yL_hiccup cL_hiccup 4 (some .int) [(0, 9, 12, 18)] rmL_hiccup 1 6 σ [.ref (w.2.1 0), .int a1, .ref (w.2.1 68)] τ r :=
  sp_cw (by decide) rfl hst (Nat.le_of_ble_eq_true rfl) rfl (fun X hX htab hw hl hR => by subst hw; subst hl; exact hL_hiccup hX hR htab  hf)
def rmL_see : Room := { frames := 8, cells := 1, slots := 6, locals := 145 }
def L_see (n : Nat)  (σ : sp_St) (a1 : Int32) (a2 : Int32) (a3 : Int32) : Option (sp_St × Int32) :=
  sp_bc (X11_see n σ a1 a2 a3) (fun σ2 v6 =>
    sp_pl (sp_sl σ2 68 ((0 : Int32)).toNatClampNeg v6.toInt64) fun σ8 =>
    some (σ8, (0 : Int32)))
    (fun σ2 k7 =>
    sp_ck (decide (k7 = 1)) <|
    some (σ2, (1 : Int32)))
set_option maxRecDepth 100000 in
set_option maxHeartbeats 4000000 in
theorem hL_see {X : sp_X} (hX : sp_OK shX X cL_see "SwordPeaceLaw" 6 rmL_see) {τ : sp_St} {r : Int32} (hR : sp_Ri shX X (some .int) τ r 1 6) {n : Nat} (htab : (sx_c X).exceptionTable.toList = tableOf [(0, 12, 15, 18)])  {σ : sp_St} {a1 : Int32} {a2 : Int32} {a3 : Int32}  (hf : L_see n σ a1 a2 a3 = some (τ, r)) : sp_GG shX X σ 6 [some (.ref (sx_ad X 0)), some (.int a1), some (.int a2), some (.int a3), some (.ref (sx_ad X 68)), none] [] 0 0 0 := by
  unfold L_see at hf
  refine sp_aload (i := 4) (q := 2) hX dL_see_0 rfl rfl ?_
  refine sp_iconst (v := 0) (q := 3) hX dL_see_2 li_0 rfl ?_
  refine sp_aload_n (i := 0) (q := 4) hX dL_see_3 rfl rfl rfl ?_
  refine sp_iload_n (i := 1) (q := 5) hX dL_see_4 rfl rfl rfl ?_
  refine sp_iload_n (i := 2) (q := 6) hX dL_see_5 rfl rfl rfl ?_
  refine sp_iload_n (i := 3) (q := 7) hX dL_see_6 rfl rfl rfl ?_
  obtain ⟨σ2, ρ3, h1, hr4, hx5⟩ := sp_bc_so hf
  refine sp_callXc (As := [.int a1, .int a2, .int a3]) (rest := [.int ((0 : Int32)), .ref (sx_ad X 68)]) (q := 10) hX (cnX11_see (sp_st hX) h1) cwL_84 atX_0 rfl rfl rfl rfl rfl (Nat.le_of_ble_eq_true rfl) (Nat.le_of_ble_eq_true rfl) (Nat.le_of_ble_eq_true rfl) (Nat.le_of_ble_eq_true rfl) (Nat.le_of_ble_eq_true rfl) dL_see_7 rfl (fun v6 hv => ?_) (fun k7 hk => ?_)
  · have hf := hr4 v6 hv
    refine sp_i2l (q := 11) hX dL_see_10 rfl ?_
    obtain ⟨σ8, e9, hf⟩ := sp_pl_some hf
    refine sp_last (q := 12) hX arX_68 (by decide) dL_see_11 rfl ?_
    refine sp_nms e9 ?_
    refine sp_goto (tgt := 19) hX dL_see_12 (by decide) ?_
    refine sp_iconst (v := 0) (q := 20) hX dL_see_19 li_0 rfl ?_
    exact sp_iret hX hR dL_see_20 hf (Nat.le_of_ble_eq_true rfl) (Nat.le_of_ble_eq_true rfl)
  · have hf := hx5 k7 hk
    obtain ⟨e10, hf⟩ := sp_ck_some hf
    replace e10 := of_decide_eq_true e10
    refine ⟨[], ⟨0, 12, 15, 18⟩, [], by rw [htab]; rfl, (fun z hz => by cases hz), by decide, by decide, by rw [e10]; exact clL_18, fun a9 => ?_⟩
    refine sp_astore (i := 5) (lv' := [some (.ref (sx_ad X 0)), some (.int a1), some (.int a2), some (.int a3), some (.ref (sx_ad X 68)), some (.ref a9)]) (q := 17) hX dL_see_15 (Nat.le_of_ble_eq_true rfl) rfl rfl rfl ?_
    refine sp_iconst (v := 1) (q := 18) hX dL_see_17 li_1 rfl ?_
    exact sp_iret hX hR dL_see_18 hf (Nat.le_of_ble_eq_true rfl) (Nat.le_of_ble_eq_true rfl)
set_option maxRecDepth 100000 in
set_option maxHeartbeats 4000000 in
theorem cnL_see {l : Launch} (hst : l.stackTraces = false) {w : sp_Wd} {n : Nat}  {σ : sp_St} {a1 : Int32} {a2 : Int32} {a3 : Int32} {τ : sp_St} {r : Int32}  (hf : L_see n σ a1 a2 a3 = some (τ, r)) : sp_Cw shX l w yL_see cL_see 6 (some .int) [(0, 12, 15, 18)] rmL_see 1 6 σ [.ref (w.2.1 0), .int a1, .int a2, .int a3, .ref (w.2.1 68)] τ r :=
  sp_cw (by decide) rfl hst (Nat.le_of_ble_eq_true rfl) rfl (fun X hX htab hw hl hR => by subst hw; subst hl; exact hL_see hX hR htab  hf)
def rmL_wrong : Room := { frames := 8, cells := 1, slots := 6, locals := 190 }
def L_wrong (n : Nat)  (σ : sp_St) (a1 : Int32) : Option (sp_St × Int32) :=
  sp_bc (X11_wrong n σ a1) (fun σ2 v6 =>
    sp_pl (sp_sl σ2 68 ((0 : Int32)).toNatClampNeg v6.toInt64) fun σ8 =>
    some (σ8, (0 : Int32)))
    (fun σ2 k7 =>
    sp_ck (decide (k7 = 1)) <|
    some (σ2, (1 : Int32)))
set_option maxRecDepth 100000 in
set_option maxHeartbeats 4000000 in
theorem hL_wrong {X : sp_X} (hX : sp_OK shX X cL_wrong "SwordPeaceLaw" 4 rmL_wrong) {τ : sp_St} {r : Int32} (hR : sp_Ri shX X (some .int) τ r 1 6) {n : Nat} (htab : (sx_c X).exceptionTable.toList = tableOf [(0, 9, 12, 18)])  {σ : sp_St} {a1 : Int32}  (hf : L_wrong n σ a1 = some (τ, r)) : sp_GG shX X σ 4 [some (.ref (sx_ad X 0)), some (.int a1), some (.ref (sx_ad X 68)), none] [] 0 0 0 := by
  unfold L_wrong at hf
  refine sp_aload_n (i := 2) (q := 1) hX dL_wrong_0 rfl rfl rfl ?_
  refine sp_iconst (v := 0) (q := 2) hX dL_wrong_1 li_0 rfl ?_
  refine sp_aload_n (i := 0) (q := 3) hX dL_wrong_2 rfl rfl rfl ?_
  refine sp_iload_n (i := 1) (q := 4) hX dL_wrong_3 rfl rfl rfl ?_
  obtain ⟨σ2, ρ3, h1, hr4, hx5⟩ := sp_bc_so hf
  refine sp_callXc (As := [.int a1]) (rest := [.int ((0 : Int32)), .ref (sx_ad X 68)]) (q := 7) hX (cnX11_wrong (sp_st hX) h1) cwL_87 atX_0 rfl rfl rfl rfl rfl (Nat.le_of_ble_eq_true rfl) (Nat.le_of_ble_eq_true rfl) (Nat.le_of_ble_eq_true rfl) (Nat.le_of_ble_eq_true rfl) (Nat.le_of_ble_eq_true rfl) dL_wrong_4 rfl (fun v6 hv => ?_) (fun k7 hk => ?_)
  · have hf := hr4 v6 hv
    refine sp_i2l (q := 8) hX dL_wrong_7 rfl ?_
    obtain ⟨σ8, e9, hf⟩ := sp_pl_some hf
    refine sp_last (q := 9) hX arX_68 (by decide) dL_wrong_8 rfl ?_
    refine sp_nms e9 ?_
    refine sp_goto (tgt := 15) hX dL_wrong_9 (by decide) ?_
    refine sp_iconst (v := 0) (q := 16) hX dL_wrong_15 li_0 rfl ?_
    exact sp_iret hX hR dL_wrong_16 hf (Nat.le_of_ble_eq_true rfl) (Nat.le_of_ble_eq_true rfl)
  · have hf := hx5 k7 hk
    obtain ⟨e10, hf⟩ := sp_ck_some hf
    replace e10 := of_decide_eq_true e10
    refine ⟨[], ⟨0, 9, 12, 18⟩, [], by rw [htab]; rfl, (fun z hz => by cases hz), by decide, by decide, by rw [e10]; exact clL_18, fun a9 => ?_⟩
    refine sp_astore_n (i := 3) (lv' := [some (.ref (sx_ad X 0)), some (.int a1), some (.ref (sx_ad X 68)), some (.ref a9)]) (q := 13) hX dL_wrong_12 rfl (Nat.le_of_ble_eq_true rfl) rfl rfl rfl ?_
    refine sp_iconst (v := 1) (q := 14) hX dL_wrong_13 li_1 rfl ?_
    exact sp_iret hX hR dL_wrong_14 hf (Nat.le_of_ble_eq_true rfl) (Nat.le_of_ble_eq_true rfl)
set_option maxRecDepth 100000 in
set_option maxHeartbeats 4000000 in
theorem cnL_wrong {l : Launch} (hst : l.stackTraces = false) {w : sp_Wd} {n : Nat}  {σ : sp_St} {a1 : Int32} {τ : sp_St} {r : Int32}  (hf : L_wrong n σ a1 = some (τ, r)) : sp_Cw shX l w yL_wrong cL_wrong 4 (some .int) [(0, 9, 12, 18)] rmL_wrong 1 6 σ [.ref (w.2.1 0), .int a1, .ref (w.2.1 68)] τ r :=
  sp_cw (by decide) rfl hst (Nat.le_of_ble_eq_true rfl) rfl (fun X hX htab hw hl hR => by subst hw; subst hl; exact hL_wrong hX hR htab  hf)
def rmL_look : Room := { frames := 8, cells := 1, slots := 6, locals := 189 }
def L_look (n : Nat)  (σ : sp_St) (a1 : Int32) : Option (sp_St × Int32) :=
  sp_bc (X11_look n σ a1) (fun σ2 v6 =>
    sp_pl (sp_sl σ2 68 ((0 : Int32)).toNatClampNeg v6.toInt64) fun σ8 =>
    some (σ8, (0 : Int32)))
    (fun σ2 k7 =>
    sp_ck (decide (k7 = 1)) <|
    some (σ2, (1 : Int32)))
set_option maxRecDepth 100000 in
set_option maxHeartbeats 4000000 in
theorem hL_look {X : sp_X} (hX : sp_OK shX X cL_look "SwordPeaceLaw" 4 rmL_look) {τ : sp_St} {r : Int32} (hR : sp_Ri shX X (some .int) τ r 1 6) {n : Nat} (htab : (sx_c X).exceptionTable.toList = tableOf [(0, 9, 12, 18)])  {σ : sp_St} {a1 : Int32}  (hf : L_look n σ a1 = some (τ, r)) : sp_GG shX X σ 4 [some (.ref (sx_ad X 0)), some (.int a1), some (.ref (sx_ad X 68)), none] [] 0 0 0 := by
  unfold L_look at hf
  refine sp_aload_n (i := 2) (q := 1) hX dL_look_0 rfl rfl rfl ?_
  refine sp_iconst (v := 0) (q := 2) hX dL_look_1 li_0 rfl ?_
  refine sp_aload_n (i := 0) (q := 3) hX dL_look_2 rfl rfl rfl ?_
  refine sp_iload_n (i := 1) (q := 4) hX dL_look_3 rfl rfl rfl ?_
  obtain ⟨σ2, ρ3, h1, hr4, hx5⟩ := sp_bc_so hf
  refine sp_callXc (As := [.int a1]) (rest := [.int ((0 : Int32)), .ref (sx_ad X 68)]) (q := 7) hX (cnX11_look (sp_st hX) h1) cwL_90 atX_0 rfl rfl rfl rfl rfl (Nat.le_of_ble_eq_true rfl) (Nat.le_of_ble_eq_true rfl) (Nat.le_of_ble_eq_true rfl) (Nat.le_of_ble_eq_true rfl) (Nat.le_of_ble_eq_true rfl) dL_look_4 rfl (fun v6 hv => ?_) (fun k7 hk => ?_)
  · have hf := hr4 v6 hv
    refine sp_i2l (q := 8) hX dL_look_7 rfl ?_
    obtain ⟨σ8, e9, hf⟩ := sp_pl_some hf
    refine sp_last (q := 9) hX arX_68 (by decide) dL_look_8 rfl ?_
    refine sp_nms e9 ?_
    refine sp_goto (tgt := 15) hX dL_look_9 (by decide) ?_
    refine sp_iconst (v := 0) (q := 16) hX dL_look_15 li_0 rfl ?_
    exact sp_iret hX hR dL_look_16 hf (Nat.le_of_ble_eq_true rfl) (Nat.le_of_ble_eq_true rfl)
  · have hf := hx5 k7 hk
    obtain ⟨e10, hf⟩ := sp_ck_some hf
    replace e10 := of_decide_eq_true e10
    refine ⟨[], ⟨0, 9, 12, 18⟩, [], by rw [htab]; rfl, (fun z hz => by cases hz), by decide, by decide, by rw [e10]; exact clL_18, fun a9 => ?_⟩
    refine sp_astore_n (i := 3) (lv' := [some (.ref (sx_ad X 0)), some (.int a1), some (.ref (sx_ad X 68)), some (.ref a9)]) (q := 13) hX dL_look_12 rfl (Nat.le_of_ble_eq_true rfl) rfl rfl rfl ?_
    refine sp_iconst (v := 1) (q := 14) hX dL_look_13 li_1 rfl ?_
    exact sp_iret hX hR dL_look_14 hf (Nat.le_of_ble_eq_true rfl) (Nat.le_of_ble_eq_true rfl)
set_option maxRecDepth 100000 in
set_option maxHeartbeats 4000000 in
theorem cnL_look {l : Launch} (hst : l.stackTraces = false) {w : sp_Wd} {n : Nat}  {σ : sp_St} {a1 : Int32} {τ : sp_St} {r : Int32}  (hf : L_look n σ a1 = some (τ, r)) : sp_Cw shX l w yL_look cL_look 4 (some .int) [(0, 9, 12, 18)] rmL_look 1 6 σ [.ref (w.2.1 0), .int a1, .ref (w.2.1 68)] τ r :=
  sp_cw (by decide) rfl hst (Nat.le_of_ble_eq_true rfl) rfl (fun X hX htab hw hl hR => by subst hw; subst hl; exact hL_look hX hR htab  hf)
def rmL_game : Room := { frames := 8, cells := 4, slots := 24, locals := 185 }
def L_game (n : Nat)  (σ : sp_St) (a1 : Int32) (a2 : Int32) (a3 : Int32) : Option (sp_St × Int32) :=
  sp_bc (X11_game n σ a1 a2 a3) (fun σ2 v6 =>
    sp_pl (sp_sl σ2 68 ((0 : Int32)).toNatClampNeg v6.toInt64) fun σ8 =>
    some (σ8, (0 : Int32)))
    (fun σ2 k7 =>
    if k7 = 1 then
      some (σ2, (1 : Int32))
    else
      sp_ck (decide (k7 = 2)) <|
      some (σ2, (2 : Int32)))
set_option maxRecDepth 100000 in
set_option maxHeartbeats 4000000 in
theorem hL_game {X : sp_X} (hX : sp_OK shX X cL_game "SwordPeaceLaw" 6 rmL_game) {τ : sp_St} {r : Int32} (hR : sp_Ri shX X (some .int) τ r 4 24) {n : Nat} (htab : (sx_c X).exceptionTable.toList = tableOf [(0, 12, 15, 18), (0, 12, 19, 13)])  {σ : sp_St} {a1 : Int32} {a2 : Int32} {a3 : Int32}  (hf : L_game n σ a1 a2 a3 = some (τ, r)) : sp_GG shX X σ 6 [some (.ref (sx_ad X 0)), some (.int a1), some (.int a2), some (.int a3), some (.ref (sx_ad X 68)), none] [] 0 0 0 := by
  unfold L_game at hf
  refine sp_aload (i := 4) (q := 2) hX dL_game_0 rfl rfl ?_
  refine sp_iconst (v := 0) (q := 3) hX dL_game_2 li_0 rfl ?_
  refine sp_aload_n (i := 0) (q := 4) hX dL_game_3 rfl rfl rfl ?_
  refine sp_iload_n (i := 1) (q := 5) hX dL_game_4 rfl rfl rfl ?_
  refine sp_iload_n (i := 2) (q := 6) hX dL_game_5 rfl rfl rfl ?_
  refine sp_iload_n (i := 3) (q := 7) hX dL_game_6 rfl rfl rfl ?_
  obtain ⟨σ2, ρ3, h1, hr4, hx5⟩ := sp_bc_so hf
  refine sp_callXc (As := [.int a1, .int a2, .int a3]) (rest := [.int ((0 : Int32)), .ref (sx_ad X 68)]) (q := 10) hX (cnX11_game (sp_st hX) h1) cwL_93 atX_0 rfl rfl rfl rfl rfl (Nat.le_of_ble_eq_true rfl) (Nat.le_of_ble_eq_true rfl) (Nat.le_of_ble_eq_true rfl) (Nat.le_of_ble_eq_true rfl) (Nat.le_of_ble_eq_true rfl) dL_game_7 rfl (fun v6 hv => ?_) (fun k7 hk => ?_)
  · have hf := hr4 v6 hv
    refine sp_i2l (q := 11) hX dL_game_10 rfl ?_
    obtain ⟨σ8, e9, hf⟩ := sp_pl_some hf
    refine sp_last (q := 12) hX arX_68 (by decide) dL_game_11 rfl ?_
    refine sp_nms e9 ?_
    refine sp_goto (tgt := 23) hX dL_game_12 (by decide) ?_
    refine sp_iconst (v := 0) (q := 24) hX dL_game_23 li_0 rfl ?_
    exact sp_iret hX hR dL_game_24 hf (Nat.le_of_ble_eq_true rfl) (Nat.le_of_ble_eq_true rfl)
  · have hf := hx5 k7 hk
    by_cases e10 : k7 = 1
    · rw [if_pos e10] at hf
      refine ⟨[], ⟨0, 12, 15, 18⟩, [⟨0, 12, 19, 13⟩], by rw [htab]; rfl, (fun z hz => by cases hz), by decide, by decide, by rw [e10]; exact clL_18, fun a9 => ?_⟩
      refine sp_astore (i := 5) (lv' := [some (.ref (sx_ad X 0)), some (.int a1), some (.int a2), some (.int a3), some (.ref (sx_ad X 68)), some (.ref a9)]) (q := 17) hX dL_game_15 (Nat.le_of_ble_eq_true rfl) rfl rfl rfl ?_
      refine sp_iconst (v := 1) (q := 18) hX dL_game_17 li_1 rfl ?_
      exact sp_iret hX hR dL_game_18 hf (Nat.le_of_ble_eq_true rfl) (Nat.le_of_ble_eq_true rfl)
    · rw [if_neg e10] at hf
      obtain ⟨e10, hf⟩ := sp_ck_some hf
      replace e10 := of_decide_eq_true e10
      refine ⟨[⟨0, 12, 15, 18⟩], ⟨0, 12, 19, 13⟩, [], by rw [htab]; rfl, (fun z hz => by rw [List.mem_singleton.mp hz]; exact Or.inr ⟨by decide, _, clL_18, by rw [e10]; exact (sp_ev hX).2.2.2.2.2.2.2.2⟩), by decide, by decide, by rw [e10]; exact clL_13, fun a9 => ?_⟩
      refine sp_astore (i := 5) (lv' := [some (.ref (sx_ad X 0)), some (.int a1), some (.int a2), some (.int a3), some (.ref (sx_ad X 68)), some (.ref a9)]) (q := 21) hX dL_game_19 (Nat.le_of_ble_eq_true rfl) rfl rfl rfl ?_
      refine sp_iconst (v := 2) (q := 22) hX dL_game_21 li_2 rfl ?_
      exact sp_iret hX hR dL_game_22 hf (Nat.le_of_ble_eq_true rfl) (Nat.le_of_ble_eq_true rfl)
set_option maxRecDepth 100000 in
set_option maxHeartbeats 4000000 in
theorem cnL_game {l : Launch} (hst : l.stackTraces = false) {w : sp_Wd} {n : Nat}  {σ : sp_St} {a1 : Int32} {a2 : Int32} {a3 : Int32} {τ : sp_St} {r : Int32}  (hf : L_game n σ a1 a2 a3 = some (τ, r)) : sp_Cw shX l w yL_game cL_game 6 (some .int) [(0, 12, 15, 18), (0, 12, 19, 13)] rmL_game 4 24 σ [.ref (w.2.1 0), .int a1, .int a2, .int a3, .ref (w.2.1 68)] τ r :=
  sp_cw (by decide) rfl hst (Nat.le_of_ble_eq_true rfl) rfl (fun X hX htab hw hl hR => by subst hw; subst hl; exact hL_game hX hR htab  hf)
def rmL_summer : Room := { frames := 8, cells := 2, slots := 12, locals := 170 }
def L_summer (n : Nat)  (σ : sp_St) (a1 : Int32) (a2 : Int32) (a3 : Int32) : Option (sp_St × Int32) :=
  sp_bc (X11_summer n σ a1 a2 a3) (fun σ2 v6 =>
    sp_pl (sp_sl σ2 68 ((0 : Int32)).toNatClampNeg v6.toInt64) fun σ8 =>
    some (σ8, (0 : Int32)))
    (fun σ2 k7 =>
    if k7 = 1 then
      some (σ2, (1 : Int32))
    else
      sp_ck (decide (k7 = 2)) <|
      some (σ2, (2 : Int32)))
set_option maxRecDepth 100000 in
set_option maxHeartbeats 4000000 in
theorem hL_summer {X : sp_X} (hX : sp_OK shX X cL_summer "SwordPeaceLaw" 6 rmL_summer) {τ : sp_St} {r : Int32} (hR : sp_Ri shX X (some .int) τ r 2 12) {n : Nat} (htab : (sx_c X).exceptionTable.toList = tableOf [(0, 12, 15, 18), (0, 12, 19, 13)])  {σ : sp_St} {a1 : Int32} {a2 : Int32} {a3 : Int32}  (hf : L_summer n σ a1 a2 a3 = some (τ, r)) : sp_GG shX X σ 6 [some (.ref (sx_ad X 0)), some (.int a1), some (.int a2), some (.int a3), some (.ref (sx_ad X 68)), none] [] 0 0 0 := by
  unfold L_summer at hf
  refine sp_aload (i := 4) (q := 2) hX dL_summer_0 rfl rfl ?_
  refine sp_iconst (v := 0) (q := 3) hX dL_summer_2 li_0 rfl ?_
  refine sp_aload_n (i := 0) (q := 4) hX dL_summer_3 rfl rfl rfl ?_
  refine sp_iload_n (i := 1) (q := 5) hX dL_summer_4 rfl rfl rfl ?_
  refine sp_iload_n (i := 2) (q := 6) hX dL_summer_5 rfl rfl rfl ?_
  refine sp_iload_n (i := 3) (q := 7) hX dL_summer_6 rfl rfl rfl ?_
  obtain ⟨σ2, ρ3, h1, hr4, hx5⟩ := sp_bc_so hf
  refine sp_callXc (As := [.int a1, .int a2, .int a3]) (rest := [.int ((0 : Int32)), .ref (sx_ad X 68)]) (q := 10) hX (cnX11_summer (sp_st hX) h1) cwL_96 atX_0 rfl rfl rfl rfl rfl (Nat.le_of_ble_eq_true rfl) (Nat.le_of_ble_eq_true rfl) (Nat.le_of_ble_eq_true rfl) (Nat.le_of_ble_eq_true rfl) (Nat.le_of_ble_eq_true rfl) dL_summer_7 rfl (fun v6 hv => ?_) (fun k7 hk => ?_)
  · have hf := hr4 v6 hv
    refine sp_i2l (q := 11) hX dL_summer_10 rfl ?_
    obtain ⟨σ8, e9, hf⟩ := sp_pl_some hf
    refine sp_last (q := 12) hX arX_68 (by decide) dL_summer_11 rfl ?_
    refine sp_nms e9 ?_
    refine sp_goto (tgt := 23) hX dL_summer_12 (by decide) ?_
    refine sp_iconst (v := 0) (q := 24) hX dL_summer_23 li_0 rfl ?_
    exact sp_iret hX hR dL_summer_24 hf (Nat.le_of_ble_eq_true rfl) (Nat.le_of_ble_eq_true rfl)
  · have hf := hx5 k7 hk
    by_cases e10 : k7 = 1
    · rw [if_pos e10] at hf
      refine ⟨[], ⟨0, 12, 15, 18⟩, [⟨0, 12, 19, 13⟩], by rw [htab]; rfl, (fun z hz => by cases hz), by decide, by decide, by rw [e10]; exact clL_18, fun a9 => ?_⟩
      refine sp_astore (i := 5) (lv' := [some (.ref (sx_ad X 0)), some (.int a1), some (.int a2), some (.int a3), some (.ref (sx_ad X 68)), some (.ref a9)]) (q := 17) hX dL_summer_15 (Nat.le_of_ble_eq_true rfl) rfl rfl rfl ?_
      refine sp_iconst (v := 1) (q := 18) hX dL_summer_17 li_1 rfl ?_
      exact sp_iret hX hR dL_summer_18 hf (Nat.le_of_ble_eq_true rfl) (Nat.le_of_ble_eq_true rfl)
    · rw [if_neg e10] at hf
      obtain ⟨e10, hf⟩ := sp_ck_some hf
      replace e10 := of_decide_eq_true e10
      refine ⟨[⟨0, 12, 15, 18⟩], ⟨0, 12, 19, 13⟩, [], by rw [htab]; rfl, (fun z hz => by rw [List.mem_singleton.mp hz]; exact Or.inr ⟨by decide, _, clL_18, by rw [e10]; exact (sp_ev hX).2.2.2.2.2.2.2.2⟩), by decide, by decide, by rw [e10]; exact clL_13, fun a9 => ?_⟩
      refine sp_astore (i := 5) (lv' := [some (.ref (sx_ad X 0)), some (.int a1), some (.int a2), some (.int a3), some (.ref (sx_ad X 68)), some (.ref a9)]) (q := 21) hX dL_summer_19 (Nat.le_of_ble_eq_true rfl) rfl rfl rfl ?_
      refine sp_iconst (v := 2) (q := 22) hX dL_summer_21 li_2 rfl ?_
      exact sp_iret hX hR dL_summer_22 hf (Nat.le_of_ble_eq_true rfl) (Nat.le_of_ble_eq_true rfl)
set_option maxRecDepth 100000 in
set_option maxHeartbeats 4000000 in
theorem cnL_summer {l : Launch} (hst : l.stackTraces = false) {w : sp_Wd} {n : Nat}  {σ : sp_St} {a1 : Int32} {a2 : Int32} {a3 : Int32} {τ : sp_St} {r : Int32}  (hf : L_summer n σ a1 a2 a3 = some (τ, r)) : sp_Cw shX l w yL_summer cL_summer 6 (some .int) [(0, 12, 15, 18), (0, 12, 19, 13)] rmL_summer 2 12 σ [.ref (w.2.1 0), .int a1, .int a2, .int a3, .ref (w.2.1 68)] τ r :=
  sp_cw (by decide) rfl hst (Nat.le_of_ble_eq_true rfl) rfl (fun X hX htab hw hl hR => by subst hw; subst hl; exact hL_summer hX hR htab  hf)
