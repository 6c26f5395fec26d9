theorem lg_arr {args : Array Value} {s : State} {ty : FieldType} (hp : ∀ C, ty ≠ .object C) (h : (Cond.arrayClass ty).before args s = true) : ∃ c, ArrOfT s c ty ∧ va_RA s c ty := by
  obtain ⟨c, k, comp, h1, h2, h3⟩ := Cond.arrayClass_spec h
  refine ⟨c, fun n z => ⟨fun k h => (by cases h), k, h2, comp, h3⟩, ?_⟩
  unfold va_RA
  cases ty <;> first | exact (hp _ rfl).elim | exact h1
theorem lg_arrS {args : Array Value} {s : State} {C : String} (h : (Cond.arrayOver (.object C)).before args s = true) : ∃ c, ArrOfT s c (.object C) ∧ va_RA s c (.object C) := by
  obtain ⟨comp, c, k, h1, _, h3, h4, h5⟩ := Cond.arrayOver_spec h
  exact ⟨c, fun n z => ⟨fun k h => (by cases h), k, h3, comp, h4⟩, k, comp, h3, h4, h1, h5⟩
theorem lg_nws : ∀ v ∈ sp_nws, v ∈ lw_tbl := by decide +kernel
theorem lg_vkS {len : Nat} {byt : List Int32} {K V : Nat → Nat} {A : Nat → Prop} {s : State} (h : vk_S 1 [len] [byt] K V A s s.heap) : vk_S 1 [len] [byt] (fun _ => K 0) (fun _ => V 0) A s s.heap := by
  refine ⟨fun i hi => ?_, fun i j hi hj _ => by omega⟩
  obtain rfl : i = 0 := by omega
  exact h.1 0 hi
theorem Cond.before_value {args : Array Value} {s : State} {c : Cond} (h : c.before args s = true) : c.value args s none s [] = some true := by
  simpa [Cond.before, Cond.holds] using h
set_option maxHeartbeats 8000000 in
set_option maxRecDepth 100000 in
/-- what the start gives: the classes' numbers, the texts, the array classes -/
theorem lg_start {p : Program} {s : State} {m : MethodId} {meth : Method} {c : Code} {b L : Nat} {xs : Nat → Int32} (C0 : lw_At p s m meth c b L xs) : ∃ (D : va_G) (tx : Nat → Nat → Nat) (cy : Nat → ClassId), ∀ ad : Nat → Nat, va_K D vwCl (sp_tys (D, ad, tx, cy)) s ∧ sp_Ev (D, ad, tx, cy) (fun q => s.heap.size ≤ q) s s.heap := by
  obtain ⟨hx, hb, hr, hml, hown, hts, hX, hbl, hlocks, hgv⟩ := C0
  have hT : ∀ w ∈ sp_T, w.before #[Value.ref b] s = true := fun w hw => hts w (List.mem_filter.mp hw).1
  obtain ⟨c0, i0, k0⟩ := u_known (C := RX0) (T := TX0) (N := 7) (n := 7) hT fwX0 (hT _ wc_358)
  obtain ⟨c1, i1, k1⟩ := u_known (C := RX1) (T := TX1) (N := 6) (n := 6) hT fwX1 (hT _ wc_321)
  obtain ⟨c2, i2, k2⟩ := u_known (C := RX2) (T := TX2) (N := 18) (n := 18) hT fwX2 (hT _ wc_163)
  obtain ⟨c3, i3, k3⟩ := u_known (C := RX3) (T := TX3) (N := 6) (n := 6) hT fwX3 (hT _ wc_499)
  obtain ⟨c4, i4, k4⟩ := u_known (C := RX4) (T := TX4) (N := 9) (n := 9) hT fwX4 (hT _ wc_439)
  obtain ⟨c5, i5, k5⟩ := u_known (C := RX5) (T := TX5) (N := 5) (n := 5) hT fwX5 (hT _ wc_477)
  obtain ⟨c6, i6, k6⟩ := u_known (C := RX6) (T := TX6) (N := 2) (n := 2) hT fwX6 (hT _ wc_527)
  obtain ⟨c7, i7, k7⟩ := u_known (C := RX7) (T := TX7) (N := 5) (n := 5) hT fwX7 (hT _ wc_270)
  obtain ⟨c8, i8, k8⟩ := u_known (C := RX8) (T := TX8) (N := 6) (n := 6) hT fwX8 (hT _ wc_352)
  obtain ⟨c9, i9, k9⟩ := u_known (C := RX9) (T := TX9) (N := 4) (n := 4) hT fwX9 (hT _ wc_327)
  obtain ⟨c10, i10, k10⟩ := u_known (C := RX10) (T := TX10) (N := 6) (n := 6) hT fwX10 (hT _ wc_272)
  obtain ⟨c11, i11, k11⟩ := u_known (C := RX11) (T := TX11) (N := 13) (n := 13) hT fwX11 (hT _ wc_155)
  obtain ⟨c12, i12, k12⟩ := u_known (C := RX12) (T := TX12) (N := 64) (n := 64) hT fwX12 (hT _ wc_1586)
  obtain ⟨y0, r0⟩ := lg_arr (ty := .int) (fun C h => by cases h) (hT _ wc_268)
  obtain ⟨y1, r1⟩ := lg_arr (ty := .boolean) (fun C h => by cases h) (hT _ wc_1793)
  obtain ⟨y2, r2⟩ := lg_arr (ty := .long) (fun C h => by cases h) (hT _ wc_525)
  have hAO : (Cond.arrayOver (.object "java/lang/String")).before #[Value.ref b] s = true := hts _ (List.mem_of_getElem? (i := 1592) (by decide +kernel))
  obtain ⟨y3, r3⟩ := lg_arrS hAO
  have hA : ∀ a : Nat, a < s.heap.size → ¬ (fun q : Nat => s.heap.size ≤ q) a := fun a h h2 => absurd h2 (Nat.not_le.mpr h)
  have hs := flat_of_before _ hgv
  have e0 : ∀ j : Nat, j < 5 → (Cond.eq (.elem (.field (Term.string "SwordPeaceModel" 11) "java/lang/String" "value" "[B") (.int (Int32.ofNat j))) (.int ((sp_bytS.getD 0 []).getD j 0))).before #[Value.ref b] s = true := by
    intro j hj
    rcases (show j = 0 ∨ j = 1 ∨ j = 2 ∨ j = 3 ∨ j = 4 by omega) with rfl | rfl | rfl | rfl | rfl <;> exact hs _ (by decide +kernel)
  obtain ⟨K0, V0, S0, E0⟩ := vk_Sof (N := 1) (tm := fun _ => (Term.string "SwordPeaceModel" 11)) (len := [sp_lenS.getD 0 0]) (byt := [sp_bytS.getD 0 []]) (A := fun q => s.heap.size ≤ q) (args := #[Value.ref b]) (s := s) (fun j hj => by obtain rfl : j = 0 := (by omega); decide) (fun j hj => hs _ (by decide +kernel)) (fun j hj => hs _ (by decide +kernel)) (fun j hj => hs _ (by decide +kernel)) (fun j hj => by obtain rfl : j = 0 := (by omega); exact hs _ (by decide +kernel)) (fun j hj => by obtain rfl : j = 0 := (by omega); exact e0) (fun x y hx hy hn => absurd (by omega : x = y) hn) hA
  replace E0 := E0 0 (by decide)
  have F0 : (Term.string "SwordPeace$Reader" 199).eval #[Value.ref b] s none [] s = some (.ref (K0 0)) := va_eqI (Cond.before_value (hs (Cond.eq (Term.string "SwordPeace$Reader" 199) (Term.string "SwordPeaceModel" 11)) (by decide +kernel))) E0
  have e1 : ∀ j : Nat, j < 6 → (Cond.eq (.elem (.field (Term.string "SwordPeaceModel" 13) "java/lang/String" "value" "[B") (.int (Int32.ofNat j))) (.int ((sp_bytS.getD 1 []).getD j 0))).before #[Value.ref b] s = true := by
    intro j hj
    rcases (show j = 0 ∨ j = 1 ∨ j = 2 ∨ j = 3 ∨ j = 4 ∨ j = 5 by omega) with rfl | rfl | rfl | rfl | rfl | rfl <;> exact hs _ (by decide +kernel)
  obtain ⟨K1, V1, S1, E1⟩ := vk_Sof (N := 1) (tm := fun _ => (Term.string "SwordPeaceModel" 13)) (len := [sp_lenS.getD 1 0]) (byt := [sp_bytS.getD 1 []]) (A := fun q => s.heap.size ≤ q) (args := #[Value.ref b]) (s := s) (fun j hj => by obtain rfl : j = 0 := (by omega); decide) (fun j hj => hs _ (by decide +kernel)) (fun j hj => hs _ (by decide +kernel)) (fun j hj => hs _ (by decide +kernel)) (fun j hj => by obtain rfl : j = 0 := (by omega); exact hs _ (by decide +kernel)) (fun j hj => by obtain rfl : j = 0 := (by omega); exact e1) (fun x y hx hy hn => absurd (by omega : x = y) hn) hA
  replace E1 := E1 0 (by decide)
  have F1 : (Term.string "SwordPeace$Reader" 200).eval #[Value.ref b] s none [] s = some (.ref (K1 0)) := va_eqI (Cond.before_value (hs (Cond.eq (Term.string "SwordPeace$Reader" 200) (Term.string "SwordPeaceModel" 13)) (by decide +kernel))) E1
  have e2 : ∀ j : Nat, j < 3 → (Cond.eq (.elem (.field (Term.string "SwordPeaceModel" 15) "java/lang/String" "value" "[B") (.int (Int32.ofNat j))) (.int ((sp_bytS.getD 2 []).getD j 0))).before #[Value.ref b] s = true := by
    intro j hj
    rcases (show j = 0 ∨ j = 1 ∨ j = 2 by omega) with rfl | rfl | rfl <;> exact hs _ (by decide +kernel)
  obtain ⟨K2, V2, S2, E2⟩ := vk_Sof (N := 1) (tm := fun _ => (Term.string "SwordPeaceModel" 15)) (len := [sp_lenS.getD 2 0]) (byt := [sp_bytS.getD 2 []]) (A := fun q => s.heap.size ≤ q) (args := #[Value.ref b]) (s := s) (fun j hj => by obtain rfl : j = 0 := (by omega); decide) (fun j hj => hs _ (by decide +kernel)) (fun j hj => hs _ (by decide +kernel)) (fun j hj => hs _ (by decide +kernel)) (fun j hj => by obtain rfl : j = 0 := (by omega); exact hs _ (by decide +kernel)) (fun j hj => by obtain rfl : j = 0 := (by omega); exact e2) (fun x y hx hy hn => absurd (by omega : x = y) hn) hA
  replace E2 := E2 0 (by decide)
  have F2 : (Term.string "SwordPeace$Reader" 201).eval #[Value.ref b] s none [] s = some (.ref (K2 0)) := va_eqI (Cond.before_value (hs (Cond.eq (Term.string "SwordPeace$Reader" 201) (Term.string "SwordPeaceModel" 15)) (by decide +kernel))) E2
  have e3 : ∀ j : Nat, j < 4 → (Cond.eq (.elem (.field (Term.string "SwordPeaceModel" 17) "java/lang/String" "value" "[B") (.int (Int32.ofNat j))) (.int ((sp_bytS.getD 3 []).getD j 0))).before #[Value.ref b] s = true := by
    intro j hj
    rcases (show j = 0 ∨ j = 1 ∨ j = 2 ∨ j = 3 by omega) with rfl | rfl | rfl | rfl <;> exact hs _ (by decide +kernel)
  obtain ⟨K3, V3, S3, E3⟩ := vk_Sof (N := 1) (tm := fun _ => (Term.string "SwordPeaceModel" 17)) (len := [sp_lenS.getD 3 0]) (byt := [sp_bytS.getD 3 []]) (A := fun q => s.heap.size ≤ q) (args := #[Value.ref b]) (s := s) (fun j hj => by obtain rfl : j = 0 := (by omega); decide) (fun j hj => hs _ (by decide +kernel)) (fun j hj => hs _ (by decide +kernel)) (fun j hj => hs _ (by decide +kernel)) (fun j hj => by obtain rfl : j = 0 := (by omega); exact hs _ (by decide +kernel)) (fun j hj => by obtain rfl : j = 0 := (by omega); exact e3) (fun x y hx hy hn => absurd (by omega : x = y) hn) hA
  replace E3 := E3 0 (by decide)
  have F3 : (Term.string "SwordPeace$Reader" 203).eval #[Value.ref b] s none [] s = some (.ref (K3 0)) := va_eqI (Cond.before_value (hs (Cond.eq (Term.string "SwordPeace$Reader" 203) (Term.string "SwordPeaceModel" 17)) (by decide +kernel))) E3
  have e4 : ∀ j : Nat, j < 6 → (Cond.eq (.elem (.field (Term.string "SwordPeaceModel" 19) "java/lang/String" "value" "[B") (.int (Int32.ofNat j))) (.int ((sp_bytS.getD 4 []).getD j 0))).before #[Value.ref b] s = true := by
    intro j hj
    rcases (show j = 0 ∨ j = 1 ∨ j = 2 ∨ j = 3 ∨ j = 4 ∨ j = 5 by omega) with rfl | rfl | rfl | rfl | rfl | rfl <;> exact hs _ (by decide +kernel)
  obtain ⟨K4, V4, S4, E4⟩ := vk_Sof (N := 1) (tm := fun _ => (Term.string "SwordPeaceModel" 19)) (len := [sp_lenS.getD 4 0]) (byt := [sp_bytS.getD 4 []]) (A := fun q => s.heap.size ≤ q) (args := #[Value.ref b]) (s := s) (fun j hj => by obtain rfl : j = 0 := (by omega); decide) (fun j hj => hs _ (by decide +kernel)) (fun j hj => hs _ (by decide +kernel)) (fun j hj => hs _ (by decide +kernel)) (fun j hj => by obtain rfl : j = 0 := (by omega); exact hs _ (by decide +kernel)) (fun j hj => by obtain rfl : j = 0 := (by omega); exact e4) (fun x y hx hy hn => absurd (by omega : x = y) hn) hA
  replace E4 := E4 0 (by decide)
  have F4 : (Term.string "SwordPeace$Reader" 205).eval #[Value.ref b] s none [] s = some (.ref (K4 0)) := va_eqI (Cond.before_value (hs (Cond.eq (Term.string "SwordPeace$Reader" 205) (Term.string "SwordPeaceModel" 19)) (by decide +kernel))) E4
  have e5 : ∀ j : Nat, j < 5 → (Cond.eq (.elem (.field (Term.string "SwordPeaceModel" 21) "java/lang/String" "value" "[B") (.int (Int32.ofNat j))) (.int ((sp_bytS.getD 5 []).getD j 0))).before #[Value.ref b] s = true := by
    intro j hj
    rcases (show j = 0 ∨ j = 1 ∨ j = 2 ∨ j = 3 ∨ j = 4 by omega) with rfl | rfl | rfl | rfl | rfl <;> exact hs _ (by decide +kernel)
  obtain ⟨K5, V5, S5, E5⟩ := vk_Sof (N := 1) (tm := fun _ => (Term.string "SwordPeaceModel" 21)) (len := [sp_lenS.getD 5 0]) (byt := [sp_bytS.getD 5 []]) (A := fun q => s.heap.size ≤ q) (args := #[Value.ref b]) (s := s) (fun j hj => by obtain rfl : j = 0 := (by omega); decide) (fun j hj => hs _ (by decide +kernel)) (fun j hj => hs _ (by decide +kernel)) (fun j hj => hs _ (by decide +kernel)) (fun j hj => by obtain rfl : j = 0 := (by omega); exact hs _ (by decide +kernel)) (fun j hj => by obtain rfl : j = 0 := (by omega); exact e5) (fun x y hx hy hn => absurd (by omega : x = y) hn) hA
  replace E5 := E5 0 (by decide)
  have F5 : (Term.string "SwordPeace$Reader" 207).eval #[Value.ref b] s none [] s = some (.ref (K5 0)) := va_eqI (Cond.before_value (hs (Cond.eq (Term.string "SwordPeace$Reader" 207) (Term.string "SwordPeaceModel" 21)) (by decide +kernel))) E5
  have e6 : ∀ j : Nat, j < 3 → (Cond.eq (.elem (.field (Term.string "SwordPeaceModel" 265) "java/lang/String" "value" "[B") (.int (Int32.ofNat j))) (.int ((sp_bytS.getD 6 []).getD j 0))).before #[Value.ref b] s = true := by
    intro j hj
    rcases (show j = 0 ∨ j = 1 ∨ j = 2 by omega) with rfl | rfl | rfl <;> exact hs _ (by decide +kernel)
  obtain ⟨K6, V6, S6, E6⟩ := vk_Sof (N := 1) (tm := fun _ => (Term.string "SwordPeaceModel" 265)) (len := [sp_lenS.getD 6 0]) (byt := [sp_bytS.getD 6 []]) (A := fun q => s.heap.size ≤ q) (args := #[Value.ref b]) (s := s) (fun j hj => by obtain rfl : j = 0 := (by omega); decide) (fun j hj => hs _ (by decide +kernel)) (fun j hj => hs _ (by decide +kernel)) (fun j hj => hs _ (by decide +kernel)) (fun j hj => by obtain rfl : j = 0 := (by omega); exact hs _ (by decide +kernel)) (fun j hj => by obtain rfl : j = 0 := (by omega); exact e6) (fun x y hx hy hn => absurd (by omega : x = y) hn) hA
  replace E6 := E6 0 (by decide)
  have F6 : (Term.string "SwordPeace$Reader" 181).eval #[Value.ref b] s none [] s = some (.ref (K6 0)) := va_eqI (Cond.before_value (hs (Cond.eq (Term.string "SwordPeace$Reader" 181) (Term.string "SwordPeaceModel" 265)) (by decide +kernel))) E6
  have e7 : ∀ j : Nat, j < 3 → (Cond.eq (.elem (.field (Term.string "SwordPeaceModel" 273) "java/lang/String" "value" "[B") (.int (Int32.ofNat j))) (.int ((sp_bytS.getD 7 []).getD j 0))).before #[Value.ref b] s = true := by
    intro j hj
    rcases (show j = 0 ∨ j = 1 ∨ j = 2 by omega) with rfl | rfl | rfl <;> exact hs _ (by decide +kernel)
  obtain ⟨K7, V7, S7, E7⟩ := vk_Sof (N := 1) (tm := fun _ => (Term.string "SwordPeaceModel" 273)) (len := [sp_lenS.getD 7 0]) (byt := [sp_bytS.getD 7 []]) (A := fun q => s.heap.size ≤ q) (args := #[Value.ref b]) (s := s) (fun j hj => by obtain rfl : j = 0 := (by omega); decide) (fun j hj => hs _ (by decide +kernel)) (fun j hj => hs _ (by decide +kernel)) (fun j hj => hs _ (by decide +kernel)) (fun j hj => by obtain rfl : j = 0 := (by omega); exact hs _ (by decide +kernel)) (fun j hj => by obtain rfl : j = 0 := (by omega); exact e7) (fun x y hx hy hn => absurd (by omega : x = y) hn) hA
  replace E7 := E7 0 (by decide)
  have F7 : (Term.string "SwordPeace$Reader" 179).eval #[Value.ref b] s none [] s = some (.ref (K7 0)) := va_eqI (Cond.before_value (hs (Cond.eq (Term.string "SwordPeace$Reader" 179) (Term.string "SwordPeaceModel" 273)) (by decide +kernel))) E7
  have e8 : ∀ j : Nat, j < 2 → (Cond.eq (.elem (.field (Term.string "SwordPeaceModel" 278) "java/lang/String" "value" "[B") (.int (Int32.ofNat j))) (.int ((sp_bytS.getD 8 []).getD j 0))).before #[Value.ref b] s = true := by
    intro j hj
    rcases (show j = 0 ∨ j = 1 by omega) with rfl | rfl <;> exact hs _ (by decide +kernel)
  obtain ⟨K8, V8, S8, E8⟩ := vk_Sof (N := 1) (tm := fun _ => (Term.string "SwordPeaceModel" 278)) (len := [sp_lenS.getD 8 0]) (byt := [sp_bytS.getD 8 []]) (A := fun q => s.heap.size ≤ q) (args := #[Value.ref b]) (s := s) (fun j hj => by obtain rfl : j = 0 := (by omega); decide) (fun j hj => hs _ (by decide +kernel)) (fun j hj => hs _ (by decide +kernel)) (fun j hj => hs _ (by decide +kernel)) (fun j hj => by obtain rfl : j = 0 := (by omega); exact hs _ (by decide +kernel)) (fun j hj => by obtain rfl : j = 0 := (by omega); exact e8) (fun x y hx hy hn => absurd (by omega : x = y) hn) hA
  replace E8 := E8 0 (by decide)
  have F8 : (Term.string "SwordPeace$Reader" 169).eval #[Value.ref b] s none [] s = some (.ref (K8 0)) := va_eqI (Cond.before_value (hs (Cond.eq (Term.string "SwordPeace$Reader" 169) (Term.string "SwordPeaceModel" 278)) (by decide +kernel))) E8
  have e9 : ∀ j : Nat, j < 8 → (Cond.eq (.elem (.field (Term.string "SwordPeaceModel" 287) "java/lang/String" "value" "[B") (.int (Int32.ofNat j))) (.int ((sp_bytS.getD 9 []).getD j 0))).before #[Value.ref b] s = true := by
    intro j hj
    rcases (show j = 0 ∨ j = 1 ∨ j = 2 ∨ j = 3 ∨ j = 4 ∨ j = 5 ∨ j = 6 ∨ j = 7 by omega) with rfl | rfl | rfl | rfl | rfl | rfl | rfl | rfl <;> exact hs _ (by decide +kernel)
  obtain ⟨K9, V9, S9, E9⟩ := vk_Sof (N := 1) (tm := fun _ => (Term.string "SwordPeaceModel" 287)) (len := [sp_lenS.getD 9 0]) (byt := [sp_bytS.getD 9 []]) (A := fun q => s.heap.size ≤ q) (args := #[Value.ref b]) (s := s) (fun j hj => by obtain rfl : j = 0 := (by omega); decide) (fun j hj => hs _ (by decide +kernel)) (fun j hj => hs _ (by decide +kernel)) (fun j hj => hs _ (by decide +kernel)) (fun j hj => by obtain rfl : j = 0 := (by omega); exact hs _ (by decide +kernel)) (fun j hj => by obtain rfl : j = 0 := (by omega); exact e9) (fun x y hx hy hn => absurd (by omega : x = y) hn) hA
  replace E9 := E9 0 (by decide)
  have F9 : (Term.string "SwordPeace$Reader" 66).eval #[Value.ref b] s none [] s = some (.ref (K9 0)) := va_eqI (Cond.before_value (hs (Cond.eq (Term.string "SwordPeace$Reader" 66) (Term.string "SwordPeaceModel" 287)) (by decide +kernel))) E9
  have e10 : ∀ j : Nat, j < 5 → (Cond.eq (.elem (.field (Term.string "SwordPeaceModel" 289) "java/lang/String" "value" "[B") (.int (Int32.ofNat j))) (.int ((sp_bytS.getD 10 []).getD j 0))).before #[Value.ref b] s = true := by
    intro j hj
    rcases (show j = 0 ∨ j = 1 ∨ j = 2 ∨ j = 3 ∨ j = 4 by omega) with rfl | rfl | rfl | rfl | rfl <;> exact hs _ (by decide +kernel)
  obtain ⟨K10, V10, S10, E10⟩ := vk_Sof (N := 1) (tm := fun _ => (Term.string "SwordPeaceModel" 289)) (len := [sp_lenS.getD 10 0]) (byt := [sp_bytS.getD 10 []]) (A := fun q => s.heap.size ≤ q) (args := #[Value.ref b]) (s := s) (fun j hj => by obtain rfl : j = 0 := (by omega); decide) (fun j hj => hs _ (by decide +kernel)) (fun j hj => hs _ (by decide +kernel)) (fun j hj => hs _ (by decide +kernel)) (fun j hj => by obtain rfl : j = 0 := (by omega); exact hs _ (by decide +kernel)) (fun j hj => by obtain rfl : j = 0 := (by omega); exact e10) (fun x y hx hy hn => absurd (by omega : x = y) hn) hA
  replace E10 := E10 0 (by decide)
  have F10 : (Term.string "SwordPeace$Reader" 71).eval #[Value.ref b] s none [] s = some (.ref (K10 0)) := va_eqI (Cond.before_value (hs (Cond.eq (Term.string "SwordPeace$Reader" 71) (Term.string "SwordPeaceModel" 289)) (by decide +kernel))) E10
  have e11 : ∀ j : Nat, j < 5 → (Cond.eq (.elem (.field (Term.string "SwordPeaceModel" 291) "java/lang/String" "value" "[B") (.int (Int32.ofNat j))) (.int ((sp_bytS.getD 11 []).getD j 0))).before #[Value.ref b] s = true := by
    intro j hj
    rcases (show j = 0 ∨ j = 1 ∨ j = 2 ∨ j = 3 ∨ j = 4 by omega) with rfl | rfl | rfl | rfl | rfl <;> exact hs _ (by decide +kernel)
  obtain ⟨K11, V11, S11, E11⟩ := vk_Sof (N := 1) (tm := fun _ => (Term.string "SwordPeaceModel" 291)) (len := [sp_lenS.getD 11 0]) (byt := [sp_bytS.getD 11 []]) (A := fun q => s.heap.size ≤ q) (args := #[Value.ref b]) (s := s) (fun j hj => by obtain rfl : j = 0 := (by omega); decide) (fun j hj => hs _ (by decide +kernel)) (fun j hj => hs _ (by decide +kernel)) (fun j hj => hs _ (by decide +kernel)) (fun j hj => by obtain rfl : j = 0 := (by omega); exact hs _ (by decide +kernel)) (fun j hj => by obtain rfl : j = 0 := (by omega); exact e11) (fun x y hx hy hn => absurd (by omega : x = y) hn) hA
  replace E11 := E11 0 (by decide)
  have F11 : (Term.string "SwordPeace$Reader" 76).eval #[Value.ref b] s none [] s = some (.ref (K11 0)) := va_eqI (Cond.before_value (hs (Cond.eq (Term.string "SwordPeace$Reader" 76) (Term.string "SwordPeaceModel" 291)) (by decide +kernel))) E11
  have e12 : ∀ j : Nat, j < 4 → (Cond.eq (.elem (.field (Term.string "SwordPeaceModel" 297) "java/lang/String" "value" "[B") (.int (Int32.ofNat j))) (.int ((sp_bytS.getD 12 []).getD j 0))).before #[Value.ref b] s = true := by
    intro j hj
    rcases (show j = 0 ∨ j = 1 ∨ j = 2 ∨ j = 3 by omega) with rfl | rfl | rfl | rfl <;> exact hs _ (by decide +kernel)
  obtain ⟨K12, V12, S12, E12⟩ := vk_Sof (N := 1) (tm := fun _ => (Term.string "SwordPeaceModel" 297)) (len := [sp_lenS.getD 12 0]) (byt := [sp_bytS.getD 12 []]) (A := fun q => s.heap.size ≤ q) (args := #[Value.ref b]) (s := s) (fun j hj => by obtain rfl : j = 0 := (by omega); decide) (fun j hj => hs _ (by decide +kernel)) (fun j hj => hs _ (by decide +kernel)) (fun j hj => hs _ (by decide +kernel)) (fun j hj => by obtain rfl : j = 0 := (by omega); exact hs _ (by decide +kernel)) (fun j hj => by obtain rfl : j = 0 := (by omega); exact e12) (fun x y hx hy hn => absurd (by omega : x = y) hn) hA
  replace E12 := E12 0 (by decide)
  have F12 : (Term.string "SwordPeace$Reader" 47).eval #[Value.ref b] s none [] s = some (.ref (K12 0)) := va_eqI (Cond.before_value (hs (Cond.eq (Term.string "SwordPeace$Reader" 47) (Term.string "SwordPeaceModel" 297)) (by decide +kernel))) E12
  have e13 : ∀ j : Nat, j < 9 → (Cond.eq (.elem (.field (Term.string "SwordPeaceModel" 302) "java/lang/String" "value" "[B") (.int (Int32.ofNat j))) (.int ((sp_bytS.getD 13 []).getD j 0))).before #[Value.ref b] s = true := by
    intro j hj
    rcases (show j = 0 ∨ j = 1 ∨ j = 2 ∨ j = 3 ∨ j = 4 ∨ j = 5 ∨ j = 6 ∨ j = 7 ∨ j = 8 by omega) with rfl | rfl | rfl | rfl | rfl | rfl | rfl | rfl | rfl <;> exact hs _ (by decide +kernel)
  obtain ⟨K13, V13, S13, E13⟩ := vk_Sof (N := 1) (tm := fun _ => (Term.string "SwordPeaceModel" 302)) (len := [sp_lenS.getD 13 0]) (byt := [sp_bytS.getD 13 []]) (A := fun q => s.heap.size ≤ q) (args := #[Value.ref b]) (s := s) (fun j hj => by obtain rfl : j = 0 := (by omega); decide) (fun j hj => hs _ (by decide +kernel)) (fun j hj => hs _ (by decide +kernel)) (fun j hj => hs _ (by decide +kernel)) (fun j hj => by obtain rfl : j = 0 := (by omega); exact hs _ (by decide +kernel)) (fun j hj => by obtain rfl : j = 0 := (by omega); exact e13) (fun x y hx hy hn => absurd (by omega : x = y) hn) hA
  replace E13 := E13 0 (by decide)
  have F13 : (Term.string "SwordPeace$Reader" 56).eval #[Value.ref b] s none [] s = some (.ref (K13 0)) := va_eqI (Cond.before_value (hs (Cond.eq (Term.string "SwordPeace$Reader" 56) (Term.string "SwordPeaceModel" 302)) (by decide +kernel))) E13
  have e14 : ∀ j : Nat, j < 5 → (Cond.eq (.elem (.field (Term.string "SwordPeaceModel" 307) "java/lang/String" "value" "[B") (.int (Int32.ofNat j))) (.int ((sp_bytS.getD 14 []).getD j 0))).before #[Value.ref b] s = true := by
    intro j hj
    rcases (show j = 0 ∨ j = 1 ∨ j = 2 ∨ j = 3 ∨ j = 4 by omega) with rfl | rfl | rfl | rfl | rfl <;> exact hs _ (by decide +kernel)
  obtain ⟨K14, V14, S14, E14⟩ := vk_Sof (N := 1) (tm := fun _ => (Term.string "SwordPeaceModel" 307)) (len := [sp_lenS.getD 14 0]) (byt := [sp_bytS.getD 14 []]) (A := fun q => s.heap.size ≤ q) (args := #[Value.ref b]) (s := s) (fun j hj => by obtain rfl : j = 0 := (by omega); decide) (fun j hj => hs _ (by decide +kernel)) (fun j hj => hs _ (by decide +kernel)) (fun j hj => hs _ (by decide +kernel)) (fun j hj => by obtain rfl : j = 0 := (by omega); exact hs _ (by decide +kernel)) (fun j hj => by obtain rfl : j = 0 := (by omega); exact e14) (fun x y hx hy hn => absurd (by omega : x = y) hn) hA
  replace E14 := E14 0 (by decide)
  have F14 : (Term.string "SwordPeace$Reader" 61).eval #[Value.ref b] s none [] s = some (.ref (K14 0)) := va_eqI (Cond.before_value (hs (Cond.eq (Term.string "SwordPeace$Reader" 61) (Term.string "SwordPeaceModel" 307)) (by decide +kernel))) E14
  have e15 : ∀ j : Nat, j < 9 → (Cond.eq (.elem (.field (Term.string "SwordPeace$Tokens" 70) "java/lang/String" "value" "[B") (.int (Int32.ofNat j))) (.int ((sp_bytS.getD 15 []).getD j 0))).before #[Value.ref b] s = true := by
    intro j hj
    rcases (show j = 0 ∨ j = 1 ∨ j = 2 ∨ j = 3 ∨ j = 4 ∨ j = 5 ∨ j = 6 ∨ j = 7 ∨ j = 8 by omega) with rfl | rfl | rfl | rfl | rfl | rfl | rfl | rfl | rfl <;> exact hs _ (by decide +kernel)
  obtain ⟨K15, V15, S15, E15⟩ := vk_Sof (N := 1) (tm := fun _ => (Term.string "SwordPeace$Tokens" 70)) (len := [sp_lenS.getD 15 0]) (byt := [sp_bytS.getD 15 []]) (A := fun q => s.heap.size ≤ q) (args := #[Value.ref b]) (s := s) (fun j hj => by obtain rfl : j = 0 := (by omega); decide) (fun j hj => hs _ (by decide +kernel)) (fun j hj => hs _ (by decide +kernel)) (fun j hj => hs _ (by decide +kernel)) (fun j hj => by obtain rfl : j = 0 := (by omega); exact hs _ (by decide +kernel)) (fun j hj => by obtain rfl : j = 0 := (by omega); exact e15) (fun x y hx hy hn => absurd (by omega : x = y) hn) hA
  replace E15 := E15 0 (by decide)
  refine ⟨((fun k => [c0, c1, c2, c3, c4, c5, c6, c7, c8, c9, c10, c11, c12].getD k c0), (fun k => [i0, i1, i2, i3, i4, i5, i6, i7, i8, i9, i10, i11, i12].getD k i0)), (fun x i => if x = 0 then [K0 0, K1 0, K2 0, K3 0, K4 0, K5 0, K6 0, K7 0, K8 0, K9 0, K10 0, K11 0, K12 0, K13 0, K14 0, K15 0].getD i 0 else [V0 0, V1 0, V2 0, V3 0, V4 0, V5 0, V6 0, V7 0, V8 0, V9 0, V10 0, V11 0, V12 0, V13 0, V14 0, V15 0].getD i 0), (fun k => [y0, y1, y2, y3].getD k y0), fun ad => ⟨⟨?_, ?_⟩, ?_⟩⟩
  · intro k q hq
    match k, hq with
    | 0, hq => cases hq; exact k0
    | 1, hq => cases hq; exact k1
    | 2, hq => cases hq; exact k2
    | 3, hq => cases hq; exact k3
    | 4, hq => cases hq; exact k4
    | 5, hq => cases hq; exact k5
    | 6, hq => cases hq; exact k6
    | 7, hq => cases hq; exact k7
    | 8, hq => cases hq; exact k8
    | 9, hq => cases hq; exact k9
    | 10, hq => cases hq; exact k10
    | 11, hq => cases hq; exact k11
    | 12, hq => cases hq; exact k12
    | k + 13, hq => simp [vwCl] at hq
  · intro k q hq
    match k, hq with
    | 0, hq => cases hq; exact r0
    | 1, hq => cases hq; exact r1
    | 2, hq => cases hq; exact r2
    | 3, hq => cases hq; exact r3
    | k + 4, hq => simp [sp_tys] at hq
  · refine ⟨vx_Zqof (hts _ (List.mem_of_getElem? (i := 885) (by decide +kernel))) (hts _ (List.mem_of_getElem? (i := 140) (by decide +kernel))) (hs _ (by decide +kernel)) hA, vx_Zqof (hts _ (List.mem_of_getElem? (i := 887) (by decide +kernel))) (hts _ (List.mem_of_getElem? (i := 140) (by decide +kernel))) (hs _ (by decide +kernel)) hA, va_Zof (hts _ (List.mem_of_getElem? (i := 976) (by decide +kernel))) (hts _ (List.mem_of_getElem? (i := 145) (by decide +kernel))) (va_eqi (hs _ (by decide +kernel))) hA, va_Zqof (hts _ (List.mem_of_getElem? (i := 1015) (by decide +kernel))) (hts _ (List.mem_of_getElem? (i := 148) (by decide +kernel))) (hs _ (by decide +kernel)) hA, ?_, ?_, ?_, va_AO.of hAO, va_Nc.of (hs _ (by decide +kernel))⟩
    · intro i hi
      rcases (show i = 0 ∨ i = 1 ∨ i = 2 ∨ i = 3 ∨ i = 4 ∨ i = 5 ∨ i = 6 ∨ i = 7 ∨ i = 8 ∨ i = 9 ∨ i = 10 ∨ i = 11 ∨ i = 12 ∨ i = 13 ∨ i = 14 ∨ i = 15 by omega) with rfl | rfl | rfl | rfl | rfl | rfl | rfl | rfl | rfl | rfl | rfl | rfl | rfl | rfl | rfl | rfl
      · exact lg_vkS (K := K0) (V := V0) S0
      · exact lg_vkS (K := K1) (V := V1) S1
      · exact lg_vkS (K := K2) (V := V2) S2
      · exact lg_vkS (K := K3) (V := V3) S3
      · exact lg_vkS (K := K4) (V := V4) S4
      · exact lg_vkS (K := K5) (V := V5) S5
      · exact lg_vkS (K := K6) (V := V6) S6
      · exact lg_vkS (K := K7) (V := V7) S7
      · exact lg_vkS (K := K8) (V := V8) S8
      · exact lg_vkS (K := K9) (V := V9) S9
      · exact lg_vkS (K := K10) (V := V10) S10
      · exact lg_vkS (K := K11) (V := V11) S11
      · exact lg_vkS (K := K12) (V := V12) S12
      · exact lg_vkS (K := K13) (V := V13) S13
      · exact lg_vkS (K := K14) (V := V14) S14
      · exact lg_vkS (K := K15) (V := V15) S15
    · intro q hq
      simp only [sp_lits, List.mem_cons, List.not_mem_nil, or_false] at hq
      rcases hq with rfl | rfl | rfl | rfl | rfl | rfl | rfl | rfl | rfl | rfl | rfl | rfl | rfl | rfl | rfl | rfl | rfl | rfl | rfl | rfl | rfl | rfl | rfl | rfl | rfl | rfl | rfl | rfl | rfl | rfl | rfl
      · exact vk_R.of (hts _ (List.mem_of_getElem? (i := 1150) (by decide +kernel))) F0
      · exact vk_R.of (hts _ (List.mem_of_getElem? (i := 1593) (by decide +kernel))) E0
      · exact vk_R.of (hts _ (List.mem_of_getElem? (i := 1151) (by decide +kernel))) F1
      · exact vk_R.of (hts _ (List.mem_of_getElem? (i := 1594) (by decide +kernel))) E1
      · exact vk_R.of (hts _ (List.mem_of_getElem? (i := 1152) (by decide +kernel))) F2
      · exact vk_R.of (hts _ (List.mem_of_getElem? (i := 1595) (by decide +kernel))) E2
      · exact vk_R.of (hts _ (List.mem_of_getElem? (i := 1153) (by decide +kernel))) F3
      · exact vk_R.of (hts _ (List.mem_of_getElem? (i := 1596) (by decide +kernel))) E3
      · exact vk_R.of (hts _ (List.mem_of_getElem? (i := 1154) (by decide +kernel))) F4
      · exact vk_R.of (hts _ (List.mem_of_getElem? (i := 1597) (by decide +kernel))) E4
      · exact vk_R.of (hts _ (List.mem_of_getElem? (i := 1155) (by decide +kernel))) F5
      · exact vk_R.of (hts _ (List.mem_of_getElem? (i := 1598) (by decide +kernel))) E5
      · exact vk_R.of (hts _ (List.mem_of_getElem? (i := 1125) (by decide +kernel))) F6
      · exact vk_R.of (hts _ (List.mem_of_getElem? (i := 1874) (by decide +kernel))) E6
      · exact vk_R.of (hts _ (List.mem_of_getElem? (i := 1160) (by decide +kernel))) F7
      · exact vk_R.of (hts _ (List.mem_of_getElem? (i := 1899) (by decide +kernel))) E7
      · exact vk_R.of (hts _ (List.mem_of_getElem? (i := 1161) (by decide +kernel))) F8
      · exact vk_R.of (hts _ (List.mem_of_getElem? (i := 1900) (by decide +kernel))) E8
      · exact vk_R.of (hts _ (List.mem_of_getElem? (i := 1098) (by decide +kernel))) F9
      · exact vk_R.of (hts _ (List.mem_of_getElem? (i := 1833) (by decide +kernel))) E9
      · exact vk_R.of (hts _ (List.mem_of_getElem? (i := 1103) (by decide +kernel))) F10
      · exact vk_R.of (hts _ (List.mem_of_getElem? (i := 1840) (by decide +kernel))) E10
      · exact vk_R.of (hts _ (List.mem_of_getElem? (i := 1162) (by decide +kernel))) F11
      · exact vk_R.of (hts _ (List.mem_of_getElem? (i := 1841) (by decide +kernel))) E11
      · exact vk_R.of (hts _ (List.mem_of_getElem? (i := 1049) (by decide +kernel))) F12
      · exact vk_R.of (hts _ (List.mem_of_getElem? (i := 1901) (by decide +kernel))) E12
      · exact vk_R.of (hts _ (List.mem_of_getElem? (i := 1088) (by decide +kernel))) F13
      · exact vk_R.of (hts _ (List.mem_of_getElem? (i := 1913) (by decide +kernel))) E13
      · exact vk_R.of (hts _ (List.mem_of_getElem? (i := 1093) (by decide +kernel))) F14
      · exact vk_R.of (hts _ (List.mem_of_getElem? (i := 1918) (by decide +kernel))) E14
      · exact vk_R.of (hts _ (List.mem_of_getElem? (i := 962) (by decide +kernel))) E15
    · intro v hv
      have h9 : v.before #[Value.ref b] s = true := hts v (lg_nws v hv)
      exact va_Nw.of (sp_nws_ot v hv) h9
