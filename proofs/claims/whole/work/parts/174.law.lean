def LK (n : Nat) (op : Int32) (σ μ : sp_St) (a1 a2 a3 a4 a5 : Int32) : Option (sp_St × sp_St) := if op = 0 then LK0 n σ μ a1 a2 a3 a4 a5 else if op = 1 then LK1 n σ μ a1 a2 a3 a4 a5 else if op = 2 then LK2 n σ μ a1 a2 a3 a4 a5 else if op = 3 then LK3 n σ μ a1 a2 a3 a4 a5 else if op = 4 then LK4 n σ μ a1 a2 a3 a4 a5 else if op = 5 then LK5 n σ μ a1 a2 a3 a4 a5 else if op = 6 then LK6 n σ μ a1 a2 a3 a4 a5 else if op = 7 then LK7 n σ μ a1 a2 a3 a4 a5 else if op = 8 then LK8 n σ μ a1 a2 a3 a4 a5 else if op = 9 then LK9 n σ μ a1 a2 a3 a4 a5 else if op = 10 then LK10 n σ μ a1 a2 a3 a4 a5 else if op = 11 then LK11 n σ μ a1 a2 a3 a4 a5 else if op = 12 then LK12 n σ μ a1 a2 a3 a4 a5 else if op = 13 then LK13 n σ μ a1 a2 a3 a4 a5 else if op = 14 then LK14 n σ μ a1 a2 a3 a4 a5 else if op = 15 then LK15 n σ μ a1 a2 a3 a4 a5 else if op = 16 then LK16 n σ μ a1 a2 a3 a4 a5 else if op = 17 then LK17 n σ μ a1 a2 a3 a4 a5 else if op = 18 then LK18 n σ μ a1 a2 a3 a4 a5 else if op = 19 then LK19 n σ μ a1 a2 a3 a4 a5 else if op = 20 then LK20 n σ μ a1 a2 a3 a4 a5 else if op = 21 then LK21 n σ μ a1 a2 a3 a4 a5 else if op = 22 then LK22 n σ μ a1 a2 a3 a4 a5 else if op = 23 then LK23 n σ μ a1 a2 a3 a4 a5 else if op = 24 then LK24 n σ μ a1 a2 a3 a4 a5 else if op = 25 then LK25 n σ μ a1 a2 a3 a4 a5 else if op = 26 then LK26 n σ μ a1 a2 a3 a4 a5 else if op = 27 then LK27 n σ μ a1 a2 a3 a4 a5 else if op = 28 then LK28 n σ μ a1 a2 a3 a4 a5 else if op = 29 then LK29 n σ μ a1 a2 a3 a4 a5 else if op = 30 then LK30 n σ μ a1 a2 a3 a4 a5 else if op = 31 then LK31 n σ μ a1 a2 a3 a4 a5 else if op = 32 then LK32 n σ μ a1 a2 a3 a4 a5 else if op = 33 then LK33 n σ μ a1 a2 a3 a4 a5 else if op = 34 then LK34 n σ μ a1 a2 a3 a4 a5 else if op = 35 then LK35 n σ μ a1 a2 a3 a4 a5 else if op = 36 then LK36 n σ μ a1 a2 a3 a4 a5 else if op = 37 then LK37 n σ μ a1 a2 a3 a4 a5 else if op = 38 then LK38 n σ μ a1 a2 a3 a4 a5 else some (σ, μ)
set_option maxRecDepth 100000 in
set_option maxHeartbeats 8000000 in
theorem hLK {X : sp_X} (hX : sp_OK shL X cL_law RL 7 room_1) {b L : Nat} {xs : Nat → Int32} (hs : lg_scr X b L xs) {n : Nat} {i op a1 a2 a3 a4 a5 : Int32} (ha : lg_arg L xs i a1 a2 a3 a4 a5) {σ μ τ υ : sp_St} {kc ks : Nat} (hkc : kc + 4 ≤ 601024) (hks : ks + 24 ≤ 7293034) (hf : LK n op σ μ a1 a2 a3 a4 a5 = some (τ, υ)) (hk : sp_GG shL X (sp_pair τ υ) 7 [some (.ref b), some (.ref (sx_ad X 0)), some (.ref (sx_ad X 69)), some (.ref (sx_ad X 68)), some (.int i), none, none] [] 2170 (kc + 4) (ks + 24)) : sp_GG shL X (sp_pair σ μ) 7 [some (.ref b), some (.ref (sx_ad X 0)), some (.ref (sx_ad X 69)), some (.ref (sx_ad X 68)), some (.int i), none, none] [.int op] 40 kc ks := by
  unfold LK at hf
  by_cases h0 : op = 0
  · rw [if_pos h0] at hf
    refine sp_tblIn (off := 172) (tgt := 212) hX dL_law_40 (by rw [h0]; decide) (by rw [h0]; decide) (by rw [h0]; decide +kernel) (by decide) ?_
    exact hLK0 hX hs ha hkc hks hf hk
  rw [if_neg h0] at hf
  by_cases h1 : op = 1
  · rw [if_pos h1] at hf
    refine sp_tblIn (off := 245) (tgt := 285) hX dL_law_40 (by rw [h1]; decide) (by rw [h1]; decide) (by rw [h1]; decide +kernel) (by decide) ?_
    exact hLK1 hX hs ha hkc hks hf hk
  rw [if_neg h1] at hf
  by_cases h2 : op = 2
  · rw [if_pos h2] at hf
    refine sp_tblIn (off := 301) (tgt := 341) hX dL_law_40 (by rw [h2]; decide) (by rw [h2]; decide) (by rw [h2]; decide +kernel) (by decide) ?_
    exact hLK2 hX hs ha hkc hks hf hk
  rw [if_neg h2] at hf
  by_cases h3 : op = 3
  · rw [if_pos h3] at hf
    refine sp_tblIn (off := 314) (tgt := 354) hX dL_law_40 (by rw [h3]; decide) (by rw [h3]; decide) (by rw [h3]; decide +kernel) (by decide) ?_
    exact hLK3 hX hs ha hkc hks hf hk
  rw [if_neg h3] at hf
  by_cases h4 : op = 4
  · rw [if_pos h4] at hf
    refine sp_tblIn (off := 370) (tgt := 410) hX dL_law_40 (by rw [h4]; decide) (by rw [h4]; decide) (by rw [h4]; decide +kernel) (by decide) ?_
    exact hLK4 hX hs ha hkc hks hf hk
  rw [if_neg h4] at hf
  by_cases h5 : op = 5
  · rw [if_pos h5] at hf
    refine sp_tblIn (off := 438) (tgt := 478) hX dL_law_40 (by rw [h5]; decide) (by rw [h5]; decide) (by rw [h5]; decide +kernel) (by decide) ?_
    exact hLK5 hX hs ha hkc hks hf hk
  rw [if_neg h5] at hf
  by_cases h6 : op = 6
  · rw [if_pos h6] at hf
    refine sp_tblIn (off := 506) (tgt := 546) hX dL_law_40 (by rw [h6]; decide) (by rw [h6]; decide) (by rw [h6]; decide +kernel) (by decide) ?_
    exact hLK6 hX hs ha hkc hks hf hk
  rw [if_neg h6] at hf
  by_cases h7 : op = 7
  · rw [if_pos h7] at hf
    refine sp_tblIn (off := 581) (tgt := 621) hX dL_law_40 (by rw [h7]; decide) (by rw [h7]; decide) (by rw [h7]; decide +kernel) (by decide) ?_
    exact hLK7 hX hs ha hkc hks hf hk
  rw [if_neg h7] at hf
  by_cases h8 : op = 8
  · rw [if_pos h8] at hf
    refine sp_tblIn (off := 606) (tgt := 646) hX dL_law_40 (by rw [h8]; decide) (by rw [h8]; decide) (by rw [h8]; decide +kernel) (by decide) ?_
    exact hLK8 hX hs ha hkc hks hf hk
  rw [if_neg h8] at hf
  by_cases h9 : op = 9
  · rw [if_pos h9] at hf
    refine sp_tblIn (off := 674) (tgt := 714) hX dL_law_40 (by rw [h9]; decide) (by rw [h9]; decide) (by rw [h9]; decide +kernel) (by decide) ?_
    exact hLK9 hX hs ha hkc hks hf hk
  rw [if_neg h9] at hf
  by_cases h10 : op = 10
  · rw [if_pos h10] at hf
    refine sp_tblIn (off := 730) (tgt := 770) hX dL_law_40 (by rw [h10]; decide) (by rw [h10]; decide) (by rw [h10]; decide +kernel) (by decide) ?_
    exact hLK10 hX hs ha hkc hks hf hk
  rw [if_neg h10] at hf
  by_cases h11 : op = 11
  · rw [if_pos h11] at hf
    refine sp_tblIn (off := 798) (tgt := 838) hX dL_law_40 (by rw [h11]; decide) (by rw [h11]; decide) (by rw [h11]; decide +kernel) (by decide) ?_
    exact hLK11 hX hs ha hkc hks hf hk
  rw [if_neg h11] at hf
  by_cases h12 : op = 12
  · rw [if_pos h12] at hf
    refine sp_tblIn (off := 901) (tgt := 941) hX dL_law_40 (by rw [h12]; decide) (by rw [h12]; decide) (by rw [h12]; decide +kernel) (by decide) ?_
    exact hLK12 hX hs ha hkc hks hf hk
  rw [if_neg h12] at hf
  by_cases h13 : op = 13
  · rw [if_pos h13] at hf
    refine sp_tblIn (off := 914) (tgt := 954) hX dL_law_40 (by rw [h13]; decide) (by rw [h13]; decide) (by rw [h13]; decide +kernel) (by decide) ?_
    exact hLK13 hX hs ha hkc hks hf hk
  rw [if_neg h13] at hf
  by_cases h14 : op = 14
  · rw [if_pos h14] at hf
    refine sp_tblIn (off := 994) (tgt := 1034) hX dL_law_40 (by rw [h14]; decide) (by rw [h14]; decide) (by rw [h14]; decide +kernel) (by decide) ?_
    exact hLK14 hX hs ha hkc hks hf hk
  rw [if_neg h14] at hf
  by_cases h15 : op = 15
  · rw [if_pos h15] at hf
    refine sp_tblIn (off := 1007) (tgt := 1047) hX dL_law_40 (by rw [h15]; decide) (by rw [h15]; decide) (by rw [h15]; decide +kernel) (by decide) ?_
    exact hLK15 hX hs ha hkc hks hf hk
  rw [if_neg h15] at hf
  by_cases h16 : op = 16
  · rw [if_pos h16] at hf
    refine sp_tblIn (off := 1063) (tgt := 1103) hX dL_law_40 (by rw [h16]; decide) (by rw [h16]; decide) (by rw [h16]; decide +kernel) (by decide) ?_
    exact hLK16 hX hs ha hkc hks hf hk
  rw [if_neg h16] at hf
  by_cases h17 : op = 17
  · rw [if_pos h17] at hf
    refine sp_tblIn (off := 1119) (tgt := 1159) hX dL_law_40 (by rw [h17]; decide) (by rw [h17]; decide) (by rw [h17]; decide +kernel) (by decide) ?_
    exact hLK17 hX hs ha hkc hks hf hk
  rw [if_neg h17] at hf
  by_cases h18 : op = 18
  · rw [if_pos h18] at hf
    refine sp_tblIn (off := 1175) (tgt := 1215) hX dL_law_40 (by rw [h18]; decide) (by rw [h18]; decide) (by rw [h18]; decide +kernel) (by decide) ?_
    exact hLK18 hX hs ha hkc hks hf hk
  rw [if_neg h18] at hf
  by_cases h19 : op = 19
  · rw [if_pos h19] at hf
    refine sp_tblIn (off := 1231) (tgt := 1271) hX dL_law_40 (by rw [h19]; decide) (by rw [h19]; decide) (by rw [h19]; decide +kernel) (by decide) ?_
    exact hLK19 hX hs ha hkc hks hf hk
  rw [if_neg h19] at hf
  by_cases h20 : op = 20
  · rw [if_pos h20] at hf
    refine sp_tblIn (off := 1244) (tgt := 1284) hX dL_law_40 (by rw [h20]; decide) (by rw [h20]; decide) (by rw [h20]; decide +kernel) (by decide) ?_
    exact hLK20 hX hs ha hkc hks hf hk
  rw [if_neg h20] at hf
  by_cases h21 : op = 21
  · rw [if_pos h21] at hf
    refine sp_tblIn (off := 1300) (tgt := 1340) hX dL_law_40 (by rw [h21]; decide) (by rw [h21]; decide) (by rw [h21]; decide +kernel) (by decide) ?_
    exact hLK21 hX hs ha hkc hks hf hk
  rw [if_neg h21] at hf
  by_cases h22 : op = 22
  · rw [if_pos h22] at hf
    refine sp_tblIn (off := 1356) (tgt := 1396) hX dL_law_40 (by rw [h22]; decide) (by rw [h22]; decide) (by rw [h22]; decide +kernel) (by decide) ?_
    exact hLK22 hX hs ha hkc hks hf hk
  rw [if_neg h22] at hf
  by_cases h23 : op = 23
  · rw [if_pos h23] at hf
    refine sp_tblIn (off := 1369) (tgt := 1409) hX dL_law_40 (by rw [h23]; decide) (by rw [h23]; decide) (by rw [h23]; decide +kernel) (by decide) ?_
    exact hLK23 hX hs ha hkc hks hf hk
  rw [if_neg h23] at hf
  by_cases h24 : op = 24
  · rw [if_pos h24] at hf
    refine sp_tblIn (off := 1382) (tgt := 1422) hX dL_law_40 (by rw [h24]; decide) (by rw [h24]; decide) (by rw [h24]; decide +kernel) (by decide) ?_
    exact hLK24 hX hs ha hkc hks hf hk
  rw [if_neg h24] at hf
  by_cases h25 : op = 25
  · rw [if_pos h25] at hf
    refine sp_tblIn (off := 1438) (tgt := 1478) hX dL_law_40 (by rw [h25]; decide) (by rw [h25]; decide) (by rw [h25]; decide +kernel) (by decide) ?_
    exact hLK25 hX hs ha hkc hks hf hk
  rw [if_neg h25] at hf
  by_cases h26 : op = 26
  · rw [if_pos h26] at hf
    refine sp_tblIn (off := 1506) (tgt := 1546) hX dL_law_40 (by rw [h26]; decide) (by rw [h26]; decide) (by rw [h26]; decide +kernel) (by decide) ?_
    exact hLK26 hX hs ha hkc hks hf hk
  rw [if_neg h26] at hf
  by_cases h27 : op = 27
  · rw [if_pos h27] at hf
    refine sp_tblIn (off := 1519) (tgt := 1559) hX dL_law_40 (by rw [h27]; decide) (by rw [h27]; decide) (by rw [h27]; decide +kernel) (by decide) ?_
    exact hLK27 hX hs ha hkc hks hf hk
  rw [if_neg h27] at hf
  by_cases h28 : op = 28
  · rw [if_pos h28] at hf
    refine sp_tblIn (off := 1575) (tgt := 1615) hX dL_law_40 (by rw [h28]; decide) (by rw [h28]; decide) (by rw [h28]; decide +kernel) (by decide) ?_
    exact hLK28 hX hs ha hkc hks hf hk
  rw [if_neg h28] at hf
  by_cases h29 : op = 29
  · rw [if_pos h29] at hf
    refine sp_tblIn (off := 1631) (tgt := 1671) hX dL_law_40 (by rw [h29]; decide) (by rw [h29]; decide) (by rw [h29]; decide +kernel) (by decide) ?_
    exact hLK29 hX hs ha hkc hks hf hk
  rw [if_neg h29] at hf
  by_cases h30 : op = 30
  · rw [if_pos h30] at hf
    refine sp_tblIn (off := 1687) (tgt := 1727) hX dL_law_40 (by rw [h30]; decide) (by rw [h30]; decide) (by rw [h30]; decide +kernel) (by decide) ?_
    exact hLK30 hX hs ha hkc hks hf hk
  rw [if_neg h30] at hf
  by_cases h31 : op = 31
  · rw [if_pos h31] at hf
    refine sp_tblIn (off := 1743) (tgt := 1783) hX dL_law_40 (by rw [h31]; decide) (by rw [h31]; decide) (by rw [h31]; decide +kernel) (by decide) ?_
    exact hLK31 hX hs ha hkc hks hf hk
  rw [if_neg h31] at hf
  by_cases h32 : op = 32
  · rw [if_pos h32] at hf
    refine sp_tblIn (off := 1823) (tgt := 1863) hX dL_law_40 (by rw [h32]; decide) (by rw [h32]; decide) (by rw [h32]; decide +kernel) (by decide) ?_
    exact hLK32 hX hs ha hkc hks hf hk
  rw [if_neg h32] at hf
  by_cases h33 : op = 33
  · rw [if_pos h33] at hf
    refine sp_tblIn (off := 1879) (tgt := 1919) hX dL_law_40 (by rw [h33]; decide) (by rw [h33]; decide) (by rw [h33]; decide +kernel) (by decide) ?_
    exact hLK33 hX hs ha hkc hks hf hk
  rw [if_neg h33] at hf
  by_cases h34 : op = 34
  · rw [if_pos h34] at hf
    refine sp_tblIn (off := 1935) (tgt := 1975) hX dL_law_40 (by rw [h34]; decide) (by rw [h34]; decide) (by rw [h34]; decide +kernel) (by decide) ?_
    exact hLK34 hX hs ha hkc hks hf hk
  rw [if_neg h34] at hf
  by_cases h35 : op = 35
  · rw [if_pos h35] at hf
    refine sp_tblIn (off := 1946) (tgt := 1986) hX dL_law_40 (by rw [h35]; decide) (by rw [h35]; decide) (by rw [h35]; decide +kernel) (by decide) ?_
    exact hLK35 hX hs ha hkc hks hf hk
  rw [if_neg h35] at hf
  by_cases h36 : op = 36
  · rw [if_pos h36] at hf
    refine sp_tblIn (off := 2026) (tgt := 2066) hX dL_law_40 (by rw [h36]; decide) (by rw [h36]; decide) (by rw [h36]; decide +kernel) (by decide) ?_
    exact hLK36 hX hs ha hkc hks hf hk
  rw [if_neg h36] at hf
  by_cases h37 : op = 37
  · rw [if_pos h37] at hf
    refine sp_tblIn (off := 2106) (tgt := 2146) hX dL_law_40 (by rw [h37]; decide) (by rw [h37]; decide) (by rw [h37]; decide +kernel) (by decide) ?_
    exact hLK37 hX hs ha hkc hks hf hk
  rw [if_neg h37] at hf
  by_cases h38 : op = 38
  · rw [if_pos h38] at hf
    refine sp_tblIn (off := 2117) (tgt := 2157) hX dL_law_40 (by rw [h38]; decide) (by rw [h38]; decide) (by rw [h38]; decide +kernel) (by decide) ?_
    exact hLK38 hX hs ha hkc hks hf hk
  rw [if_neg h38] at hf
  refine sp_tblOut (tgt := 2170) hX dL_law_40 (sp_swo (0) (38) (by decide) (fun kk hka hkb hke => by
    rcases (show kk = 0 ∨ kk = 1 ∨ kk = 2 ∨ kk = 3 ∨ kk = 4 ∨ kk = 5 ∨ kk = 6 ∨ kk = 7 ∨ kk = 8 ∨ kk = 9 ∨ kk = 10 ∨ kk = 11 ∨ kk = 12 ∨ kk = 13 ∨ kk = 14 ∨ kk = 15 ∨ kk = 16 ∨ kk = 17 ∨ kk = 18 ∨ kk = 19 ∨ kk = 20 ∨ kk = 21 ∨ kk = 22 ∨ kk = 23 ∨ kk = 24 ∨ kk = 25 ∨ kk = 26 ∨ kk = 27 ∨ kk = 28 ∨ kk = 29 ∨ kk = 30 ∨ kk = 31 ∨ kk = 32 ∨ kk = 33 ∨ kk = 34 ∨ kk = 35 ∨ kk = 36 ∨ kk = 37 ∨ kk = 38 by omega) with rfl | rfl | rfl | rfl | rfl | rfl | rfl | rfl | rfl | rfl | rfl | rfl | rfl | rfl | rfl | rfl | rfl | rfl | rfl | rfl | rfl | rfl | rfl | rfl | rfl | rfl | rfl | rfl | rfl | rfl | rfl | rfl | rfl | rfl | rfl | rfl | rfl | rfl | rfl
    · exact h0 (sp_i32 hke (by decide))
    · exact h1 (sp_i32 hke (by decide))
    · exact h2 (sp_i32 hke (by decide))
    · exact h3 (sp_i32 hke (by decide))
    · exact h4 (sp_i32 hke (by decide))
    · exact h5 (sp_i32 hke (by decide))
    · exact h6 (sp_i32 hke (by decide))
    · exact h7 (sp_i32 hke (by decide))
    · exact h8 (sp_i32 hke (by decide))
    · exact h9 (sp_i32 hke (by decide))
    · exact h10 (sp_i32 hke (by decide))
    · exact h11 (sp_i32 hke (by decide))
    · exact h12 (sp_i32 hke (by decide))
    · exact h13 (sp_i32 hke (by decide))
    · exact h14 (sp_i32 hke (by decide))
    · exact h15 (sp_i32 hke (by decide))
    · exact h16 (sp_i32 hke (by decide))
    · exact h17 (sp_i32 hke (by decide))
    · exact h18 (sp_i32 hke (by decide))
    · exact h19 (sp_i32 hke (by decide))
    · exact h20 (sp_i32 hke (by decide))
    · exact h21 (sp_i32 hke (by decide))
    · exact h22 (sp_i32 hke (by decide))
    · exact h23 (sp_i32 hke (by decide))
    · exact h24 (sp_i32 hke (by decide))
    · exact h25 (sp_i32 hke (by decide))
    · exact h26 (sp_i32 hke (by decide))
    · exact h27 (sp_i32 hke (by decide))
    · exact h28 (sp_i32 hke (by decide))
    · exact h29 (sp_i32 hke (by decide))
    · exact h30 (sp_i32 hke (by decide))
    · exact h31 (sp_i32 hke (by decide))
    · exact h32 (sp_i32 hke (by decide))
    · exact h33 (sp_i32 hke (by decide))
    · exact h34 (sp_i32 hke (by decide))
    · exact h35 (sp_i32 hke (by decide))
    · exact h36 (sp_i32 hke (by decide))
    · exact h37 (sp_i32 hke (by decide))
    · exact h38 (sp_i32 hke (by decide)))) (by decide) ?_
  cases hf
  exact sp_wid (by omega) (by omega) hk
