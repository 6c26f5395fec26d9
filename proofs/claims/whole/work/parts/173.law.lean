def LK26 (n : Nat) (σ μ : sp_St) (a1 a2 a3 a4 a5 : Int32) : Option (sp_St × sp_St) :=
  sp_bd (X11_parts n σ) fun σ2 v3 =>
  sp_bd (X12_parts n μ) fun μ5 v6 =>
  if v3 = v6 then
    some (σ2, μ5)
  else
    none
set_option maxRecDepth 100000 in
set_option maxHeartbeats 8000000 in
theorem hLK26 {X : sp_X} (hX : sp_OK shL X cL_law RL 7 room_1) {b L : Nat} {xs : Nat → Int32} (hs : lg_scr X b L xs) {n : Nat} {i a1 a2 a3 a4 a5 : Int32} (ha : lg_arg L xs i a1 a2 a3 a4 a5) {σ μ τ υ : sp_St} {kc ks : Nat} (hkc : kc + 4 ≤ 601024) (hks : ks + 24 ≤ 7293034) (hf : LK26 n σ μ a1 a2 a3 a4 a5 = some (τ, υ)) (hk : sp_GG shL X (sp_pair τ υ) 7 [some (.ref b), some (.ref (sx_ad X 0)), some (.ref (sx_ad X 69)), some (.ref (sx_ad X 68)), some (.int i), none, none] [] 2170 (kc + 4) (ks + 24)) : sp_GG shL X (sp_pair σ μ) 7 [some (.ref b), some (.ref (sx_ad X 0)), some (.ref (sx_ad X 69)), some (.ref (sx_ad X 68)), some (.int i), none, none] [] 1546 kc ks := by
  unfold LK26 at hf
  refine sp_aload_n (i := 1) (q := 1547) hX dL_law_1546 rfl rfl rfl ?_
  obtain ⟨σ2, v3, h1, hf⟩ := sp_bd_so hf
  refine lg_callVXi (As := []) (rest := []) (q := 1550) hX (cnX11_parts (sp_st hX) h1) cwL_200 rfl rfl rfl rfl (Nat.le_of_ble_eq_true rfl) (Nat.le_of_ble_eq_true rfl) (Nat.le_of_ble_eq_true rfl) (by show _ ≤ 601024; omega) (by show _ ≤ 7293034; omega) dL_law_1547 rfl ?_
  refine sp_aload_n (i := 2) (q := 1551) hX dL_law_1550 rfl rfl rfl ?_
  obtain ⟨μ5, v6, h4, hf⟩ := sp_bd_so hf
  refine lg_callVMi (As := []) (rest := [.int v3]) (q := 1554) hX (cnX12_parts (sp_st hX) h4) cwL_203 rfl rfl rfl rfl (Nat.le_of_ble_eq_true rfl) (Nat.le_of_ble_eq_true rfl) (Nat.le_of_ble_eq_true rfl) (by show _ ≤ 601024; omega) (by show _ ≤ 7293034; omega) dL_law_1551 rfl ?_
  refine sp_icmp_eq (tgt := 2170) (q := 1557) hX dL_law_1554 (by decide) rfl (fun hc => ?_) (fun hc => ?_)
  · rw [if_pos hc] at hf
    cases hf
    refine sp_wid (a := kc + 4) (b := ks + 24) (by omega) (by omega) ?_
    exact hk
  · rw [if_neg hc] at hf
    refine sp_iconst (v := 0) (q := 1558) hX dL_law_1557 li_0 rfl ?_
    cases hf
def LK27 (n : Nat) (σ μ : sp_St) (a1 a2 a3 a4 a5 : Int32) : Option (sp_St × sp_St) :=
  sp_bd (L_calm n σ a1) fun σ2 v3 =>
  sp_bd (X12_calm n μ a1) fun μ5 v6 =>
  sp_bd (X12_thrown n μ5) fun μ8 v9 =>
  if v9 = v3 then
    if v3 = 0 then
      if (lg_cmp (sp_gl σ2 68 (0 : Int32)) v6.toInt64) = 0 then
        some (σ2, μ8)
      else
        none
    else
      some (σ2, μ8)
  else
    none
set_option maxRecDepth 100000 in
set_option maxHeartbeats 8000000 in
theorem hLK27 {X : sp_X} (hX : sp_OK shL X cL_law RL 7 room_1) {b L : Nat} {xs : Nat → Int32} (hs : lg_scr X b L xs) {n : Nat} {i a1 a2 a3 a4 a5 : Int32} (ha : lg_arg L xs i a1 a2 a3 a4 a5) {σ μ τ υ : sp_St} {kc ks : Nat} (hkc : kc + 4 ≤ 601024) (hks : ks + 24 ≤ 7293034) (hf : LK27 n σ μ a1 a2 a3 a4 a5 = some (τ, υ)) (hk : sp_GG shL X (sp_pair τ υ) 7 [some (.ref b), some (.ref (sx_ad X 0)), some (.ref (sx_ad X 69)), some (.ref (sx_ad X 68)), some (.int i), none, none] [] 2170 (kc + 4) (ks + 24)) : sp_GG shL X (sp_pair σ μ) 7 [some (.ref b), some (.ref (sx_ad X 0)), some (.ref (sx_ad X 69)), some (.ref (sx_ad X 68)), some (.int i), none, none] [] 1559 kc ks := by
  unfold LK27 at hf
  refine sp_aload_n (i := 1) (q := 1560) hX dL_law_1559 rfl rfl rfl ?_
  refine sp_aload_n (i := 0) (q := 1561) hX dL_law_1560 rfl rfl rfl ?_
  refine sp_iload (i := 4) (q := 1563) hX dL_law_1561 rfl rfl ?_
  refine sp_iconst (v := 1) (q := 1564) hX dL_law_1563 li_1 rfl ?_
  refine sp_iadd (q := 1565) hX dL_law_1564 rfl ?_
  refine lg_sld (q := 1566) hX hs ha.1 dL_law_1565 rfl ?_
  refine sp_aload_n (i := 3) (q := 1567) hX dL_law_1566 rfl rfl rfl ?_
  obtain ⟨σ2, v3, h1, hf⟩ := sp_bd_so hf
  refine lg_callWX (As := [.ref (sx_ad X 0), .int a1, .ref (sx_ad X 68)]) (rest := []) (q := 1570) hX (cnL_calm (sp_st hX) h1) cwwL_204 rfl rfl rfl rfl (Nat.le_of_ble_eq_true rfl) (Nat.le_of_ble_eq_true rfl) (Nat.le_of_ble_eq_true rfl) (by show _ ≤ 601024; omega) (by show _ ≤ 7293034; omega) dL_law_1567 rfl ?_
  refine sp_istore (i := 5) (lv' := [some (.ref b), some (.ref (sx_ad X 0)), some (.ref (sx_ad X 69)), some (.ref (sx_ad X 68)), some (.int i), some (.int v3), none]) (q := 1572) hX dL_law_1570 (Nat.le_of_ble_eq_true rfl) rfl rfl rfl ?_
  refine sp_aload_n (i := 2) (q := 1573) hX dL_law_1572 rfl rfl rfl ?_
  refine sp_aload_n (i := 0) (q := 1574) hX dL_law_1573 rfl rfl rfl ?_
  refine sp_iload (i := 4) (q := 1576) hX dL_law_1574 rfl rfl ?_
  refine sp_iconst (v := 1) (q := 1577) hX dL_law_1576 li_1 rfl ?_
  refine sp_iadd (q := 1578) hX dL_law_1577 rfl ?_
  refine lg_sld (q := 1579) hX hs ha.1 dL_law_1578 rfl ?_
  obtain ⟨μ5, v6, h4, hf⟩ := sp_bd_so hf
  refine lg_callVMi (As := [.int a1]) (rest := []) (q := 1582) hX (cnX12_calm (sp_st hX) h4) cwL_206 rfl rfl rfl rfl (Nat.le_of_ble_eq_true rfl) (Nat.le_of_ble_eq_true rfl) (Nat.le_of_ble_eq_true rfl) (by show _ ≤ 601024; omega) (by show _ ≤ 7293034; omega) dL_law_1579 rfl ?_
  refine sp_istore (i := 6) (lv' := [some (.ref b), some (.ref (sx_ad X 0)), some (.ref (sx_ad X 69)), some (.ref (sx_ad X 68)), some (.int i), some (.int v3), some (.int v6)]) (q := 1584) hX dL_law_1582 (Nat.le_of_ble_eq_true rfl) rfl rfl rfl ?_
  refine sp_aload_n (i := 2) (q := 1585) hX dL_law_1584 rfl rfl rfl ?_
  obtain ⟨μ8, v9, h7, hf⟩ := sp_bd_so hf
  refine lg_callVMi (As := []) (rest := []) (q := 1588) hX (cnX12_thrown (sp_st hX) h7) cwL_114 rfl rfl rfl rfl (Nat.le_of_ble_eq_true rfl) (Nat.le_of_ble_eq_true rfl) (Nat.le_of_ble_eq_true rfl) (by show _ ≤ 601024; omega) (by show _ ≤ 7293034; omega) dL_law_1585 rfl ?_
  refine sp_iload (i := 5) (q := 1590) hX dL_law_1588 rfl rfl ?_
  refine sp_icmp_eq (tgt := 1595) (q := 1593) hX dL_law_1590 (by decide) rfl (fun hc => ?_) (fun hc => ?_)
  · rw [if_pos hc] at hf
    refine sp_iload (i := 5) (q := 1597) hX dL_law_1595 rfl rfl ?_
    refine sp_if_ne (tgt := 1612) (q := 1600) hX dL_law_1597 (by decide) rfl (fun hc => ?_) (fun hc => ?_)
    · rw [if_neg hc] at hf
      refine sp_goto (tgt := 2170) hX dL_law_1612 (by decide) ?_
      cases hf
      refine sp_drop (lv' := [some (.ref b), some (.ref (sx_ad X 0)), some (.ref (sx_ad X 69)), some (.ref (sx_ad X 68)), some (.int i), none, none]) (And.intro rfl (And.intro rfl (And.intro rfl (And.intro rfl (And.intro rfl trivial))))) ?_
      refine sp_wid (a := kc + 4) (b := ks + 24) (by omega) (by omega) ?_
      exact hk
    · rw [if_pos hc] at hf
      refine sp_aload_n (i := 3) (q := 1601) hX dL_law_1600 rfl rfl rfl ?_
      refine sp_iconst (v := 0) (q := 1602) hX dL_law_1601 li_0 rfl ?_
      refine sp_lald (q := 1603) hX arL_68 (by decide) dL_law_1602 rfl ?_
      refine sp_nml (x := sp_gl σ2 68 (0 : Int32)) lg_g68.symm ?_
      refine sp_iload (i := 6) (q := 1605) hX dL_law_1603 rfl rfl ?_
      refine sp_i2l (q := 1606) hX dL_law_1605 rfl ?_
      refine sp_lcmp (q := 1607) hX dL_law_1606 rfl ?_
      refine sp_if_eq (tgt := 1612) (q := 1610) hX dL_law_1607 (by decide) rfl (fun hc => ?_) (fun hc => ?_)
      · rw [if_pos hc] at hf
        refine sp_goto (tgt := 2170) hX dL_law_1612 (by decide) ?_
        cases hf
        refine sp_drop (lv' := [some (.ref b), some (.ref (sx_ad X 0)), some (.ref (sx_ad X 69)), some (.ref (sx_ad X 68)), some (.int i), none, none]) (And.intro rfl (And.intro rfl (And.intro rfl (And.intro rfl (And.intro rfl trivial))))) ?_
        refine sp_wid (a := kc + 4) (b := ks + 24) (by omega) (by omega) ?_
        exact hk
      · rw [if_neg hc] at hf
        refine sp_iconst (v := 0) (q := 1611) hX dL_law_1610 li_0 rfl ?_
        cases hf
  · rw [if_neg hc] at hf
    refine sp_iconst (v := 0) (q := 1594) hX dL_law_1593 li_0 rfl ?_
    cases hf
def LK28 (n : Nat) (σ μ : sp_St) (a1 a2 a3 a4 a5 : Int32) : Option (sp_St × sp_St) :=
  sp_bd (L_lacks n σ a1) fun σ2 v3 =>
  sp_bd (X12_lacks n μ a1) fun μ5 v6 =>
  sp_bd (X12_thrown n μ5) fun μ8 v9 =>
  if v9 = v3 then
    if v3 = 0 then
      if (lg_cmp (sp_gl σ2 68 (0 : Int32)) v6.toInt64) = 0 then
        some (σ2, μ8)
      else
        none
    else
      some (σ2, μ8)
  else
    none
set_option maxRecDepth 100000 in
set_option maxHeartbeats 8000000 in
theorem hLK28 {X : sp_X} (hX : sp_OK shL X cL_law RL 7 room_1) {b L : Nat} {xs : Nat → Int32} (hs : lg_scr X b L xs) {n : Nat} {i a1 a2 a3 a4 a5 : Int32} (ha : lg_arg L xs i a1 a2 a3 a4 a5) {σ μ τ υ : sp_St} {kc ks : Nat} (hkc : kc + 4 ≤ 601024) (hks : ks + 24 ≤ 7293034) (hf : LK28 n σ μ a1 a2 a3 a4 a5 = some (τ, υ)) (hk : sp_GG shL X (sp_pair τ υ) 7 [some (.ref b), some (.ref (sx_ad X 0)), some (.ref (sx_ad X 69)), some (.ref (sx_ad X 68)), some (.int i), none, none] [] 2170 (kc + 4) (ks + 24)) : sp_GG shL X (sp_pair σ μ) 7 [some (.ref b), some (.ref (sx_ad X 0)), some (.ref (sx_ad X 69)), some (.ref (sx_ad X 68)), some (.int i), none, none] [] 1615 kc ks := by
  unfold LK28 at hf
  refine sp_aload_n (i := 1) (q := 1616) hX dL_law_1615 rfl rfl rfl ?_
  refine sp_aload_n (i := 0) (q := 1617) hX dL_law_1616 rfl rfl rfl ?_
  refine sp_iload (i := 4) (q := 1619) hX dL_law_1617 rfl rfl ?_
  refine sp_iconst (v := 1) (q := 1620) hX dL_law_1619 li_1 rfl ?_
  refine sp_iadd (q := 1621) hX dL_law_1620 rfl ?_
  refine lg_sld (q := 1622) hX hs ha.1 dL_law_1621 rfl ?_
  refine sp_aload_n (i := 3) (q := 1623) hX dL_law_1622 rfl rfl rfl ?_
  obtain ⟨σ2, v3, h1, hf⟩ := sp_bd_so hf
  refine lg_callWX (As := [.ref (sx_ad X 0), .int a1, .ref (sx_ad X 68)]) (rest := []) (q := 1626) hX (cnL_lacks (sp_st hX) h1) cwwL_207 rfl rfl rfl rfl (Nat.le_of_ble_eq_true rfl) (Nat.le_of_ble_eq_true rfl) (Nat.le_of_ble_eq_true rfl) (by show _ ≤ 601024; omega) (by show _ ≤ 7293034; omega) dL_law_1623 rfl ?_
  refine sp_istore (i := 5) (lv' := [some (.ref b), some (.ref (sx_ad X 0)), some (.ref (sx_ad X 69)), some (.ref (sx_ad X 68)), some (.int i), some (.int v3), none]) (q := 1628) hX dL_law_1626 (Nat.le_of_ble_eq_true rfl) rfl rfl rfl ?_
  refine sp_aload_n (i := 2) (q := 1629) hX dL_law_1628 rfl rfl rfl ?_
  refine sp_aload_n (i := 0) (q := 1630) hX dL_law_1629 rfl rfl rfl ?_
  refine sp_iload (i := 4) (q := 1632) hX dL_law_1630 rfl rfl ?_
  refine sp_iconst (v := 1) (q := 1633) hX dL_law_1632 li_1 rfl ?_
  refine sp_iadd (q := 1634) hX dL_law_1633 rfl ?_
  refine lg_sld (q := 1635) hX hs ha.1 dL_law_1634 rfl ?_
  obtain ⟨μ5, v6, h4, hf⟩ := sp_bd_so hf
  refine lg_callVMi (As := [.int a1]) (rest := []) (q := 1638) hX (cnX12_lacks (sp_st hX) h4) cwL_209 rfl rfl rfl rfl (Nat.le_of_ble_eq_true rfl) (Nat.le_of_ble_eq_true rfl) (Nat.le_of_ble_eq_true rfl) (by show _ ≤ 601024; omega) (by show _ ≤ 7293034; omega) dL_law_1635 rfl ?_
  refine sp_istore (i := 6) (lv' := [some (.ref b), some (.ref (sx_ad X 0)), some (.ref (sx_ad X 69)), some (.ref (sx_ad X 68)), some (.int i), some (.int v3), some (.int v6)]) (q := 1640) hX dL_law_1638 (Nat.le_of_ble_eq_true rfl) rfl rfl rfl ?_
  refine sp_aload_n (i := 2) (q := 1641) hX dL_law_1640 rfl rfl rfl ?_
  obtain ⟨μ8, v9, h7, hf⟩ := sp_bd_so hf
  refine lg_callVMi (As := []) (rest := []) (q := 1644) hX (cnX12_thrown (sp_st hX) h7) cwL_114 rfl rfl rfl rfl (Nat.le_of_ble_eq_true rfl) (Nat.le_of_ble_eq_true rfl) (Nat.le_of_ble_eq_true rfl) (by show _ ≤ 601024; omega) (by show _ ≤ 7293034; omega) dL_law_1641 rfl ?_
  refine sp_iload (i := 5) (q := 1646) hX dL_law_1644 rfl rfl ?_
  refine sp_icmp_eq (tgt := 1651) (q := 1649) hX dL_law_1646 (by decide) rfl (fun hc => ?_) (fun hc => ?_)
  · rw [if_pos hc] at hf
    refine sp_iload (i := 5) (q := 1653) hX dL_law_1651 rfl rfl ?_
    refine sp_if_ne (tgt := 1668) (q := 1656) hX dL_law_1653 (by decide) rfl (fun hc => ?_) (fun hc => ?_)
    · rw [if_neg hc] at hf
      refine sp_goto (tgt := 2170) hX dL_law_1668 (by decide) ?_
      cases hf
      refine sp_drop (lv' := [some (.ref b), some (.ref (sx_ad X 0)), some (.ref (sx_ad X 69)), some (.ref (sx_ad X 68)), some (.int i), none, none]) (And.intro rfl (And.intro rfl (And.intro rfl (And.intro rfl (And.intro rfl trivial))))) ?_
      refine sp_wid (a := kc + 4) (b := ks + 24) (by omega) (by omega) ?_
      exact hk
    · rw [if_pos hc] at hf
      refine sp_aload_n (i := 3) (q := 1657) hX dL_law_1656 rfl rfl rfl ?_
      refine sp_iconst (v := 0) (q := 1658) hX dL_law_1657 li_0 rfl ?_
      refine sp_lald (q := 1659) hX arL_68 (by decide) dL_law_1658 rfl ?_
      refine sp_nml (x := sp_gl σ2 68 (0 : Int32)) lg_g68.symm ?_
      refine sp_iload (i := 6) (q := 1661) hX dL_law_1659 rfl rfl ?_
      refine sp_i2l (q := 1662) hX dL_law_1661 rfl ?_
      refine sp_lcmp (q := 1663) hX dL_law_1662 rfl ?_
      refine sp_if_eq (tgt := 1668) (q := 1666) hX dL_law_1663 (by decide) rfl (fun hc => ?_) (fun hc => ?_)
      · rw [if_pos hc] at hf
        refine sp_goto (tgt := 2170) hX dL_law_1668 (by decide) ?_
        cases hf
        refine sp_drop (lv' := [some (.ref b), some (.ref (sx_ad X 0)), some (.ref (sx_ad X 69)), some (.ref (sx_ad X 68)), some (.int i), none, none]) (And.intro rfl (And.intro rfl (And.intro rfl (And.intro rfl (And.intro rfl trivial))))) ?_
        refine sp_wid (a := kc + 4) (b := ks + 24) (by omega) (by omega) ?_
        exact hk
      · rw [if_neg hc] at hf
        refine sp_iconst (v := 0) (q := 1667) hX dL_law_1666 li_0 rfl ?_
        cases hf
  · rw [if_neg hc] at hf
    refine sp_iconst (v := 0) (q := 1650) hX dL_law_1649 li_0 rfl ?_
    cases hf
def LK29 (n : Nat) (σ μ : sp_St) (a1 a2 a3 a4 a5 : Int32) : Option (sp_St × sp_St) :=
  sp_bd (L_above n σ a1) fun σ2 v3 =>
  sp_bd (X12_above n μ a1) fun μ5 v6 =>
  sp_bd (X12_thrown n μ5) fun μ8 v9 =>
  if v9 = v3 then
    if v3 = 0 then
      if (lg_cmp (sp_gl σ2 68 (0 : Int32)) v6.toInt64) = 0 then
        some (σ2, μ8)
      else
        none
    else
      some (σ2, μ8)
  else
    none
set_option maxRecDepth 100000 in
set_option maxHeartbeats 8000000 in
theorem hLK29 {X : sp_X} (hX : sp_OK shL X cL_law RL 7 room_1) {b L : Nat} {xs : Nat → Int32} (hs : lg_scr X b L xs) {n : Nat} {i a1 a2 a3 a4 a5 : Int32} (ha : lg_arg L xs i a1 a2 a3 a4 a5) {σ μ τ υ : sp_St} {kc ks : Nat} (hkc : kc + 4 ≤ 601024) (hks : ks + 24 ≤ 7293034) (hf : LK29 n σ μ a1 a2 a3 a4 a5 = some (τ, υ)) (hk : sp_GG shL X (sp_pair τ υ) 7 [some (.ref b), some (.ref (sx_ad X 0)), some (.ref (sx_ad X 69)), some (.ref (sx_ad X 68)), some (.int i), none, none] [] 2170 (kc + 4) (ks + 24)) : sp_GG shL X (sp_pair σ μ) 7 [some (.ref b), some (.ref (sx_ad X 0)), some (.ref (sx_ad X 69)), some (.ref (sx_ad X 68)), some (.int i), none, none] [] 1671 kc ks := by
  unfold LK29 at hf
  refine sp_aload_n (i := 1) (q := 1672) hX dL_law_1671 rfl rfl rfl ?_
  refine sp_aload_n (i := 0) (q := 1673) hX dL_law_1672 rfl rfl rfl ?_
  refine sp_iload (i := 4) (q := 1675) hX dL_law_1673 rfl rfl ?_
  refine sp_iconst (v := 1) (q := 1676) hX dL_law_1675 li_1 rfl ?_
  refine sp_iadd (q := 1677) hX dL_law_1676 rfl ?_
  refine lg_sld (q := 1678) hX hs ha.1 dL_law_1677 rfl ?_
  refine sp_aload_n (i := 3) (q := 1679) hX dL_law_1678 rfl rfl rfl ?_
  obtain ⟨σ2, v3, h1, hf⟩ := sp_bd_so hf
  refine lg_callWX (As := [.ref (sx_ad X 0), .int a1, .ref (sx_ad X 68)]) (rest := []) (q := 1682) hX (cnL_above (sp_st hX) h1) cwwL_210 rfl rfl rfl rfl (Nat.le_of_ble_eq_true rfl) (Nat.le_of_ble_eq_true rfl) (Nat.le_of_ble_eq_true rfl) (by show _ ≤ 601024; omega) (by show _ ≤ 7293034; omega) dL_law_1679 rfl ?_
  refine sp_istore (i := 5) (lv' := [some (.ref b), some (.ref (sx_ad X 0)), some (.ref (sx_ad X 69)), some (.ref (sx_ad X 68)), some (.int i), some (.int v3), none]) (q := 1684) hX dL_law_1682 (Nat.le_of_ble_eq_true rfl) rfl rfl rfl ?_
  refine sp_aload_n (i := 2) (q := 1685) hX dL_law_1684 rfl rfl rfl ?_
  refine sp_aload_n (i := 0) (q := 1686) hX dL_law_1685 rfl rfl rfl ?_
  refine sp_iload (i := 4) (q := 1688) hX dL_law_1686 rfl rfl ?_
  refine sp_iconst (v := 1) (q := 1689) hX dL_law_1688 li_1 rfl ?_
  refine sp_iadd (q := 1690) hX dL_law_1689 rfl ?_
  refine lg_sld (q := 1691) hX hs ha.1 dL_law_1690 rfl ?_
  obtain ⟨μ5, v6, h4, hf⟩ := sp_bd_so hf
  refine lg_callVMi (As := [.int a1]) (rest := []) (q := 1694) hX (cnX12_above (sp_st hX) h4) cwL_212 rfl rfl rfl rfl (Nat.le_of_ble_eq_true rfl) (Nat.le_of_ble_eq_true rfl) (Nat.le_of_ble_eq_true rfl) (by show _ ≤ 601024; omega) (by show _ ≤ 7293034; omega) dL_law_1691 rfl ?_
  refine sp_istore (i := 6) (lv' := [some (.ref b), some (.ref (sx_ad X 0)), some (.ref (sx_ad X 69)), some (.ref (sx_ad X 68)), some (.int i), some (.int v3), some (.int v6)]) (q := 1696) hX dL_law_1694 (Nat.le_of_ble_eq_true rfl) rfl rfl rfl ?_
  refine sp_aload_n (i := 2) (q := 1697) hX dL_law_1696 rfl rfl rfl ?_
  obtain ⟨μ8, v9, h7, hf⟩ := sp_bd_so hf
  refine lg_callVMi (As := []) (rest := []) (q := 1700) hX (cnX12_thrown (sp_st hX) h7) cwL_114 rfl rfl rfl rfl (Nat.le_of_ble_eq_true rfl) (Nat.le_of_ble_eq_true rfl) (Nat.le_of_ble_eq_true rfl) (by show _ ≤ 601024; omega) (by show _ ≤ 7293034; omega) dL_law_1697 rfl ?_
  refine sp_iload (i := 5) (q := 1702) hX dL_law_1700 rfl rfl ?_
  refine sp_icmp_eq (tgt := 1707) (q := 1705) hX dL_law_1702 (by decide) rfl (fun hc => ?_) (fun hc => ?_)
  · rw [if_pos hc] at hf
    refine sp_iload (i := 5) (q := 1709) hX dL_law_1707 rfl rfl ?_
    refine sp_if_ne (tgt := 1724) (q := 1712) hX dL_law_1709 (by decide) rfl (fun hc => ?_) (fun hc => ?_)
    · rw [if_neg hc] at hf
      refine sp_goto (tgt := 2170) hX dL_law_1724 (by decide) ?_
      cases hf
      refine sp_drop (lv' := [some (.ref b), some (.ref (sx_ad X 0)), some (.ref (sx_ad X 69)), some (.ref (sx_ad X 68)), some (.int i), none, none]) (And.intro rfl (And.intro rfl (And.intro rfl (And.intro rfl (And.intro rfl trivial))))) ?_
      refine sp_wid (a := kc + 4) (b := ks + 24) (by omega) (by omega) ?_
      exact hk
    · rw [if_pos hc] at hf
      refine sp_aload_n (i := 3) (q := 1713) hX dL_law_1712 rfl rfl rfl ?_
      refine sp_iconst (v := 0) (q := 1714) hX dL_law_1713 li_0 rfl ?_
      refine sp_lald (q := 1715) hX arL_68 (by decide) dL_law_1714 rfl ?_
      refine sp_nml (x := sp_gl σ2 68 (0 : Int32)) lg_g68.symm ?_
      refine sp_iload (i := 6) (q := 1717) hX dL_law_1715 rfl rfl ?_
      refine sp_i2l (q := 1718) hX dL_law_1717 rfl ?_
      refine sp_lcmp (q := 1719) hX dL_law_1718 rfl ?_
      refine sp_if_eq (tgt := 1724) (q := 1722) hX dL_law_1719 (by decide) rfl (fun hc => ?_) (fun hc => ?_)
      · rw [if_pos hc] at hf
        refine sp_goto (tgt := 2170) hX dL_law_1724 (by decide) ?_
        cases hf
        refine sp_drop (lv' := [some (.ref b), some (.ref (sx_ad X 0)), some (.ref (sx_ad X 69)), some (.ref (sx_ad X 68)), some (.int i), none, none]) (And.intro rfl (And.intro rfl (And.intro rfl (And.intro rfl (And.intro rfl trivial))))) ?_
        refine sp_wid (a := kc + 4) (b := ks + 24) (by omega) (by omega) ?_
        exact hk
      · rw [if_neg hc] at hf
        refine sp_iconst (v := 0) (q := 1723) hX dL_law_1722 li_0 rfl ?_
        cases hf
  · rw [if_neg hc] at hf
    refine sp_iconst (v := 0) (q := 1706) hX dL_law_1705 li_0 rfl ?_
    cases hf
def LK30 (n : Nat) (σ μ : sp_St) (a1 a2 a3 a4 a5 : Int32) : Option (sp_St × sp_St) :=
  sp_bd (L_hiccup n σ a1) fun σ2 v3 =>
  sp_bd (X12_hiccup n μ a1) fun μ5 v6 =>
  sp_bd (X12_thrown n μ5) fun μ8 v9 =>
  if v9 = v3 then
    if v3 = 0 then
      if (lg_cmp (sp_gl σ2 68 (0 : Int32)) v6.toInt64) = 0 then
        some (σ2, μ8)
      else
        none
    else
      some (σ2, μ8)
  else
    none
set_option maxRecDepth 100000 in
set_option maxHeartbeats 8000000 in
theorem hLK30 {X : sp_X} (hX : sp_OK shL X cL_law RL 7 room_1) {b L : Nat} {xs : Nat → Int32} (hs : lg_scr X b L xs) {n : Nat} {i a1 a2 a3 a4 a5 : Int32} (ha : lg_arg L xs i a1 a2 a3 a4 a5) {σ μ τ υ : sp_St} {kc ks : Nat} (hkc : kc + 4 ≤ 601024) (hks : ks + 24 ≤ 7293034) (hf : LK30 n σ μ a1 a2 a3 a4 a5 = some (τ, υ)) (hk : sp_GG shL X (sp_pair τ υ) 7 [some (.ref b), some (.ref (sx_ad X 0)), some (.ref (sx_ad X 69)), some (.ref (sx_ad X 68)), some (.int i), none, none] [] 2170 (kc + 4) (ks + 24)) : sp_GG shL X (sp_pair σ μ) 7 [some (.ref b), some (.ref (sx_ad X 0)), some (.ref (sx_ad X 69)), some (.ref (sx_ad X 68)), some (.int i), none, none] [] 1727 kc ks := by
  unfold LK30 at hf
  refine sp_aload_n (i := 1) (q := 1728) hX dL_law_1727 rfl rfl rfl ?_
  refine sp_aload_n (i := 0) (q := 1729) hX dL_law_1728 rfl rfl rfl ?_
  refine sp_iload (i := 4) (q := 1731) hX dL_law_1729 rfl rfl ?_
  refine sp_iconst (v := 1) (q := 1732) hX dL_law_1731 li_1 rfl ?_
  refine sp_iadd (q := 1733) hX dL_law_1732 rfl ?_
  refine lg_sld (q := 1734) hX hs ha.1 dL_law_1733 rfl ?_
  refine sp_aload_n (i := 3) (q := 1735) hX dL_law_1734 rfl rfl rfl ?_
  obtain ⟨σ2, v3, h1, hf⟩ := sp_bd_so hf
  refine lg_callWX (As := [.ref (sx_ad X 0), .int a1, .ref (sx_ad X 68)]) (rest := []) (q := 1738) hX (cnL_hiccup (sp_st hX) h1) cwwL_213 rfl rfl rfl rfl (Nat.le_of_ble_eq_true rfl) (Nat.le_of_ble_eq_true rfl) (Nat.le_of_ble_eq_true rfl) (by show _ ≤ 601024; omega) (by show _ ≤ 7293034; omega) dL_law_1735 rfl ?_
  refine sp_istore (i := 5) (lv' := [some (.ref b), some (.ref (sx_ad X 0)), some (.ref (sx_ad X 69)), some (.ref (sx_ad X 68)), some (.int i), some (.int v3), none]) (q := 1740) hX dL_law_1738 (Nat.le_of_ble_eq_true rfl) rfl rfl rfl ?_
  refine sp_aload_n (i := 2) (q := 1741) hX dL_law_1740 rfl rfl rfl ?_
  refine sp_aload_n (i := 0) (q := 1742) hX dL_law_1741 rfl rfl rfl ?_
  refine sp_iload (i := 4) (q := 1744) hX dL_law_1742 rfl rfl ?_
  refine sp_iconst (v := 1) (q := 1745) hX dL_law_1744 li_1 rfl ?_
  refine sp_iadd (q := 1746) hX dL_law_1745 rfl ?_
  refine lg_sld (q := 1747) hX hs ha.1 dL_law_1746 rfl ?_
  obtain ⟨μ5, v6, h4, hf⟩ := sp_bd_so hf
  refine lg_callVMi (As := [.int a1]) (rest := []) (q := 1750) hX (cnX12_hiccup (sp_st hX) h4) cwL_215 rfl rfl rfl rfl (Nat.le_of_ble_eq_true rfl) (Nat.le_of_ble_eq_true rfl) (Nat.le_of_ble_eq_true rfl) (by show _ ≤ 601024; omega) (by show _ ≤ 7293034; omega) dL_law_1747 rfl ?_
  refine sp_istore (i := 6) (lv' := [some (.ref b), some (.ref (sx_ad X 0)), some (.ref (sx_ad X 69)), some (.ref (sx_ad X 68)), some (.int i), some (.int v3), some (.int v6)]) (q := 1752) hX dL_law_1750 (Nat.le_of_ble_eq_true rfl) rfl rfl rfl ?_
  refine sp_aload_n (i := 2) (q := 1753) hX dL_law_1752 rfl rfl rfl ?_
  obtain ⟨μ8, v9, h7, hf⟩ := sp_bd_so hf
  refine lg_callVMi (As := []) (rest := []) (q := 1756) hX (cnX12_thrown (sp_st hX) h7) cwL_114 rfl rfl rfl rfl (Nat.le_of_ble_eq_true rfl) (Nat.le_of_ble_eq_true rfl) (Nat.le_of_ble_eq_true rfl) (by show _ ≤ 601024; omega) (by show _ ≤ 7293034; omega) dL_law_1753 rfl ?_
  refine sp_iload (i := 5) (q := 1758) hX dL_law_1756 rfl rfl ?_
  refine sp_icmp_eq (tgt := 1763) (q := 1761) hX dL_law_1758 (by decide) rfl (fun hc => ?_) (fun hc => ?_)
  · rw [if_pos hc] at hf
    refine sp_iload (i := 5) (q := 1765) hX dL_law_1763 rfl rfl ?_
    refine sp_if_ne (tgt := 1780) (q := 1768) hX dL_law_1765 (by decide) rfl (fun hc => ?_) (fun hc => ?_)
    · rw [if_neg hc] at hf
      refine sp_goto (tgt := 2170) hX dL_law_1780 (by decide) ?_
      cases hf
      refine sp_drop (lv' := [some (.ref b), some (.ref (sx_ad X 0)), some (.ref (sx_ad X 69)), some (.ref (sx_ad X 68)), some (.int i), none, none]) (And.intro rfl (And.intro rfl (And.intro rfl (And.intro rfl (And.intro rfl trivial))))) ?_
      refine sp_wid (a := kc + 4) (b := ks + 24) (by omega) (by omega) ?_
      exact hk
    · rw [if_pos hc] at hf
      refine sp_aload_n (i := 3) (q := 1769) hX dL_law_1768 rfl rfl rfl ?_
      refine sp_iconst (v := 0) (q := 1770) hX dL_law_1769 li_0 rfl ?_
      refine sp_lald (q := 1771) hX arL_68 (by decide) dL_law_1770 rfl ?_
      refine sp_nml (x := sp_gl σ2 68 (0 : Int32)) lg_g68.symm ?_
      refine sp_iload (i := 6) (q := 1773) hX dL_law_1771 rfl rfl ?_
      refine sp_i2l (q := 1774) hX dL_law_1773 rfl ?_
      refine sp_lcmp (q := 1775) hX dL_law_1774 rfl ?_
      refine sp_if_eq (tgt := 1780) (q := 1778) hX dL_law_1775 (by decide) rfl (fun hc => ?_) (fun hc => ?_)
      · rw [if_pos hc] at hf
        refine sp_goto (tgt := 2170) hX dL_law_1780 (by decide) ?_
        cases hf
        refine sp_drop (lv' := [some (.ref b), some (.ref (sx_ad X 0)), some (.ref (sx_ad X 69)), some (.ref (sx_ad X 68)), some (.int i), none, none]) (And.intro rfl (And.intro rfl (And.intro rfl (And.intro rfl (And.intro rfl trivial))))) ?_
        refine sp_wid (a := kc + 4) (b := ks + 24) (by omega) (by omega) ?_
        exact hk
      · rw [if_neg hc] at hf
        refine sp_iconst (v := 0) (q := 1779) hX dL_law_1778 li_0 rfl ?_
        cases hf
  · rw [if_neg hc] at hf
    refine sp_iconst (v := 0) (q := 1762) hX dL_law_1761 li_0 rfl ?_
    cases hf
def LK31 (n : Nat) (σ μ : sp_St) (a1 a2 a3 a4 a5 : Int32) : Option (sp_St × sp_St) :=
  sp_bd (L_see n σ a1 a2 a3) fun σ2 v3 =>
  sp_bd (X12_see n μ a1 a2 a3) fun μ5 v6 =>
  sp_bd (X12_thrown n μ5) fun μ8 v9 =>
  if v9 = v3 then
    if v3 = 0 then
      if (lg_cmp (sp_gl σ2 68 (0 : Int32)) v6.toInt64) = 0 then
        some (σ2, μ8)
      else
        none
    else
      some (σ2, μ8)
  else
    none
set_option maxRecDepth 100000 in
set_option maxHeartbeats 8000000 in
theorem hLK31 {X : sp_X} (hX : sp_OK shL X cL_law RL 7 room_1) {b L : Nat} {xs : Nat → Int32} (hs : lg_scr X b L xs) {n : Nat} {i a1 a2 a3 a4 a5 : Int32} (ha : lg_arg L xs i a1 a2 a3 a4 a5) {σ μ τ υ : sp_St} {kc ks : Nat} (hkc : kc + 4 ≤ 601024) (hks : ks + 24 ≤ 7293034) (hf : LK31 n σ μ a1 a2 a3 a4 a5 = some (τ, υ)) (hk : sp_GG shL X (sp_pair τ υ) 7 [some (.ref b), some (.ref (sx_ad X 0)), some (.ref (sx_ad X 69)), some (.ref (sx_ad X 68)), some (.int i), none, none] [] 2170 (kc + 4) (ks + 24)) : sp_GG shL X (sp_pair σ μ) 7 [some (.ref b), some (.ref (sx_ad X 0)), some (.ref (sx_ad X 69)), some (.ref (sx_ad X 68)), some (.int i), none, none] [] 1783 kc ks := by
  unfold LK31 at hf
  refine sp_aload_n (i := 1) (q := 1784) hX dL_law_1783 rfl rfl rfl ?_
  refine sp_aload_n (i := 0) (q := 1785) hX dL_law_1784 rfl rfl rfl ?_
  refine sp_iload (i := 4) (q := 1787) hX dL_law_1785 rfl rfl ?_
  refine sp_iconst (v := 1) (q := 1788) hX dL_law_1787 li_1 rfl ?_
  refine sp_iadd (q := 1789) hX dL_law_1788 rfl ?_
  refine lg_sld (q := 1790) hX hs ha.1 dL_law_1789 rfl ?_
  refine sp_aload_n (i := 0) (q := 1791) hX dL_law_1790 rfl rfl rfl ?_
  refine sp_iload (i := 4) (q := 1793) hX dL_law_1791 rfl rfl ?_
  refine sp_iconst (v := 2) (q := 1794) hX dL_law_1793 li_2 rfl ?_
  refine sp_iadd (q := 1795) hX dL_law_1794 rfl ?_
  refine lg_sld (q := 1796) hX hs ha.2.1 dL_law_1795 rfl ?_
  refine sp_aload_n (i := 0) (q := 1797) hX dL_law_1796 rfl rfl rfl ?_
  refine sp_iload (i := 4) (q := 1799) hX dL_law_1797 rfl rfl ?_
  refine sp_iconst (v := 3) (q := 1800) hX dL_law_1799 li_3 rfl ?_
  refine sp_iadd (q := 1801) hX dL_law_1800 rfl ?_
  refine lg_sld (q := 1802) hX hs ha.2.2.1 dL_law_1801 rfl ?_
  refine sp_aload_n (i := 3) (q := 1803) hX dL_law_1802 rfl rfl rfl ?_
  obtain ⟨σ2, v3, h1, hf⟩ := sp_bd_so hf
  refine lg_callWX (As := [.ref (sx_ad X 0), .int a1, .int a2, .int a3, .ref (sx_ad X 68)]) (rest := []) (q := 1806) hX (cnL_see (sp_st hX) h1) cwwL_216 rfl rfl rfl rfl (Nat.le_of_ble_eq_true rfl) (Nat.le_of_ble_eq_true rfl) (Nat.le_of_ble_eq_true rfl) (by show _ ≤ 601024; omega) (by show _ ≤ 7293034; omega) dL_law_1803 rfl ?_
  refine sp_istore (i := 5) (lv' := [some (.ref b), some (.ref (sx_ad X 0)), some (.ref (sx_ad X 69)), some (.ref (sx_ad X 68)), some (.int i), some (.int v3), none]) (q := 1808) hX dL_law_1806 (Nat.le_of_ble_eq_true rfl) rfl rfl rfl ?_
  refine sp_aload_n (i := 2) (q := 1809) hX dL_law_1808 rfl rfl rfl ?_
  refine sp_aload_n (i := 0) (q := 1810) hX dL_law_1809 rfl rfl rfl ?_
  refine sp_iload (i := 4) (q := 1812) hX dL_law_1810 rfl rfl ?_
  refine sp_iconst (v := 1) (q := 1813) hX dL_law_1812 li_1 rfl ?_
  refine sp_iadd (q := 1814) hX dL_law_1813 rfl ?_
  refine lg_sld (q := 1815) hX hs ha.1 dL_law_1814 rfl ?_
  refine sp_aload_n (i := 0) (q := 1816) hX dL_law_1815 rfl rfl rfl ?_
  refine sp_iload (i := 4) (q := 1818) hX dL_law_1816 rfl rfl ?_
  refine sp_iconst (v := 2) (q := 1819) hX dL_law_1818 li_2 rfl ?_
  refine sp_iadd (q := 1820) hX dL_law_1819 rfl ?_
  refine lg_sld (q := 1821) hX hs ha.2.1 dL_law_1820 rfl ?_
  refine sp_aload_n (i := 0) (q := 1822) hX dL_law_1821 rfl rfl rfl ?_
  refine sp_iload (i := 4) (q := 1824) hX dL_law_1822 rfl rfl ?_
  refine sp_iconst (v := 3) (q := 1825) hX dL_law_1824 li_3 rfl ?_
  refine sp_iadd (q := 1826) hX dL_law_1825 rfl ?_
  refine lg_sld (q := 1827) hX hs ha.2.2.1 dL_law_1826 rfl ?_
  obtain ⟨μ5, v6, h4, hf⟩ := sp_bd_so hf
  refine lg_callVMi (As := [.int a1, .int a2, .int a3]) (rest := []) (q := 1830) hX (cnX12_see (sp_st hX) h4) cwL_218 rfl rfl rfl rfl (Nat.le_of_ble_eq_true rfl) (Nat.le_of_ble_eq_true rfl) (Nat.le_of_ble_eq_true rfl) (by show _ ≤ 601024; omega) (by show _ ≤ 7293034; omega) dL_law_1827 rfl ?_
  refine sp_istore (i := 6) (lv' := [some (.ref b), some (.ref (sx_ad X 0)), some (.ref (sx_ad X 69)), some (.ref (sx_ad X 68)), some (.int i), some (.int v3), some (.int v6)]) (q := 1832) hX dL_law_1830 (Nat.le_of_ble_eq_true rfl) rfl rfl rfl ?_
  refine sp_aload_n (i := 2) (q := 1833) hX dL_law_1832 rfl rfl rfl ?_
  obtain ⟨μ8, v9, h7, hf⟩ := sp_bd_so hf
  refine lg_callVMi (As := []) (rest := []) (q := 1836) hX (cnX12_thrown (sp_st hX) h7) cwL_114 rfl rfl rfl rfl (Nat.le_of_ble_eq_true rfl) (Nat.le_of_ble_eq_true rfl) (Nat.le_of_ble_eq_true rfl) (by show _ ≤ 601024; omega) (by show _ ≤ 7293034; omega) dL_law_1833 rfl ?_
  refine sp_iload (i := 5) (q := 1838) hX dL_law_1836 rfl rfl ?_
  refine sp_icmp_eq (tgt := 1843) (q := 1841) hX dL_law_1838 (by decide) rfl (fun hc => ?_) (fun hc => ?_)
  · rw [if_pos hc] at hf
    refine sp_iload (i := 5) (q := 1845) hX dL_law_1843 rfl rfl ?_
    refine sp_if_ne (tgt := 1860) (q := 1848) hX dL_law_1845 (by decide) rfl (fun hc => ?_) (fun hc => ?_)
    · rw [if_neg hc] at hf
      refine sp_goto (tgt := 2170) hX dL_law_1860 (by decide) ?_
      cases hf
      refine sp_drop (lv' := [some (.ref b), some (.ref (sx_ad X 0)), some (.ref (sx_ad X 69)), some (.ref (sx_ad X 68)), some (.int i), none, none]) (And.intro rfl (And.intro rfl (And.intro rfl (And.intro rfl (And.intro rfl trivial))))) ?_
      refine sp_wid (a := kc + 4) (b := ks + 24) (by omega) (by omega) ?_
      exact hk
    · rw [if_pos hc] at hf
      refine sp_aload_n (i := 3) (q := 1849) hX dL_law_1848 rfl rfl rfl ?_
      refine sp_iconst (v := 0) (q := 1850) hX dL_law_1849 li_0 rfl ?_
      refine sp_lald (q := 1851) hX arL_68 (by decide) dL_law_1850 rfl ?_
      refine sp_nml (x := sp_gl σ2 68 (0 : Int32)) lg_g68.symm ?_
      refine sp_iload (i := 6) (q := 1853) hX dL_law_1851 rfl rfl ?_
      refine sp_i2l (q := 1854) hX dL_law_1853 rfl ?_
      refine sp_lcmp (q := 1855) hX dL_law_1854 rfl ?_
      refine sp_if_eq (tgt := 1860) (q := 1858) hX dL_law_1855 (by decide) rfl (fun hc => ?_) (fun hc => ?_)
      · rw [if_pos hc] at hf
        refine sp_goto (tgt := 2170) hX dL_law_1860 (by decide) ?_
        cases hf
        refine sp_drop (lv' := [some (.ref b), some (.ref (sx_ad X 0)), some (.ref (sx_ad X 69)), some (.ref (sx_ad X 68)), some (.int i), none, none]) (And.intro rfl (And.intro rfl (And.intro rfl (And.intro rfl (And.intro rfl trivial))))) ?_
        refine sp_wid (a := kc + 4) (b := ks + 24) (by omega) (by omega) ?_
        exact hk
      · rw [if_neg hc] at hf
        refine sp_iconst (v := 0) (q := 1859) hX dL_law_1858 li_0 rfl ?_
        cases hf
  · rw [if_neg hc] at hf
    refine sp_iconst (v := 0) (q := 1842) hX dL_law_1841 li_0 rfl ?_
    cases hf
def LK32 (n : Nat) (σ μ : sp_St) (a1 a2 a3 a4 a5 : Int32) : Option (sp_St × sp_St) :=
  sp_bd (L_wrong n σ a1) fun σ2 v3 =>
  sp_bd (X12_wrong n μ a1) fun μ5 v6 =>
  sp_bd (X12_thrown n μ5) fun μ8 v9 =>
  if v9 = v3 then
    if v3 = 0 then
      if (lg_cmp (sp_gl σ2 68 (0 : Int32)) v6.toInt64) = 0 then
        some (σ2, μ8)
      else
        none
    else
      some (σ2, μ8)
  else
    none
set_option maxRecDepth 100000 in
set_option maxHeartbeats 8000000 in
theorem hLK32 {X : sp_X} (hX : sp_OK shL X cL_law RL 7 room_1) {b L : Nat} {xs : Nat → Int32} (hs : lg_scr X b L xs) {n : Nat} {i a1 a2 a3 a4 a5 : Int32} (ha : lg_arg L xs i a1 a2 a3 a4 a5) {σ μ τ υ : sp_St} {kc ks : Nat} (hkc : kc + 4 ≤ 601024) (hks : ks + 24 ≤ 7293034) (hf : LK32 n σ μ a1 a2 a3 a4 a5 = some (τ, υ)) (hk : sp_GG shL X (sp_pair τ υ) 7 [some (.ref b), some (.ref (sx_ad X 0)), some (.ref (sx_ad X 69)), some (.ref (sx_ad X 68)), some (.int i), none, none] [] 2170 (kc + 4) (ks + 24)) : sp_GG shL X (sp_pair σ μ) 7 [some (.ref b), some (.ref (sx_ad X 0)), some (.ref (sx_ad X 69)), some (.ref (sx_ad X 68)), some (.int i), none, none] [] 1863 kc ks := by
  unfold LK32 at hf
  refine sp_aload_n (i := 1) (q := 1864) hX dL_law_1863 rfl rfl rfl ?_
  refine sp_aload_n (i := 0) (q := 1865) hX dL_law_1864 rfl rfl rfl ?_
  refine sp_iload (i := 4) (q := 1867) hX dL_law_1865 rfl rfl ?_
  refine sp_iconst (v := 1) (q := 1868) hX dL_law_1867 li_1 rfl ?_
  refine sp_iadd (q := 1869) hX dL_law_1868 rfl ?_
  refine lg_sld (q := 1870) hX hs ha.1 dL_law_1869 rfl ?_
  refine sp_aload_n (i := 3) (q := 1871) hX dL_law_1870 rfl rfl rfl ?_
  obtain ⟨σ2, v3, h1, hf⟩ := sp_bd_so hf
  refine lg_callWX (As := [.ref (sx_ad X 0), .int a1, .ref (sx_ad X 68)]) (rest := []) (q := 1874) hX (cnL_wrong (sp_st hX) h1) cwwL_219 rfl rfl rfl rfl (Nat.le_of_ble_eq_true rfl) (Nat.le_of_ble_eq_true rfl) (Nat.le_of_ble_eq_true rfl) (by show _ ≤ 601024; omega) (by show _ ≤ 7293034; omega) dL_law_1871 rfl ?_
  refine sp_istore (i := 5) (lv' := [some (.ref b), some (.ref (sx_ad X 0)), some (.ref (sx_ad X 69)), some (.ref (sx_ad X 68)), some (.int i), some (.int v3), none]) (q := 1876) hX dL_law_1874 (Nat.le_of_ble_eq_true rfl) rfl rfl rfl ?_
  refine sp_aload_n (i := 2) (q := 1877) hX dL_law_1876 rfl rfl rfl ?_
  refine sp_aload_n (i := 0) (q := 1878) hX dL_law_1877 rfl rfl rfl ?_
  refine sp_iload (i := 4) (q := 1880) hX dL_law_1878 rfl rfl ?_
  refine sp_iconst (v := 1) (q := 1881) hX dL_law_1880 li_1 rfl ?_
  refine sp_iadd (q := 1882) hX dL_law_1881 rfl ?_
  refine lg_sld (q := 1883) hX hs ha.1 dL_law_1882 rfl ?_
  obtain ⟨μ5, v6, h4, hf⟩ := sp_bd_so hf
  refine lg_callVMi (As := [.int a1]) (rest := []) (q := 1886) hX (cnX12_wrong (sp_st hX) h4) cwL_221 rfl rfl rfl rfl (Nat.le_of_ble_eq_true rfl) (Nat.le_of_ble_eq_true rfl) (Nat.le_of_ble_eq_true rfl) (by show _ ≤ 601024; omega) (by show _ ≤ 7293034; omega) dL_law_1883 rfl ?_
  refine sp_istore (i := 6) (lv' := [some (.ref b), some (.ref (sx_ad X 0)), some (.ref (sx_ad X 69)), some (.ref (sx_ad X 68)), some (.int i), some (.int v3), some (.int v6)]) (q := 1888) hX dL_law_1886 (Nat.le_of_ble_eq_true rfl) rfl rfl rfl ?_
  refine sp_aload_n (i := 2) (q := 1889) hX dL_law_1888 rfl rfl rfl ?_
  obtain ⟨μ8, v9, h7, hf⟩ := sp_bd_so hf
  refine lg_callVMi (As := []) (rest := []) (q := 1892) hX (cnX12_thrown (sp_st hX) h7) cwL_114 rfl rfl rfl rfl (Nat.le_of_ble_eq_true rfl) (Nat.le_of_ble_eq_true rfl) (Nat.le_of_ble_eq_true rfl) (by show _ ≤ 601024; omega) (by show _ ≤ 7293034; omega) dL_law_1889 rfl ?_
  refine sp_iload (i := 5) (q := 1894) hX dL_law_1892 rfl rfl ?_
  refine sp_icmp_eq (tgt := 1899) (q := 1897) hX dL_law_1894 (by decide) rfl (fun hc => ?_) (fun hc => ?_)
  · rw [if_pos hc] at hf
    refine sp_iload (i := 5) (q := 1901) hX dL_law_1899 rfl rfl ?_
    refine sp_if_ne (tgt := 1916) (q := 1904) hX dL_law_1901 (by decide) rfl (fun hc => ?_) (fun hc => ?_)
    · rw [if_neg hc] at hf
      refine sp_goto (tgt := 2170) hX dL_law_1916 (by decide) ?_
      cases hf
      refine sp_drop (lv' := [some (.ref b), some (.ref (sx_ad X 0)), some (.ref (sx_ad X 69)), some (.ref (sx_ad X 68)), some (.int i), none, none]) (And.intro rfl (And.intro rfl (And.intro rfl (And.intro rfl (And.intro rfl trivial))))) ?_
      refine sp_wid (a := kc + 4) (b := ks + 24) (by omega) (by omega) ?_
      exact hk
    · rw [if_pos hc] at hf
      refine sp_aload_n (i := 3) (q := 1905) hX dL_law_1904 rfl rfl rfl ?_
      refine sp_iconst (v := 0) (q := 1906) hX dL_law_1905 li_0 rfl ?_
      refine sp_lald (q := 1907) hX arL_68 (by decide) dL_law_1906 rfl ?_
      refine sp_nml (x := sp_gl σ2 68 (0 : Int32)) lg_g68.symm ?_
      refine sp_iload (i := 6) (q := 1909) hX dL_law_1907 rfl rfl ?_
      refine sp_i2l (q := 1910) hX dL_law_1909 rfl ?_
      refine sp_lcmp (q := 1911) hX dL_law_1910 rfl ?_
      refine sp_if_eq (tgt := 1916) (q := 1914) hX dL_law_1911 (by decide) rfl (fun hc => ?_) (fun hc => ?_)
      · rw [if_pos hc] at hf
        refine sp_goto (tgt := 2170) hX dL_law_1916 (by decide) ?_
        cases hf
        refine sp_drop (lv' := [some (.ref b), some (.ref (sx_ad X 0)), some (.ref (sx_ad X 69)), some (.ref (sx_ad X 68)), some (.int i), none, none]) (And.intro rfl (And.intro rfl (And.intro rfl (And.intro rfl (And.intro rfl trivial))))) ?_
        refine sp_wid (a := kc + 4) (b := ks + 24) (by omega) (by omega) ?_
        exact hk
      · rw [if_neg hc] at hf
        refine sp_iconst (v := 0) (q := 1915) hX dL_law_1914 li_0 rfl ?_
        cases hf
  · rw [if_neg hc] at hf
    refine sp_iconst (v := 0) (q := 1898) hX dL_law_1897 li_0 rfl ?_
    cases hf
def LK33 (n : Nat) (σ μ : sp_St) (a1 a2 a3 a4 a5 : Int32) : Option (sp_St × sp_St) :=
  sp_bd (L_look n σ a1) fun σ2 v3 =>
  sp_bd (X12_look n μ a1) fun μ5 v6 =>
  sp_bd (X12_thrown n μ5) fun μ8 v9 =>
  if v9 = v3 then
    if v3 = 0 then
      if (lg_cmp (sp_gl σ2 68 (0 : Int32)) v6.toInt64) = 0 then
        some (σ2, μ8)
      else
        none
    else
      some (σ2, μ8)
  else
    none
set_option maxRecDepth 100000 in
set_option maxHeartbeats 8000000 in
theorem hLK33 {X : sp_X} (hX : sp_OK shL X cL_law RL 7 room_1) {b L : Nat} {xs : Nat → Int32} (hs : lg_scr X b L xs) {n : Nat} {i a1 a2 a3 a4 a5 : Int32} (ha : lg_arg L xs i a1 a2 a3 a4 a5) {σ μ τ υ : sp_St} {kc ks : Nat} (hkc : kc + 4 ≤ 601024) (hks : ks + 24 ≤ 7293034) (hf : LK33 n σ μ a1 a2 a3 a4 a5 = some (τ, υ)) (hk : sp_GG shL X (sp_pair τ υ) 7 [some (.ref b), some (.ref (sx_ad X 0)), some (.ref (sx_ad X 69)), some (.ref (sx_ad X 68)), some (.int i), none, none] [] 2170 (kc + 4) (ks + 24)) : sp_GG shL X (sp_pair σ μ) 7 [some (.ref b), some (.ref (sx_ad X 0)), some (.ref (sx_ad X 69)), some (.ref (sx_ad X 68)), some (.int i), none, none] [] 1919 kc ks := by
  unfold LK33 at hf
  refine sp_aload_n (i := 1) (q := 1920) hX dL_law_1919 rfl rfl rfl ?_
  refine sp_aload_n (i := 0) (q := 1921) hX dL_law_1920 rfl rfl rfl ?_
  refine sp_iload (i := 4) (q := 1923) hX dL_law_1921 rfl rfl ?_
  refine sp_iconst (v := 1) (q := 1924) hX dL_law_1923 li_1 rfl ?_
  refine sp_iadd (q := 1925) hX dL_law_1924 rfl ?_
  refine lg_sld (q := 1926) hX hs ha.1 dL_law_1925 rfl ?_
  refine sp_aload_n (i := 3) (q := 1927) hX dL_law_1926 rfl rfl rfl ?_
  obtain ⟨σ2, v3, h1, hf⟩ := sp_bd_so hf
  refine lg_callWX (As := [.ref (sx_ad X 0), .int a1, .ref (sx_ad X 68)]) (rest := []) (q := 1930) hX (cnL_look (sp_st hX) h1) cwwL_222 rfl rfl rfl rfl (Nat.le_of_ble_eq_true rfl) (Nat.le_of_ble_eq_true rfl) (Nat.le_of_ble_eq_true rfl) (by show _ ≤ 601024; omega) (by show _ ≤ 7293034; omega) dL_law_1927 rfl ?_
  refine sp_istore (i := 5) (lv' := [some (.ref b), some (.ref (sx_ad X 0)), some (.ref (sx_ad X 69)), some (.ref (sx_ad X 68)), some (.int i), some (.int v3), none]) (q := 1932) hX dL_law_1930 (Nat.le_of_ble_eq_true rfl) rfl rfl rfl ?_
  refine sp_aload_n (i := 2) (q := 1933) hX dL_law_1932 rfl rfl rfl ?_
  refine sp_aload_n (i := 0) (q := 1934) hX dL_law_1933 rfl rfl rfl ?_
  refine sp_iload (i := 4) (q := 1936) hX dL_law_1934 rfl rfl ?_
  refine sp_iconst (v := 1) (q := 1937) hX dL_law_1936 li_1 rfl ?_
  refine sp_iadd (q := 1938) hX dL_law_1937 rfl ?_
  refine lg_sld (q := 1939) hX hs ha.1 dL_law_1938 rfl ?_
  obtain ⟨μ5, v6, h4, hf⟩ := sp_bd_so hf
  refine lg_callVMi (As := [.int a1]) (rest := []) (q := 1942) hX (cnX12_look (sp_st hX) h4) cwL_224 rfl rfl rfl rfl (Nat.le_of_ble_eq_true rfl) (Nat.le_of_ble_eq_true rfl) (Nat.le_of_ble_eq_true rfl) (by show _ ≤ 601024; omega) (by show _ ≤ 7293034; omega) dL_law_1939 rfl ?_
  refine sp_istore (i := 6) (lv' := [some (.ref b), some (.ref (sx_ad X 0)), some (.ref (sx_ad X 69)), some (.ref (sx_ad X 68)), some (.int i), some (.int v3), some (.int v6)]) (q := 1944) hX dL_law_1942 (Nat.le_of_ble_eq_true rfl) rfl rfl rfl ?_
  refine sp_aload_n (i := 2) (q := 1945) hX dL_law_1944 rfl rfl rfl ?_
  obtain ⟨μ8, v9, h7, hf⟩ := sp_bd_so hf
  refine lg_callVMi (As := []) (rest := []) (q := 1948) hX (cnX12_thrown (sp_st hX) h7) cwL_114 rfl rfl rfl rfl (Nat.le_of_ble_eq_true rfl) (Nat.le_of_ble_eq_true rfl) (Nat.le_of_ble_eq_true rfl) (by show _ ≤ 601024; omega) (by show _ ≤ 7293034; omega) dL_law_1945 rfl ?_
  refine sp_iload (i := 5) (q := 1950) hX dL_law_1948 rfl rfl ?_
  refine sp_icmp_eq (tgt := 1955) (q := 1953) hX dL_law_1950 (by decide) rfl (fun hc => ?_) (fun hc => ?_)
  · rw [if_pos hc] at hf
    refine sp_iload (i := 5) (q := 1957) hX dL_law_1955 rfl rfl ?_
    refine sp_if_ne (tgt := 1972) (q := 1960) hX dL_law_1957 (by decide) rfl (fun hc => ?_) (fun hc => ?_)
    · rw [if_neg hc] at hf
      refine sp_goto (tgt := 2170) hX dL_law_1972 (by decide) ?_
      cases hf
      refine sp_drop (lv' := [some (.ref b), some (.ref (sx_ad X 0)), some (.ref (sx_ad X 69)), some (.ref (sx_ad X 68)), some (.int i), none, none]) (And.intro rfl (And.intro rfl (And.intro rfl (And.intro rfl (And.intro rfl trivial))))) ?_
      refine sp_wid (a := kc + 4) (b := ks + 24) (by omega) (by omega) ?_
      exact hk
    · rw [if_pos hc] at hf
      refine sp_aload_n (i := 3) (q := 1961) hX dL_law_1960 rfl rfl rfl ?_
      refine sp_iconst (v := 0) (q := 1962) hX dL_law_1961 li_0 rfl ?_
      refine sp_lald (q := 1963) hX arL_68 (by decide) dL_law_1962 rfl ?_
      refine sp_nml (x := sp_gl σ2 68 (0 : Int32)) lg_g68.symm ?_
      refine sp_iload (i := 6) (q := 1965) hX dL_law_1963 rfl rfl ?_
      refine sp_i2l (q := 1966) hX dL_law_1965 rfl ?_
      refine sp_lcmp (q := 1967) hX dL_law_1966 rfl ?_
      refine sp_if_eq (tgt := 1972) (q := 1970) hX dL_law_1967 (by decide) rfl (fun hc => ?_) (fun hc => ?_)
      · rw [if_pos hc] at hf
        refine sp_goto (tgt := 2170) hX dL_law_1972 (by decide) ?_
        cases hf
        refine sp_drop (lv' := [some (.ref b), some (.ref (sx_ad X 0)), some (.ref (sx_ad X 69)), some (.ref (sx_ad X 68)), some (.int i), none, none]) (And.intro rfl (And.intro rfl (And.intro rfl (And.intro rfl (And.intro rfl trivial))))) ?_
        refine sp_wid (a := kc + 4) (b := ks + 24) (by omega) (by omega) ?_
        exact hk
      · rw [if_neg hc] at hf
        refine sp_iconst (v := 0) (q := 1971) hX dL_law_1970 li_0 rfl ?_
        cases hf
  · rw [if_neg hc] at hf
    refine sp_iconst (v := 0) (q := 1954) hX dL_law_1953 li_0 rfl ?_
    cases hf
def LK34 (n : Nat) (σ μ : sp_St) (a1 a2 a3 a4 a5 : Int32) : Option (sp_St × sp_St) :=
  sp_bv (X11_forget n σ) fun σ2 =>
  sp_bv (X12_forget n μ) fun μ4 =>
  some (σ2, μ4)
set_option maxRecDepth 100000 in
set_option maxHeartbeats 8000000 in
theorem hLK34 {X : sp_X} (hX : sp_OK shL X cL_law RL 7 room_1) {b L : Nat} {xs : Nat → Int32} (hs : lg_scr X b L xs) {n : Nat} {i a1 a2 a3 a4 a5 : Int32} (ha : lg_arg L xs i a1 a2 a3 a4 a5) {σ μ τ υ : sp_St} {kc ks : Nat} (hkc : kc + 4 ≤ 601024) (hks : ks + 24 ≤ 7293034) (hf : LK34 n σ μ a1 a2 a3 a4 a5 = some (τ, υ)) (hk : sp_GG shL X (sp_pair τ υ) 7 [some (.ref b), some (.ref (sx_ad X 0)), some (.ref (sx_ad X 69)), some (.ref (sx_ad X 68)), some (.int i), none, none] [] 2170 (kc + 4) (ks + 24)) : sp_GG shL X (sp_pair σ μ) 7 [some (.ref b), some (.ref (sx_ad X 0)), some (.ref (sx_ad X 69)), some (.ref (sx_ad X 68)), some (.int i), none, none] [] 1975 kc ks := by
  unfold LK34 at hf
  refine sp_aload_n (i := 1) (q := 1976) hX dL_law_1975 rfl rfl rfl ?_
  obtain ⟨σ2, h1, hf⟩ := sp_bv_so hf
  refine lg_callVXv (As := []) (rest := []) (q := 1979) hX (cnX11_forget (sp_st hX) h1) cwL_225 rfl rfl rfl rfl (Nat.le_of_ble_eq_true rfl) (Nat.le_of_ble_eq_true rfl) (Nat.le_of_ble_eq_true rfl) (by show _ ≤ 601024; omega) (by show _ ≤ 7293034; omega) dL_law_1976 rfl ?_
  refine sp_aload_n (i := 2) (q := 1980) hX dL_law_1979 rfl rfl rfl ?_
  obtain ⟨μ4, h3, hf⟩ := sp_bv_so hf
  refine lg_callVMv (As := []) (rest := []) (q := 1983) hX (cnX12_forget (sp_st hX) h3) cwL_228 rfl rfl rfl rfl (Nat.le_of_ble_eq_true rfl) (Nat.le_of_ble_eq_true rfl) (Nat.le_of_ble_eq_true rfl) (by show _ ≤ 601024; omega) (by show _ ≤ 7293034; omega) dL_law_1980 rfl ?_
  refine sp_goto (tgt := 2170) hX dL_law_1983 (by decide) ?_
  cases hf
  refine sp_wid (a := kc + 4) (b := ks + 24) (by omega) (by omega) ?_
  exact hk
def LK35 (n : Nat) (σ μ : sp_St) (a1 a2 a3 a4 a5 : Int32) : Option (sp_St × sp_St) :=
  sp_bd (L_game n σ a1 a2 a3) fun σ2 v3 =>
  sp_bd (X12_game n μ a1 a2 a3) fun μ5 v6 =>
  sp_bd (X12_thrown n μ5) fun μ8 v9 =>
  if v9 = v3 then
    if v3 = 0 then
      if (lg_cmp (sp_gl σ2 68 (0 : Int32)) v6.toInt64) = 0 then
        some (σ2, μ8)
      else
        none
    else
      some (σ2, μ8)
  else
    none
set_option maxRecDepth 100000 in
set_option maxHeartbeats 8000000 in
theorem hLK35 {X : sp_X} (hX : sp_OK shL X cL_law RL 7 room_1) {b L : Nat} {xs : Nat → Int32} (hs : lg_scr X b L xs) {n : Nat} {i a1 a2 a3 a4 a5 : Int32} (ha : lg_arg L xs i a1 a2 a3 a4 a5) {σ μ τ υ : sp_St} {kc ks : Nat} (hkc : kc + 4 ≤ 601024) (hks : ks + 24 ≤ 7293034) (hf : LK35 n σ μ a1 a2 a3 a4 a5 = some (τ, υ)) (hk : sp_GG shL X (sp_pair τ υ) 7 [some (.ref b), some (.ref (sx_ad X 0)), some (.ref (sx_ad X 69)), some (.ref (sx_ad X 68)), some (.int i), none, none] [] 2170 (kc + 4) (ks + 24)) : sp_GG shL X (sp_pair σ μ) 7 [some (.ref b), some (.ref (sx_ad X 0)), some (.ref (sx_ad X 69)), some (.ref (sx_ad X 68)), some (.int i), none, none] [] 1986 kc ks := by
  unfold LK35 at hf
  refine sp_aload_n (i := 1) (q := 1987) hX dL_law_1986 rfl rfl rfl ?_
  refine sp_aload_n (i := 0) (q := 1988) hX dL_law_1987 rfl rfl rfl ?_
  refine sp_iload (i := 4) (q := 1990) hX dL_law_1988 rfl rfl ?_
  refine sp_iconst (v := 1) (q := 1991) hX dL_law_1990 li_1 rfl ?_
  refine sp_iadd (q := 1992) hX dL_law_1991 rfl ?_
  refine lg_sld (q := 1993) hX hs ha.1 dL_law_1992 rfl ?_
  refine sp_aload_n (i := 0) (q := 1994) hX dL_law_1993 rfl rfl rfl ?_
  refine sp_iload (i := 4) (q := 1996) hX dL_law_1994 rfl rfl ?_
  refine sp_iconst (v := 2) (q := 1997) hX dL_law_1996 li_2 rfl ?_
  refine sp_iadd (q := 1998) hX dL_law_1997 rfl ?_
  refine lg_sld (q := 1999) hX hs ha.2.1 dL_law_1998 rfl ?_
  refine sp_aload_n (i := 0) (q := 2000) hX dL_law_1999 rfl rfl rfl ?_
  refine sp_iload (i := 4) (q := 2002) hX dL_law_2000 rfl rfl ?_
  refine sp_iconst (v := 3) (q := 2003) hX dL_law_2002 li_3 rfl ?_
  refine sp_iadd (q := 2004) hX dL_law_2003 rfl ?_
  refine lg_sld (q := 2005) hX hs ha.2.2.1 dL_law_2004 rfl ?_
  refine sp_aload_n (i := 3) (q := 2006) hX dL_law_2005 rfl rfl rfl ?_
  obtain ⟨σ2, v3, h1, hf⟩ := sp_bd_so hf
  refine lg_callWX (As := [.ref (sx_ad X 0), .int a1, .int a2, .int a3, .ref (sx_ad X 68)]) (rest := []) (q := 2009) hX (cnL_game (sp_st hX) h1) cwwL_229 rfl rfl rfl rfl (Nat.le_of_ble_eq_true rfl) (Nat.le_of_ble_eq_true rfl) (Nat.le_of_ble_eq_true rfl) (by show _ ≤ 601024; omega) (by show _ ≤ 7293034; omega) dL_law_2006 rfl ?_
  refine sp_istore (i := 5) (lv' := [some (.ref b), some (.ref (sx_ad X 0)), some (.ref (sx_ad X 69)), some (.ref (sx_ad X 68)), some (.int i), some (.int v3), none]) (q := 2011) hX dL_law_2009 (Nat.le_of_ble_eq_true rfl) rfl rfl rfl ?_
  refine sp_aload_n (i := 2) (q := 2012) hX dL_law_2011 rfl rfl rfl ?_
  refine sp_aload_n (i := 0) (q := 2013) hX dL_law_2012 rfl rfl rfl ?_
  refine sp_iload (i := 4) (q := 2015) hX dL_law_2013 rfl rfl ?_
  refine sp_iconst (v := 1) (q := 2016) hX dL_law_2015 li_1 rfl ?_
  refine sp_iadd (q := 2017) hX dL_law_2016 rfl ?_
  refine lg_sld (q := 2018) hX hs ha.1 dL_law_2017 rfl ?_
  refine sp_aload_n (i := 0) (q := 2019) hX dL_law_2018 rfl rfl rfl ?_
  refine sp_iload (i := 4) (q := 2021) hX dL_law_2019 rfl rfl ?_
  refine sp_iconst (v := 2) (q := 2022) hX dL_law_2021 li_2 rfl ?_
  refine sp_iadd (q := 2023) hX dL_law_2022 rfl ?_
  refine lg_sld (q := 2024) hX hs ha.2.1 dL_law_2023 rfl ?_
  refine sp_aload_n (i := 0) (q := 2025) hX dL_law_2024 rfl rfl rfl ?_
  refine sp_iload (i := 4) (q := 2027) hX dL_law_2025 rfl rfl ?_
  refine sp_iconst (v := 3) (q := 2028) hX dL_law_2027 li_3 rfl ?_
  refine sp_iadd (q := 2029) hX dL_law_2028 rfl ?_
  refine lg_sld (q := 2030) hX hs ha.2.2.1 dL_law_2029 rfl ?_
  obtain ⟨μ5, v6, h4, hf⟩ := sp_bd_so hf
  refine lg_callVMi (As := [.int a1, .int a2, .int a3]) (rest := []) (q := 2033) hX (cnX12_game (sp_st hX) h4) cwL_231 rfl rfl rfl rfl (Nat.le_of_ble_eq_true rfl) (Nat.le_of_ble_eq_true rfl) (Nat.le_of_ble_eq_true rfl) (by show _ ≤ 601024; omega) (by show _ ≤ 7293034; omega) dL_law_2030 rfl ?_
  refine sp_istore (i := 6) (lv' := [some (.ref b), some (.ref (sx_ad X 0)), some (.ref (sx_ad X 69)), some (.ref (sx_ad X 68)), some (.int i), some (.int v3), some (.int v6)]) (q := 2035) hX dL_law_2033 (Nat.le_of_ble_eq_true rfl) rfl rfl rfl ?_
  refine sp_aload_n (i := 2) (q := 2036) hX dL_law_2035 rfl rfl rfl ?_
  obtain ⟨μ8, v9, h7, hf⟩ := sp_bd_so hf
  refine lg_callVMi (As := []) (rest := []) (q := 2039) hX (cnX12_thrown (sp_st hX) h7) cwL_114 rfl rfl rfl rfl (Nat.le_of_ble_eq_true rfl) (Nat.le_of_ble_eq_true rfl) (Nat.le_of_ble_eq_true rfl) (by show _ ≤ 601024; omega) (by show _ ≤ 7293034; omega) dL_law_2036 rfl ?_
  refine sp_iload (i := 5) (q := 2041) hX dL_law_2039 rfl rfl ?_
  refine sp_icmp_eq (tgt := 2046) (q := 2044) hX dL_law_2041 (by decide) rfl (fun hc => ?_) (fun hc => ?_)
  · rw [if_pos hc] at hf
    refine sp_iload (i := 5) (q := 2048) hX dL_law_2046 rfl rfl ?_
    refine sp_if_ne (tgt := 2063) (q := 2051) hX dL_law_2048 (by decide) rfl (fun hc => ?_) (fun hc => ?_)
    · rw [if_neg hc] at hf
      refine sp_goto (tgt := 2170) hX dL_law_2063 (by decide) ?_
      cases hf
      refine sp_drop (lv' := [some (.ref b), some (.ref (sx_ad X 0)), some (.ref (sx_ad X 69)), some (.ref (sx_ad X 68)), some (.int i), none, none]) (And.intro rfl (And.intro rfl (And.intro rfl (And.intro rfl (And.intro rfl trivial))))) ?_
      refine sp_wid (a := kc + 4) (b := ks + 24) (by omega) (by omega) ?_
      exact hk
    · rw [if_pos hc] at hf
      refine sp_aload_n (i := 3) (q := 2052) hX dL_law_2051 rfl rfl rfl ?_
      refine sp_iconst (v := 0) (q := 2053) hX dL_law_2052 li_0 rfl ?_
      refine sp_lald (q := 2054) hX arL_68 (by decide) dL_law_2053 rfl ?_
      refine sp_nml (x := sp_gl σ2 68 (0 : Int32)) lg_g68.symm ?_
      refine sp_iload (i := 6) (q := 2056) hX dL_law_2054 rfl rfl ?_
      refine sp_i2l (q := 2057) hX dL_law_2056 rfl ?_
      refine sp_lcmp (q := 2058) hX dL_law_2057 rfl ?_
      refine sp_if_eq (tgt := 2063) (q := 2061) hX dL_law_2058 (by decide) rfl (fun hc => ?_) (fun hc => ?_)
      · rw [if_pos hc] at hf
        refine sp_goto (tgt := 2170) hX dL_law_2063 (by decide) ?_
        cases hf
        refine sp_drop (lv' := [some (.ref b), some (.ref (sx_ad X 0)), some (.ref (sx_ad X 69)), some (.ref (sx_ad X 68)), some (.int i), none, none]) (And.intro rfl (And.intro rfl (And.intro rfl (And.intro rfl (And.intro rfl trivial))))) ?_
        refine sp_wid (a := kc + 4) (b := ks + 24) (by omega) (by omega) ?_
        exact hk
      · rw [if_neg hc] at hf
        refine sp_iconst (v := 0) (q := 2062) hX dL_law_2061 li_0 rfl ?_
        cases hf
  · rw [if_neg hc] at hf
    refine sp_iconst (v := 0) (q := 2045) hX dL_law_2044 li_0 rfl ?_
    cases hf
def LK36 (n : Nat) (σ μ : sp_St) (a1 a2 a3 a4 a5 : Int32) : Option (sp_St × sp_St) :=
  sp_bd (L_summer n σ a1 a2 a3) fun σ2 v3 =>
  sp_bd (X12_summer n μ a1 a2 a3) fun μ5 v6 =>
  sp_bd (X12_thrown n μ5) fun μ8 v9 =>
  if v9 = v3 then
    if v3 = 0 then
      if (lg_cmp (sp_gl σ2 68 (0 : Int32)) v6.toInt64) = 0 then
        some (σ2, μ8)
      else
        none
    else
      some (σ2, μ8)
  else
    none
set_option maxRecDepth 100000 in
set_option maxHeartbeats 8000000 in
theorem hLK36 {X : sp_X} (hX : sp_OK shL X cL_law RL 7 room_1) {b L : Nat} {xs : Nat → Int32} (hs : lg_scr X b L xs) {n : Nat} {i a1 a2 a3 a4 a5 : Int32} (ha : lg_arg L xs i a1 a2 a3 a4 a5) {σ μ τ υ : sp_St} {kc ks : Nat} (hkc : kc + 4 ≤ 601024) (hks : ks + 24 ≤ 7293034) (hf : LK36 n σ μ a1 a2 a3 a4 a5 = some (τ, υ)) (hk : sp_GG shL X (sp_pair τ υ) 7 [some (.ref b), some (.ref (sx_ad X 0)), some (.ref (sx_ad X 69)), some (.ref (sx_ad X 68)), some (.int i), none, none] [] 2170 (kc + 4) (ks + 24)) : sp_GG shL X (sp_pair σ μ) 7 [some (.ref b), some (.ref (sx_ad X 0)), some (.ref (sx_ad X 69)), some (.ref (sx_ad X 68)), some (.int i), none, none] [] 2066 kc ks := by
  unfold LK36 at hf
  refine sp_aload_n (i := 1) (q := 2067) hX dL_law_2066 rfl rfl rfl ?_
  refine sp_aload_n (i := 0) (q := 2068) hX dL_law_2067 rfl rfl rfl ?_
  refine sp_iload (i := 4) (q := 2070) hX dL_law_2068 rfl rfl ?_
  refine sp_iconst (v := 1) (q := 2071) hX dL_law_2070 li_1 rfl ?_
  refine sp_iadd (q := 2072) hX dL_law_2071 rfl ?_
  refine lg_sld (q := 2073) hX hs ha.1 dL_law_2072 rfl ?_
  refine sp_aload_n (i := 0) (q := 2074) hX dL_law_2073 rfl rfl rfl ?_
  refine sp_iload (i := 4) (q := 2076) hX dL_law_2074 rfl rfl ?_
  refine sp_iconst (v := 2) (q := 2077) hX dL_law_2076 li_2 rfl ?_
  refine sp_iadd (q := 2078) hX dL_law_2077 rfl ?_
  refine lg_sld (q := 2079) hX hs ha.2.1 dL_law_2078 rfl ?_
  refine sp_aload_n (i := 0) (q := 2080) hX dL_law_2079 rfl rfl rfl ?_
  refine sp_iload (i := 4) (q := 2082) hX dL_law_2080 rfl rfl ?_
  refine sp_iconst (v := 3) (q := 2083) hX dL_law_2082 li_3 rfl ?_
  refine sp_iadd (q := 2084) hX dL_law_2083 rfl ?_
  refine lg_sld (q := 2085) hX hs ha.2.2.1 dL_law_2084 rfl ?_
  refine sp_aload_n (i := 3) (q := 2086) hX dL_law_2085 rfl rfl rfl ?_
  obtain ⟨σ2, v3, h1, hf⟩ := sp_bd_so hf
  refine lg_callWX (As := [.ref (sx_ad X 0), .int a1, .int a2, .int a3, .ref (sx_ad X 68)]) (rest := []) (q := 2089) hX (cnL_summer (sp_st hX) h1) cwwL_232 rfl rfl rfl rfl (Nat.le_of_ble_eq_true rfl) (Nat.le_of_ble_eq_true rfl) (Nat.le_of_ble_eq_true rfl) (by show _ ≤ 601024; omega) (by show _ ≤ 7293034; omega) dL_law_2086 rfl ?_
  refine sp_istore (i := 5) (lv' := [some (.ref b), some (.ref (sx_ad X 0)), some (.ref (sx_ad X 69)), some (.ref (sx_ad X 68)), some (.int i), some (.int v3), none]) (q := 2091) hX dL_law_2089 (Nat.le_of_ble_eq_true rfl) rfl rfl rfl ?_
  refine sp_aload_n (i := 2) (q := 2092) hX dL_law_2091 rfl rfl rfl ?_
  refine sp_aload_n (i := 0) (q := 2093) hX dL_law_2092 rfl rfl rfl ?_
  refine sp_iload (i := 4) (q := 2095) hX dL_law_2093 rfl rfl ?_
  refine sp_iconst (v := 1) (q := 2096) hX dL_law_2095 li_1 rfl ?_
  refine sp_iadd (q := 2097) hX dL_law_2096 rfl ?_
  refine lg_sld (q := 2098) hX hs ha.1 dL_law_2097 rfl ?_
  refine sp_aload_n (i := 0) (q := 2099) hX dL_law_2098 rfl rfl rfl ?_
  refine sp_iload (i := 4) (q := 2101) hX dL_law_2099 rfl rfl ?_
  refine sp_iconst (v := 2) (q := 2102) hX dL_law_2101 li_2 rfl ?_
  refine sp_iadd (q := 2103) hX dL_law_2102 rfl ?_
  refine lg_sld (q := 2104) hX hs ha.2.1 dL_law_2103 rfl ?_
  refine sp_aload_n (i := 0) (q := 2105) hX dL_law_2104 rfl rfl rfl ?_
  refine sp_iload (i := 4) (q := 2107) hX dL_law_2105 rfl rfl ?_
  refine sp_iconst (v := 3) (q := 2108) hX dL_law_2107 li_3 rfl ?_
  refine sp_iadd (q := 2109) hX dL_law_2108 rfl ?_
  refine lg_sld (q := 2110) hX hs ha.2.2.1 dL_law_2109 rfl ?_
  obtain ⟨μ5, v6, h4, hf⟩ := sp_bd_so hf
  refine lg_callVMi (As := [.int a1, .int a2, .int a3]) (rest := []) (q := 2113) hX (cnX12_summer (sp_st hX) h4) cwL_234 rfl rfl rfl rfl (Nat.le_of_ble_eq_true rfl) (Nat.le_of_ble_eq_true rfl) (Nat.le_of_ble_eq_true rfl) (by show _ ≤ 601024; omega) (by show _ ≤ 7293034; omega) dL_law_2110 rfl ?_
  refine sp_istore (i := 6) (lv' := [some (.ref b), some (.ref (sx_ad X 0)), some (.ref (sx_ad X 69)), some (.ref (sx_ad X 68)), some (.int i), some (.int v3), some (.int v6)]) (q := 2115) hX dL_law_2113 (Nat.le_of_ble_eq_true rfl) rfl rfl rfl ?_
  refine sp_aload_n (i := 2) (q := 2116) hX dL_law_2115 rfl rfl rfl ?_
  obtain ⟨μ8, v9, h7, hf⟩ := sp_bd_so hf
  refine lg_callVMi (As := []) (rest := []) (q := 2119) hX (cnX12_thrown (sp_st hX) h7) cwL_114 rfl rfl rfl rfl (Nat.le_of_ble_eq_true rfl) (Nat.le_of_ble_eq_true rfl) (Nat.le_of_ble_eq_true rfl) (by show _ ≤ 601024; omega) (by show _ ≤ 7293034; omega) dL_law_2116 rfl ?_
  refine sp_iload (i := 5) (q := 2121) hX dL_law_2119 rfl rfl ?_
  refine sp_icmp_eq (tgt := 2126) (q := 2124) hX dL_law_2121 (by decide) rfl (fun hc => ?_) (fun hc => ?_)
  · rw [if_pos hc] at hf
    refine sp_iload (i := 5) (q := 2128) hX dL_law_2126 rfl rfl ?_
    refine sp_if_ne (tgt := 2143) (q := 2131) hX dL_law_2128 (by decide) rfl (fun hc => ?_) (fun hc => ?_)
    · rw [if_neg hc] at hf
      refine sp_goto (tgt := 2170) hX dL_law_2143 (by decide) ?_
      cases hf
      refine sp_drop (lv' := [some (.ref b), some (.ref (sx_ad X 0)), some (.ref (sx_ad X 69)), some (.ref (sx_ad X 68)), some (.int i), none, none]) (And.intro rfl (And.intro rfl (And.intro rfl (And.intro rfl (And.intro rfl trivial))))) ?_
      refine sp_wid (a := kc + 4) (b := ks + 24) (by omega) (by omega) ?_
      exact hk
    · rw [if_pos hc] at hf
      refine sp_aload_n (i := 3) (q := 2132) hX dL_law_2131 rfl rfl rfl ?_
      refine sp_iconst (v := 0) (q := 2133) hX dL_law_2132 li_0 rfl ?_
      refine sp_lald (q := 2134) hX arL_68 (by decide) dL_law_2133 rfl ?_
      refine sp_nml (x := sp_gl σ2 68 (0 : Int32)) lg_g68.symm ?_
      refine sp_iload (i := 6) (q := 2136) hX dL_law_2134 rfl rfl ?_
      refine sp_i2l (q := 2137) hX dL_law_2136 rfl ?_
      refine sp_lcmp (q := 2138) hX dL_law_2137 rfl ?_
      refine sp_if_eq (tgt := 2143) (q := 2141) hX dL_law_2138 (by decide) rfl (fun hc => ?_) (fun hc => ?_)
      · rw [if_pos hc] at hf
        refine sp_goto (tgt := 2170) hX dL_law_2143 (by decide) ?_
        cases hf
        refine sp_drop (lv' := [some (.ref b), some (.ref (sx_ad X 0)), some (.ref (sx_ad X 69)), some (.ref (sx_ad X 68)), some (.int i), none, none]) (And.intro rfl (And.intro rfl (And.intro rfl (And.intro rfl (And.intro rfl trivial))))) ?_
        refine sp_wid (a := kc + 4) (b := ks + 24) (by omega) (by omega) ?_
        exact hk
      · rw [if_neg hc] at hf
        refine sp_iconst (v := 0) (q := 2142) hX dL_law_2141 li_0 rfl ?_
        cases hf
  · rw [if_neg hc] at hf
    refine sp_iconst (v := 0) (q := 2125) hX dL_law_2124 li_0 rfl ?_
    cases hf
def LK37 (n : Nat) (σ μ : sp_St) (a1 a2 a3 a4 a5 : Int32) : Option (sp_St × sp_St) :=
  sp_bv (X11_image n σ) fun σ2 =>
  sp_bv (X12_image n μ) fun μ4 =>
  some (σ2, μ4)
set_option maxRecDepth 100000 in
set_option maxHeartbeats 8000000 in
theorem hLK37 {X : sp_X} (hX : sp_OK shL X cL_law RL 7 room_1) {b L : Nat} {xs : Nat → Int32} (hs : lg_scr X b L xs) {n : Nat} {i a1 a2 a3 a4 a5 : Int32} (ha : lg_arg L xs i a1 a2 a3 a4 a5) {σ μ τ υ : sp_St} {kc ks : Nat} (hkc : kc + 4 ≤ 601024) (hks : ks + 24 ≤ 7293034) (hf : LK37 n σ μ a1 a2 a3 a4 a5 = some (τ, υ)) (hk : sp_GG shL X (sp_pair τ υ) 7 [some (.ref b), some (.ref (sx_ad X 0)), some (.ref (sx_ad X 69)), some (.ref (sx_ad X 68)), some (.int i), none, none] [] 2170 (kc + 4) (ks + 24)) : sp_GG shL X (sp_pair σ μ) 7 [some (.ref b), some (.ref (sx_ad X 0)), some (.ref (sx_ad X 69)), some (.ref (sx_ad X 68)), some (.int i), none, none] [] 2146 kc ks := by
  unfold LK37 at hf
  refine sp_aload_n (i := 1) (q := 2147) hX dL_law_2146 rfl rfl rfl ?_
  obtain ⟨σ2, h1, hf⟩ := sp_bv_so hf
  refine lg_callVXv (As := []) (rest := []) (q := 2150) hX (cnX11_image (sp_st hX) h1) cwL_235 rfl rfl rfl rfl (Nat.le_of_ble_eq_true rfl) (Nat.le_of_ble_eq_true rfl) (Nat.le_of_ble_eq_true rfl) (by show _ ≤ 601024; omega) (by show _ ≤ 7293034; omega) dL_law_2147 rfl ?_
  refine sp_aload_n (i := 2) (q := 2151) hX dL_law_2150 rfl rfl rfl ?_
  obtain ⟨μ4, h3, hf⟩ := sp_bv_so hf
  refine lg_callVMv (As := []) (rest := []) (q := 2154) hX (cnX12_image (sp_st hX) h3) cwL_238 rfl rfl rfl rfl (Nat.le_of_ble_eq_true rfl) (Nat.le_of_ble_eq_true rfl) (Nat.le_of_ble_eq_true rfl) (by show _ ≤ 601024; omega) (by show _ ≤ 7293034; omega) dL_law_2151 rfl ?_
  refine sp_goto (tgt := 2170) hX dL_law_2154 (by decide) ?_
  cases hf
  refine sp_wid (a := kc + 4) (b := ks + 24) (by omega) (by omega) ?_
  exact hk
def LK38 (n : Nat) (σ μ : sp_St) (a1 a2 a3 a4 a5 : Int32) : Option (sp_St × sp_St) :=
  sp_bd (X11_restore n σ) fun σ2 v3 =>
  sp_bd (X12_restore n μ) fun μ5 v6 =>
  if v3 = v6 then
    some (σ2, μ5)
  else
    none
set_option maxRecDepth 100000 in
set_option maxHeartbeats 8000000 in
theorem hLK38 {X : sp_X} (hX : sp_OK shL X cL_law RL 7 room_1) {b L : Nat} {xs : Nat → Int32} (hs : lg_scr X b L xs) {n : Nat} {i a1 a2 a3 a4 a5 : Int32} (ha : lg_arg L xs i a1 a2 a3 a4 a5) {σ μ τ υ : sp_St} {kc ks : Nat} (hkc : kc + 4 ≤ 601024) (hks : ks + 24 ≤ 7293034) (hf : LK38 n σ μ a1 a2 a3 a4 a5 = some (τ, υ)) (hk : sp_GG shL X (sp_pair τ υ) 7 [some (.ref b), some (.ref (sx_ad X 0)), some (.ref (sx_ad X 69)), some (.ref (sx_ad X 68)), some (.int i), none, none] [] 2170 (kc + 4) (ks + 24)) : sp_GG shL X (sp_pair σ μ) 7 [some (.ref b), some (.ref (sx_ad X 0)), some (.ref (sx_ad X 69)), some (.ref (sx_ad X 68)), some (.int i), none, none] [] 2157 kc ks := by
  unfold LK38 at hf
  refine sp_aload_n (i := 1) (q := 2158) hX dL_law_2157 rfl rfl rfl ?_
  obtain ⟨σ2, v3, h1, hf⟩ := sp_bd_so hf
  refine lg_callVXi (As := []) (rest := []) (q := 2161) hX (cnX11_restore (sp_st hX) h1) cwL_239 rfl rfl rfl rfl (Nat.le_of_ble_eq_true rfl) (Nat.le_of_ble_eq_true rfl) (Nat.le_of_ble_eq_true rfl) (by show _ ≤ 601024; omega) (by show _ ≤ 7293034; omega) dL_law_2158 rfl ?_
  refine sp_aload_n (i := 2) (q := 2162) hX dL_law_2161 rfl rfl rfl ?_
  obtain ⟨μ5, v6, h4, hf⟩ := sp_bd_so hf
  refine lg_callVMi (As := []) (rest := [.int v3]) (q := 2165) hX (cnX12_restore (sp_st hX) h4) cwL_243 rfl rfl rfl rfl (Nat.le_of_ble_eq_true rfl) (Nat.le_of_ble_eq_true rfl) (Nat.le_of_ble_eq_true rfl) (by show _ ≤ 601024; omega) (by show _ ≤ 7293034; omega) dL_law_2162 rfl ?_
  refine sp_icmp_eq (tgt := 2170) (q := 2168) hX dL_law_2165 (by decide) rfl (fun hc => ?_) (fun hc => ?_)
  · rw [if_pos hc] at hf
    cases hf
    refine sp_wid (a := kc + 4) (b := ks + 24) (by omega) (by omega) ?_
    exact hk
  · rw [if_neg hc] at hf
    refine sp_iconst (v := 0) (q := 2169) hX dL_law_2168 li_0 rfl ?_
    cases hf
