theorem ffX0_9 : sp_FF RX0 9 0 0 7 (.array .int) := ⟨RX0, TX0, tyX0, rfl, fwX0, by decide, sp_T_in 363 (by decide +kernel) (by decide +kernel), tyX0_ok, nmX0, rfl, rfl, by decide +kernel⟩
theorem ffX2_9 : sp_FF RX2 9 2 0 18 (.array .int) := ⟨RX2, TX2, tyX2, rfl, fwX2, by decide, sp_T_in 168 (by decide +kernel) (by decide +kernel), tyX2_ok, nmX2, rfl, rfl, by decide +kernel⟩
theorem ffX2_15 : sp_FF RX2 15 2 1 18 (.array .int) := ⟨RX2, TX2, tyX2, rfl, fwX2, by decide, sp_T_in 172 (by decide +kernel) (by decide +kernel), tyX2_ok, nmX2, rfl, rfl, by decide +kernel⟩
theorem ffX2_18 : sp_FF RX2 18 2 2 18 (.array .int) := ⟨RX2, TX2, tyX2, rfl, fwX2, by decide, sp_T_in 177 (by decide +kernel) (by decide +kernel), tyX2_ok, nmX2, rfl, rfl, by decide +kernel⟩
theorem ffX2_21 : sp_FF RX2 21 2 3 18 (.array .int) := ⟨RX2, TX2, tyX2, rfl, fwX2, by decide, sp_T_in 180 (by decide +kernel) (by decide +kernel), tyX2_ok, nmX2, rfl, rfl, by decide +kernel⟩
theorem ffX2_24 : sp_FF RX2 24 2 4 18 (.array .int) := ⟨RX2, TX2, tyX2, rfl, fwX2, by decide, sp_T_in 184 (by decide +kernel) (by decide +kernel), tyX2_ok, nmX2, rfl, rfl, by decide +kernel⟩
theorem ffX2_27 : sp_FF RX2 27 2 5 18 (.array .int) := ⟨RX2, TX2, tyX2, rfl, fwX2, by decide, sp_T_in 187 (by decide +kernel) (by decide +kernel), tyX2_ok, nmX2, rfl, rfl, by decide +kernel⟩
theorem ffX2_30 : sp_FF RX2 30 2 6 18 (.array .int) := ⟨RX2, TX2, tyX2, rfl, fwX2, by decide, sp_T_in 191 (by decide +kernel) (by decide +kernel), tyX2_ok, nmX2, rfl, rfl, by decide +kernel⟩
theorem ffX2_33 : sp_FF RX2 33 2 7 18 (.array .int) := ⟨RX2, TX2, tyX2, rfl, fwX2, by decide, sp_T_in 194 (by decide +kernel) (by decide +kernel), tyX2_ok, nmX2, rfl, rfl, by decide +kernel⟩
theorem ffX9_9 : sp_FF RX9 9 9 0 4 (.array .int) := ⟨RX9, TX9, tyX9, rfl, fwX9, by decide, sp_T_in 332 (by decide +kernel) (by decide +kernel), tyX9_ok, nmX9, rfl, rfl, by decide +kernel⟩
theorem ffX9_15 : sp_FF RX9 15 9 1 4 (.array .int) := ⟨RX9, TX9, tyX9, rfl, fwX9, by decide, sp_T_in 334 (by decide +kernel) (by decide +kernel), tyX9_ok, nmX9, rfl, rfl, by decide +kernel⟩
theorem ffX9_18 : sp_FF RX9 18 9 2 4 (.array .int) := ⟨RX9, TX9, tyX9, rfl, fwX9, by decide, sp_T_in 336 (by decide +kernel) (by decide +kernel), tyX9_ok, nmX9, rfl, rfl, by decide +kernel⟩
theorem ffX10_7 : sp_FF RX10 7 10 0 6 (.array .int) := ⟨RX10, TX10, tyX10, rfl, fwX10, by decide, sp_T_in 277 (by decide +kernel) (by decide +kernel), tyX10_ok, nmX10, rfl, rfl, by decide +kernel⟩
theorem ffX6_11 : sp_FF RX6 11 6 1 2 (.array .int) := ⟨RX6, TX6, tyX6, rfl, fwX6, by decide, sp_T_in 533 (by decide +kernel) (by decide +kernel), tyX6_ok, nmX6, rfl, rfl, by decide +kernel⟩
theorem ffX6_15 : sp_FF RX6 15 6 0 2 (.array .int) := ⟨RX6, TX6, tyX6, rfl, fwX6, by decide, sp_T_in 532 (by decide +kernel) (by decide +kernel), tyX6_ok, nmX6, rfl, rfl, by decide +kernel⟩
theorem ffX7_9 : sp_FF RX7 9 7 0 5 (.object "SwordPeace$Tokens") := ⟨RX7, TX7, tyX7, rfl, fwX7, by decide, sp_T_in 303 (by decide +kernel) (by decide +kernel), tyX7_ok, nmX7, rfl, rfl, by decide +kernel⟩
theorem ffX8_11 : sp_FF RX8 11 8 1 6 (.array .int) := ⟨RX8, TX8, tyX8, rfl, fwX8, by decide, sp_T_in 389 (by decide +kernel) (by decide +kernel), tyX8_ok, nmX8, rfl, rfl, by decide +kernel⟩
theorem ffX8_15 : sp_FF RX8 15 8 2 6 (.array .int) := ⟨RX8, TX8, tyX8, rfl, fwX8, by decide, sp_T_in 395 (by decide +kernel) (by decide +kernel), tyX8_ok, nmX8, rfl, rfl, by decide +kernel⟩
theorem ffX8_18 : sp_FF RX8 18 8 3 6 (.array .int) := ⟨RX8, TX8, tyX8, rfl, fwX8, by decide, sp_T_in 397 (by decide +kernel) (by decide +kernel), tyX8_ok, nmX8, rfl, rfl, by decide +kernel⟩
theorem ffX8_21 : sp_FF RX8 21 8 4 6 (.array .int) := ⟨RX8, TX8, tyX8, rfl, fwX8, by decide, sp_T_in 398 (by decide +kernel) (by decide +kernel), tyX8_ok, nmX8, rfl, rfl, by decide +kernel⟩
theorem ffX8_27 : sp_FF RX8 27 8 5 6 (.object "SwordPeace$Abacus") := ⟨RX8, TX8, tyX8, rfl, fwX8, by decide, sp_T_in 399 (by decide +kernel) (by decide +kernel), tyX8_ok, nmX8, rfl, rfl, by decide +kernel⟩
theorem ffX1_12 : sp_FF RX1 12 1 1 6 (.object "SwordPeace$Sights") := ⟨RX1, TX1, tyX1, rfl, fwX1, by decide, sp_T_in 415 (by decide +kernel) (by decide +kernel), tyX1_ok, nmX1, rfl, rfl, by decide +kernel⟩
theorem ffX1_18 : sp_FF RX1 18 1 2 6 (.array .int) := ⟨RX1, TX1, tyX1, rfl, fwX1, by decide, sp_T_in 417 (by decide +kernel) (by decide +kernel), tyX1_ok, nmX1, rfl, rfl, by decide +kernel⟩
theorem ffX1_24 : sp_FF RX1 24 1 3 6 (.array .int) := ⟨RX1, TX1, tyX1, rfl, fwX1, by decide, sp_T_in 419 (by decide +kernel) (by decide +kernel), tyX1_ok, nmX1, rfl, rfl, by decide +kernel⟩
theorem ffX1_30 : sp_FF RX1 30 1 0 6 (.object "SwordPeace$Scene") := ⟨RX1, TX1, tyX1, rfl, fwX1, by decide, sp_T_in 413 (by decide +kernel) (by decide +kernel), tyX1_ok, nmX1, rfl, rfl, by decide +kernel⟩
theorem ffX3_9 : sp_FF RX3 9 3 3 6 (.array .long) := ⟨RX3, TX3, tyX3, rfl, fwX3, by decide, sp_T_in 507 (by decide +kernel) (by decide +kernel), tyX3_ok, nmX3, rfl, rfl, by decide +kernel⟩
theorem ffX3_15 : sp_FF RX3 15 3 0 6 (.object "SwordPeace$Scene") := ⟨RX3, TX3, tyX3, rfl, fwX3, by decide, sp_T_in 504 (by decide +kernel) (by decide +kernel), tyX3_ok, nmX3, rfl, rfl, by decide +kernel⟩
theorem ffX3_19 : sp_FF RX3 19 3 1 6 (.object "SwordPeace$Sights") := ⟨RX3, TX3, tyX3, rfl, fwX3, by decide, sp_T_in 505 (by decide +kernel) (by decide +kernel), tyX3_ok, nmX3, rfl, rfl, by decide +kernel⟩
theorem ffX3_23 : sp_FF RX3 23 3 2 6 (.object "SwordPeace$Scene") := ⟨RX3, TX3, tyX3, rfl, fwX3, by decide, sp_T_in 506 (by decide +kernel) (by decide +kernel), tyX3_ok, nmX3, rfl, rfl, by decide +kernel⟩
theorem ffX4_9 : sp_FF RX4 9 4 2 9 (.array .int) := ⟨RX4, TX4, tyX4, rfl, fwX4, by decide, sp_T_in 446 (by decide +kernel) (by decide +kernel), tyX4_ok, nmX4, rfl, rfl, by decide +kernel⟩
theorem ffX4_15 : sp_FF RX4 15 4 3 9 (.array .int) := ⟨RX4, TX4, tyX4, rfl, fwX4, by decide, sp_T_in 447 (by decide +kernel) (by decide +kernel), tyX4_ok, nmX4, rfl, rfl, by decide +kernel⟩
theorem ffX4_18 : sp_FF RX4 18 4 0 9 (.object "SwordPeace$Scene") := ⟨RX4, TX4, tyX4, rfl, fwX4, by decide, sp_T_in 444 (by decide +kernel) (by decide +kernel), tyX4_ok, nmX4, rfl, rfl, by decide +kernel⟩
theorem ffX4_22 : sp_FF RX4 22 4 1 9 (.object "SwordPeace$Scene") := ⟨RX4, TX4, tyX4, rfl, fwX4, by decide, sp_T_in 445 (by decide +kernel) (by decide +kernel), tyX4_ok, nmX4, rfl, rfl, by decide +kernel⟩
theorem ffX5_11 : sp_FF RX5 11 5 1 5 (.array .int) := ⟨RX5, TX5, tyX5, rfl, fwX5, by decide, sp_T_in 483 (by decide +kernel) (by decide +kernel), tyX5_ok, nmX5, rfl, rfl, by decide +kernel⟩
theorem ffX5_15 : sp_FF RX5 15 5 2 5 (.array .int) := ⟨RX5, TX5, tyX5, rfl, fwX5, by decide, sp_T_in 484 (by decide +kernel) (by decide +kernel), tyX5_ok, nmX5, rfl, rfl, by decide +kernel⟩
theorem ffX5_18 : sp_FF RX5 18 5 3 5 (.array .int) := ⟨RX5, TX5, tyX5, rfl, fwX5, by decide, sp_T_in 485 (by decide +kernel) (by decide +kernel), tyX5_ok, nmX5, rfl, rfl, by decide +kernel⟩
theorem ffX5_21 : sp_FF RX5 21 5 0 5 (.object "SwordPeace$Scene") := ⟨RX5, TX5, tyX5, rfl, fwX5, by decide, sp_T_in 482 (by decide +kernel) (by decide +kernel), tyX5_ok, nmX5, rfl, rfl, by decide +kernel⟩
theorem ffX11_9 : sp_FF RX11 9 11 0 13 (.array .int) := ⟨RX11, TX11, tyX11, rfl, fwX11, by decide, sp_T_in 539 (by decide +kernel) (by decide +kernel), tyX11_ok, nmX11, rfl, rfl, by decide +kernel⟩
theorem ffX11_37 : sp_FF RX11 37 11 5 13 (.object "SwordPeace$Reader") := ⟨RX11, TX11, tyX11, rfl, fwX11, by decide, sp_T_in 544 (by decide +kernel) (by decide +kernel), tyX11_ok, nmX11, rfl, rfl, by decide +kernel⟩
theorem ffX11_46 : sp_FF RX11 46 11 6 13 (.object "SwordPeace$Chronicle") := ⟨RX11, TX11, tyX11, rfl, fwX11, by decide, sp_T_in 545 (by decide +kernel) (by decide +kernel), tyX11_ok, nmX11, rfl, rfl, by decide +kernel⟩
theorem ffX11_50 : sp_FF RX11 50 11 7 13 (.object "SwordPeace$Chronicle") := ⟨RX11, TX11, tyX11, rfl, fwX11, by decide, sp_T_in 546 (by decide +kernel) (by decide +kernel), tyX11_ok, nmX11, rfl, rfl, by decide +kernel⟩
theorem ffX11_65 : sp_FF RX11 65 11 9 13 (.object "SwordPeace$Forecast") := ⟨RX11, TX11, tyX11, rfl, fwX11, by decide, sp_T_in 548 (by decide +kernel) (by decide +kernel), tyX11_ok, nmX11, rfl, rfl, by decide +kernel⟩
theorem ffX11_74 : sp_FF RX11 74 11 10 13 (.object "SwordPeace$Packing") := ⟨RX11, TX11, tyX11, rfl, fwX11, by decide, sp_T_in 549 (by decide +kernel) (by decide +kernel), tyX11_ok, nmX11, rfl, rfl, by decide +kernel⟩
theorem ffX11_87 : sp_FF RX11 87 11 11 13 (.object "SwordPeace$Doubt") := ⟨RX11, TX11, tyX11, rfl, fwX11, by decide, sp_T_in 550 (by decide +kernel) (by decide +kernel), tyX11_ok, nmX11, rfl, rfl, by decide +kernel⟩
theorem ffX11_97 : sp_FF RX11 97 11 12 13 (.object "SwordPeace$Quarrels") := ⟨RX11, TX11, tyX11, rfl, fwX11, by decide, sp_T_in 551 (by decide +kernel) (by decide +kernel), tyX11_ok, nmX11, rfl, rfl, by decide +kernel⟩
theorem ffX12_23 : sp_FF RX12 23 12 0 64 (.array (.object "java/lang/String")) := ⟨RX12, TX12, tyX12, rfl, fwX12, by decide, sp_T_in 1600 (by decide +kernel) (by decide +kernel), tyX12_ok, nmX12, rfl, rfl, by decide +kernel⟩
theorem ffX12_27 : sp_FF RX12 27 12 1 64 (.array (.object "java/lang/String")) := ⟨RX12, TX12, tyX12, rfl, fwX12, by decide, sp_T_in 1601 (by decide +kernel) (by decide +kernel), tyX12_ok, nmX12, rfl, rfl, by decide +kernel⟩
theorem ffX12_33 : sp_FF RX12 33 12 4 64 (.array .int) := ⟨RX12, TX12, tyX12, rfl, fwX12, by decide, sp_T_in 1604 (by decide +kernel) (by decide +kernel), tyX12_ok, nmX12, rfl, rfl, by decide +kernel⟩
theorem ffX12_37 : sp_FF RX12 37 12 5 64 (.array .int) := ⟨RX12, TX12, tyX12, rfl, fwX12, by decide, sp_T_in 1605 (by decide +kernel) (by decide +kernel), tyX12_ok, nmX12, rfl, rfl, by decide +kernel⟩
theorem ffX12_40 : sp_FF RX12 40 12 6 64 (.array .int) := ⟨RX12, TX12, tyX12, rfl, fwX12, by decide, sp_T_in 1606 (by decide +kernel) (by decide +kernel), tyX12_ok, nmX12, rfl, rfl, by decide +kernel⟩
theorem ffX12_43 : sp_FF RX12 43 12 7 64 (.array .int) := ⟨RX12, TX12, tyX12, rfl, fwX12, by decide, sp_T_in 1607 (by decide +kernel) (by decide +kernel), tyX12_ok, nmX12, rfl, rfl, by decide +kernel⟩
theorem ffX12_46 : sp_FF RX12 46 12 8 64 (.array .int) := ⟨RX12, TX12, tyX12, rfl, fwX12, by decide, sp_T_in 1608 (by decide +kernel) (by decide +kernel), tyX12_ok, nmX12, rfl, rfl, by decide +kernel⟩
theorem ffX12_49 : sp_FF RX12 49 12 9 64 (.array .int) := ⟨RX12, TX12, tyX12, rfl, fwX12, by decide, sp_T_in 1609 (by decide +kernel) (by decide +kernel), tyX12_ok, nmX12, rfl, rfl, by decide +kernel⟩
theorem ffX12_51 : sp_FF RX12 51 12 10 64 (.array .int) := ⟨RX12, TX12, tyX12, rfl, fwX12, by decide, sp_T_in 1610 (by decide +kernel) (by decide +kernel), tyX12_ok, nmX12, rfl, rfl, by decide +kernel⟩
theorem ffX12_54 : sp_FF RX12 54 12 11 64 (.array .int) := ⟨RX12, TX12, tyX12, rfl, fwX12, by decide, sp_T_in 1611 (by decide +kernel) (by decide +kernel), tyX12_ok, nmX12, rfl, rfl, by decide +kernel⟩
theorem ffX12_57 : sp_FF RX12 57 12 12 64 (.array .int) := ⟨RX12, TX12, tyX12, rfl, fwX12, by decide, sp_T_in 1612 (by decide +kernel) (by decide +kernel), tyX12_ok, nmX12, rfl, rfl, by decide +kernel⟩
theorem ffX12_60 : sp_FF RX12 60 12 13 64 (.array .int) := ⟨RX12, TX12, tyX12, rfl, fwX12, by decide, sp_T_in 1613 (by decide +kernel) (by decide +kernel), tyX12_ok, nmX12, rfl, rfl, by decide +kernel⟩
theorem ffX12_63 : sp_FF RX12 63 12 14 64 (.array .int) := ⟨RX12, TX12, tyX12, rfl, fwX12, by decide, sp_T_in 1614 (by decide +kernel) (by decide +kernel), tyX12_ok, nmX12, rfl, rfl, by decide +kernel⟩
theorem ffX12_70 : sp_FF RX12 70 12 26 64 (.array .int) := ⟨RX12, TX12, tyX12, rfl, fwX12, by decide, sp_T_in 1626 (by decide +kernel) (by decide +kernel), tyX12_ok, nmX12, rfl, rfl, by decide +kernel⟩
theorem ffX12_72 : sp_FF RX12 72 12 27 64 (.array .int) := ⟨RX12, TX12, tyX12, rfl, fwX12, by decide, sp_T_in 1627 (by decide +kernel) (by decide +kernel), tyX12_ok, nmX12, rfl, rfl, by decide +kernel⟩
theorem ffX12_75 : sp_FF RX12 75 12 28 64 (.array .int) := ⟨RX12, TX12, tyX12, rfl, fwX12, by decide, sp_T_in 1628 (by decide +kernel) (by decide +kernel), tyX12_ok, nmX12, rfl, rfl, by decide +kernel⟩
theorem ffX12_78 : sp_FF RX12 78 12 29 64 (.array .int) := ⟨RX12, TX12, tyX12, rfl, fwX12, by decide, sp_T_in 1629 (by decide +kernel) (by decide +kernel), tyX12_ok, nmX12, rfl, rfl, by decide +kernel⟩
theorem ffX12_81 : sp_FF RX12 81 12 30 64 (.array .int) := ⟨RX12, TX12, tyX12, rfl, fwX12, by decide, sp_T_in 1630 (by decide +kernel) (by decide +kernel), tyX12_ok, nmX12, rfl, rfl, by decide +kernel⟩
theorem ffX12_84 : sp_FF RX12 84 12 31 64 (.array .int) := ⟨RX12, TX12, tyX12, rfl, fwX12, by decide, sp_T_in 1631 (by decide +kernel) (by decide +kernel), tyX12_ok, nmX12, rfl, rfl, by decide +kernel⟩
theorem ffX12_87 : sp_FF RX12 87 12 32 64 (.array .int) := ⟨RX12, TX12, tyX12, rfl, fwX12, by decide, sp_T_in 1632 (by decide +kernel) (by decide +kernel), tyX12_ok, nmX12, rfl, rfl, by decide +kernel⟩
theorem ffX12_90 : sp_FF RX12 90 12 37 64 (.array .int) := ⟨RX12, TX12, tyX12, rfl, fwX12, by decide, sp_T_in 1637 (by decide +kernel) (by decide +kernel), tyX12_ok, nmX12, rfl, rfl, by decide +kernel⟩
theorem ffX12_93 : sp_FF RX12 93 12 38 64 (.array .int) := ⟨RX12, TX12, tyX12, rfl, fwX12, by decide, sp_T_in 1638 (by decide +kernel) (by decide +kernel), tyX12_ok, nmX12, rfl, rfl, by decide +kernel⟩
theorem ffX12_96 : sp_FF RX12 96 12 39 64 (.array .int) := ⟨RX12, TX12, tyX12, rfl, fwX12, by decide, sp_T_in 1639 (by decide +kernel) (by decide +kernel), tyX12_ok, nmX12, rfl, rfl, by decide +kernel⟩
theorem ffX12_99 : sp_FF RX12 99 12 40 64 (.array .int) := ⟨RX12, TX12, tyX12, rfl, fwX12, by decide, sp_T_in 1640 (by decide +kernel) (by decide +kernel), tyX12_ok, nmX12, rfl, rfl, by decide +kernel⟩
theorem ffX12_102 : sp_FF RX12 102 12 41 64 (.array .int) := ⟨RX12, TX12, tyX12, rfl, fwX12, by decide, sp_T_in 1641 (by decide +kernel) (by decide +kernel), tyX12_ok, nmX12, rfl, rfl, by decide +kernel⟩
theorem ffX12_105 : sp_FF RX12 105 12 42 64 (.array .int) := ⟨RX12, TX12, tyX12, rfl, fwX12, by decide, sp_T_in 1642 (by decide +kernel) (by decide +kernel), tyX12_ok, nmX12, rfl, rfl, by decide +kernel⟩
theorem ffX12_108 : sp_FF RX12 108 12 43 64 (.array .int) := ⟨RX12, TX12, tyX12, rfl, fwX12, by decide, sp_T_in 1643 (by decide +kernel) (by decide +kernel), tyX12_ok, nmX12, rfl, rfl, by decide +kernel⟩
theorem ffX12_112 : sp_FF RX12 112 12 44 64 (.array .boolean) := ⟨RX12, TX12, tyX12, rfl, fwX12, by decide, sp_T_in 1644 (by decide +kernel) (by decide +kernel), tyX12_ok, nmX12, rfl, rfl, by decide +kernel⟩
theorem ffX12_116 : sp_FF RX12 116 12 45 64 (.array .int) := ⟨RX12, TX12, tyX12, rfl, fwX12, by decide, sp_T_in 1645 (by decide +kernel) (by decide +kernel), tyX12_ok, nmX12, rfl, rfl, by decide +kernel⟩
theorem ffX12_119 : sp_FF RX12 119 12 46 64 (.array .int) := ⟨RX12, TX12, tyX12, rfl, fwX12, by decide, sp_T_in 1646 (by decide +kernel) (by decide +kernel), tyX12_ok, nmX12, rfl, rfl, by decide +kernel⟩
theorem ffX12_122 : sp_FF RX12 122 12 47 64 (.array .int) := ⟨RX12, TX12, tyX12, rfl, fwX12, by decide, sp_T_in 1647 (by decide +kernel) (by decide +kernel), tyX12_ok, nmX12, rfl, rfl, by decide +kernel⟩
theorem ffX12_125 : sp_FF RX12 125 12 48 64 (.array .int) := ⟨RX12, TX12, tyX12, rfl, fwX12, by decide, sp_T_in 1648 (by decide +kernel) (by decide +kernel), tyX12_ok, nmX12, rfl, rfl, by decide +kernel⟩
theorem ffX12_128 : sp_FF RX12 128 12 49 64 (.array .int) := ⟨RX12, TX12, tyX12, rfl, fwX12, by decide, sp_T_in 1649 (by decide +kernel) (by decide +kernel), tyX12_ok, nmX12, rfl, rfl, by decide +kernel⟩
theorem ffX12_131 : sp_FF RX12 131 12 50 64 (.array .int) := ⟨RX12, TX12, tyX12, rfl, fwX12, by decide, sp_T_in 1650 (by decide +kernel) (by decide +kernel), tyX12_ok, nmX12, rfl, rfl, by decide +kernel⟩
theorem ffX12_134 : sp_FF RX12 134 12 52 64 (.array .boolean) := ⟨RX12, TX12, tyX12, rfl, fwX12, by decide, sp_T_in 1652 (by decide +kernel) (by decide +kernel), tyX12_ok, nmX12, rfl, rfl, by decide +kernel⟩
theorem ffX12_137 : sp_FF RX12 137 12 53 64 (.array .int) := ⟨RX12, TX12, tyX12, rfl, fwX12, by decide, sp_T_in 1653 (by decide +kernel) (by decide +kernel), tyX12_ok, nmX12, rfl, rfl, by decide +kernel⟩
theorem ffX12_140 : sp_FF RX12 140 12 58 64 (.array .int) := ⟨RX12, TX12, tyX12, rfl, fwX12, by decide, sp_T_in 1658 (by decide +kernel) (by decide +kernel), tyX12_ok, nmX12, rfl, rfl, by decide +kernel⟩
theorem ffX12_143 : sp_FF RX12 143 12 59 64 (.array .int) := ⟨RX12, TX12, tyX12, rfl, fwX12, by decide, sp_T_in 1659 (by decide +kernel) (by decide +kernel), tyX12_ok, nmX12, rfl, rfl, by decide +kernel⟩
theorem ffX12_146 : sp_FF RX12 146 12 60 64 (.array .int) := ⟨RX12, TX12, tyX12, rfl, fwX12, by decide, sp_T_in 1660 (by decide +kernel) (by decide +kernel), tyX12_ok, nmX12, rfl, rfl, by decide +kernel⟩
theorem ffX12_149 : sp_FF RX12 149 12 61 64 (.array .int) := ⟨RX12, TX12, tyX12, rfl, fwX12, by decide, sp_T_in 1661 (by decide +kernel) (by decide +kernel), tyX12_ok, nmX12, rfl, rfl, by decide +kernel⟩
theorem ffX12_152 : sp_FF RX12 152 12 62 64 (.array .int) := ⟨RX12, TX12, tyX12, rfl, fwX12, by decide, sp_T_in 1662 (by decide +kernel) (by decide +kernel), tyX12_ok, nmX12, rfl, rfl, by decide +kernel⟩
theorem ffX12_155 : sp_FF RX12 155 12 63 64 (.array .int) := ⟨RX12, TX12, tyX12, rfl, fwX12, by decide, sp_T_in 1663 (by decide +kernel) (by decide +kernel), tyX12_ok, nmX12, rfl, rfl, by decide +kernel⟩
theorem dfX11 : ∀ j, j < 13 → defaultValue (tyX11 j) = vp_V [.null, .int 0, .int 0, .null, .null, .null, .null, .null, .int 0, .null, .null, .null, .null] j := by decide +kernel
theorem dfX12 : ∀ j, j < 64 → defaultValue (tyX12 j) = vp_V [.null, .null, .null, .int 0, .null, .null, .null, .null, .null, .null, .null, .null, .null, .null, .null, .int 0, .int 0, .int 0, .int 0, .int 0, .int 0, .int 0, .int 0, .int 0, .int 0, .int 0, .null, .null, .null, .null, .null, .null, .null, .int 0, .int 0, .int 0, .int 0, .null, .null, .null, .null, .null, .null, .null, .null, .null, .null, .null, .null, .null, .null, .int 0, .null, .null, .int 0, .int 0, .int 0, .int 0, .null, .null, .null, .null, .null, .null] j := by decide +kernel
theorem dfX0 : ∀ j, j < 7 → defaultValue (tyX0 j) = vp_V [.null, .int 0, .int 0, .int 0, .int 0, .int 0, .int 0] j := by decide +kernel
theorem dfX1 : ∀ j, j < 6 → defaultValue (tyX1 j) = vp_V [.null, .null, .null, .null, .int 0, .int 0] j := by decide +kernel
theorem dfX2 : ∀ j, j < 18 → defaultValue (tyX2 j) = vp_V [.null, .null, .null, .null, .null, .null, .null, .null, .int 0, .int 0, .int 0, .int 0, .int 0, .int 0, .int 0, .int 0, .int 0, .int 0] j := by decide +kernel
theorem dfX3 : ∀ j, j < 6 → defaultValue (tyX3 j) = vp_V [.null, .null, .null, .null, .int 0, .int 0] j := by decide +kernel
theorem dfX4 : ∀ j, j < 9 → defaultValue (tyX4 j) = vp_V [.null, .null, .null, .null, .int 0, .int 0, .int 0, .int 0, .int 0] j := by decide +kernel
theorem dfX5 : ∀ j, j < 5 → defaultValue (tyX5 j) = vp_V [.null, .null, .null, .null, .int 0] j := by decide +kernel
theorem dfX6 : ∀ j, j < 2 → defaultValue (tyX6 j) = vp_V [.null, .null] j := by decide +kernel
theorem dfX7 : ∀ j, j < 5 → defaultValue (tyX7 j) = vp_V [.null, .null, .int 0, .int 0, .int 0] j := by decide +kernel
theorem dfX8 : ∀ j, j < 6 → defaultValue (tyX8 j) = vp_V [.null, .null, .null, .null, .null, .null] j := by decide +kernel
theorem dfX9 : ∀ j, j < 4 → defaultValue (tyX9 j) = vp_V [.null, .null, .null, .int 0] j := by decide +kernel
theorem dfX10 : ∀ j, j < 6 → defaultValue (tyX10 j) = vp_V [.null, .int 0, .int 0, .int 0, .int 0, .int 0] j := by decide +kernel
