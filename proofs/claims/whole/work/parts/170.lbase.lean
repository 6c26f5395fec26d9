-- ===== THE LAW'S LOOP, a call at a time =====
def lg_scr (X : sp_X) (b L : Nat) (xs : Nat → Int32) : Prop := va_X b L xs (sx_s X) (sx_s X).heap ∧ b < (sx_s X).heap.size ∧ ¬ sx_A X b
def lg_arg (L : Nat) (xs : Nat → Int32) (i a1 a2 a3 a4 a5 : Int32) : Prop := (vp_in (i + 1) L ∧ xs (i + 1).toNatClampNeg = a1) ∧ (vp_in (i + 2) L ∧ xs (i + 2).toNatClampNeg = a2) ∧ (vp_in (i + 3) L ∧ xs (i + 3).toNatClampNeg = a3) ∧ (vp_in (i + 4) L ∧ xs (i + 4).toNatClampNeg = a4) ∧ (vp_in (i + 5) L ∧ xs (i + 5).toNatClampNeg = a5)
section LGS
variable {X : sp_X} {ς : sp_St} {nL : Nat} {lv : List (Option Value)} {st : List Value} {pc kc ks : Nat} {cc : ByteArray} {own : String} {rm : Room} {q : Nat} {sh : sp_Sh}
theorem lg_sld (hX : sp_OK sh X cc own nL rm) {b L : Nat} {xs : Nat → Int32} (hs : lg_scr X b L xs) {i v : Int32} (h : vp_in i L ∧ xs i.toNatClampNeg = v) (hd : decode cc pc = .ok (.iaload, 1)) (hq : pc + 1 = q) (k : sp_GG sh X ς nL lv (.int v :: st) q kc ks) : sp_GG sh X ς nL lv (.int i :: .ref b :: st) pc kc ks := by
  subst hq
  obtain ⟨h1, rfl⟩ := h
  exact fun ls H locs hl hP hS => va_sld (sp_ex hX) (sp_co hX) hs.1 hs.2.1 hs.2.2 hS h1 hd (k ls H locs hl hP hS)
theorem lg_sln (hX : sp_OK sh X cc own nL rm) {b L : Nat} {xs : Nat → Int32} (hs : lg_scr X b L xs) (hd : decode cc pc = .ok (.arraylength, 1)) (hq : pc + 1 = q) (k : sp_GG sh X ς nL lv (.int (nI L) :: st) q kc ks) : sp_GG sh X ς nL lv (.ref b :: st) pc kc ks := by
  subst hq
  exact fun ls H locs hl hP hS => va_slen (sp_ex hX) (sp_co hX) hs.1 hs.2.1 hs.2.2 hS hd (k ls H locs hl hP hS)
end LGS
theorem wcw_852 : Cond.codeWith yL_city cL_city 4 (some .int) [(0, 9, 12, 13)] ∈ sp_T := sp_T_in 852 (by decide +kernel) (by decide +kernel)
theorem cwwL_108 : sp_wW RL 108 yL_city cL_city 4 (some .int) [(0, 9, 12, 13)] 3 := ⟨⟨wd_850, wd_851, wd_126, wcw_852⟩, by decide +kernel, by decide +kernel, by decide +kernel⟩
theorem wcw_1183 : Cond.codeWith yL_count cL_count 4 (some .int) [(0, 9, 12, 18)] ∈ sp_T := sp_T_in 1183 (by decide +kernel) (by decide +kernel)
theorem cwwL_122 : sp_wW RL 122 yL_count cL_count 4 (some .int) [(0, 9, 12, 18)] 3 := ⟨⟨wd_1181, wd_1182, wd_126, wcw_1183⟩, by decide +kernel, by decide +kernel, by decide +kernel⟩
theorem wcw_1222 : Cond.codeWith yL_blade cL_blade 5 (some .int) [(0, 10, 13, 18)] ∈ sp_T := sp_T_in 1222 (by decide +kernel) (by decide +kernel)
theorem cwwL_125 : sp_wW RL 125 yL_blade cL_blade 5 (some .int) [(0, 10, 13, 18)] 4 := ⟨⟨wd_1220, wd_1221, wd_126, wcw_1222⟩, by decide +kernel, by decide +kernel, by decide +kernel⟩
theorem wcw_1249 : Cond.codeWith yL_throat cL_throat 5 (some .int) [(0, 10, 13, 18)] ∈ sp_T := sp_T_in 1249 (by decide +kernel) (by decide +kernel)
theorem cwwL_129 : sp_wW RL 129 yL_throat cL_throat 5 (some .int) [(0, 10, 13, 18)] 4 := ⟨⟨wd_1247, wd_1248, wd_126, wcw_1249⟩, by decide +kernel, by decide +kernel, by decide +kernel⟩
theorem wcw_1264 : Cond.codeWith yL_feud cL_feud 5 (some .int) [(0, 17, 20, 18)] ∈ sp_T := sp_T_in 1264 (by decide +kernel) (by decide +kernel)
theorem cwwL_132 : sp_wW RL 132 yL_feud cL_feud 5 (some .int) [(0, 17, 20, 18)] 4 := ⟨⟨wd_1262, wd_1263, wd_126, wcw_1264⟩, by decide +kernel, by decide +kernel, by decide +kernel⟩
theorem wcw_1276 : Cond.codeWith yL_swallow cL_swallow 5 (some .int) [(0, 10, 13, 18)] ∈ sp_T := sp_T_in 1276 (by decide +kernel) (by decide +kernel)
theorem cwwL_139 : sp_wW RL 139 yL_swallow cL_swallow 5 (some .int) [(0, 10, 13, 18)] 4 := ⟨⟨wd_1274, wd_1275, wd_126, wcw_1276⟩, by decide +kernel, by decide +kernel, by decide +kernel⟩
theorem wcw_1293 : Cond.codeWith yL_draw cL_draw 4 (some .int) [(0, 9, 12, 18)] ∈ sp_T := sp_T_in 1293 (by decide +kernel) (by decide +kernel)
theorem cwwL_142 : sp_wW RL 142 yL_draw cL_draw 4 (some .int) [(0, 9, 12, 18)] 3 := ⟨⟨wd_1291, wd_1292, wd_126, wcw_1293⟩, by decide +kernel, by decide +kernel, by decide +kernel⟩
theorem wcw_1301 : Cond.codeWith yL_broth cL_broth 5 (some .int) [(0, 10, 13, 18)] ∈ sp_T := sp_T_in 1301 (by decide +kernel) (by decide +kernel)
theorem cwwL_145 : sp_wW RL 145 yL_broth cL_broth 5 (some .int) [(0, 10, 13, 18)] 4 := ⟨⟨wd_1299, wd_1300, wd_126, wcw_1301⟩, by decide +kernel, by decide +kernel, by decide +kernel⟩
theorem wcw_1309 : Cond.codeWith yL_make cL_make 6 (some .int) [(0, 19, 22, 18)] ∈ sp_T := sp_T_in 1309 (by decide +kernel) (by decide +kernel)
theorem cwwL_148 : sp_wW RL 148 yL_make cL_make 6 (some .int) [(0, 19, 22, 18)] 5 := ⟨⟨wd_1307, wd_1308, wd_126, wcw_1309⟩, by decide +kernel, by decide +kernel, by decide +kernel⟩
theorem wcw_1317 : Cond.codeWith yL_then cL_then 6 (some .int) [(0, 12, 15, 18), (0, 12, 19, 13)] ∈ sp_T := sp_T_in 1317 (by decide +kernel) (by decide +kernel)
theorem cwwL_156 : sp_wW RL 156 yL_then cL_then 6 (some .int) [(0, 12, 15, 18), (0, 12, 19, 13)] 5 := ⟨⟨wd_1315, wd_1316, wd_126, wcw_1317⟩, by decide +kernel, by decide +kernel, by decide +kernel⟩
theorem wcw_1336 : Cond.codeWith yL_fights cL_fights 4 (some .int) [(0, 9, 12, 13)] ∈ sp_T := sp_T_in 1336 (by decide +kernel) (by decide +kernel)
theorem cwwL_164 : sp_wW RL 164 yL_fights cL_fights 4 (some .int) [(0, 9, 12, 13)] 3 := ⟨⟨wd_1334, wd_1335, wd_126, wcw_1336⟩, by decide +kernel, by decide +kernel, by decide +kernel⟩
theorem wcw_1344 : Cond.codeWith yL_rests cL_rests 4 (some .int) [(0, 9, 12, 18)] ∈ sp_T := sp_T_in 1344 (by decide +kernel) (by decide +kernel)
theorem cwwL_167 : sp_wW RL 167 yL_rests cL_rests 4 (some .int) [(0, 9, 12, 18)] 3 := ⟨⟨wd_1342, wd_1343, wd_126, wcw_1344⟩, by decide +kernel, by decide +kernel, by decide +kernel⟩
theorem wcw_1355 : Cond.codeWith yL_worst cL_worst 4 (some .int) [(0, 9, 12, 13)] ∈ sp_T := sp_T_in 1355 (by decide +kernel) (by decide +kernel)
theorem cwwL_170 : sp_wW RL 170 yL_worst cL_worst 4 (some .int) [(0, 9, 12, 13)] 3 := ⟨⟨wd_1353, wd_1354, wd_126, wcw_1355⟩, by decide +kernel, by decide +kernel, by decide +kernel⟩
theorem wcw_1367 : Cond.codeWith yL_takeIn cL_takeIn 4 (some .int) [(0, 9, 12, 18)] ∈ sp_T := sp_T_in 1367 (by decide +kernel) (by decide +kernel)
theorem cwwL_173 : sp_wW RL 173 yL_takeIn cL_takeIn 4 (some .int) [(0, 9, 12, 18)] 3 := ⟨⟨wd_1365, wd_1366, wd_126, wcw_1367⟩, by decide +kernel, by decide +kernel, by decide +kernel⟩
theorem wcw_1399 : Cond.codeWith yL_toDraw cL_toDraw 4 (some .int) [(0, 9, 12, 18)] ∈ sp_T := sp_T_in 1399 (by decide +kernel) (by decide +kernel)
theorem cwwL_180 : sp_wW RL 180 yL_toDraw cL_toDraw 4 (some .int) [(0, 9, 12, 18)] 3 := ⟨⟨wd_1397, wd_1398, wd_126, wcw_1399⟩, by decide +kernel, by decide +kernel, by decide +kernel⟩
theorem wcw_1408 : Cond.codeWith yL_toSwallow cL_toSwallow 4 (some .int) [(0, 9, 12, 18)] ∈ sp_T := sp_T_in 1408 (by decide +kernel) (by decide +kernel)
theorem cwwL_183 : sp_wW RL 183 yL_toSwallow cL_toSwallow 4 (some .int) [(0, 9, 12, 18)] 3 := ⟨⟨wd_1406, wd_1407, wd_126, wcw_1408⟩, by decide +kernel, by decide +kernel, by decide +kernel⟩
theorem wcw_1426 : Cond.codeWith yL_grudge cL_grudge 4 (some .int) [(0, 9, 12, 18)] ∈ sp_T := sp_T_in 1426 (by decide +kernel) (by decide +kernel)
theorem cwwL_194 : sp_wW RL 194 yL_grudge cL_grudge 4 (some .int) [(0, 9, 12, 18)] 3 := ⟨⟨wd_1424, wd_1425, wd_126, wcw_1426⟩, by decide +kernel, by decide +kernel, by decide +kernel⟩
theorem wcw_1433 : Cond.codeWith yL_foes cL_foes 5 (some .int) [(0, 10, 13, 18)] ∈ sp_T := sp_T_in 1433 (by decide +kernel) (by decide +kernel)
theorem cwwL_197 : sp_wW RL 197 yL_foes cL_foes 5 (some .int) [(0, 10, 13, 18)] 4 := ⟨⟨wd_1431, wd_1432, wd_126, wcw_1433⟩, by decide +kernel, by decide +kernel, by decide +kernel⟩
theorem wcw_1440 : Cond.codeWith yL_calm cL_calm 4 (some .int) [(0, 9, 12, 13)] ∈ sp_T := sp_T_in 1440 (by decide +kernel) (by decide +kernel)
theorem cwwL_204 : sp_wW RL 204 yL_calm cL_calm 4 (some .int) [(0, 9, 12, 13)] 3 := ⟨⟨wd_1438, wd_1439, wd_126, wcw_1440⟩, by decide +kernel, by decide +kernel, by decide +kernel⟩
theorem wcw_1447 : Cond.codeWith yL_lacks cL_lacks 4 (some .int) [(0, 9, 12, 18)] ∈ sp_T := sp_T_in 1447 (by decide +kernel) (by decide +kernel)
theorem cwwL_207 : sp_wW RL 207 yL_lacks cL_lacks 4 (some .int) [(0, 9, 12, 18)] 3 := ⟨⟨wd_1445, wd_1446, wd_126, wcw_1447⟩, by decide +kernel, by decide +kernel, by decide +kernel⟩
theorem wcw_1455 : Cond.codeWith yL_above cL_above 4 (some .int) [(0, 9, 12, 18)] ∈ sp_T := sp_T_in 1455 (by decide +kernel) (by decide +kernel)
theorem cwwL_210 : sp_wW RL 210 yL_above cL_above 4 (some .int) [(0, 9, 12, 18)] 3 := ⟨⟨wd_1453, wd_1454, wd_126, wcw_1455⟩, by decide +kernel, by decide +kernel, by decide +kernel⟩
theorem wcw_1462 : Cond.codeWith yL_hiccup cL_hiccup 4 (some .int) [(0, 9, 12, 18)] ∈ sp_T := sp_T_in 1462 (by decide +kernel) (by decide +kernel)
theorem cwwL_213 : sp_wW RL 213 yL_hiccup cL_hiccup 4 (some .int) [(0, 9, 12, 18)] 3 := ⟨⟨wd_1460, wd_1461, wd_126, wcw_1462⟩, by decide +kernel, by decide +kernel, by decide +kernel⟩
theorem wcw_1469 : Cond.codeWith yL_see cL_see 6 (some .int) [(0, 12, 15, 18)] ∈ sp_T := sp_T_in 1469 (by decide +kernel) (by decide +kernel)
theorem cwwL_216 : sp_wW RL 216 yL_see cL_see 6 (some .int) [(0, 12, 15, 18)] 5 := ⟨⟨wd_1467, wd_1468, wd_126, wcw_1469⟩, by decide +kernel, by decide +kernel, by decide +kernel⟩
theorem wcw_1480 : Cond.codeWith yL_wrong cL_wrong 4 (some .int) [(0, 9, 12, 18)] ∈ sp_T := sp_T_in 1480 (by decide +kernel) (by decide +kernel)
theorem cwwL_219 : sp_wW RL 219 yL_wrong cL_wrong 4 (some .int) [(0, 9, 12, 18)] 3 := ⟨⟨wd_1478, wd_1479, wd_126, wcw_1480⟩, by decide +kernel, by decide +kernel, by decide +kernel⟩
theorem wcw_1514 : Cond.codeWith yL_look cL_look 4 (some .int) [(0, 9, 12, 18)] ∈ sp_T := sp_T_in 1514 (by decide +kernel) (by decide +kernel)
theorem cwwL_222 : sp_wW RL 222 yL_look cL_look 4 (some .int) [(0, 9, 12, 18)] 3 := ⟨⟨wd_1512, wd_1513, wd_126, wcw_1514⟩, by decide +kernel, by decide +kernel, by decide +kernel⟩
theorem wcw_1535 : Cond.codeWith yL_game cL_game 6 (some .int) [(0, 12, 15, 18), (0, 12, 19, 13)] ∈ sp_T := sp_T_in 1535 (by decide +kernel) (by decide +kernel)
theorem cwwL_229 : sp_wW RL 229 yL_game cL_game 6 (some .int) [(0, 12, 15, 18), (0, 12, 19, 13)] 5 := ⟨⟨wd_1533, wd_1534, wd_126, wcw_1535⟩, by decide +kernel, by decide +kernel, by decide +kernel⟩
theorem wcw_1557 : Cond.codeWith yL_summer cL_summer 6 (some .int) [(0, 12, 15, 18), (0, 12, 19, 13)] ∈ sp_T := sp_T_in 1557 (by decide +kernel) (by decide +kernel)
theorem cwwL_232 : sp_wW RL 232 yL_summer cL_summer 6 (some .int) [(0, 12, 15, 18), (0, 12, 19, 13)] 5 := ⟨⟨wd_1555, wd_1556, wd_126, wcw_1557⟩, by decide +kernel, by decide +kernel, by decide +kernel⟩
