def LK0 (n : Nat) (σ μ : sp_St) (a1 a2 a3 a4 a5 : Int32) : Option (sp_St × sp_St) :=
  sp_bd (X11_feed n σ a1 a2 a3 a4 a5) fun σ2 v3 =>
  sp_bd (X12_feed n μ a1 a2 a3 a4 a5) fun μ5 v6 =>
  if v3 = v6 then
    some (σ2, μ5)
  else
    none
set_option maxRecDepth 100000 in
set_option maxHeartbeats 8000000 in
theorem hLK0 {X : sp_X} (hX : sp_OK shL X cL_law RL 7 room_1) {b L : Nat} {xs : Nat → Int32} (hs : lg_scr X b L xs) {n : Nat} {i a1 a2 a3 a4 a5 : Int32} (ha : lg_arg L xs i a1 a2 a3 a4 a5) {σ μ τ υ : sp_St} {kc ks : Nat} (hkc : kc + 4 ≤ 601024) (hks : ks + 24 ≤ 7293034) (hf : LK0 n σ μ a1 a2 a3 a4 a5 = some (τ, υ)) (hk : sp_GG shL X (sp_pair τ υ) 7 [some (.ref b), some (.ref (sx_ad X 0)), some (.ref (sx_ad X 69)), some (.ref (sx_ad X 68)), some (.int i), none, none] [] 2170 (kc + 4) (ks + 24)) : sp_GG shL X (sp_pair σ μ) 7 [some (.ref b), some (.ref (sx_ad X 0)), some (.ref (sx_ad X 69)), some (.ref (sx_ad X 68)), some (.int i), none, none] [] 212 kc ks := by
  unfold LK0 at hf
  refine sp_aload_n (i := 1) (q := 213) hX dL_law_212 rfl rfl rfl ?_
  refine sp_aload_n (i := 0) (q := 214) hX dL_law_213 rfl rfl rfl ?_
  refine sp_iload (i := 4) (q := 216) hX dL_law_214 rfl rfl ?_
  refine sp_iconst (v := 1) (q := 217) hX dL_law_216 li_1 rfl ?_
  refine sp_iadd (q := 218) hX dL_law_217 rfl ?_
  refine lg_sld (q := 219) hX hs ha.1 dL_law_218 rfl ?_
  refine sp_aload_n (i := 0) (q := 220) hX dL_law_219 rfl rfl rfl ?_
  refine sp_iload (i := 4) (q := 222) hX dL_law_220 rfl rfl ?_
  refine sp_iconst (v := 2) (q := 223) hX dL_law_222 li_2 rfl ?_
  refine sp_iadd (q := 224) hX dL_law_223 rfl ?_
  refine lg_sld (q := 225) hX hs ha.2.1 dL_law_224 rfl ?_
  refine sp_aload_n (i := 0) (q := 226) hX dL_law_225 rfl rfl rfl ?_
  refine sp_iload (i := 4) (q := 228) hX dL_law_226 rfl rfl ?_
  refine sp_iconst (v := 3) (q := 229) hX dL_law_228 li_3 rfl ?_
  refine sp_iadd (q := 230) hX dL_law_229 rfl ?_
  refine lg_sld (q := 231) hX hs ha.2.2.1 dL_law_230 rfl ?_
  refine sp_aload_n (i := 0) (q := 232) hX dL_law_231 rfl rfl rfl ?_
  refine sp_iload (i := 4) (q := 234) hX dL_law_232 rfl rfl ?_
  refine sp_iconst (v := 4) (q := 235) hX dL_law_234 li_4 rfl ?_
  refine sp_iadd (q := 236) hX dL_law_235 rfl ?_
  refine lg_sld (q := 237) hX hs ha.2.2.2.1 dL_law_236 rfl ?_
  refine sp_aload_n (i := 0) (q := 238) hX dL_law_237 rfl rfl rfl ?_
  refine sp_iload (i := 4) (q := 240) hX dL_law_238 rfl rfl ?_
  refine sp_iconst (v := 5) (q := 241) hX dL_law_240 li_5 rfl ?_
  refine sp_iadd (q := 242) hX dL_law_241 rfl ?_
  refine lg_sld (q := 243) hX hs ha.2.2.2.2 dL_law_242 rfl ?_
  obtain ⟨σ2, v3, h1, hf⟩ := sp_bd_so hf
  refine lg_callVXi (As := [.int a1, .int a2, .int a3, .int a4, .int a5]) (rest := []) (q := 246) hX (cnX11_feed (sp_st hX) h1) cwL_103 rfl rfl rfl rfl (Nat.le_of_ble_eq_true rfl) (Nat.le_of_ble_eq_true rfl) (Nat.le_of_ble_eq_true rfl) (by show _ ≤ 601024; omega) (by show _ ≤ 7293034; omega) dL_law_243 rfl ?_
  refine sp_aload_n (i := 2) (q := 247) hX dL_law_246 rfl rfl rfl ?_
  refine sp_aload_n (i := 0) (q := 248) hX dL_law_247 rfl rfl rfl ?_
  refine sp_iload (i := 4) (q := 250) hX dL_law_248 rfl rfl ?_
  refine sp_iconst (v := 1) (q := 251) hX dL_law_250 li_1 rfl ?_
  refine sp_iadd (q := 252) hX dL_law_251 rfl ?_
  refine lg_sld (q := 253) hX hs ha.1 dL_law_252 rfl ?_
  refine sp_aload_n (i := 0) (q := 254) hX dL_law_253 rfl rfl rfl ?_
  refine sp_iload (i := 4) (q := 256) hX dL_law_254 rfl rfl ?_
  refine sp_iconst (v := 2) (q := 257) hX dL_law_256 li_2 rfl ?_
  refine sp_iadd (q := 258) hX dL_law_257 rfl ?_
  refine lg_sld (q := 259) hX hs ha.2.1 dL_law_258 rfl ?_
  refine sp_aload_n (i := 0) (q := 260) hX dL_law_259 rfl rfl rfl ?_
  refine sp_iload (i := 4) (q := 262) hX dL_law_260 rfl rfl ?_
  refine sp_iconst (v := 3) (q := 263) hX dL_law_262 li_3 rfl ?_
  refine sp_iadd (q := 264) hX dL_law_263 rfl ?_
  refine lg_sld (q := 265) hX hs ha.2.2.1 dL_law_264 rfl ?_
  refine sp_aload_n (i := 0) (q := 266) hX dL_law_265 rfl rfl rfl ?_
  refine sp_iload (i := 4) (q := 268) hX dL_law_266 rfl rfl ?_
  refine sp_iconst (v := 4) (q := 269) hX dL_law_268 li_4 rfl ?_
  refine sp_iadd (q := 270) hX dL_law_269 rfl ?_
  refine lg_sld (q := 271) hX hs ha.2.2.2.1 dL_law_270 rfl ?_
  refine sp_aload_n (i := 0) (q := 272) hX dL_law_271 rfl rfl rfl ?_
  refine sp_iload (i := 4) (q := 274) hX dL_law_272 rfl rfl ?_
  refine sp_iconst (v := 5) (q := 275) hX dL_law_274 li_5 rfl ?_
  refine sp_iadd (q := 276) hX dL_law_275 rfl ?_
  refine lg_sld (q := 277) hX hs ha.2.2.2.2 dL_law_276 rfl ?_
  obtain ⟨μ5, v6, h4, hf⟩ := sp_bd_so hf
  refine lg_callVMi (As := [.int a1, .int a2, .int a3, .int a4, .int a5]) (rest := [.int v3]) (q := 280) hX (cnX12_feed (sp_st hX) h4) cwL_107 rfl rfl rfl rfl (Nat.le_of_ble_eq_true rfl) (Nat.le_of_ble_eq_true rfl) (Nat.le_of_ble_eq_true rfl) (by show _ ≤ 601024; omega) (by show _ ≤ 7293034; omega) dL_law_277 rfl ?_
  refine sp_icmp_eq (tgt := 2170) (q := 283) hX dL_law_280 (by decide) rfl (fun hc => ?_) (fun hc => ?_)
  · rw [if_pos hc] at hf
    cases hf
    refine sp_wid (a := kc + 4) (b := ks + 24) (by omega) (by omega) ?_
    exact hk
  · rw [if_neg hc] at hf
    refine sp_iconst (v := 0) (q := 284) hX dL_law_283 li_0 rfl ?_
    cases hf
def LK1 (n : Nat) (σ μ : sp_St) (a1 a2 a3 a4 a5 : Int32) : Option (sp_St × sp_St) :=
  sp_bd (L_city n σ a1) fun σ2 v3 =>
  sp_bd (X12_city n μ a1) fun μ5 v6 =>
  sp_bd (X12_thrown n μ5) fun μ8 v9 =>
  if v9 = v3 then
    if v3 = 0 then
      if (lg_cmp (sp_gl σ2 68 (0 : Int32)) v6.toInt64) = 0 then
        some (σ2, μ8)
      else
        none
    else
      some (σ2, μ8)
  else
    none
set_option maxRecDepth 100000 in
set_option maxHeartbeats 8000000 in
theorem hLK1 {X : sp_X} (hX : sp_OK shL X cL_law RL 7 room_1) {b L : Nat} {xs : Nat → Int32} (hs : lg_scr X b L xs) {n : Nat} {i a1 a2 a3 a4 a5 : Int32} (ha : lg_arg L xs i a1 a2 a3 a4 a5) {σ μ τ υ : sp_St} {kc ks : Nat} (hkc : kc + 4 ≤ 601024) (hks : ks + 24 ≤ 7293034) (hf : LK1 n σ μ a1 a2 a3 a4 a5 = some (τ, υ)) (hk : sp_GG shL X (sp_pair τ υ) 7 [some (.ref b), some (.ref (sx_ad X 0)), some (.ref (sx_ad X 69)), some (.ref (sx_ad X 68)), some (.int i), none, none] [] 2170 (kc + 4) (ks + 24)) : sp_GG shL X (sp_pair σ μ) 7 [some (.ref b), some (.ref (sx_ad X 0)), some (.ref (sx_ad X 69)), some (.ref (sx_ad X 68)), some (.int i), none, none] [] 285 kc ks := by
  unfold LK1 at hf
  refine sp_aload_n (i := 1) (q := 286) hX dL_law_285 rfl rfl rfl ?_
  refine sp_aload_n (i := 0) (q := 287) hX dL_law_286 rfl rfl rfl ?_
  refine sp_iload (i := 4) (q := 289) hX dL_law_287 rfl rfl ?_
  refine sp_iconst (v := 1) (q := 290) hX dL_law_289 li_1 rfl ?_
  refine sp_iadd (q := 291) hX dL_law_290 rfl ?_
  refine lg_sld (q := 292) hX hs ha.1 dL_law_291 rfl ?_
  refine sp_aload_n (i := 3) (q := 293) hX dL_law_292 rfl rfl rfl ?_
  obtain ⟨σ2, v3, h1, hf⟩ := sp_bd_so hf
  refine lg_callWX (As := [.ref (sx_ad X 0), .int a1, .ref (sx_ad X 68)]) (rest := []) (q := 296) hX (cnL_city (sp_st hX) h1) cwwL_108 rfl rfl rfl rfl (Nat.le_of_ble_eq_true rfl) (Nat.le_of_ble_eq_true rfl) (Nat.le_of_ble_eq_true rfl) (by show _ ≤ 601024; omega) (by show _ ≤ 7293034; omega) dL_law_293 rfl ?_
  refine sp_istore (i := 5) (lv' := [some (.ref b), some (.ref (sx_ad X 0)), some (.ref (sx_ad X 69)), some (.ref (sx_ad X 68)), some (.int i), some (.int v3), none]) (q := 298) hX dL_law_296 (Nat.le_of_ble_eq_true rfl) rfl rfl rfl ?_
  refine sp_aload_n (i := 2) (q := 299) hX dL_law_298 rfl rfl rfl ?_
  refine sp_aload_n (i := 0) (q := 300) hX dL_law_299 rfl rfl rfl ?_
  refine sp_iload (i := 4) (q := 302) hX dL_law_300 rfl rfl ?_
  refine sp_iconst (v := 1) (q := 303) hX dL_law_302 li_1 rfl ?_
  refine sp_iadd (q := 304) hX dL_law_303 rfl ?_
  refine lg_sld (q := 305) hX hs ha.1 dL_law_304 rfl ?_
  obtain ⟨μ5, v6, h4, hf⟩ := sp_bd_so hf
  refine lg_callVMi (As := [.int a1]) (rest := []) (q := 308) hX (cnX12_city (sp_st hX) h4) cwL_113 rfl rfl rfl rfl (Nat.le_of_ble_eq_true rfl) (Nat.le_of_ble_eq_true rfl) (Nat.le_of_ble_eq_true rfl) (by show _ ≤ 601024; omega) (by show _ ≤ 7293034; omega) dL_law_305 rfl ?_
  refine sp_istore (i := 6) (lv' := [some (.ref b), some (.ref (sx_ad X 0)), some (.ref (sx_ad X 69)), some (.ref (sx_ad X 68)), some (.int i), some (.int v3), some (.int v6)]) (q := 310) hX dL_law_308 (Nat.le_of_ble_eq_true rfl) rfl rfl rfl ?_
  refine sp_aload_n (i := 2) (q := 311) hX dL_law_310 rfl rfl rfl ?_
  obtain ⟨μ8, v9, h7, hf⟩ := sp_bd_so hf
  refine lg_callVMi (As := []) (rest := []) (q := 314) hX (cnX12_thrown (sp_st hX) h7) cwL_114 rfl rfl rfl rfl (Nat.le_of_ble_eq_true rfl) (Nat.le_of_ble_eq_true rfl) (Nat.le_of_ble_eq_true rfl) (by show _ ≤ 601024; omega) (by show _ ≤ 7293034; omega) dL_law_311 rfl ?_
  refine sp_iload (i := 5) (q := 316) hX dL_law_314 rfl rfl ?_
  refine sp_icmp_eq (tgt := 321) (q := 319) hX dL_law_316 (by decide) rfl (fun hc => ?_) (fun hc => ?_)
  · rw [if_pos hc] at hf
    refine sp_iload (i := 5) (q := 323) hX dL_law_321 rfl rfl ?_
    refine sp_if_ne (tgt := 338) (q := 326) hX dL_law_323 (by decide) rfl (fun hc => ?_) (fun hc => ?_)
    · rw [if_neg hc] at hf
      refine sp_goto (tgt := 2170) hX dL_law_338 (by decide) ?_
      cases hf
      refine sp_drop (lv' := [some (.ref b), some (.ref (sx_ad X 0)), some (.ref (sx_ad X 69)), some (.ref (sx_ad X 68)), some (.int i), none, none]) (And.intro rfl (And.intro rfl (And.intro rfl (And.intro rfl (And.intro rfl trivial))))) ?_
      refine sp_wid (a := kc + 4) (b := ks + 24) (by omega) (by omega) ?_
      exact hk
    · rw [if_pos hc] at hf
      refine sp_aload_n (i := 3) (q := 327) hX dL_law_326 rfl rfl rfl ?_
      refine sp_iconst (v := 0) (q := 328) hX dL_law_327 li_0 rfl ?_
      refine sp_lald (q := 329) hX arL_68 (by decide) dL_law_328 rfl ?_
      refine sp_nml (x := sp_gl σ2 68 (0 : Int32)) lg_g68.symm ?_
      refine sp_iload (i := 6) (q := 331) hX dL_law_329 rfl rfl ?_
      refine sp_i2l (q := 332) hX dL_law_331 rfl ?_
      refine sp_lcmp (q := 333) hX dL_law_332 rfl ?_
      refine sp_if_eq (tgt := 338) (q := 336) hX dL_law_333 (by decide) rfl (fun hc => ?_) (fun hc => ?_)
      · rw [if_pos hc] at hf
        refine sp_goto (tgt := 2170) hX dL_law_338 (by decide) ?_
        cases hf
        refine sp_drop (lv' := [some (.ref b), some (.ref (sx_ad X 0)), some (.ref (sx_ad X 69)), some (.ref (sx_ad X 68)), some (.int i), none, none]) (And.intro rfl (And.intro rfl (And.intro rfl (And.intro rfl (And.intro rfl trivial))))) ?_
        refine sp_wid (a := kc + 4) (b := ks + 24) (by omega) (by omega) ?_
        exact hk
      · rw [if_neg hc] at hf
        refine sp_iconst (v := 0) (q := 337) hX dL_law_336 li_0 rfl ?_
        cases hf
  · rw [if_neg hc] at hf
    refine sp_iconst (v := 0) (q := 320) hX dL_law_319 li_0 rfl ?_
    cases hf
def LK2 (n : Nat) (σ μ : sp_St) (a1 a2 a3 a4 a5 : Int32) : Option (sp_St × sp_St) :=
  sp_bd (X11_fault n σ) fun σ2 v3 =>
  sp_bd (X12_fault n μ) fun μ5 v6 =>
  if v3 = v6 then
    some (σ2, μ5)
  else
    none
set_option maxRecDepth 100000 in
set_option maxHeartbeats 8000000 in
theorem hLK2 {X : sp_X} (hX : sp_OK shL X cL_law RL 7 room_1) {b L : Nat} {xs : Nat → Int32} (hs : lg_scr X b L xs) {n : Nat} {i a1 a2 a3 a4 a5 : Int32} (ha : lg_arg L xs i a1 a2 a3 a4 a5) {σ μ τ υ : sp_St} {kc ks : Nat} (hkc : kc + 4 ≤ 601024) (hks : ks + 24 ≤ 7293034) (hf : LK2 n σ μ a1 a2 a3 a4 a5 = some (τ, υ)) (hk : sp_GG shL X (sp_pair τ υ) 7 [some (.ref b), some (.ref (sx_ad X 0)), some (.ref (sx_ad X 69)), some (.ref (sx_ad X 68)), some (.int i), none, none] [] 2170 (kc + 4) (ks + 24)) : sp_GG shL X (sp_pair σ μ) 7 [some (.ref b), some (.ref (sx_ad X 0)), some (.ref (sx_ad X 69)), some (.ref (sx_ad X 68)), some (.int i), none, none] [] 341 kc ks := by
  unfold LK2 at hf
  refine sp_aload_n (i := 1) (q := 342) hX dL_law_341 rfl rfl rfl ?_
  obtain ⟨σ2, v3, h1, hf⟩ := sp_bd_so hf
  refine lg_callVXi (As := []) (rest := []) (q := 345) hX (cnX11_fault (sp_st hX) h1) cwL_118 rfl rfl rfl rfl (Nat.le_of_ble_eq_true rfl) (Nat.le_of_ble_eq_true rfl) (Nat.le_of_ble_eq_true rfl) (by show _ ≤ 601024; omega) (by show _ ≤ 7293034; omega) dL_law_342 rfl ?_
  refine sp_aload_n (i := 2) (q := 346) hX dL_law_345 rfl rfl rfl ?_
  obtain ⟨μ5, v6, h4, hf⟩ := sp_bd_so hf
  refine lg_callVMi (As := []) (rest := [.int v3]) (q := 349) hX (cnX12_fault (sp_st hX) h4) cwL_121 rfl rfl rfl rfl (Nat.le_of_ble_eq_true rfl) (Nat.le_of_ble_eq_true rfl) (Nat.le_of_ble_eq_true rfl) (by show _ ≤ 601024; omega) (by show _ ≤ 7293034; omega) dL_law_346 rfl ?_
  refine sp_icmp_eq (tgt := 2170) (q := 352) hX dL_law_349 (by decide) rfl (fun hc => ?_) (fun hc => ?_)
  · rw [if_pos hc] at hf
    cases hf
    refine sp_wid (a := kc + 4) (b := ks + 24) (by omega) (by omega) ?_
    exact hk
  · rw [if_neg hc] at hf
    refine sp_iconst (v := 0) (q := 353) hX dL_law_352 li_0 rfl ?_
    cases hf
def LK3 (n : Nat) (σ μ : sp_St) (a1 a2 a3 a4 a5 : Int32) : Option (sp_St × sp_St) :=
  sp_bd (L_count n σ a1) fun σ2 v3 =>
  sp_bd (X12_count n μ a1) fun μ5 v6 =>
  sp_bd (X12_thrown n μ5) fun μ8 v9 =>
  if v9 = v3 then
    if v3 = 0 then
      if (lg_cmp (sp_gl σ2 68 (0 : Int32)) v6.toInt64) = 0 then
        some (σ2, μ8)
      else
        none
    else
      some (σ2, μ8)
  else
    none
set_option maxRecDepth 100000 in
set_option maxHeartbeats 8000000 in
theorem hLK3 {X : sp_X} (hX : sp_OK shL X cL_law RL 7 room_1) {b L : Nat} {xs : Nat → Int32} (hs : lg_scr X b L xs) {n : Nat} {i a1 a2 a3 a4 a5 : Int32} (ha : lg_arg L xs i a1 a2 a3 a4 a5) {σ μ τ υ : sp_St} {kc ks : Nat} (hkc : kc + 4 ≤ 601024) (hks : ks + 24 ≤ 7293034) (hf : LK3 n σ μ a1 a2 a3 a4 a5 = some (τ, υ)) (hk : sp_GG shL X (sp_pair τ υ) 7 [some (.ref b), some (.ref (sx_ad X 0)), some (.ref (sx_ad X 69)), some (.ref (sx_ad X 68)), some (.int i), none, none] [] 2170 (kc + 4) (ks + 24)) : sp_GG shL X (sp_pair σ μ) 7 [some (.ref b), some (.ref (sx_ad X 0)), some (.ref (sx_ad X 69)), some (.ref (sx_ad X 68)), some (.int i), none, none] [] 354 kc ks := by
  unfold LK3 at hf
  refine sp_aload_n (i := 1) (q := 355) hX dL_law_354 rfl rfl rfl ?_
  refine sp_aload_n (i := 0) (q := 356) hX dL_law_355 rfl rfl rfl ?_
  refine sp_iload (i := 4) (q := 358) hX dL_law_356 rfl rfl ?_
  refine sp_iconst (v := 1) (q := 359) hX dL_law_358 li_1 rfl ?_
  refine sp_iadd (q := 360) hX dL_law_359 rfl ?_
  refine lg_sld (q := 361) hX hs ha.1 dL_law_360 rfl ?_
  refine sp_aload_n (i := 3) (q := 362) hX dL_law_361 rfl rfl rfl ?_
  obtain ⟨σ2, v3, h1, hf⟩ := sp_bd_so hf
  refine lg_callWX (As := [.ref (sx_ad X 0), .int a1, .ref (sx_ad X 68)]) (rest := []) (q := 365) hX (cnL_count (sp_st hX) h1) cwwL_122 rfl rfl rfl rfl (Nat.le_of_ble_eq_true rfl) (Nat.le_of_ble_eq_true rfl) (Nat.le_of_ble_eq_true rfl) (by show _ ≤ 601024; omega) (by show _ ≤ 7293034; omega) dL_law_362 rfl ?_
  refine sp_istore (i := 5) (lv' := [some (.ref b), some (.ref (sx_ad X 0)), some (.ref (sx_ad X 69)), some (.ref (sx_ad X 68)), some (.int i), some (.int v3), none]) (q := 367) hX dL_law_365 (Nat.le_of_ble_eq_true rfl) rfl rfl rfl ?_
  refine sp_aload_n (i := 2) (q := 368) hX dL_law_367 rfl rfl rfl ?_
  refine sp_aload_n (i := 0) (q := 369) hX dL_law_368 rfl rfl rfl ?_
  refine sp_iload (i := 4) (q := 371) hX dL_law_369 rfl rfl ?_
  refine sp_iconst (v := 1) (q := 372) hX dL_law_371 li_1 rfl ?_
  refine sp_iadd (q := 373) hX dL_law_372 rfl ?_
  refine lg_sld (q := 374) hX hs ha.1 dL_law_373 rfl ?_
  obtain ⟨μ5, v6, h4, hf⟩ := sp_bd_so hf
  refine lg_callVMi (As := [.int a1]) (rest := []) (q := 377) hX (cnX12_count (sp_st hX) h4) cwL_124 rfl rfl rfl rfl (Nat.le_of_ble_eq_true rfl) (Nat.le_of_ble_eq_true rfl) (Nat.le_of_ble_eq_true rfl) (by show _ ≤ 601024; omega) (by show _ ≤ 7293034; omega) dL_law_374 rfl ?_
  refine sp_istore (i := 6) (lv' := [some (.ref b), some (.ref (sx_ad X 0)), some (.ref (sx_ad X 69)), some (.ref (sx_ad X 68)), some (.int i), some (.int v3), some (.int v6)]) (q := 379) hX dL_law_377 (Nat.le_of_ble_eq_true rfl) rfl rfl rfl ?_
  refine sp_aload_n (i := 2) (q := 380) hX dL_law_379 rfl rfl rfl ?_
  obtain ⟨μ8, v9, h7, hf⟩ := sp_bd_so hf
  refine lg_callVMi (As := []) (rest := []) (q := 383) hX (cnX12_thrown (sp_st hX) h7) cwL_114 rfl rfl rfl rfl (Nat.le_of_ble_eq_true rfl) (Nat.le_of_ble_eq_true rfl) (Nat.le_of_ble_eq_true rfl) (by show _ ≤ 601024; omega) (by show _ ≤ 7293034; omega) dL_law_380 rfl ?_
  refine sp_iload (i := 5) (q := 385) hX dL_law_383 rfl rfl ?_
  refine sp_icmp_eq (tgt := 390) (q := 388) hX dL_law_385 (by decide) rfl (fun hc => ?_) (fun hc => ?_)
  · rw [if_pos hc] at hf
    refine sp_iload (i := 5) (q := 392) hX dL_law_390 rfl rfl ?_
    refine sp_if_ne (tgt := 407) (q := 395) hX dL_law_392 (by decide) rfl (fun hc => ?_) (fun hc => ?_)
    · rw [if_neg hc] at hf
      refine sp_goto (tgt := 2170) hX dL_law_407 (by decide) ?_
      cases hf
      refine sp_drop (lv' := [some (.ref b), some (.ref (sx_ad X 0)), some (.ref (sx_ad X 69)), some (.ref (sx_ad X 68)), some (.int i), none, none]) (And.intro rfl (And.intro rfl (And.intro rfl (And.intro rfl (And.intro rfl trivial))))) ?_
      refine sp_wid (a := kc + 4) (b := ks + 24) (by omega) (by omega) ?_
      exact hk
    · rw [if_pos hc] at hf
      refine sp_aload_n (i := 3) (q := 396) hX dL_law_395 rfl rfl rfl ?_
      refine sp_iconst (v := 0) (q := 397) hX dL_law_396 li_0 rfl ?_
      refine sp_lald (q := 398) hX arL_68 (by decide) dL_law_397 rfl ?_
      refine sp_nml (x := sp_gl σ2 68 (0 : Int32)) lg_g68.symm ?_
      refine sp_iload (i := 6) (q := 400) hX dL_law_398 rfl rfl ?_
      refine sp_i2l (q := 401) hX dL_law_400 rfl ?_
      refine sp_lcmp (q := 402) hX dL_law_401 rfl ?_
      refine sp_if_eq (tgt := 407) (q := 405) hX dL_law_402 (by decide) rfl (fun hc => ?_) (fun hc => ?_)
      · rw [if_pos hc] at hf
        refine sp_goto (tgt := 2170) hX dL_law_407 (by decide) ?_
        cases hf
        refine sp_drop (lv' := [some (.ref b), some (.ref (sx_ad X 0)), some (.ref (sx_ad X 69)), some (.ref (sx_ad X 68)), some (.int i), none, none]) (And.intro rfl (And.intro rfl (And.intro rfl (And.intro rfl (And.intro rfl trivial))))) ?_
        refine sp_wid (a := kc + 4) (b := ks + 24) (by omega) (by omega) ?_
        exact hk
      · rw [if_neg hc] at hf
        refine sp_iconst (v := 0) (q := 406) hX dL_law_405 li_0 rfl ?_
        cases hf
  · rw [if_neg hc] at hf
    refine sp_iconst (v := 0) (q := 389) hX dL_law_388 li_0 rfl ?_
    cases hf
def LK4 (n : Nat) (σ μ : sp_St) (a1 a2 a3 a4 a5 : Int32) : Option (sp_St × sp_St) :=
  sp_bd (L_blade n σ a1 a2) fun σ2 v3 =>
  sp_bd (X12_blade n μ a1 a2) fun μ5 v6 =>
  sp_bd (X12_thrown n μ5) fun μ8 v9 =>
  if v9 = v3 then
    if v3 = 0 then
      if (lg_cmp (sp_gl σ2 68 (0 : Int32)) v6.toInt64) = 0 then
        some (σ2, μ8)
      else
        none
    else
      some (σ2, μ8)
  else
    none
set_option maxRecDepth 100000 in
set_option maxHeartbeats 8000000 in
theorem hLK4 {X : sp_X} (hX : sp_OK shL X cL_law RL 7 room_1) {b L : Nat} {xs : Nat → Int32} (hs : lg_scr X b L xs) {n : Nat} {i a1 a2 a3 a4 a5 : Int32} (ha : lg_arg L xs i a1 a2 a3 a4 a5) {σ μ τ υ : sp_St} {kc ks : Nat} (hkc : kc + 4 ≤ 601024) (hks : ks + 24 ≤ 7293034) (hf : LK4 n σ μ a1 a2 a3 a4 a5 = some (τ, υ)) (hk : sp_GG shL X (sp_pair τ υ) 7 [some (.ref b), some (.ref (sx_ad X 0)), some (.ref (sx_ad X 69)), some (.ref (sx_ad X 68)), some (.int i), none, none] [] 2170 (kc + 4) (ks + 24)) : sp_GG shL X (sp_pair σ μ) 7 [some (.ref b), some (.ref (sx_ad X 0)), some (.ref (sx_ad X 69)), some (.ref (sx_ad X 68)), some (.int i), none, none] [] 410 kc ks := by
  unfold LK4 at hf
  refine sp_aload_n (i := 1) (q := 411) hX dL_law_410 rfl rfl rfl ?_
  refine sp_aload_n (i := 0) (q := 412) hX dL_law_411 rfl rfl rfl ?_
  refine sp_iload (i := 4) (q := 414) hX dL_law_412 rfl rfl ?_
  refine sp_iconst (v := 1) (q := 415) hX dL_law_414 li_1 rfl ?_
  refine sp_iadd (q := 416) hX dL_law_415 rfl ?_
  refine lg_sld (q := 417) hX hs ha.1 dL_law_416 rfl ?_
  refine sp_aload_n (i := 0) (q := 418) hX dL_law_417 rfl rfl rfl ?_
  refine sp_iload (i := 4) (q := 420) hX dL_law_418 rfl rfl ?_
  refine sp_iconst (v := 2) (q := 421) hX dL_law_420 li_2 rfl ?_
  refine sp_iadd (q := 422) hX dL_law_421 rfl ?_
  refine lg_sld (q := 423) hX hs ha.2.1 dL_law_422 rfl ?_
  refine sp_aload_n (i := 3) (q := 424) hX dL_law_423 rfl rfl rfl ?_
  obtain ⟨σ2, v3, h1, hf⟩ := sp_bd_so hf
  refine lg_callWX (As := [.ref (sx_ad X 0), .int a1, .int a2, .ref (sx_ad X 68)]) (rest := []) (q := 427) hX (cnL_blade (sp_st hX) h1) cwwL_125 rfl rfl rfl rfl (Nat.le_of_ble_eq_true rfl) (Nat.le_of_ble_eq_true rfl) (Nat.le_of_ble_eq_true rfl) (by show _ ≤ 601024; omega) (by show _ ≤ 7293034; omega) dL_law_424 rfl ?_
  refine sp_istore (i := 5) (lv' := [some (.ref b), some (.ref (sx_ad X 0)), some (.ref (sx_ad X 69)), some (.ref (sx_ad X 68)), some (.int i), some (.int v3), none]) (q := 429) hX dL_law_427 (Nat.le_of_ble_eq_true rfl) rfl rfl rfl ?_
  refine sp_aload_n (i := 2) (q := 430) hX dL_law_429 rfl rfl rfl ?_
  refine sp_aload_n (i := 0) (q := 431) hX dL_law_430 rfl rfl rfl ?_
  refine sp_iload (i := 4) (q := 433) hX dL_law_431 rfl rfl ?_
  refine sp_iconst (v := 1) (q := 434) hX dL_law_433 li_1 rfl ?_
  refine sp_iadd (q := 435) hX dL_law_434 rfl ?_
  refine lg_sld (q := 436) hX hs ha.1 dL_law_435 rfl ?_
  refine sp_aload_n (i := 0) (q := 437) hX dL_law_436 rfl rfl rfl ?_
  refine sp_iload (i := 4) (q := 439) hX dL_law_437 rfl rfl ?_
  refine sp_iconst (v := 2) (q := 440) hX dL_law_439 li_2 rfl ?_
  refine sp_iadd (q := 441) hX dL_law_440 rfl ?_
  refine lg_sld (q := 442) hX hs ha.2.1 dL_law_441 rfl ?_
  obtain ⟨μ5, v6, h4, hf⟩ := sp_bd_so hf
  refine lg_callVMi (As := [.int a1, .int a2]) (rest := []) (q := 445) hX (cnX12_blade (sp_st hX) h4) cwL_128 rfl rfl rfl rfl (Nat.le_of_ble_eq_true rfl) (Nat.le_of_ble_eq_true rfl) (Nat.le_of_ble_eq_true rfl) (by show _ ≤ 601024; omega) (by show _ ≤ 7293034; omega) dL_law_442 rfl ?_
  refine sp_istore (i := 6) (lv' := [some (.ref b), some (.ref (sx_ad X 0)), some (.ref (sx_ad X 69)), some (.ref (sx_ad X 68)), some (.int i), some (.int v3), some (.int v6)]) (q := 447) hX dL_law_445 (Nat.le_of_ble_eq_true rfl) rfl rfl rfl ?_
  refine sp_aload_n (i := 2) (q := 448) hX dL_law_447 rfl rfl rfl ?_
  obtain ⟨μ8, v9, h7, hf⟩ := sp_bd_so hf
  refine lg_callVMi (As := []) (rest := []) (q := 451) hX (cnX12_thrown (sp_st hX) h7) cwL_114 rfl rfl rfl rfl (Nat.le_of_ble_eq_true rfl) (Nat.le_of_ble_eq_true rfl) (Nat.le_of_ble_eq_true rfl) (by show _ ≤ 601024; omega) (by show _ ≤ 7293034; omega) dL_law_448 rfl ?_
  refine sp_iload (i := 5) (q := 453) hX dL_law_451 rfl rfl ?_
  refine sp_icmp_eq (tgt := 458) (q := 456) hX dL_law_453 (by decide) rfl (fun hc => ?_) (fun hc => ?_)
  · rw [if_pos hc] at hf
    refine sp_iload (i := 5) (q := 460) hX dL_law_458 rfl rfl ?_
    refine sp_if_ne (tgt := 475) (q := 463) hX dL_law_460 (by decide) rfl (fun hc => ?_) (fun hc => ?_)
    · rw [if_neg hc] at hf
      refine sp_goto (tgt := 2170) hX dL_law_475 (by decide) ?_
      cases hf
      refine sp_drop (lv' := [some (.ref b), some (.ref (sx_ad X 0)), some (.ref (sx_ad X 69)), some (.ref (sx_ad X 68)), some (.int i), none, none]) (And.intro rfl (And.intro rfl (And.intro rfl (And.intro rfl (And.intro rfl trivial))))) ?_
      refine sp_wid (a := kc + 4) (b := ks + 24) (by omega) (by omega) ?_
      exact hk
    · rw [if_pos hc] at hf
      refine sp_aload_n (i := 3) (q := 464) hX dL_law_463 rfl rfl rfl ?_
      refine sp_iconst (v := 0) (q := 465) hX dL_law_464 li_0 rfl ?_
      refine sp_lald (q := 466) hX arL_68 (by decide) dL_law_465 rfl ?_
      refine sp_nml (x := sp_gl σ2 68 (0 : Int32)) lg_g68.symm ?_
      refine sp_iload (i := 6) (q := 468) hX dL_law_466 rfl rfl ?_
      refine sp_i2l (q := 469) hX dL_law_468 rfl ?_
      refine sp_lcmp (q := 470) hX dL_law_469 rfl ?_
      refine sp_if_eq (tgt := 475) (q := 473) hX dL_law_470 (by decide) rfl (fun hc => ?_) (fun hc => ?_)
      · rw [if_pos hc] at hf
        refine sp_goto (tgt := 2170) hX dL_law_475 (by decide) ?_
        cases hf
        refine sp_drop (lv' := [some (.ref b), some (.ref (sx_ad X 0)), some (.ref (sx_ad X 69)), some (.ref (sx_ad X 68)), some (.int i), none, none]) (And.intro rfl (And.intro rfl (And.intro rfl (And.intro rfl (And.intro rfl trivial))))) ?_
        refine sp_wid (a := kc + 4) (b := ks + 24) (by omega) (by omega) ?_
        exact hk
      · rw [if_neg hc] at hf
        refine sp_iconst (v := 0) (q := 474) hX dL_law_473 li_0 rfl ?_
        cases hf
  · rw [if_neg hc] at hf
    refine sp_iconst (v := 0) (q := 457) hX dL_law_456 li_0 rfl ?_
    cases hf
def LK5 (n : Nat) (σ μ : sp_St) (a1 a2 a3 a4 a5 : Int32) : Option (sp_St × sp_St) :=
  sp_bd (L_throat n σ a1 a2) fun σ2 v3 =>
  sp_bd (X12_throat n μ a1 a2) fun μ5 v6 =>
  sp_bd (X12_thrown n μ5) fun μ8 v9 =>
  if v9 = v3 then
    if v3 = 0 then
      if (lg_cmp (sp_gl σ2 68 (0 : Int32)) v6.toInt64) = 0 then
        some (σ2, μ8)
      else
        none
    else
      some (σ2, μ8)
  else
    none
set_option maxRecDepth 100000 in
set_option maxHeartbeats 8000000 in
theorem hLK5 {X : sp_X} (hX : sp_OK shL X cL_law RL 7 room_1) {b L : Nat} {xs : Nat → Int32} (hs : lg_scr X b L xs) {n : Nat} {i a1 a2 a3 a4 a5 : Int32} (ha : lg_arg L xs i a1 a2 a3 a4 a5) {σ μ τ υ : sp_St} {kc ks : Nat} (hkc : kc + 4 ≤ 601024) (hks : ks + 24 ≤ 7293034) (hf : LK5 n σ μ a1 a2 a3 a4 a5 = some (τ, υ)) (hk : sp_GG shL X (sp_pair τ υ) 7 [some (.ref b), some (.ref (sx_ad X 0)), some (.ref (sx_ad X 69)), some (.ref (sx_ad X 68)), some (.int i), none, none] [] 2170 (kc + 4) (ks + 24)) : sp_GG shL X (sp_pair σ μ) 7 [some (.ref b), some (.ref (sx_ad X 0)), some (.ref (sx_ad X 69)), some (.ref (sx_ad X 68)), some (.int i), none, none] [] 478 kc ks := by
  unfold LK5 at hf
  refine sp_aload_n (i := 1) (q := 479) hX dL_law_478 rfl rfl rfl ?_
  refine sp_aload_n (i := 0) (q := 480) hX dL_law_479 rfl rfl rfl ?_
  refine sp_iload (i := 4) (q := 482) hX dL_law_480 rfl rfl ?_
  refine sp_iconst (v := 1) (q := 483) hX dL_law_482 li_1 rfl ?_
  refine sp_iadd (q := 484) hX dL_law_483 rfl ?_
  refine lg_sld (q := 485) hX hs ha.1 dL_law_484 rfl ?_
  refine sp_aload_n (i := 0) (q := 486) hX dL_law_485 rfl rfl rfl ?_
  refine sp_iload (i := 4) (q := 488) hX dL_law_486 rfl rfl ?_
  refine sp_iconst (v := 2) (q := 489) hX dL_law_488 li_2 rfl ?_
  refine sp_iadd (q := 490) hX dL_law_489 rfl ?_
  refine lg_sld (q := 491) hX hs ha.2.1 dL_law_490 rfl ?_
  refine sp_aload_n (i := 3) (q := 492) hX dL_law_491 rfl rfl rfl ?_
  obtain ⟨σ2, v3, h1, hf⟩ := sp_bd_so hf
  refine lg_callWX (As := [.ref (sx_ad X 0), .int a1, .int a2, .ref (sx_ad X 68)]) (rest := []) (q := 495) hX (cnL_throat (sp_st hX) h1) cwwL_129 rfl rfl rfl rfl (Nat.le_of_ble_eq_true rfl) (Nat.le_of_ble_eq_true rfl) (Nat.le_of_ble_eq_true rfl) (by show _ ≤ 601024; omega) (by show _ ≤ 7293034; omega) dL_law_492 rfl ?_
  refine sp_istore (i := 5) (lv' := [some (.ref b), some (.ref (sx_ad X 0)), some (.ref (sx_ad X 69)), some (.ref (sx_ad X 68)), some (.int i), some (.int v3), none]) (q := 497) hX dL_law_495 (Nat.le_of_ble_eq_true rfl) rfl rfl rfl ?_
  refine sp_aload_n (i := 2) (q := 498) hX dL_law_497 rfl rfl rfl ?_
  refine sp_aload_n (i := 0) (q := 499) hX dL_law_498 rfl rfl rfl ?_
  refine sp_iload (i := 4) (q := 501) hX dL_law_499 rfl rfl ?_
  refine sp_iconst (v := 1) (q := 502) hX dL_law_501 li_1 rfl ?_
  refine sp_iadd (q := 503) hX dL_law_502 rfl ?_
  refine lg_sld (q := 504) hX hs ha.1 dL_law_503 rfl ?_
  refine sp_aload_n (i := 0) (q := 505) hX dL_law_504 rfl rfl rfl ?_
  refine sp_iload (i := 4) (q := 507) hX dL_law_505 rfl rfl ?_
  refine sp_iconst (v := 2) (q := 508) hX dL_law_507 li_2 rfl ?_
  refine sp_iadd (q := 509) hX dL_law_508 rfl ?_
  refine lg_sld (q := 510) hX hs ha.2.1 dL_law_509 rfl ?_
  obtain ⟨μ5, v6, h4, hf⟩ := sp_bd_so hf
  refine lg_callVMi (As := [.int a1, .int a2]) (rest := []) (q := 513) hX (cnX12_throat (sp_st hX) h4) cwL_131 rfl rfl rfl rfl (Nat.le_of_ble_eq_true rfl) (Nat.le_of_ble_eq_true rfl) (Nat.le_of_ble_eq_true rfl) (by show _ ≤ 601024; omega) (by show _ ≤ 7293034; omega) dL_law_510 rfl ?_
  refine sp_istore (i := 6) (lv' := [some (.ref b), some (.ref (sx_ad X 0)), some (.ref (sx_ad X 69)), some (.ref (sx_ad X 68)), some (.int i), some (.int v3), some (.int v6)]) (q := 515) hX dL_law_513 (Nat.le_of_ble_eq_true rfl) rfl rfl rfl ?_
  refine sp_aload_n (i := 2) (q := 516) hX dL_law_515 rfl rfl rfl ?_
  obtain ⟨μ8, v9, h7, hf⟩ := sp_bd_so hf
  refine lg_callVMi (As := []) (rest := []) (q := 519) hX (cnX12_thrown (sp_st hX) h7) cwL_114 rfl rfl rfl rfl (Nat.le_of_ble_eq_true rfl) (Nat.le_of_ble_eq_true rfl) (Nat.le_of_ble_eq_true rfl) (by show _ ≤ 601024; omega) (by show _ ≤ 7293034; omega) dL_law_516 rfl ?_
  refine sp_iload (i := 5) (q := 521) hX dL_law_519 rfl rfl ?_
  refine sp_icmp_eq (tgt := 526) (q := 524) hX dL_law_521 (by decide) rfl (fun hc => ?_) (fun hc => ?_)
  · rw [if_pos hc] at hf
    refine sp_iload (i := 5) (q := 528) hX dL_law_526 rfl rfl ?_
    refine sp_if_ne (tgt := 543) (q := 531) hX dL_law_528 (by decide) rfl (fun hc => ?_) (fun hc => ?_)
    · rw [if_neg hc] at hf
      refine sp_goto (tgt := 2170) hX dL_law_543 (by decide) ?_
      cases hf
      refine sp_drop (lv' := [some (.ref b), some (.ref (sx_ad X 0)), some (.ref (sx_ad X 69)), some (.ref (sx_ad X 68)), some (.int i), none, none]) (And.intro rfl (And.intro rfl (And.intro rfl (And.intro rfl (And.intro rfl trivial))))) ?_
      refine sp_wid (a := kc + 4) (b := ks + 24) (by omega) (by omega) ?_
      exact hk
    · rw [if_pos hc] at hf
      refine sp_aload_n (i := 3) (q := 532) hX dL_law_531 rfl rfl rfl ?_
      refine sp_iconst (v := 0) (q := 533) hX dL_law_532 li_0 rfl ?_
      refine sp_lald (q := 534) hX arL_68 (by decide) dL_law_533 rfl ?_
      refine sp_nml (x := sp_gl σ2 68 (0 : Int32)) lg_g68.symm ?_
      refine sp_iload (i := 6) (q := 536) hX dL_law_534 rfl rfl ?_
      refine sp_i2l (q := 537) hX dL_law_536 rfl ?_
      refine sp_lcmp (q := 538) hX dL_law_537 rfl ?_
      refine sp_if_eq (tgt := 543) (q := 541) hX dL_law_538 (by decide) rfl (fun hc => ?_) (fun hc => ?_)
      · rw [if_pos hc] at hf
        refine sp_goto (tgt := 2170) hX dL_law_543 (by decide) ?_
        cases hf
        refine sp_drop (lv' := [some (.ref b), some (.ref (sx_ad X 0)), some (.ref (sx_ad X 69)), some (.ref (sx_ad X 68)), some (.int i), none, none]) (And.intro rfl (And.intro rfl (And.intro rfl (And.intro rfl (And.intro rfl trivial))))) ?_
        refine sp_wid (a := kc + 4) (b := ks + 24) (by omega) (by omega) ?_
        exact hk
      · rw [if_neg hc] at hf
        refine sp_iconst (v := 0) (q := 542) hX dL_law_541 li_0 rfl ?_
        cases hf
  · rw [if_neg hc] at hf
    refine sp_iconst (v := 0) (q := 525) hX dL_law_524 li_0 rfl ?_
    cases hf
def LK6 (n : Nat) (σ μ : sp_St) (a1 a2 a3 a4 a5 : Int32) : Option (sp_St × sp_St) :=
  sp_bd (L_feud n σ a1 a2) fun σ2 v3 =>
  sp_bd (X12_feud n μ a1 a2) fun μ5 v6 =>
  sp_bd (X12_thrown n μ5) fun μ8 v9 =>
  if v9 = v3 then
    if v3 = 0 then
      if v6 = 0 then
        if (lg_cmp (sp_gl σ2 68 (0 : Int32)) ((0 : Int64))) = 0 then
          some (σ2, μ8)
        else
          none
      else
        if (lg_cmp (sp_gl σ2 68 (0 : Int32)) ((1 : Int64))) = 0 then
          some (σ2, μ8)
        else
          none
    else
      some (σ2, μ8)
  else
    none
set_option maxRecDepth 100000 in
set_option maxHeartbeats 8000000 in
theorem hLK6 {X : sp_X} (hX : sp_OK shL X cL_law RL 7 room_1) {b L : Nat} {xs : Nat → Int32} (hs : lg_scr X b L xs) {n : Nat} {i a1 a2 a3 a4 a5 : Int32} (ha : lg_arg L xs i a1 a2 a3 a4 a5) {σ μ τ υ : sp_St} {kc ks : Nat} (hkc : kc + 4 ≤ 601024) (hks : ks + 24 ≤ 7293034) (hf : LK6 n σ μ a1 a2 a3 a4 a5 = some (τ, υ)) (hk : sp_GG shL X (sp_pair τ υ) 7 [some (.ref b), some (.ref (sx_ad X 0)), some (.ref (sx_ad X 69)), some (.ref (sx_ad X 68)), some (.int i), none, none] [] 2170 (kc + 4) (ks + 24)) : sp_GG shL X (sp_pair σ μ) 7 [some (.ref b), some (.ref (sx_ad X 0)), some (.ref (sx_ad X 69)), some (.ref (sx_ad X 68)), some (.int i), none, none] [] 546 kc ks := by
  unfold LK6 at hf
  refine sp_aload_n (i := 1) (q := 547) hX dL_law_546 rfl rfl rfl ?_
  refine sp_aload_n (i := 0) (q := 548) hX dL_law_547 rfl rfl rfl ?_
  refine sp_iload (i := 4) (q := 550) hX dL_law_548 rfl rfl ?_
  refine sp_iconst (v := 1) (q := 551) hX dL_law_550 li_1 rfl ?_
  refine sp_iadd (q := 552) hX dL_law_551 rfl ?_
  refine lg_sld (q := 553) hX hs ha.1 dL_law_552 rfl ?_
  refine sp_aload_n (i := 0) (q := 554) hX dL_law_553 rfl rfl rfl ?_
  refine sp_iload (i := 4) (q := 556) hX dL_law_554 rfl rfl ?_
  refine sp_iconst (v := 2) (q := 557) hX dL_law_556 li_2 rfl ?_
  refine sp_iadd (q := 558) hX dL_law_557 rfl ?_
  refine lg_sld (q := 559) hX hs ha.2.1 dL_law_558 rfl ?_
  refine sp_aload_n (i := 3) (q := 560) hX dL_law_559 rfl rfl rfl ?_
  obtain ⟨σ2, v3, h1, hf⟩ := sp_bd_so hf
  refine lg_callWX (As := [.ref (sx_ad X 0), .int a1, .int a2, .ref (sx_ad X 68)]) (rest := []) (q := 563) hX (cnL_feud (sp_st hX) h1) cwwL_132 rfl rfl rfl rfl (Nat.le_of_ble_eq_true rfl) (Nat.le_of_ble_eq_true rfl) (Nat.le_of_ble_eq_true rfl) (by show _ ≤ 601024; omega) (by show _ ≤ 7293034; omega) dL_law_560 rfl ?_
  refine sp_istore (i := 5) (lv' := [some (.ref b), some (.ref (sx_ad X 0)), some (.ref (sx_ad X 69)), some (.ref (sx_ad X 68)), some (.int i), some (.int v3), none]) (q := 565) hX dL_law_563 (Nat.le_of_ble_eq_true rfl) rfl rfl rfl ?_
  refine sp_aload_n (i := 2) (q := 566) hX dL_law_565 rfl rfl rfl ?_
  refine sp_aload_n (i := 0) (q := 567) hX dL_law_566 rfl rfl rfl ?_
  refine sp_iload (i := 4) (q := 569) hX dL_law_567 rfl rfl ?_
  refine sp_iconst (v := 1) (q := 570) hX dL_law_569 li_1 rfl ?_
  refine sp_iadd (q := 571) hX dL_law_570 rfl ?_
  refine lg_sld (q := 572) hX hs ha.1 dL_law_571 rfl ?_
  refine sp_aload_n (i := 0) (q := 573) hX dL_law_572 rfl rfl rfl ?_
  refine sp_iload (i := 4) (q := 575) hX dL_law_573 rfl rfl ?_
  refine sp_iconst (v := 2) (q := 576) hX dL_law_575 li_2 rfl ?_
  refine sp_iadd (q := 577) hX dL_law_576 rfl ?_
  refine lg_sld (q := 578) hX hs ha.2.1 dL_law_577 rfl ?_
  obtain ⟨μ5, v6, h4, hf⟩ := sp_bd_so hf
  refine lg_callVMi (As := [.int a1, .int a2]) (rest := []) (q := 581) hX (cnX12_feud (sp_st hX) h4) cwL_134 rfl rfl rfl rfl (Nat.le_of_ble_eq_true rfl) (Nat.le_of_ble_eq_true rfl) (Nat.le_of_ble_eq_true rfl) (by show _ ≤ 601024; omega) (by show _ ≤ 7293034; omega) dL_law_578 rfl ?_
  refine sp_istore (i := 6) (lv' := [some (.ref b), some (.ref (sx_ad X 0)), some (.ref (sx_ad X 69)), some (.ref (sx_ad X 68)), some (.int i), some (.int v3), some (.int v6)]) (q := 583) hX dL_law_581 (Nat.le_of_ble_eq_true rfl) rfl rfl rfl ?_
  refine sp_aload_n (i := 2) (q := 584) hX dL_law_583 rfl rfl rfl ?_
  obtain ⟨μ8, v9, h7, hf⟩ := sp_bd_so hf
  refine lg_callVMi (As := []) (rest := []) (q := 587) hX (cnX12_thrown (sp_st hX) h7) cwL_114 rfl rfl rfl rfl (Nat.le_of_ble_eq_true rfl) (Nat.le_of_ble_eq_true rfl) (Nat.le_of_ble_eq_true rfl) (by show _ ≤ 601024; omega) (by show _ ≤ 7293034; omega) dL_law_584 rfl ?_
  refine sp_iload (i := 5) (q := 589) hX dL_law_587 rfl rfl ?_
  refine sp_icmp_eq (tgt := 594) (q := 592) hX dL_law_589 (by decide) rfl (fun hc => ?_) (fun hc => ?_)
  · rw [if_pos hc] at hf
    refine sp_iload (i := 5) (q := 596) hX dL_law_594 rfl rfl ?_
    refine sp_if_ne (tgt := 618) (q := 599) hX dL_law_596 (by decide) rfl (fun hc => ?_) (fun hc => ?_)
    · rw [if_neg hc] at hf
      refine sp_goto (tgt := 2170) hX dL_law_618 (by decide) ?_
      cases hf
      refine sp_drop (lv' := [some (.ref b), some (.ref (sx_ad X 0)), some (.ref (sx_ad X 69)), some (.ref (sx_ad X 68)), some (.int i), none, none]) (And.intro rfl (And.intro rfl (And.intro rfl (And.intro rfl (And.intro rfl trivial))))) ?_
      refine sp_wid (a := kc + 4) (b := ks + 24) (by omega) (by omega) ?_
      exact hk
    · rw [if_pos hc] at hf
      refine sp_aload_n (i := 3) (q := 600) hX dL_law_599 rfl rfl rfl ?_
      refine sp_iconst (v := 0) (q := 601) hX dL_law_600 li_0 rfl ?_
      refine sp_lald (q := 602) hX arL_68 (by decide) dL_law_601 rfl ?_
      refine sp_nml (x := sp_gl σ2 68 (0 : Int32)) lg_g68.symm ?_
      refine sp_iload (i := 6) (q := 604) hX dL_law_602 rfl rfl ?_
      refine sp_if_eq (tgt := 611) (q := 607) hX dL_law_604 (by decide) rfl (fun hc => ?_) (fun hc => ?_)
      · rw [if_pos hc] at hf
        refine sp_lconst (v := 0) (q := 612) hX dL_law_611 (by decide) rfl ?_
        refine sp_lcmp (q := 613) hX dL_law_612 rfl ?_
        refine sp_if_eq (tgt := 618) (q := 616) hX dL_law_613 (by decide) rfl (fun hc => ?_) (fun hc => ?_)
        · rw [if_pos hc] at hf
          refine sp_goto (tgt := 2170) hX dL_law_618 (by decide) ?_
          cases hf
          refine sp_drop (lv' := [some (.ref b), some (.ref (sx_ad X 0)), some (.ref (sx_ad X 69)), some (.ref (sx_ad X 68)), some (.int i), none, none]) (And.intro rfl (And.intro rfl (And.intro rfl (And.intro rfl (And.intro rfl trivial))))) ?_
          refine sp_wid (a := kc + 4) (b := ks + 24) (by omega) (by omega) ?_
          exact hk
        · rw [if_neg hc] at hf
          refine sp_iconst (v := 0) (q := 617) hX dL_law_616 li_0 rfl ?_
          cases hf
      · rw [if_neg hc] at hf
        refine sp_lconst (v := 1) (q := 608) hX dL_law_607 (by decide) rfl ?_
        refine sp_goto (tgt := 612) hX dL_law_608 (by decide) ?_
        refine sp_lcmp (q := 613) hX dL_law_612 rfl ?_
        refine sp_if_eq (tgt := 618) (q := 616) hX dL_law_613 (by decide) rfl (fun hc => ?_) (fun hc => ?_)
        · rw [if_pos hc] at hf
          refine sp_goto (tgt := 2170) hX dL_law_618 (by decide) ?_
          cases hf
          refine sp_drop (lv' := [some (.ref b), some (.ref (sx_ad X 0)), some (.ref (sx_ad X 69)), some (.ref (sx_ad X 68)), some (.int i), none, none]) (And.intro rfl (And.intro rfl (And.intro rfl (And.intro rfl (And.intro rfl trivial))))) ?_
          refine sp_wid (a := kc + 4) (b := ks + 24) (by omega) (by omega) ?_
          exact hk
        · rw [if_neg hc] at hf
          refine sp_iconst (v := 0) (q := 617) hX dL_law_616 li_0 rfl ?_
          cases hf
  · rw [if_neg hc] at hf
    refine sp_iconst (v := 0) (q := 593) hX dL_law_592 li_0 rfl ?_
    cases hf
def LK7 (n : Nat) (σ μ : sp_St) (a1 a2 a3 a4 a5 : Int32) : Option (sp_St × sp_St) :=
  sp_bd (X11_days n σ a1) fun σ2 v3 =>
  sp_bd (X12_days n μ a1) fun μ5 v6 =>
  if v3 = v6 then
    some (σ2, μ5)
  else
    none
set_option maxRecDepth 100000 in
set_option maxHeartbeats 8000000 in
theorem hLK7 {X : sp_X} (hX : sp_OK shL X cL_law RL 7 room_1) {b L : Nat} {xs : Nat → Int32} (hs : lg_scr X b L xs) {n : Nat} {i a1 a2 a3 a4 a5 : Int32} (ha : lg_arg L xs i a1 a2 a3 a4 a5) {σ μ τ υ : sp_St} {kc ks : Nat} (hkc : kc + 4 ≤ 601024) (hks : ks + 24 ≤ 7293034) (hf : LK7 n σ μ a1 a2 a3 a4 a5 = some (τ, υ)) (hk : sp_GG shL X (sp_pair τ υ) 7 [some (.ref b), some (.ref (sx_ad X 0)), some (.ref (sx_ad X 69)), some (.ref (sx_ad X 68)), some (.int i), none, none] [] 2170 (kc + 4) (ks + 24)) : sp_GG shL X (sp_pair σ μ) 7 [some (.ref b), some (.ref (sx_ad X 0)), some (.ref (sx_ad X 69)), some (.ref (sx_ad X 68)), some (.int i), none, none] [] 621 kc ks := by
  unfold LK7 at hf
  refine sp_aload_n (i := 1) (q := 622) hX dL_law_621 rfl rfl rfl ?_
  refine sp_aload_n (i := 0) (q := 623) hX dL_law_622 rfl rfl rfl ?_
  refine sp_iload (i := 4) (q := 625) hX dL_law_623 rfl rfl ?_
  refine sp_iconst (v := 1) (q := 626) hX dL_law_625 li_1 rfl ?_
  refine sp_iadd (q := 627) hX dL_law_626 rfl ?_
  refine lg_sld (q := 628) hX hs ha.1 dL_law_627 rfl ?_
  obtain ⟨σ2, v3, h1, hf⟩ := sp_bd_so hf
  refine lg_callVXi (As := [.int a1]) (rest := []) (q := 631) hX (cnX11_days (sp_st hX) h1) cwL_135 rfl rfl rfl rfl (Nat.le_of_ble_eq_true rfl) (Nat.le_of_ble_eq_true rfl) (Nat.le_of_ble_eq_true rfl) (by show _ ≤ 601024; omega) (by show _ ≤ 7293034; omega) dL_law_628 rfl ?_
  refine sp_aload_n (i := 2) (q := 632) hX dL_law_631 rfl rfl rfl ?_
  refine sp_aload_n (i := 0) (q := 633) hX dL_law_632 rfl rfl rfl ?_
  refine sp_iload (i := 4) (q := 635) hX dL_law_633 rfl rfl ?_
  refine sp_iconst (v := 1) (q := 636) hX dL_law_635 li_1 rfl ?_
  refine sp_iadd (q := 637) hX dL_law_636 rfl ?_
  refine lg_sld (q := 638) hX hs ha.1 dL_law_637 rfl ?_
  obtain ⟨μ5, v6, h4, hf⟩ := sp_bd_so hf
  refine lg_callVMi (As := [.int a1]) (rest := [.int v3]) (q := 641) hX (cnX12_days (sp_st hX) h4) cwL_138 rfl rfl rfl rfl (Nat.le_of_ble_eq_true rfl) (Nat.le_of_ble_eq_true rfl) (Nat.le_of_ble_eq_true rfl) (by show _ ≤ 601024; omega) (by show _ ≤ 7293034; omega) dL_law_638 rfl ?_
  refine sp_icmp_eq (tgt := 2170) (q := 644) hX dL_law_641 (by decide) rfl (fun hc => ?_) (fun hc => ?_)
  · rw [if_pos hc] at hf
    cases hf
    refine sp_wid (a := kc + 4) (b := ks + 24) (by omega) (by omega) ?_
    exact hk
  · rw [if_neg hc] at hf
    refine sp_iconst (v := 0) (q := 645) hX dL_law_644 li_0 rfl ?_
    cases hf
def LK8 (n : Nat) (σ μ : sp_St) (a1 a2 a3 a4 a5 : Int32) : Option (sp_St × sp_St) :=
  sp_bd (L_swallow n σ a1 a2) fun σ2 v3 =>
  sp_bd (X12_swallow n μ a1 a2) fun μ5 v6 =>
  sp_bd (X12_thrown n μ5) fun μ8 v9 =>
  if v9 = v3 then
    if v3 = 0 then
      if (lg_cmp (sp_gl σ2 68 (0 : Int32)) v6.toInt64) = 0 then
        some (σ2, μ8)
      else
        none
    else
      some (σ2, μ8)
  else
    none
set_option maxRecDepth 100000 in
set_option maxHeartbeats 8000000 in
theorem hLK8 {X : sp_X} (hX : sp_OK shL X cL_law RL 7 room_1) {b L : Nat} {xs : Nat → Int32} (hs : lg_scr X b L xs) {n : Nat} {i a1 a2 a3 a4 a5 : Int32} (ha : lg_arg L xs i a1 a2 a3 a4 a5) {σ μ τ υ : sp_St} {kc ks : Nat} (hkc : kc + 4 ≤ 601024) (hks : ks + 24 ≤ 7293034) (hf : LK8 n σ μ a1 a2 a3 a4 a5 = some (τ, υ)) (hk : sp_GG shL X (sp_pair τ υ) 7 [some (.ref b), some (.ref (sx_ad X 0)), some (.ref (sx_ad X 69)), some (.ref (sx_ad X 68)), some (.int i), none, none] [] 2170 (kc + 4) (ks + 24)) : sp_GG shL X (sp_pair σ μ) 7 [some (.ref b), some (.ref (sx_ad X 0)), some (.ref (sx_ad X 69)), some (.ref (sx_ad X 68)), some (.int i), none, none] [] 646 kc ks := by
  unfold LK8 at hf
  refine sp_aload_n (i := 1) (q := 647) hX dL_law_646 rfl rfl rfl ?_
  refine sp_aload_n (i := 0) (q := 648) hX dL_law_647 rfl rfl rfl ?_
  refine sp_iload (i := 4) (q := 650) hX dL_law_648 rfl rfl ?_
  refine sp_iconst (v := 1) (q := 651) hX dL_law_650 li_1 rfl ?_
  refine sp_iadd (q := 652) hX dL_law_651 rfl ?_
  refine lg_sld (q := 653) hX hs ha.1 dL_law_652 rfl ?_
  refine sp_aload_n (i := 0) (q := 654) hX dL_law_653 rfl rfl rfl ?_
  refine sp_iload (i := 4) (q := 656) hX dL_law_654 rfl rfl ?_
  refine sp_iconst (v := 2) (q := 657) hX dL_law_656 li_2 rfl ?_
  refine sp_iadd (q := 658) hX dL_law_657 rfl ?_
  refine lg_sld (q := 659) hX hs ha.2.1 dL_law_658 rfl ?_
  refine sp_aload_n (i := 3) (q := 660) hX dL_law_659 rfl rfl rfl ?_
  obtain ⟨σ2, v3, h1, hf⟩ := sp_bd_so hf
  refine lg_callWX (As := [.ref (sx_ad X 0), .int a1, .int a2, .ref (sx_ad X 68)]) (rest := []) (q := 663) hX (cnL_swallow (sp_st hX) h1) cwwL_139 rfl rfl rfl rfl (Nat.le_of_ble_eq_true rfl) (Nat.le_of_ble_eq_true rfl) (Nat.le_of_ble_eq_true rfl) (by show _ ≤ 601024; omega) (by show _ ≤ 7293034; omega) dL_law_660 rfl ?_
  refine sp_istore (i := 5) (lv' := [some (.ref b), some (.ref (sx_ad X 0)), some (.ref (sx_ad X 69)), some (.ref (sx_ad X 68)), some (.int i), some (.int v3), none]) (q := 665) hX dL_law_663 (Nat.le_of_ble_eq_true rfl) rfl rfl rfl ?_
  refine sp_aload_n (i := 2) (q := 666) hX dL_law_665 rfl rfl rfl ?_
  refine sp_aload_n (i := 0) (q := 667) hX dL_law_666 rfl rfl rfl ?_
  refine sp_iload (i := 4) (q := 669) hX dL_law_667 rfl rfl ?_
  refine sp_iconst (v := 1) (q := 670) hX dL_law_669 li_1 rfl ?_
  refine sp_iadd (q := 671) hX dL_law_670 rfl ?_
  refine lg_sld (q := 672) hX hs ha.1 dL_law_671 rfl ?_
  refine sp_aload_n (i := 0) (q := 673) hX dL_law_672 rfl rfl rfl ?_
  refine sp_iload (i := 4) (q := 675) hX dL_law_673 rfl rfl ?_
  refine sp_iconst (v := 2) (q := 676) hX dL_law_675 li_2 rfl ?_
  refine sp_iadd (q := 677) hX dL_law_676 rfl ?_
  refine lg_sld (q := 678) hX hs ha.2.1 dL_law_677 rfl ?_
  obtain ⟨μ5, v6, h4, hf⟩ := sp_bd_so hf
  refine lg_callVMi (As := [.int a1, .int a2]) (rest := []) (q := 681) hX (cnX12_swallow (sp_st hX) h4) cwL_141 rfl rfl rfl rfl (Nat.le_of_ble_eq_true rfl) (Nat.le_of_ble_eq_true rfl) (Nat.le_of_ble_eq_true rfl) (by show _ ≤ 601024; omega) (by show _ ≤ 7293034; omega) dL_law_678 rfl ?_
  refine sp_istore (i := 6) (lv' := [some (.ref b), some (.ref (sx_ad X 0)), some (.ref (sx_ad X 69)), some (.ref (sx_ad X 68)), some (.int i), some (.int v3), some (.int v6)]) (q := 683) hX dL_law_681 (Nat.le_of_ble_eq_true rfl) rfl rfl rfl ?_
  refine sp_aload_n (i := 2) (q := 684) hX dL_law_683 rfl rfl rfl ?_
  obtain ⟨μ8, v9, h7, hf⟩ := sp_bd_so hf
  refine lg_callVMi (As := []) (rest := []) (q := 687) hX (cnX12_thrown (sp_st hX) h7) cwL_114 rfl rfl rfl rfl (Nat.le_of_ble_eq_true rfl) (Nat.le_of_ble_eq_true rfl) (Nat.le_of_ble_eq_true rfl) (by show _ ≤ 601024; omega) (by show _ ≤ 7293034; omega) dL_law_684 rfl ?_
  refine sp_iload (i := 5) (q := 689) hX dL_law_687 rfl rfl ?_
  refine sp_icmp_eq (tgt := 694) (q := 692) hX dL_law_689 (by decide) rfl (fun hc => ?_) (fun hc => ?_)
  · rw [if_pos hc] at hf
    refine sp_iload (i := 5) (q := 696) hX dL_law_694 rfl rfl ?_
    refine sp_if_ne (tgt := 711) (q := 699) hX dL_law_696 (by decide) rfl (fun hc => ?_) (fun hc => ?_)
    · rw [if_neg hc] at hf
      refine sp_goto (tgt := 2170) hX dL_law_711 (by decide) ?_
      cases hf
      refine sp_drop (lv' := [some (.ref b), some (.ref (sx_ad X 0)), some (.ref (sx_ad X 69)), some (.ref (sx_ad X 68)), some (.int i), none, none]) (And.intro rfl (And.intro rfl (And.intro rfl (And.intro rfl (And.intro rfl trivial))))) ?_
      refine sp_wid (a := kc + 4) (b := ks + 24) (by omega) (by omega) ?_
      exact hk
    · rw [if_pos hc] at hf
      refine sp_aload_n (i := 3) (q := 700) hX dL_law_699 rfl rfl rfl ?_
      refine sp_iconst (v := 0) (q := 701) hX dL_law_700 li_0 rfl ?_
      refine sp_lald (q := 702) hX arL_68 (by decide) dL_law_701 rfl ?_
      refine sp_nml (x := sp_gl σ2 68 (0 : Int32)) lg_g68.symm ?_
      refine sp_iload (i := 6) (q := 704) hX dL_law_702 rfl rfl ?_
      refine sp_i2l (q := 705) hX dL_law_704 rfl ?_
      refine sp_lcmp (q := 706) hX dL_law_705 rfl ?_
      refine sp_if_eq (tgt := 711) (q := 709) hX dL_law_706 (by decide) rfl (fun hc => ?_) (fun hc => ?_)
      · rw [if_pos hc] at hf
        refine sp_goto (tgt := 2170) hX dL_law_711 (by decide) ?_
        cases hf
        refine sp_drop (lv' := [some (.ref b), some (.ref (sx_ad X 0)), some (.ref (sx_ad X 69)), some (.ref (sx_ad X 68)), some (.int i), none, none]) (And.intro rfl (And.intro rfl (And.intro rfl (And.intro rfl (And.intro rfl trivial))))) ?_
        refine sp_wid (a := kc + 4) (b := ks + 24) (by omega) (by omega) ?_
        exact hk
      · rw [if_neg hc] at hf
        refine sp_iconst (v := 0) (q := 710) hX dL_law_709 li_0 rfl ?_
        cases hf
  · rw [if_neg hc] at hf
    refine sp_iconst (v := 0) (q := 693) hX dL_law_692 li_0 rfl ?_
    cases hf
def LK9 (n : Nat) (σ μ : sp_St) (a1 a2 a3 a4 a5 : Int32) : Option (sp_St × sp_St) :=
  sp_bd (L_draw n σ a1) fun σ2 v3 =>
  sp_bd (X12_draw n μ a1) fun μ5 v6 =>
  sp_bd (X12_thrown n μ5) fun μ8 v9 =>
  if v9 = v3 then
    if v3 = 0 then
      if (lg_cmp (sp_gl σ2 68 (0 : Int32)) v6.toInt64) = 0 then
        some (σ2, μ8)
      else
        none
    else
      some (σ2, μ8)
  else
    none
set_option maxRecDepth 100000 in
set_option maxHeartbeats 8000000 in
theorem hLK9 {X : sp_X} (hX : sp_OK shL X cL_law RL 7 room_1) {b L : Nat} {xs : Nat → Int32} (hs : lg_scr X b L xs) {n : Nat} {i a1 a2 a3 a4 a5 : Int32} (ha : lg_arg L xs i a1 a2 a3 a4 a5) {σ μ τ υ : sp_St} {kc ks : Nat} (hkc : kc + 4 ≤ 601024) (hks : ks + 24 ≤ 7293034) (hf : LK9 n σ μ a1 a2 a3 a4 a5 = some (τ, υ)) (hk : sp_GG shL X (sp_pair τ υ) 7 [some (.ref b), some (.ref (sx_ad X 0)), some (.ref (sx_ad X 69)), some (.ref (sx_ad X 68)), some (.int i), none, none] [] 2170 (kc + 4) (ks + 24)) : sp_GG shL X (sp_pair σ μ) 7 [some (.ref b), some (.ref (sx_ad X 0)), some (.ref (sx_ad X 69)), some (.ref (sx_ad X 68)), some (.int i), none, none] [] 714 kc ks := by
  unfold LK9 at hf
  refine sp_aload_n (i := 1) (q := 715) hX dL_law_714 rfl rfl rfl ?_
  refine sp_aload_n (i := 0) (q := 716) hX dL_law_715 rfl rfl rfl ?_
  refine sp_iload (i := 4) (q := 718) hX dL_law_716 rfl rfl ?_
  refine sp_iconst (v := 1) (q := 719) hX dL_law_718 li_1 rfl ?_
  refine sp_iadd (q := 720) hX dL_law_719 rfl ?_
  refine lg_sld (q := 721) hX hs ha.1 dL_law_720 rfl ?_
  refine sp_aload_n (i := 3) (q := 722) hX dL_law_721 rfl rfl rfl ?_
  obtain ⟨σ2, v3, h1, hf⟩ := sp_bd_so hf
  refine lg_callWX (As := [.ref (sx_ad X 0), .int a1, .ref (sx_ad X 68)]) (rest := []) (q := 725) hX (cnL_draw (sp_st hX) h1) cwwL_142 rfl rfl rfl rfl (Nat.le_of_ble_eq_true rfl) (Nat.le_of_ble_eq_true rfl) (Nat.le_of_ble_eq_true rfl) (by show _ ≤ 601024; omega) (by show _ ≤ 7293034; omega) dL_law_722 rfl ?_
  refine sp_istore (i := 5) (lv' := [some (.ref b), some (.ref (sx_ad X 0)), some (.ref (sx_ad X 69)), some (.ref (sx_ad X 68)), some (.int i), some (.int v3), none]) (q := 727) hX dL_law_725 (Nat.le_of_ble_eq_true rfl) rfl rfl rfl ?_
  refine sp_aload_n (i := 2) (q := 728) hX dL_law_727 rfl rfl rfl ?_
  refine sp_aload_n (i := 0) (q := 729) hX dL_law_728 rfl rfl rfl ?_
  refine sp_iload (i := 4) (q := 731) hX dL_law_729 rfl rfl ?_
  refine sp_iconst (v := 1) (q := 732) hX dL_law_731 li_1 rfl ?_
  refine sp_iadd (q := 733) hX dL_law_732 rfl ?_
  refine lg_sld (q := 734) hX hs ha.1 dL_law_733 rfl ?_
  obtain ⟨μ5, v6, h4, hf⟩ := sp_bd_so hf
  refine lg_callVMi (As := [.int a1]) (rest := []) (q := 737) hX (cnX12_draw (sp_st hX) h4) cwL_144 rfl rfl rfl rfl (Nat.le_of_ble_eq_true rfl) (Nat.le_of_ble_eq_true rfl) (Nat.le_of_ble_eq_true rfl) (by show _ ≤ 601024; omega) (by show _ ≤ 7293034; omega) dL_law_734 rfl ?_
  refine sp_istore (i := 6) (lv' := [some (.ref b), some (.ref (sx_ad X 0)), some (.ref (sx_ad X 69)), some (.ref (sx_ad X 68)), some (.int i), some (.int v3), some (.int v6)]) (q := 739) hX dL_law_737 (Nat.le_of_ble_eq_true rfl) rfl rfl rfl ?_
  refine sp_aload_n (i := 2) (q := 740) hX dL_law_739 rfl rfl rfl ?_
  obtain ⟨μ8, v9, h7, hf⟩ := sp_bd_so hf
  refine lg_callVMi (As := []) (rest := []) (q := 743) hX (cnX12_thrown (sp_st hX) h7) cwL_114 rfl rfl rfl rfl (Nat.le_of_ble_eq_true rfl) (Nat.le_of_ble_eq_true rfl) (Nat.le_of_ble_eq_true rfl) (by show _ ≤ 601024; omega) (by show _ ≤ 7293034; omega) dL_law_740 rfl ?_
  refine sp_iload (i := 5) (q := 745) hX dL_law_743 rfl rfl ?_
  refine sp_icmp_eq (tgt := 750) (q := 748) hX dL_law_745 (by decide) rfl (fun hc => ?_) (fun hc => ?_)
  · rw [if_pos hc] at hf
    refine sp_iload (i := 5) (q := 752) hX dL_law_750 rfl rfl ?_
    refine sp_if_ne (tgt := 767) (q := 755) hX dL_law_752 (by decide) rfl (fun hc => ?_) (fun hc => ?_)
    · rw [if_neg hc] at hf
      refine sp_goto (tgt := 2170) hX dL_law_767 (by decide) ?_
      cases hf
      refine sp_drop (lv' := [some (.ref b), some (.ref (sx_ad X 0)), some (.ref (sx_ad X 69)), some (.ref (sx_ad X 68)), some (.int i), none, none]) (And.intro rfl (And.intro rfl (And.intro rfl (And.intro rfl (And.intro rfl trivial))))) ?_
      refine sp_wid (a := kc + 4) (b := ks + 24) (by omega) (by omega) ?_
      exact hk
    · rw [if_pos hc] at hf
      refine sp_aload_n (i := 3) (q := 756) hX dL_law_755 rfl rfl rfl ?_
      refine sp_iconst (v := 0) (q := 757) hX dL_law_756 li_0 rfl ?_
      refine sp_lald (q := 758) hX arL_68 (by decide) dL_law_757 rfl ?_
      refine sp_nml (x := sp_gl σ2 68 (0 : Int32)) lg_g68.symm ?_
      refine sp_iload (i := 6) (q := 760) hX dL_law_758 rfl rfl ?_
      refine sp_i2l (q := 761) hX dL_law_760 rfl ?_
      refine sp_lcmp (q := 762) hX dL_law_761 rfl ?_
      refine sp_if_eq (tgt := 767) (q := 765) hX dL_law_762 (by decide) rfl (fun hc => ?_) (fun hc => ?_)
      · rw [if_pos hc] at hf
        refine sp_goto (tgt := 2170) hX dL_law_767 (by decide) ?_
        cases hf
        refine sp_drop (lv' := [some (.ref b), some (.ref (sx_ad X 0)), some (.ref (sx_ad X 69)), some (.ref (sx_ad X 68)), some (.int i), none, none]) (And.intro rfl (And.intro rfl (And.intro rfl (And.intro rfl (And.intro rfl trivial))))) ?_
        refine sp_wid (a := kc + 4) (b := ks + 24) (by omega) (by omega) ?_
        exact hk
      · rw [if_neg hc] at hf
        refine sp_iconst (v := 0) (q := 766) hX dL_law_765 li_0 rfl ?_
        cases hf
  · rw [if_neg hc] at hf
    refine sp_iconst (v := 0) (q := 749) hX dL_law_748 li_0 rfl ?_
    cases hf
def LK10 (n : Nat) (σ μ : sp_St) (a1 a2 a3 a4 a5 : Int32) : Option (sp_St × sp_St) :=
  sp_bd (L_broth n σ a1 a2) fun σ2 v3 =>
  sp_bd (X12_broth n μ a1 a2) fun μ5 v6 =>
  sp_bd (X12_thrown n μ5) fun μ8 v9 =>
  if v9 = v3 then
    if v3 = 0 then
      if (lg_cmp (sp_gl σ2 68 (0 : Int32)) v6.toInt64) = 0 then
        some (σ2, μ8)
      else
        none
    else
      some (σ2, μ8)
  else
    none
set_option maxRecDepth 100000 in
set_option maxHeartbeats 8000000 in
theorem hLK10 {X : sp_X} (hX : sp_OK shL X cL_law RL 7 room_1) {b L : Nat} {xs : Nat → Int32} (hs : lg_scr X b L xs) {n : Nat} {i a1 a2 a3 a4 a5 : Int32} (ha : lg_arg L xs i a1 a2 a3 a4 a5) {σ μ τ υ : sp_St} {kc ks : Nat} (hkc : kc + 4 ≤ 601024) (hks : ks + 24 ≤ 7293034) (hf : LK10 n σ μ a1 a2 a3 a4 a5 = some (τ, υ)) (hk : sp_GG shL X (sp_pair τ υ) 7 [some (.ref b), some (.ref (sx_ad X 0)), some (.ref (sx_ad X 69)), some (.ref (sx_ad X 68)), some (.int i), none, none] [] 2170 (kc + 4) (ks + 24)) : sp_GG shL X (sp_pair σ μ) 7 [some (.ref b), some (.ref (sx_ad X 0)), some (.ref (sx_ad X 69)), some (.ref (sx_ad X 68)), some (.int i), none, none] [] 770 kc ks := by
  unfold LK10 at hf
  refine sp_aload_n (i := 1) (q := 771) hX dL_law_770 rfl rfl rfl ?_
  refine sp_aload_n (i := 0) (q := 772) hX dL_law_771 rfl rfl rfl ?_
  refine sp_iload (i := 4) (q := 774) hX dL_law_772 rfl rfl ?_
  refine sp_iconst (v := 1) (q := 775) hX dL_law_774 li_1 rfl ?_
  refine sp_iadd (q := 776) hX dL_law_775 rfl ?_
  refine lg_sld (q := 777) hX hs ha.1 dL_law_776 rfl ?_
  refine sp_aload_n (i := 0) (q := 778) hX dL_law_777 rfl rfl rfl ?_
  refine sp_iload (i := 4) (q := 780) hX dL_law_778 rfl rfl ?_
  refine sp_iconst (v := 2) (q := 781) hX dL_law_780 li_2 rfl ?_
  refine sp_iadd (q := 782) hX dL_law_781 rfl ?_
  refine lg_sld (q := 783) hX hs ha.2.1 dL_law_782 rfl ?_
  refine sp_aload_n (i := 3) (q := 784) hX dL_law_783 rfl rfl rfl ?_
  obtain ⟨σ2, v3, h1, hf⟩ := sp_bd_so hf
  refine lg_callWX (As := [.ref (sx_ad X 0), .int a1, .int a2, .ref (sx_ad X 68)]) (rest := []) (q := 787) hX (cnL_broth (sp_st hX) h1) cwwL_145 rfl rfl rfl rfl (Nat.le_of_ble_eq_true rfl) (Nat.le_of_ble_eq_true rfl) (Nat.le_of_ble_eq_true rfl) (by show _ ≤ 601024; omega) (by show _ ≤ 7293034; omega) dL_law_784 rfl ?_
  refine sp_istore (i := 5) (lv' := [some (.ref b), some (.ref (sx_ad X 0)), some (.ref (sx_ad X 69)), some (.ref (sx_ad X 68)), some (.int i), some (.int v3), none]) (q := 789) hX dL_law_787 (Nat.le_of_ble_eq_true rfl) rfl rfl rfl ?_
  refine sp_aload_n (i := 2) (q := 790) hX dL_law_789 rfl rfl rfl ?_
  refine sp_aload_n (i := 0) (q := 791) hX dL_law_790 rfl rfl rfl ?_
  refine sp_iload (i := 4) (q := 793) hX dL_law_791 rfl rfl ?_
  refine sp_iconst (v := 1) (q := 794) hX dL_law_793 li_1 rfl ?_
  refine sp_iadd (q := 795) hX dL_law_794 rfl ?_
  refine lg_sld (q := 796) hX hs ha.1 dL_law_795 rfl ?_
  refine sp_aload_n (i := 0) (q := 797) hX dL_law_796 rfl rfl rfl ?_
  refine sp_iload (i := 4) (q := 799) hX dL_law_797 rfl rfl ?_
  refine sp_iconst (v := 2) (q := 800) hX dL_law_799 li_2 rfl ?_
  refine sp_iadd (q := 801) hX dL_law_800 rfl ?_
  refine lg_sld (q := 802) hX hs ha.2.1 dL_law_801 rfl ?_
  obtain ⟨μ5, v6, h4, hf⟩ := sp_bd_so hf
  refine lg_callVMi (As := [.int a1, .int a2]) (rest := []) (q := 805) hX (cnX12_broth (sp_st hX) h4) cwL_147 rfl rfl rfl rfl (Nat.le_of_ble_eq_true rfl) (Nat.le_of_ble_eq_true rfl) (Nat.le_of_ble_eq_true rfl) (by show _ ≤ 601024; omega) (by show _ ≤ 7293034; omega) dL_law_802 rfl ?_
  refine sp_istore (i := 6) (lv' := [some (.ref b), some (.ref (sx_ad X 0)), some (.ref (sx_ad X 69)), some (.ref (sx_ad X 68)), some (.int i), some (.int v3), some (.int v6)]) (q := 807) hX dL_law_805 (Nat.le_of_ble_eq_true rfl) rfl rfl rfl ?_
  refine sp_aload_n (i := 2) (q := 808) hX dL_law_807 rfl rfl rfl ?_
  obtain ⟨μ8, v9, h7, hf⟩ := sp_bd_so hf
  refine lg_callVMi (As := []) (rest := []) (q := 811) hX (cnX12_thrown (sp_st hX) h7) cwL_114 rfl rfl rfl rfl (Nat.le_of_ble_eq_true rfl) (Nat.le_of_ble_eq_true rfl) (Nat.le_of_ble_eq_true rfl) (by show _ ≤ 601024; omega) (by show _ ≤ 7293034; omega) dL_law_808 rfl ?_
  refine sp_iload (i := 5) (q := 813) hX dL_law_811 rfl rfl ?_
  refine sp_icmp_eq (tgt := 818) (q := 816) hX dL_law_813 (by decide) rfl (fun hc => ?_) (fun hc => ?_)
  · rw [if_pos hc] at hf
    refine sp_iload (i := 5) (q := 820) hX dL_law_818 rfl rfl ?_
    refine sp_if_ne (tgt := 835) (q := 823) hX dL_law_820 (by decide) rfl (fun hc => ?_) (fun hc => ?_)
    · rw [if_neg hc] at hf
      refine sp_goto (tgt := 2170) hX dL_law_835 (by decide) ?_
      cases hf
      refine sp_drop (lv' := [some (.ref b), some (.ref (sx_ad X 0)), some (.ref (sx_ad X 69)), some (.ref (sx_ad X 68)), some (.int i), none, none]) (And.intro rfl (And.intro rfl (And.intro rfl (And.intro rfl (And.intro rfl trivial))))) ?_
      refine sp_wid (a := kc + 4) (b := ks + 24) (by omega) (by omega) ?_
      exact hk
    · rw [if_pos hc] at hf
      refine sp_aload_n (i := 3) (q := 824) hX dL_law_823 rfl rfl rfl ?_
      refine sp_iconst (v := 0) (q := 825) hX dL_law_824 li_0 rfl ?_
      refine sp_lald (q := 826) hX arL_68 (by decide) dL_law_825 rfl ?_
      refine sp_nml (x := sp_gl σ2 68 (0 : Int32)) lg_g68.symm ?_
      refine sp_iload (i := 6) (q := 828) hX dL_law_826 rfl rfl ?_
      refine sp_i2l (q := 829) hX dL_law_828 rfl ?_
      refine sp_lcmp (q := 830) hX dL_law_829 rfl ?_
      refine sp_if_eq (tgt := 835) (q := 833) hX dL_law_830 (by decide) rfl (fun hc => ?_) (fun hc => ?_)
      · rw [if_pos hc] at hf
        refine sp_goto (tgt := 2170) hX dL_law_835 (by decide) ?_
        cases hf
        refine sp_drop (lv' := [some (.ref b), some (.ref (sx_ad X 0)), some (.ref (sx_ad X 69)), some (.ref (sx_ad X 68)), some (.int i), none, none]) (And.intro rfl (And.intro rfl (And.intro rfl (And.intro rfl (And.intro rfl trivial))))) ?_
        refine sp_wid (a := kc + 4) (b := ks + 24) (by omega) (by omega) ?_
        exact hk
      · rw [if_neg hc] at hf
        refine sp_iconst (v := 0) (q := 834) hX dL_law_833 li_0 rfl ?_
        cases hf
  · rw [if_neg hc] at hf
    refine sp_iconst (v := 0) (q := 817) hX dL_law_816 li_0 rfl ?_
    cases hf
def LK11 (n : Nat) (σ μ : sp_St) (a1 a2 a3 a4 a5 : Int32) : Option (sp_St × sp_St) :=
  if a3 = 0 then
    sp_bd (L_make n σ a1 a2 ((0 : Int32))) fun σ2 v3 =>
    if a3 = 0 then
      sp_bd (X12_make n μ a1 a2 ((0 : Int32))) fun μ5 v6 =>
      sp_bd (X12_thrown n μ5) fun μ8 v9 =>
      if v9 = v3 then
        if v3 = 0 then
          if v6 = 0 then
            if (lg_cmp (sp_gl σ2 68 (0 : Int32)) ((0 : Int64))) = 0 then
              some (σ2, μ8)
            else
              none
          else
            if (lg_cmp (sp_gl σ2 68 (0 : Int32)) ((1 : Int64))) = 0 then
              some (σ2, μ8)
            else
              none
        else
          some (σ2, μ8)
      else
        none
    else
      sp_bd (X12_make n μ a1 a2 ((1 : Int32))) fun μ11 v12 =>
      sp_bd (X12_thrown n μ11) fun μ14 v15 =>
      if v15 = v3 then
        if v3 = 0 then
          if v12 = 0 then
            if (lg_cmp (sp_gl σ2 68 (0 : Int32)) ((0 : Int64))) = 0 then
              some (σ2, μ14)
            else
              none
          else
            if (lg_cmp (sp_gl σ2 68 (0 : Int32)) ((1 : Int64))) = 0 then
              some (σ2, μ14)
            else
              none
        else
          some (σ2, μ14)
      else
        none
  else
    sp_bd (L_make n σ a1 a2 ((1 : Int32))) fun σ17 v18 =>
    if a3 = 0 then
      sp_bd (X12_make n μ a1 a2 ((0 : Int32))) fun μ20 v21 =>
      sp_bd (X12_thrown n μ20) fun μ23 v24 =>
      if v24 = v18 then
        if v18 = 0 then
          if v21 = 0 then
            if (lg_cmp (sp_gl σ17 68 (0 : Int32)) ((0 : Int64))) = 0 then
              some (σ17, μ23)
            else
              none
          else
            if (lg_cmp (sp_gl σ17 68 (0 : Int32)) ((1 : Int64))) = 0 then
              some (σ17, μ23)
            else
              none
        else
          some (σ17, μ23)
      else
        none
    else
      sp_bd (X12_make n μ a1 a2 ((1 : Int32))) fun μ26 v27 =>
      sp_bd (X12_thrown n μ26) fun μ29 v30 =>
      if v30 = v18 then
        if v18 = 0 then
          if v27 = 0 then
            if (lg_cmp (sp_gl σ17 68 (0 : Int32)) ((0 : Int64))) = 0 then
              some (σ17, μ29)
            else
              none
          else
            if (lg_cmp (sp_gl σ17 68 (0 : Int32)) ((1 : Int64))) = 0 then
              some (σ17, μ29)
            else
              none
        else
          some (σ17, μ29)
      else
        none
set_option maxRecDepth 100000 in
set_option maxHeartbeats 8000000 in
theorem hLK11 {X : sp_X} (hX : sp_OK shL X cL_law RL 7 room_1) {b L : Nat} {xs : Nat → Int32} (hs : lg_scr X b L xs) {n : Nat} {i a1 a2 a3 a4 a5 : Int32} (ha : lg_arg L xs i a1 a2 a3 a4 a5) {σ μ τ υ : sp_St} {kc ks : Nat} (hkc : kc + 4 ≤ 601024) (hks : ks + 24 ≤ 7293034) (hf : LK11 n σ μ a1 a2 a3 a4 a5 = some (τ, υ)) (hk : sp_GG shL X (sp_pair τ υ) 7 [some (.ref b), some (.ref (sx_ad X 0)), some (.ref (sx_ad X 69)), some (.ref (sx_ad X 68)), some (.int i), none, none] [] 2170 (kc + 4) (ks + 24)) : sp_GG shL X (sp_pair σ μ) 7 [some (.ref b), some (.ref (sx_ad X 0)), some (.ref (sx_ad X 69)), some (.ref (sx_ad X 68)), some (.int i), none, none] [] 838 kc ks := by
  unfold LK11 at hf
  refine sp_aload_n (i := 1) (q := 839) hX dL_law_838 rfl rfl rfl ?_
  refine sp_aload_n (i := 0) (q := 840) hX dL_law_839 rfl rfl rfl ?_
  refine sp_iload (i := 4) (q := 842) hX dL_law_840 rfl rfl ?_
  refine sp_iconst (v := 1) (q := 843) hX dL_law_842 li_1 rfl ?_
  refine sp_iadd (q := 844) hX dL_law_843 rfl ?_
  refine lg_sld (q := 845) hX hs ha.1 dL_law_844 rfl ?_
  refine sp_aload_n (i := 0) (q := 846) hX dL_law_845 rfl rfl rfl ?_
  refine sp_iload (i := 4) (q := 848) hX dL_law_846 rfl rfl ?_
  refine sp_iconst (v := 2) (q := 849) hX dL_law_848 li_2 rfl ?_
  refine sp_iadd (q := 850) hX dL_law_849 rfl ?_
  refine lg_sld (q := 851) hX hs ha.2.1 dL_law_850 rfl ?_
  refine sp_aload_n (i := 0) (q := 852) hX dL_law_851 rfl rfl rfl ?_
  refine sp_iload (i := 4) (q := 854) hX dL_law_852 rfl rfl ?_
  refine sp_iconst (v := 3) (q := 855) hX dL_law_854 li_3 rfl ?_
  refine sp_iadd (q := 856) hX dL_law_855 rfl ?_
  refine lg_sld (q := 857) hX hs ha.2.2.1 dL_law_856 rfl ?_
  refine sp_if_eq (tgt := 864) (q := 860) hX dL_law_857 (by decide) rfl (fun hc => ?_) (fun hc => ?_)
  · rw [if_pos hc] at hf
    refine sp_iconst (v := 0) (q := 865) hX dL_law_864 li_0 rfl ?_
    refine sp_aload_n (i := 3) (q := 866) hX dL_law_865 rfl rfl rfl ?_
    obtain ⟨σ2, v3, h1, hf⟩ := sp_bd_so hf
    refine lg_callWX (As := [.ref (sx_ad X 0), .int a1, .int a2, .int ((0 : Int32)), .ref (sx_ad X 68)]) (rest := []) (q := 869) hX (cnL_make (sp_st hX) h1) cwwL_148 rfl rfl rfl rfl (Nat.le_of_ble_eq_true rfl) (Nat.le_of_ble_eq_true rfl) (Nat.le_of_ble_eq_true rfl) (by show _ ≤ 601024; omega) (by show _ ≤ 7293034; omega) dL_law_866 rfl ?_
    refine sp_istore (i := 5) (lv' := [some (.ref b), some (.ref (sx_ad X 0)), some (.ref (sx_ad X 69)), some (.ref (sx_ad X 68)), some (.int i), some (.int v3), none]) (q := 871) hX dL_law_869 (Nat.le_of_ble_eq_true rfl) rfl rfl rfl ?_
    refine sp_aload_n (i := 2) (q := 872) hX dL_law_871 rfl rfl rfl ?_
    refine sp_aload_n (i := 0) (q := 873) hX dL_law_872 rfl rfl rfl ?_
    refine sp_iload (i := 4) (q := 875) hX dL_law_873 rfl rfl ?_
    refine sp_iconst (v := 1) (q := 876) hX dL_law_875 li_1 rfl ?_
    refine sp_iadd (q := 877) hX dL_law_876 rfl ?_
    refine lg_sld (q := 878) hX hs ha.1 dL_law_877 rfl ?_
    refine sp_aload_n (i := 0) (q := 879) hX dL_law_878 rfl rfl rfl ?_
    refine sp_iload (i := 4) (q := 881) hX dL_law_879 rfl rfl ?_
    refine sp_iconst (v := 2) (q := 882) hX dL_law_881 li_2 rfl ?_
    refine sp_iadd (q := 883) hX dL_law_882 rfl ?_
    refine lg_sld (q := 884) hX hs ha.2.1 dL_law_883 rfl ?_
    refine sp_aload_n (i := 0) (q := 885) hX dL_law_884 rfl rfl rfl ?_
    refine sp_iload (i := 4) (q := 887) hX dL_law_885 rfl rfl ?_
    refine sp_iconst (v := 3) (q := 888) hX dL_law_887 li_3 rfl ?_
    refine sp_iadd (q := 889) hX dL_law_888 rfl ?_
    refine lg_sld (q := 890) hX hs ha.2.2.1 dL_law_889 rfl ?_
    refine sp_if_eq (tgt := 897) (q := 893) hX dL_law_890 (by decide) rfl (fun hc => ?_) (fun hc => ?_)
    · rw [if_pos hc] at hf
      refine sp_iconst (v := 0) (q := 898) hX dL_law_897 li_0 rfl ?_
      obtain ⟨μ5, v6, h4, hf⟩ := sp_bd_so hf
      refine lg_callVMi (As := [.int a1, .int a2, .int ((0 : Int32))]) (rest := []) (q := 901) hX (cnX12_make (sp_st hX) h4) cwL_151 rfl rfl rfl rfl (Nat.le_of_ble_eq_true rfl) (Nat.le_of_ble_eq_true rfl) (Nat.le_of_ble_eq_true rfl) (by show _ ≤ 601024; omega) (by show _ ≤ 7293034; omega) dL_law_898 rfl ?_
      refine sp_istore (i := 6) (lv' := [some (.ref b), some (.ref (sx_ad X 0)), some (.ref (sx_ad X 69)), some (.ref (sx_ad X 68)), some (.int i), some (.int v3), some (.int v6)]) (q := 903) hX dL_law_901 (Nat.le_of_ble_eq_true rfl) rfl rfl rfl ?_
      refine sp_aload_n (i := 2) (q := 904) hX dL_law_903 rfl rfl rfl ?_
      obtain ⟨μ8, v9, h7, hf⟩ := sp_bd_so hf
      refine lg_callVMi (As := []) (rest := []) (q := 907) hX (cnX12_thrown (sp_st hX) h7) cwL_114 rfl rfl rfl rfl (Nat.le_of_ble_eq_true rfl) (Nat.le_of_ble_eq_true rfl) (Nat.le_of_ble_eq_true rfl) (by show _ ≤ 601024; omega) (by show _ ≤ 7293034; omega) dL_law_904 rfl ?_
      refine sp_iload (i := 5) (q := 909) hX dL_law_907 rfl rfl ?_
      refine sp_icmp_eq (tgt := 914) (q := 912) hX dL_law_909 (by decide) rfl (fun hc => ?_) (fun hc => ?_)
      · rw [if_pos hc] at hf
        refine sp_iload (i := 5) (q := 916) hX dL_law_914 rfl rfl ?_
        refine sp_if_ne (tgt := 938) (q := 919) hX dL_law_916 (by decide) rfl (fun hc => ?_) (fun hc => ?_)
        · rw [if_neg hc] at hf
          refine sp_goto (tgt := 2170) hX dL_law_938 (by decide) ?_
          cases hf
          refine sp_drop (lv' := [some (.ref b), some (.ref (sx_ad X 0)), some (.ref (sx_ad X 69)), some (.ref (sx_ad X 68)), some (.int i), none, none]) (And.intro rfl (And.intro rfl (And.intro rfl (And.intro rfl (And.intro rfl trivial))))) ?_
          refine sp_wid (a := kc + 4) (b := ks + 24) (by omega) (by omega) ?_
          exact hk
        · rw [if_pos hc] at hf
          refine sp_aload_n (i := 3) (q := 920) hX dL_law_919 rfl rfl rfl ?_
          refine sp_iconst (v := 0) (q := 921) hX dL_law_920 li_0 rfl ?_
          refine sp_lald (q := 922) hX arL_68 (by decide) dL_law_921 rfl ?_
          refine sp_nml (x := sp_gl σ2 68 (0 : Int32)) lg_g68.symm ?_
          refine sp_iload (i := 6) (q := 924) hX dL_law_922 rfl rfl ?_
          refine sp_if_eq (tgt := 931) (q := 927) hX dL_law_924 (by decide) rfl (fun hc => ?_) (fun hc => ?_)
          · rw [if_pos hc] at hf
            refine sp_lconst (v := 0) (q := 932) hX dL_law_931 (by decide) rfl ?_
            refine sp_lcmp (q := 933) hX dL_law_932 rfl ?_
            refine sp_if_eq (tgt := 938) (q := 936) hX dL_law_933 (by decide) rfl (fun hc => ?_) (fun hc => ?_)
            · rw [if_pos hc] at hf
              refine sp_goto (tgt := 2170) hX dL_law_938 (by decide) ?_
              cases hf
              refine sp_drop (lv' := [some (.ref b), some (.ref (sx_ad X 0)), some (.ref (sx_ad X 69)), some (.ref (sx_ad X 68)), some (.int i), none, none]) (And.intro rfl (And.intro rfl (And.intro rfl (And.intro rfl (And.intro rfl trivial))))) ?_
              refine sp_wid (a := kc + 4) (b := ks + 24) (by omega) (by omega) ?_
              exact hk
            · rw [if_neg hc] at hf
              refine sp_iconst (v := 0) (q := 937) hX dL_law_936 li_0 rfl ?_
              cases hf
          · rw [if_neg hc] at hf
            refine sp_lconst (v := 1) (q := 928) hX dL_law_927 (by decide) rfl ?_
            refine sp_goto (tgt := 932) hX dL_law_928 (by decide) ?_
            refine sp_lcmp (q := 933) hX dL_law_932 rfl ?_
            refine sp_if_eq (tgt := 938) (q := 936) hX dL_law_933 (by decide) rfl (fun hc => ?_) (fun hc => ?_)
            · rw [if_pos hc] at hf
              refine sp_goto (tgt := 2170) hX dL_law_938 (by decide) ?_
              cases hf
              refine sp_drop (lv' := [some (.ref b), some (.ref (sx_ad X 0)), some (.ref (sx_ad X 69)), some (.ref (sx_ad X 68)), some (.int i), none, none]) (And.intro rfl (And.intro rfl (And.intro rfl (And.intro rfl (And.intro rfl trivial))))) ?_
              refine sp_wid (a := kc + 4) (b := ks + 24) (by omega) (by omega) ?_
              exact hk
            · rw [if_neg hc] at hf
              refine sp_iconst (v := 0) (q := 937) hX dL_law_936 li_0 rfl ?_
              cases hf
      · rw [if_neg hc] at hf
        refine sp_iconst (v := 0) (q := 913) hX dL_law_912 li_0 rfl ?_
        cases hf
    · rw [if_neg hc] at hf
      refine sp_iconst (v := 1) (q := 894) hX dL_law_893 li_1 rfl ?_
      refine sp_goto (tgt := 898) hX dL_law_894 (by decide) ?_
      obtain ⟨μ11, v12, h10, hf⟩ := sp_bd_so hf
      refine lg_callVMi (As := [.int a1, .int a2, .int ((1 : Int32))]) (rest := []) (q := 901) hX (cnX12_make (sp_st hX) h10) cwL_151 rfl rfl rfl rfl (Nat.le_of_ble_eq_true rfl) (Nat.le_of_ble_eq_true rfl) (Nat.le_of_ble_eq_true rfl) (by show _ ≤ 601024; omega) (by show _ ≤ 7293034; omega) dL_law_898 rfl ?_
      refine sp_istore (i := 6) (lv' := [some (.ref b), some (.ref (sx_ad X 0)), some (.ref (sx_ad X 69)), some (.ref (sx_ad X 68)), some (.int i), some (.int v3), some (.int v12)]) (q := 903) hX dL_law_901 (Nat.le_of_ble_eq_true rfl) rfl rfl rfl ?_
      refine sp_aload_n (i := 2) (q := 904) hX dL_law_903 rfl rfl rfl ?_
      obtain ⟨μ14, v15, h13, hf⟩ := sp_bd_so hf
      refine lg_callVMi (As := []) (rest := []) (q := 907) hX (cnX12_thrown (sp_st hX) h13) cwL_114 rfl rfl rfl rfl (Nat.le_of_ble_eq_true rfl) (Nat.le_of_ble_eq_true rfl) (Nat.le_of_ble_eq_true rfl) (by show _ ≤ 601024; omega) (by show _ ≤ 7293034; omega) dL_law_904 rfl ?_
      refine sp_iload (i := 5) (q := 909) hX dL_law_907 rfl rfl ?_
      refine sp_icmp_eq (tgt := 914) (q := 912) hX dL_law_909 (by decide) rfl (fun hc => ?_) (fun hc => ?_)
      · rw [if_pos hc] at hf
        refine sp_iload (i := 5) (q := 916) hX dL_law_914 rfl rfl ?_
        refine sp_if_ne (tgt := 938) (q := 919) hX dL_law_916 (by decide) rfl (fun hc => ?_) (fun hc => ?_)
        · rw [if_neg hc] at hf
          refine sp_goto (tgt := 2170) hX dL_law_938 (by decide) ?_
          cases hf
          refine sp_drop (lv' := [some (.ref b), some (.ref (sx_ad X 0)), some (.ref (sx_ad X 69)), some (.ref (sx_ad X 68)), some (.int i), none, none]) (And.intro rfl (And.intro rfl (And.intro rfl (And.intro rfl (And.intro rfl trivial))))) ?_
          refine sp_wid (a := kc + 4) (b := ks + 24) (by omega) (by omega) ?_
          exact hk
        · rw [if_pos hc] at hf
          refine sp_aload_n (i := 3) (q := 920) hX dL_law_919 rfl rfl rfl ?_
          refine sp_iconst (v := 0) (q := 921) hX dL_law_920 li_0 rfl ?_
          refine sp_lald (q := 922) hX arL_68 (by decide) dL_law_921 rfl ?_
          refine sp_nml (x := sp_gl σ2 68 (0 : Int32)) lg_g68.symm ?_
          refine sp_iload (i := 6) (q := 924) hX dL_law_922 rfl rfl ?_
          refine sp_if_eq (tgt := 931) (q := 927) hX dL_law_924 (by decide) rfl (fun hc => ?_) (fun hc => ?_)
          · rw [if_pos hc] at hf
            refine sp_lconst (v := 0) (q := 932) hX dL_law_931 (by decide) rfl ?_
            refine sp_lcmp (q := 933) hX dL_law_932 rfl ?_
            refine sp_if_eq (tgt := 938) (q := 936) hX dL_law_933 (by decide) rfl (fun hc => ?_) (fun hc => ?_)
            · rw [if_pos hc] at hf
              refine sp_goto (tgt := 2170) hX dL_law_938 (by decide) ?_
              cases hf
              refine sp_drop (lv' := [some (.ref b), some (.ref (sx_ad X 0)), some (.ref (sx_ad X 69)), some (.ref (sx_ad X 68)), some (.int i), none, none]) (And.intro rfl (And.intro rfl (And.intro rfl (And.intro rfl (And.intro rfl trivial))))) ?_
              refine sp_wid (a := kc + 4) (b := ks + 24) (by omega) (by omega) ?_
              exact hk
            · rw [if_neg hc] at hf
              refine sp_iconst (v := 0) (q := 937) hX dL_law_936 li_0 rfl ?_
              cases hf
          · rw [if_neg hc] at hf
            refine sp_lconst (v := 1) (q := 928) hX dL_law_927 (by decide) rfl ?_
            refine sp_goto (tgt := 932) hX dL_law_928 (by decide) ?_
            refine sp_lcmp (q := 933) hX dL_law_932 rfl ?_
            refine sp_if_eq (tgt := 938) (q := 936) hX dL_law_933 (by decide) rfl (fun hc => ?_) (fun hc => ?_)
            · rw [if_pos hc] at hf
              refine sp_goto (tgt := 2170) hX dL_law_938 (by decide) ?_
              cases hf
              refine sp_drop (lv' := [some (.ref b), some (.ref (sx_ad X 0)), some (.ref (sx_ad X 69)), some (.ref (sx_ad X 68)), some (.int i), none, none]) (And.intro rfl (And.intro rfl (And.intro rfl (And.intro rfl (And.intro rfl trivial))))) ?_
              refine sp_wid (a := kc + 4) (b := ks + 24) (by omega) (by omega) ?_
              exact hk
            · rw [if_neg hc] at hf
              refine sp_iconst (v := 0) (q := 937) hX dL_law_936 li_0 rfl ?_
              cases hf
      · rw [if_neg hc] at hf
        refine sp_iconst (v := 0) (q := 913) hX dL_law_912 li_0 rfl ?_
        cases hf
  · rw [if_neg hc] at hf
    refine sp_iconst (v := 1) (q := 861) hX dL_law_860 li_1 rfl ?_
    refine sp_goto (tgt := 865) hX dL_law_861 (by decide) ?_
    refine sp_aload_n (i := 3) (q := 866) hX dL_law_865 rfl rfl rfl ?_
    obtain ⟨σ17, v18, h16, hf⟩ := sp_bd_so hf
    refine lg_callWX (As := [.ref (sx_ad X 0), .int a1, .int a2, .int ((1 : Int32)), .ref (sx_ad X 68)]) (rest := []) (q := 869) hX (cnL_make (sp_st hX) h16) cwwL_148 rfl rfl rfl rfl (Nat.le_of_ble_eq_true rfl) (Nat.le_of_ble_eq_true rfl) (Nat.le_of_ble_eq_true rfl) (by show _ ≤ 601024; omega) (by show _ ≤ 7293034; omega) dL_law_866 rfl ?_
    refine sp_istore (i := 5) (lv' := [some (.ref b), some (.ref (sx_ad X 0)), some (.ref (sx_ad X 69)), some (.ref (sx_ad X 68)), some (.int i), some (.int v18), none]) (q := 871) hX dL_law_869 (Nat.le_of_ble_eq_true rfl) rfl rfl rfl ?_
    refine sp_aload_n (i := 2) (q := 872) hX dL_law_871 rfl rfl rfl ?_
    refine sp_aload_n (i := 0) (q := 873) hX dL_law_872 rfl rfl rfl ?_
    refine sp_iload (i := 4) (q := 875) hX dL_law_873 rfl rfl ?_
    refine sp_iconst (v := 1) (q := 876) hX dL_law_875 li_1 rfl ?_
    refine sp_iadd (q := 877) hX dL_law_876 rfl ?_
    refine lg_sld (q := 878) hX hs ha.1 dL_law_877 rfl ?_
    refine sp_aload_n (i := 0) (q := 879) hX dL_law_878 rfl rfl rfl ?_
    refine sp_iload (i := 4) (q := 881) hX dL_law_879 rfl rfl ?_
    refine sp_iconst (v := 2) (q := 882) hX dL_law_881 li_2 rfl ?_
    refine sp_iadd (q := 883) hX dL_law_882 rfl ?_
    refine lg_sld (q := 884) hX hs ha.2.1 dL_law_883 rfl ?_
    refine sp_aload_n (i := 0) (q := 885) hX dL_law_884 rfl rfl rfl ?_
    refine sp_iload (i := 4) (q := 887) hX dL_law_885 rfl rfl ?_
    refine sp_iconst (v := 3) (q := 888) hX dL_law_887 li_3 rfl ?_
    refine sp_iadd (q := 889) hX dL_law_888 rfl ?_
    refine lg_sld (q := 890) hX hs ha.2.2.1 dL_law_889 rfl ?_
    refine sp_if_eq (tgt := 897) (q := 893) hX dL_law_890 (by decide) rfl (fun hc => ?_) (fun hc => ?_)
    · rw [if_pos hc] at hf
      refine sp_iconst (v := 0) (q := 898) hX dL_law_897 li_0 rfl ?_
      obtain ⟨μ20, v21, h19, hf⟩ := sp_bd_so hf
      refine lg_callVMi (As := [.int a1, .int a2, .int ((0 : Int32))]) (rest := []) (q := 901) hX (cnX12_make (sp_st hX) h19) cwL_151 rfl rfl rfl rfl (Nat.le_of_ble_eq_true rfl) (Nat.le_of_ble_eq_true rfl) (Nat.le_of_ble_eq_true rfl) (by show _ ≤ 601024; omega) (by show _ ≤ 7293034; omega) dL_law_898 rfl ?_
      refine sp_istore (i := 6) (lv' := [some (.ref b), some (.ref (sx_ad X 0)), some (.ref (sx_ad X 69)), some (.ref (sx_ad X 68)), some (.int i), some (.int v18), some (.int v21)]) (q := 903) hX dL_law_901 (Nat.le_of_ble_eq_true rfl) rfl rfl rfl ?_
      refine sp_aload_n (i := 2) (q := 904) hX dL_law_903 rfl rfl rfl ?_
      obtain ⟨μ23, v24, h22, hf⟩ := sp_bd_so hf
      refine lg_callVMi (As := []) (rest := []) (q := 907) hX (cnX12_thrown (sp_st hX) h22) cwL_114 rfl rfl rfl rfl (Nat.le_of_ble_eq_true rfl) (Nat.le_of_ble_eq_true rfl) (Nat.le_of_ble_eq_true rfl) (by show _ ≤ 601024; omega) (by show _ ≤ 7293034; omega) dL_law_904 rfl ?_
      refine sp_iload (i := 5) (q := 909) hX dL_law_907 rfl rfl ?_
      refine sp_icmp_eq (tgt := 914) (q := 912) hX dL_law_909 (by decide) rfl (fun hc => ?_) (fun hc => ?_)
      · rw [if_pos hc] at hf
        refine sp_iload (i := 5) (q := 916) hX dL_law_914 rfl rfl ?_
        refine sp_if_ne (tgt := 938) (q := 919) hX dL_law_916 (by decide) rfl (fun hc => ?_) (fun hc => ?_)
        · rw [if_neg hc] at hf
          refine sp_goto (tgt := 2170) hX dL_law_938 (by decide) ?_
          cases hf
          refine sp_drop (lv' := [some (.ref b), some (.ref (sx_ad X 0)), some (.ref (sx_ad X 69)), some (.ref (sx_ad X 68)), some (.int i), none, none]) (And.intro rfl (And.intro rfl (And.intro rfl (And.intro rfl (And.intro rfl trivial))))) ?_
          refine sp_wid (a := kc + 4) (b := ks + 24) (by omega) (by omega) ?_
          exact hk
        · rw [if_pos hc] at hf
          refine sp_aload_n (i := 3) (q := 920) hX dL_law_919 rfl rfl rfl ?_
          refine sp_iconst (v := 0) (q := 921) hX dL_law_920 li_0 rfl ?_
          refine sp_lald (q := 922) hX arL_68 (by decide) dL_law_921 rfl ?_
          refine sp_nml (x := sp_gl σ17 68 (0 : Int32)) lg_g68.symm ?_
          refine sp_iload (i := 6) (q := 924) hX dL_law_922 rfl rfl ?_
          refine sp_if_eq (tgt := 931) (q := 927) hX dL_law_924 (by decide) rfl (fun hc => ?_) (fun hc => ?_)
          · rw [if_pos hc] at hf
            refine sp_lconst (v := 0) (q := 932) hX dL_law_931 (by decide) rfl ?_
            refine sp_lcmp (q := 933) hX dL_law_932 rfl ?_
            refine sp_if_eq (tgt := 938) (q := 936) hX dL_law_933 (by decide) rfl (fun hc => ?_) (fun hc => ?_)
            · rw [if_pos hc] at hf
              refine sp_goto (tgt := 2170) hX dL_law_938 (by decide) ?_
              cases hf
              refine sp_drop (lv' := [some (.ref b), some (.ref (sx_ad X 0)), some (.ref (sx_ad X 69)), some (.ref (sx_ad X 68)), some (.int i), none, none]) (And.intro rfl (And.intro rfl (And.intro rfl (And.intro rfl (And.intro rfl trivial))))) ?_
              refine sp_wid (a := kc + 4) (b := ks + 24) (by omega) (by omega) ?_
              exact hk
            · rw [if_neg hc] at hf
              refine sp_iconst (v := 0) (q := 937) hX dL_law_936 li_0 rfl ?_
              cases hf
          · rw [if_neg hc] at hf
            refine sp_lconst (v := 1) (q := 928) hX dL_law_927 (by decide) rfl ?_
            refine sp_goto (tgt := 932) hX dL_law_928 (by decide) ?_
            refine sp_lcmp (q := 933) hX dL_law_932 rfl ?_
            refine sp_if_eq (tgt := 938) (q := 936) hX dL_law_933 (by decide) rfl (fun hc => ?_) (fun hc => ?_)
            · rw [if_pos hc] at hf
              refine sp_goto (tgt := 2170) hX dL_law_938 (by decide) ?_
              cases hf
              refine sp_drop (lv' := [some (.ref b), some (.ref (sx_ad X 0)), some (.ref (sx_ad X 69)), some (.ref (sx_ad X 68)), some (.int i), none, none]) (And.intro rfl (And.intro rfl (And.intro rfl (And.intro rfl (And.intro rfl trivial))))) ?_
              refine sp_wid (a := kc + 4) (b := ks + 24) (by omega) (by omega) ?_
              exact hk
            · rw [if_neg hc] at hf
              refine sp_iconst (v := 0) (q := 937) hX dL_law_936 li_0 rfl ?_
              cases hf
      · rw [if_neg hc] at hf
        refine sp_iconst (v := 0) (q := 913) hX dL_law_912 li_0 rfl ?_
        cases hf
    · rw [if_neg hc] at hf
      refine sp_iconst (v := 1) (q := 894) hX dL_law_893 li_1 rfl ?_
      refine sp_goto (tgt := 898) hX dL_law_894 (by decide) ?_
      obtain ⟨μ26, v27, h25, hf⟩ := sp_bd_so hf
      refine lg_callVMi (As := [.int a1, .int a2, .int ((1 : Int32))]) (rest := []) (q := 901) hX (cnX12_make (sp_st hX) h25) cwL_151 rfl rfl rfl rfl (Nat.le_of_ble_eq_true rfl) (Nat.le_of_ble_eq_true rfl) (Nat.le_of_ble_eq_true rfl) (by show _ ≤ 601024; omega) (by show _ ≤ 7293034; omega) dL_law_898 rfl ?_
      refine sp_istore (i := 6) (lv' := [some (.ref b), some (.ref (sx_ad X 0)), some (.ref (sx_ad X 69)), some (.ref (sx_ad X 68)), some (.int i), some (.int v18), some (.int v27)]) (q := 903) hX dL_law_901 (Nat.le_of_ble_eq_true rfl) rfl rfl rfl ?_
      refine sp_aload_n (i := 2) (q := 904) hX dL_law_903 rfl rfl rfl ?_
      obtain ⟨μ29, v30, h28, hf⟩ := sp_bd_so hf
      refine lg_callVMi (As := []) (rest := []) (q := 907) hX (cnX12_thrown (sp_st hX) h28) cwL_114 rfl rfl rfl rfl (Nat.le_of_ble_eq_true rfl) (Nat.le_of_ble_eq_true rfl) (Nat.le_of_ble_eq_true rfl) (by show _ ≤ 601024; omega) (by show _ ≤ 7293034; omega) dL_law_904 rfl ?_
      refine sp_iload (i := 5) (q := 909) hX dL_law_907 rfl rfl ?_
      refine sp_icmp_eq (tgt := 914) (q := 912) hX dL_law_909 (by decide) rfl (fun hc => ?_) (fun hc => ?_)
      · rw [if_pos hc] at hf
        refine sp_iload (i := 5) (q := 916) hX dL_law_914 rfl rfl ?_
        refine sp_if_ne (tgt := 938) (q := 919) hX dL_law_916 (by decide) rfl (fun hc => ?_) (fun hc => ?_)
        · rw [if_neg hc] at hf
          refine sp_goto (tgt := 2170) hX dL_law_938 (by decide) ?_
          cases hf
          refine sp_drop (lv' := [some (.ref b), some (.ref (sx_ad X 0)), some (.ref (sx_ad X 69)), some (.ref (sx_ad X 68)), some (.int i), none, none]) (And.intro rfl (And.intro rfl (And.intro rfl (And.intro rfl (And.intro rfl trivial))))) ?_
          refine sp_wid (a := kc + 4) (b := ks + 24) (by omega) (by omega) ?_
          exact hk
        · rw [if_pos hc] at hf
          refine sp_aload_n (i := 3) (q := 920) hX dL_law_919 rfl rfl rfl ?_
          refine sp_iconst (v := 0) (q := 921) hX dL_law_920 li_0 rfl ?_
          refine sp_lald (q := 922) hX arL_68 (by decide) dL_law_921 rfl ?_
          refine sp_nml (x := sp_gl σ17 68 (0 : Int32)) lg_g68.symm ?_
          refine sp_iload (i := 6) (q := 924) hX dL_law_922 rfl rfl ?_
          refine sp_if_eq (tgt := 931) (q := 927) hX dL_law_924 (by decide) rfl (fun hc => ?_) (fun hc => ?_)
          · rw [if_pos hc] at hf
            refine sp_lconst (v := 0) (q := 932) hX dL_law_931 (by decide) rfl ?_
            refine sp_lcmp (q := 933) hX dL_law_932 rfl ?_
            refine sp_if_eq (tgt := 938) (q := 936) hX dL_law_933 (by decide) rfl (fun hc => ?_) (fun hc => ?_)
            · rw [if_pos hc] at hf
              refine sp_goto (tgt := 2170) hX dL_law_938 (by decide) ?_
              cases hf
              refine sp_drop (lv' := [some (.ref b), some (.ref (sx_ad X 0)), some (.ref (sx_ad X 69)), some (.ref (sx_ad X 68)), some (.int i), none, none]) (And.intro rfl (And.intro rfl (And.intro rfl (And.intro rfl (And.intro rfl trivial))))) ?_
              refine sp_wid (a := kc + 4) (b := ks + 24) (by omega) (by omega) ?_
              exact hk
            · rw [if_neg hc] at hf
              refine sp_iconst (v := 0) (q := 937) hX dL_law_936 li_0 rfl ?_
              cases hf
          · rw [if_neg hc] at hf
            refine sp_lconst (v := 1) (q := 928) hX dL_law_927 (by decide) rfl ?_
            refine sp_goto (tgt := 932) hX dL_law_928 (by decide) ?_
            refine sp_lcmp (q := 933) hX dL_law_932 rfl ?_
            refine sp_if_eq (tgt := 938) (q := 936) hX dL_law_933 (by decide) rfl (fun hc => ?_) (fun hc => ?_)
            · rw [if_pos hc] at hf
              refine sp_goto (tgt := 2170) hX dL_law_938 (by decide) ?_
              cases hf
              refine sp_drop (lv' := [some (.ref b), some (.ref (sx_ad X 0)), some (.ref (sx_ad X 69)), some (.ref (sx_ad X 68)), some (.int i), none, none]) (And.intro rfl (And.intro rfl (And.intro rfl (And.intro rfl (And.intro rfl trivial))))) ?_
              refine sp_wid (a := kc + 4) (b := ks + 24) (by omega) (by omega) ?_
              exact hk
            · rw [if_neg hc] at hf
              refine sp_iconst (v := 0) (q := 937) hX dL_law_936 li_0 rfl ?_
              cases hf
      · rw [if_neg hc] at hf
        refine sp_iconst (v := 0) (q := 913) hX dL_law_912 li_0 rfl ?_
        cases hf
def LK12 (n : Nat) (σ μ : sp_St) (a1 a2 a3 a4 a5 : Int32) : Option (sp_St × sp_St) :=
  sp_bd (X11_undo n σ) fun σ2 v3 =>
  sp_bd (X12_undo n μ) fun μ5 v6 =>
  if v3 = v6 then
    some (σ2, μ5)
  else
    none
set_option maxRecDepth 100000 in
set_option maxHeartbeats 8000000 in
theorem hLK12 {X : sp_X} (hX : sp_OK shL X cL_law RL 7 room_1) {b L : Nat} {xs : Nat → Int32} (hs : lg_scr X b L xs) {n : Nat} {i a1 a2 a3 a4 a5 : Int32} (ha : lg_arg L xs i a1 a2 a3 a4 a5) {σ μ τ υ : sp_St} {kc ks : Nat} (hkc : kc + 4 ≤ 601024) (hks : ks + 24 ≤ 7293034) (hf : LK12 n σ μ a1 a2 a3 a4 a5 = some (τ, υ)) (hk : sp_GG shL X (sp_pair τ υ) 7 [some (.ref b), some (.ref (sx_ad X 0)), some (.ref (sx_ad X 69)), some (.ref (sx_ad X 68)), some (.int i), none, none] [] 2170 (kc + 4) (ks + 24)) : sp_GG shL X (sp_pair σ μ) 7 [some (.ref b), some (.ref (sx_ad X 0)), some (.ref (sx_ad X 69)), some (.ref (sx_ad X 68)), some (.int i), none, none] [] 941 kc ks := by
  unfold LK12 at hf
  refine sp_aload_n (i := 1) (q := 942) hX dL_law_941 rfl rfl rfl ?_
  obtain ⟨σ2, v3, h1, hf⟩ := sp_bd_so hf
  refine lg_callVXi (As := []) (rest := []) (q := 945) hX (cnX11_undo (sp_st hX) h1) cwL_152 rfl rfl rfl rfl (Nat.le_of_ble_eq_true rfl) (Nat.le_of_ble_eq_true rfl) (Nat.le_of_ble_eq_true rfl) (by show _ ≤ 601024; omega) (by show _ ≤ 7293034; omega) dL_law_942 rfl ?_
  refine sp_aload_n (i := 2) (q := 946) hX dL_law_945 rfl rfl rfl ?_
  obtain ⟨μ5, v6, h4, hf⟩ := sp_bd_so hf
  refine lg_callVMi (As := []) (rest := [.int v3]) (q := 949) hX (cnX12_undo (sp_st hX) h4) cwL_155 rfl rfl rfl rfl (Nat.le_of_ble_eq_true rfl) (Nat.le_of_ble_eq_true rfl) (Nat.le_of_ble_eq_true rfl) (by show _ ≤ 601024; omega) (by show _ ≤ 7293034; omega) dL_law_946 rfl ?_
  refine sp_icmp_eq (tgt := 2170) (q := 952) hX dL_law_949 (by decide) rfl (fun hc => ?_) (fun hc => ?_)
  · rw [if_pos hc] at hf
    cases hf
    refine sp_wid (a := kc + 4) (b := ks + 24) (by omega) (by omega) ?_
    exact hk
  · rw [if_neg hc] at hf
    refine sp_iconst (v := 0) (q := 953) hX dL_law_952 li_0 rfl ?_
    cases hf
