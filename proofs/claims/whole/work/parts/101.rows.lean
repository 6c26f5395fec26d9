-- ===== TEXTS (literals of the claim, by place) =====
def sp_lenS : List Nat := [5, 6, 3, 4, 6, 5, 3, 3, 2, 8, 5, 5, 4, 9, 5, 9]
def sp_bytS : List (List Int32) := [[97, 110, 103, 101, 114], [108, 101, 110, 103, 116, 104], [100, 97, 121], [102, 111, 101, 115], [119, 105, 116, 104, 105, 110], [97, 98, 111, 118, 101], [110, 111, 116], [97, 110, 100], [111, 114], [112, 97, 116, 105, 101, 110, 99, 101], [99, 111, 111, 108, 115], [114, 105, 115, 101, 115], [102, 101, 117, 100], [115, 119, 97, 108, 108, 111, 119, 101, 114], [98, 108, 97, 100, 101], [59, 40, 41, 43, 45, 42, 47, 60, 61]]
def sp_lits : List (String × Nat × String × Nat) := [("SwordPeace$Reader", 199, "anger", 0), ("SwordPeaceModel", 11, "anger", 0), ("SwordPeace$Reader", 200, "length", 1), ("SwordPeaceModel", 13, "length", 1), ("SwordPeace$Reader", 201, "day", 2), ("SwordPeaceModel", 15, "day", 2), ("SwordPeace$Reader", 203, "foes", 3), ("SwordPeaceModel", 17, "foes", 3), ("SwordPeace$Reader", 205, "within", 4), ("SwordPeaceModel", 19, "within", 4), ("SwordPeace$Reader", 207, "above", 5), ("SwordPeaceModel", 21, "above", 5), ("SwordPeace$Reader", 181, "not", 6), ("SwordPeaceModel", 265, "not", 6), ("SwordPeace$Reader", 179, "and", 7), ("SwordPeaceModel", 273, "and", 7), ("SwordPeace$Reader", 169, "or", 8), ("SwordPeaceModel", 278, "or", 8), ("SwordPeace$Reader", 66, "patience", 9), ("SwordPeaceModel", 287, "patience", 9), ("SwordPeace$Reader", 71, "cools", 10), ("SwordPeaceModel", 289, "cools", 10), ("SwordPeace$Reader", 76, "rises", 11), ("SwordPeaceModel", 291, "rises", 11), ("SwordPeace$Reader", 47, "feud", 12), ("SwordPeaceModel", 297, "feud", 12), ("SwordPeace$Reader", 56, "swallower", 13), ("SwordPeaceModel", 302, "swallower", 13), ("SwordPeace$Reader", 61, "blade", 14), ("SwordPeaceModel", 307, "blade", 14), ("SwordPeace$Tokens", 70, ";()+-*/<=", 15)]

-- ===== WHAT STAYS OF THE START: two statics of Throwable, one of String, the texts =====
def sp_decl : List Cond := [.declares (Bundle.init0 "java/lang/RuntimeException"), .declares (Bundle.init0 "java/lang/Exception"), .declares (Bundle.init0 "java/lang/Throwable")]
def sp_nest : List Cond := [.methodLinkNest "SwordPeace" 19 ⟨"SwordPeace$City", "<init>", "()V"⟩ "SwordPeace", .methodLinkNest "SwordPeace$Chronicle" 11 ⟨"SwordPeace$Sights", "<init>", "()V"⟩ "SwordPeace", .methodLinkNest "SwordPeace$Scene" 26 ⟨"SwordPeace$Abacus", "<init>", "()V"⟩ "SwordPeace"]
def sp_nws : List Cond := .castable "java/util/NoSuchElementException" "java/util/NoSuchElementException" :: .castable "java/lang/IllegalArgumentException" "java/lang/IllegalArgumentException" :: (sp_decl ++ sp_nest)
theorem sp_nws_ot : ∀ v ∈ sp_nws, v.onTables = true := by decide +kernel
theorem sp_nws_warm {s U : State} (hW : s.WarmedH U.vm) : ∀ v ∈ sp_nws, va_Nw v s → va_Nw v U := by
  intro v hv h
  simp only [sp_nws, sp_decl, sp_nest, List.mem_cons, List.mem_append, List.not_mem_nil, or_false] at hv
  rcases hv with rfl | rfl | (rfl | rfl | rfl) | rfl | rfl | rfl
  · exact va_Nw.warmC hW h
  · exact va_Nw.warmC hW h
  · exact va_Nw.warmD hW h
  · exact va_Nw.warmD hW h
  · exact va_Nw.warmD hW h
  · exact va_Nw.warmM hW h
  · exact va_Nw.warmM hW h
  · exact va_Nw.warmM hW h
def sp_Ev (w : sp_Wd) (A : Nat → Prop) (U : State) (H : Heap) : Prop := vx_Zq Bundle.tN "UNASSIGNED_STACK" Bundle.steD A U H ∧ vx_Zq Bundle.tN "SUPPRESSED_SENTINEL" Bundle.listD A U H ∧ va_Z "java/lang/String" "COMPACT_STRINGS" "Z" (.int 1) A U H ∧ va_Zq "jdk/internal/util/Preconditions" "SIOOBE_FORMATTER" "Ljava/util/function/BiFunction;" A U H ∧ (∀ i, i < 16 → vk_S 1 [sp_lenS.getD i 0] [sp_bytS.getD i []] (fun _ => w.2.2.1 0 i) (fun _ => w.2.2.1 1 i) A U H) ∧ (∀ q ∈ sp_lits, vk_R q.1 q.2.1 q.2.2.1 (w.2.2.1 0 q.2.2.2) U) ∧ (∀ v ∈ sp_nws, va_Nw v U) ∧ va_AO "java/lang/String" U ∧ va_Nc "java/lang/IllegalArgumentException" "java/util/NoSuchElementException" U
theorem sp_Ev.warm {w : sp_Wd} {A : Nat → Prop} {s U : State} {H : Heap} (hW : s.WarmedH U.vm) (h : sp_Ev w A s H) : sp_Ev w A U H := ⟨vx_Zq.moved hW.alike h.1, vx_Zq.moved hW.alike h.2.1, va_Z.moved hW.alike h.2.2.1, va_Zq.moved hW.alike h.2.2.2.1, fun i hi => vk_S.moved hW.alike (h.2.2.2.2.1 i hi), fun q hq => vk_R.warm hW (h.2.2.2.2.2.1 q hq), fun v hv => sp_nws_warm hW v hv (h.2.2.2.2.2.2.1 v hv), va_AO.moved hW.alike h.2.2.2.2.2.2.2.1, va_Nc.moved hW.alike h.2.2.2.2.2.2.2.2⟩
theorem sp_Ev.same {w : sp_Wd} {A : Nat → Prop} {u U : State} {H : Heap} (hv : U.vm = u.vm) (h : sp_Ev w A u H) : sp_Ev w A U H := by
  have ha : u.vm.Alike U.vm := by rw [hv]; exact Vm.Alike.refl _
  exact ⟨vx_Zq.moved ha h.1, vx_Zq.moved ha h.2.1, va_Z.moved ha h.2.2.1, va_Zq.moved ha h.2.2.2.1, fun i hi => vk_S.moved ha (h.2.2.2.2.1 i hi), fun q hq => vk_R.same hv (h.2.2.2.2.2.1 q hq), fun v h9 => va_Nw.same (sp_nws_ot v h9) hv.symm (h.2.2.2.2.2.2.1 v h9), va_AO.moved ha h.2.2.2.2.2.2.2.1, va_Nc.moved ha h.2.2.2.2.2.2.2.2⟩
theorem sp_Ev.kept {w : sp_Wd} {A : Nat → Prop} {U : State} {H H1 : Heap} (hq : ∀ a : Nat, a < H.size → ¬ A a → H1[a]? = H[a]?) (h : sp_Ev w A U H) : sp_Ev w A U H1 := ⟨vx_Zq.kept h.1 hq, vx_Zq.kept h.2.1 hq, va_Z.kept h.2.2.1 hq, va_Zq.kept h.2.2.2.1 hq, fun i hi => vk_S.kept (h.2.2.2.2.1 i hi) hq, h.2.2.2.2.2⟩
theorem sp_Ev.narrow {w : sp_Wd} {A B : Nat → Prop} {U : State} {H : Heap} (hAB : ∀ q, B q → A q) (h : sp_Ev w A U H) : sp_Ev w B U H := ⟨vx_Zq.narrow h.1 hAB, vx_Zq.narrow h.2.1 hAB, va_Z.narrow h.2.2.1 hAB, va_Zq.narrow h.2.2.2.1 hAB, fun i hi => vk_S.narrow (h.2.2.2.2.1 i hi) hAB, h.2.2.2.2.2⟩
-- ===== THE CONTEXT OF A BODY =====
abbrev sp_M : Type := Program × Launch × Env × Room × State × MethodId × Array Value × List Frame × Method × Code
abbrev sp_X : Type := sp_M × sp_Wd × (Nat → Prop) × (State → Prop)
abbrev sx_p (X : sp_X) : Program := X.1.1
abbrev sx_l (X : sp_X) : Launch := X.1.2.1
abbrev sx_e (X : sp_X) : Env := X.1.2.2.1
abbrev sx_R (X : sp_X) : Room := X.1.2.2.2.1
abbrev sx_s (X : sp_X) : State := X.1.2.2.2.2.1
abbrev sx_m (X : sp_X) : MethodId := X.1.2.2.2.2.2.1
abbrev sx_a (X : sp_X) : Array Value := X.1.2.2.2.2.2.2.1
abbrev sx_b (X : sp_X) : List Frame := X.1.2.2.2.2.2.2.2.1
abbrev sx_h (X : sp_X) : Method := X.1.2.2.2.2.2.2.2.2.1
abbrev sx_c (X : sp_X) : Code := X.1.2.2.2.2.2.2.2.2.2
abbrev sx_w (X : sp_X) : sp_Wd := X.2.1
abbrev sx_A (X : sp_X) : Nat → Prop := X.2.2.1
abbrev sx_Q (X : sp_X) : State → Prop := X.2.2.2
/-- the address of a place -/
abbrev sx_ad (X : sp_X) (p : Nat) : Nat := X.2.1.2.1 p
def sp_GG (sh : sp_Sh) (X : sp_X) (σ : sp_St) (nL : Nat) (lv : List (Option Value)) (st : List Value) (pc kc ks : Nat) : Prop :=
  ∀ (ls : Array Slot) (H : Heap) (locs : List Loc), sp_lv ls nL lv → va_P (sx_w X).1 vwCl (sp_wl sh (sx_w X) σ) H → va_S (sx_A X) (sx_s X).heap H locs → W (sx_p X) (sx_l X) (sx_e X) (sx_R X) (sx_s X) (sx_m X) (sx_a X) (sx_b X) (sx_h X) (sx_c X) H locs kc ks (sx_Q X) (F0 (sx_m X) pc ls st)
def sp_OK (sh : sp_Sh) (X : sp_X) (cc : ByteArray) (own : String) (nL : Nat) (rm : Room) : Prop :=
  (sx_p X).tables.exec = Jvm.exec ∧ (sx_c X).code = cc ∧ (sx_c X).maxLocals = nL ∧ (sx_s X).vm.findClass own = some (sx_m X).cls ∧ (∀ w ∈ sp_T, w.before (sx_a X) (sx_s X) = true) ∧ va_K (sx_w X).1 vwCl (sp_tys (sx_w X)) (sx_s X) ∧ sp_inj sh (sx_w X) ∧ (∀ i, i < sh.1 → sx_A X (sx_ad X i)) ∧ (∀ q, (sx_s X).heap.size ≤ q → sx_A X q) ∧ sx_R X = rm ∧ (sx_h X).locks = false ∧ (sx_l X).stackTraces = false ∧ sp_Ev (sx_w X) (sx_A X) (sx_s X) (sx_s X).heap ∧ ((sx_c X).exceptionTable.isEmpty = true ∨ own = "SwordPeaceLaw")
section SPR
variable {sh : sp_Sh} {X : sp_X} {σ : sp_St} {nL : Nat} {lv : List (Option Value)} {st : List Value} {pc kc ks : Nat} {cc : ByteArray} {own : String} {rm : Room} {q : Nat}
theorem sp_ex (h : sp_OK sh X cc own nL rm) : (sx_p X).tables.exec = Jvm.exec := h.1
theorem sp_co (h : sp_OK sh X cc own nL rm) : (sx_c X).code = cc := h.2.1
theorem sp_ml (h : sp_OK sh X cc own nL rm) : (sx_c X).maxLocals = nL := h.2.2.1
theorem sp_ow (h : sp_OK sh X cc own nL rm) : (sx_s X).vm.findClass own = some (sx_m X).cls := h.2.2.2.1
theorem sp_ts (h : sp_OK sh X cc own nL rm) : ∀ w ∈ sp_T, w.before (sx_a X) (sx_s X) = true := h.2.2.2.2.1
theorem sp_ka (h : sp_OK sh X cc own nL rm) : va_K (sx_w X).1 vwCl (sp_tys (sx_w X)) (sx_s X) := h.2.2.2.2.2.1
theorem sp_ij (h : sp_OK sh X cc own nL rm) : sp_inj sh (sx_w X) := h.2.2.2.2.2.2.1
theorem sp_aw (h : sp_OK sh X cc own nL rm) : ∀ i, i < sh.1 → sx_A X (sx_ad X i) := h.2.2.2.2.2.2.2.1
theorem sp_an (h : sp_OK sh X cc own nL rm) : ∀ q, (sx_s X).heap.size ≤ q → sx_A X q := h.2.2.2.2.2.2.2.2.1
theorem sp_rm (h : sp_OK sh X cc own nL rm) : sx_R X = rm := h.2.2.2.2.2.2.2.2.2.1
theorem sp_lo (h : sp_OK sh X cc own nL rm) : (sx_h X).locks = false := h.2.2.2.2.2.2.2.2.2.2.1
theorem sp_st (h : sp_OK sh X cc own nL rm) : (sx_l X).stackTraces = false := h.2.2.2.2.2.2.2.2.2.2.2.1
theorem sp_ev (h : sp_OK sh X cc own nL rm) : sp_Ev (sx_w X) (sx_A X) (sx_s X) (sx_s X).heap := h.2.2.2.2.2.2.2.2.2.2.2.2.1
theorem sp_nh (h : sp_OK sh X cc own nL rm) : (sx_c X).exceptionTable.isEmpty = true ∨ own = "SwordPeaceLaw" := h.2.2.2.2.2.2.2.2.2.2.2.2.2
theorem sp_dd (h : sp_OK sh X cc own nL rm) : va_D (sx_A X) (sp_wl sh (sx_w X) σ) := sp_D (sp_ij h) (sp_aw h)
/-- the same, at a value that is named -/
theorem sp_nm {v u : Value} (e : u = v) (k : sp_GG sh X σ nL lv (u :: st) pc kc ks) : sp_GG sh X σ nL lv (v :: st) pc kc ks := e ▸ k
theorem sp_to {σ' : sp_St} {lv' : List (Option Value)} {st' : List Value} (e1 : σ = σ') (e2 : lv = lv') (e3 : st = st') (k : sp_GG sh X σ' nL lv' st' pc kc ks) : sp_GG sh X σ nL lv st pc kc ks := by
  subst e1; subst e2; subst e3; exact k
theorem sp_wid {a b : Nat} (h1 : kc ≤ a) (h2 : ks ≤ b) (k : sp_GG sh X σ nL lv st pc a b) : sp_GG sh X σ nL lv st pc kc ks := fun ls H locs hl hP hS => W.widen h1 h2 (k ls H locs hl hP hS)
theorem sp_iconst (hX : sp_OK sh X cc own nL rm) {n : Int} {v : Int32} (hd : decode cc pc = .ok (.iconst n, 1)) (hv : Int32.ofInt n = v) (hq : pc + 1 = q) (k : sp_GG sh X σ nL lv (.int v :: st) q kc ks) : sp_GG sh X σ nL lv st pc kc ks := by
  subst hq
  exact fun ls H locs hl hP hS => lv_iconst (sp_ex hX) (sp_co hX) hd hv (k ls H locs hl hP hS)
theorem sp_bipush (hX : sp_OK sh X cc own nL rm) {n : Int} {v : Int32} (hd : decode cc pc = .ok (.bipush n, 2)) (hv : (Int8.ofInt n).toInt32 = v) (hq : pc + 2 = q) (k : sp_GG sh X σ nL lv (.int v :: st) q kc ks) : sp_GG sh X σ nL lv st pc kc ks := by
  subst hq
  exact fun ls H locs hl hP hS => lv_bipush (sp_ex hX) (sp_co hX) hd hv (k ls H locs hl hP hS)
theorem sp_sipush (hX : sp_OK sh X cc own nL rm) {n : Int} {v : Int32} (hd : decode cc pc = .ok (.sipush n, 3)) (hv : (Int16.ofInt n).toInt32 = v) (hq : pc + 3 = q) (k : sp_GG sh X σ nL lv (.int v :: st) q kc ks) : sp_GG sh X σ nL lv st pc kc ks := by
  subst hq
  exact fun ls H locs hl hP hS => lv_sipush (sp_ex hX) (sp_co hX) hd hv (k ls H locs hl hP hS)
theorem sp_lconst (hX : sp_OK sh X cc own nL rm) {n : Fin 2} {v : Int64} (hd : decode cc pc = .ok (.lconst n, 1)) (hv : Int64.ofNat (n : Nat) = v) (hq : pc + 1 = q) (k : sp_GG sh X σ nL lv (.long v :: st) q kc ks) : sp_GG sh X σ nL lv st pc kc ks := by
  subst hq
  exact fun ls H locs hl hP hS => lv_lconst (sp_ex hX) (sp_co hX) hd hv (k ls H locs hl hP hS)
theorem sp_iload_n (hX : sp_OK sh X cc own nL rm) {n : Fin 4} {i : Nat} {x : Int32} (hd : decode cc pc = .ok (.iload_n n, 1)) (hi : (n : Nat) = i) (hv : lv[i]? = some (some (.int x))) (hq : pc + 1 = q) (k : sp_GG sh X σ nL lv (.int x :: st) q kc ks) : sp_GG sh X σ nL lv st pc kc ks := by
  subst hq
  exact fun ls H locs hl hP hS => lv_iload_n (sp_ex hX) (sp_co hX) hd hi (hl.2.2 i _ hv) (k ls H locs hl hP hS)
theorem sp_iload (hX : sp_OK sh X cc own nL rm) {i : Nat} {x : Int32} (hd : decode cc pc = .ok (.iload i, 2)) (hv : lv[i]? = some (some (.int x))) (hq : pc + 2 = q) (k : sp_GG sh X σ nL lv (.int x :: st) q kc ks) : sp_GG sh X σ nL lv st pc kc ks := by
  subst hq
  exact fun ls H locs hl hP hS => lv_iload (sp_ex hX) (sp_co hX) hd (hl.2.2 i _ hv) (k ls H locs hl hP hS)
theorem sp_lload_n (hX : sp_OK sh X cc own nL rm) {n : Fin 4} {i : Nat} {x : Int64} (hd : decode cc pc = .ok (.lload_n n, 1)) (hi : (n : Nat) = i) (hv : lv[i]? = some (some (.long x))) (hq : pc + 1 = q) (k : sp_GG sh X σ nL lv (.long x :: st) q kc ks) : sp_GG sh X σ nL lv st pc kc ks := by
  subst hq
  exact fun ls H locs hl hP hS => lv_lload_n (sp_ex hX) (sp_co hX) hd hi (hl.2.2 i _ hv) (k ls H locs hl hP hS)
theorem sp_lload (hX : sp_OK sh X cc own nL rm) {i : Nat} {x : Int64} (hd : decode cc pc = .ok (.lload i, 2)) (hv : lv[i]? = some (some (.long x))) (hq : pc + 2 = q) (k : sp_GG sh X σ nL lv (.long x :: st) q kc ks) : sp_GG sh X σ nL lv st pc kc ks := by
  subst hq
  exact fun ls H locs hl hP hS => lv_lload (sp_ex hX) (sp_co hX) hd (hl.2.2 i _ hv) (k ls H locs hl hP hS)
theorem sp_aload_n (hX : sp_OK sh X cc own nL rm) {n : Fin 4} {i : Nat} {x : Nat} (hd : decode cc pc = .ok (.aload_n n, 1)) (hi : (n : Nat) = i) (hv : lv[i]? = some (some (.ref x))) (hq : pc + 1 = q) (k : sp_GG sh X σ nL lv (.ref x :: st) q kc ks) : sp_GG sh X σ nL lv st pc kc ks := by
  subst hq
  exact fun ls H locs hl hP hS => lv_aload_n (sp_ex hX) (sp_co hX) hd hi (hl.2.2 i _ hv) (k ls H locs hl hP hS)
theorem sp_aload (hX : sp_OK sh X cc own nL rm) {i : Nat} {x : Nat} (hd : decode cc pc = .ok (.aload i, 2)) (hv : lv[i]? = some (some (.ref x))) (hq : pc + 2 = q) (k : sp_GG sh X σ nL lv (.ref x :: st) q kc ks) : sp_GG sh X σ nL lv st pc kc ks := by
  subst hq
  exact fun ls H locs hl hP hS => lv_aload (sp_ex hX) (sp_co hX) hd (hl.2.2 i _ hv) (k ls H locs hl hP hS)
theorem sp_istore_n (hX : sp_OK sh X cc own nL rm) {n : Fin 4} {i : Nat} {x : Int32} {lv' : List (Option Value)} (hd : decode cc pc = .ok (.istore_n n, 1)) (hi : (n : Nat) = i) (hn : i < nL) (hc : sp_c1 lv = true) (hs : lv.set i (some (.int x)) = lv') (hq : pc + 1 = q) (k : sp_GG sh X σ nL lv' st q kc ks) : sp_GG sh X σ nL lv (.int x :: st) pc kc ks := by
  subst hq
  exact fun ls H locs hl hP hS => lv_istore_n (sp_ex hX) (sp_co hX) hd hi (sp_lv_has hl) hn rfl (fun ls' hl' => k ls' H locs (hs ▸ sp_lv_set hc hl') hP hS)
theorem sp_istore (hX : sp_OK sh X cc own nL rm) {i : Nat} {x : Int32} {lv' : List (Option Value)} (hd : decode cc pc = .ok (.istore i, 2)) (hn : i < nL) (hc : sp_c1 lv = true) (hs : lv.set i (some (.int x)) = lv') (hq : pc + 2 = q) (k : sp_GG sh X σ nL lv' st q kc ks) : sp_GG sh X σ nL lv (.int x :: st) pc kc ks := by
  subst hq
  exact fun ls H locs hl hP hS => lv_istore (sp_ex hX) (sp_co hX) hd (sp_lv_has hl) hn rfl (fun ls' hl' => k ls' H locs (hs ▸ sp_lv_set hc hl') hP hS)
theorem sp_astore_n (hX : sp_OK sh X cc own nL rm) {n : Fin 4} {i : Nat} {x : Nat} {lv' : List (Option Value)} (hd : decode cc pc = .ok (.astore_n n, 1)) (hi : (n : Nat) = i) (hn : i < nL) (hc : sp_c1 lv = true) (hs : lv.set i (some (.ref x)) = lv') (hq : pc + 1 = q) (k : sp_GG sh X σ nL lv' st q kc ks) : sp_GG sh X σ nL lv (.ref x :: st) pc kc ks := by
  subst hq
  exact fun ls H locs hl hP hS => lv_astore_n (sp_ex hX) (sp_co hX) hd hi (sp_lv_has hl) hn rfl (fun ls' hl' => k ls' H locs (hs ▸ sp_lv_set hc hl') hP hS)
theorem sp_astore (hX : sp_OK sh X cc own nL rm) {i : Nat} {x : Nat} {lv' : List (Option Value)} (hd : decode cc pc = .ok (.astore i, 2)) (hn : i < nL) (hc : sp_c1 lv = true) (hs : lv.set i (some (.ref x)) = lv') (hq : pc + 2 = q) (k : sp_GG sh X σ nL lv' st q kc ks) : sp_GG sh X σ nL lv (.ref x :: st) pc kc ks := by
  subst hq
  exact fun ls H locs hl hP hS => lv_astore (sp_ex hX) (sp_co hX) hd (sp_lv_has hl) hn rfl (fun ls' hl' => k ls' H locs (hs ▸ sp_lv_set hc hl') hP hS)
theorem sp_iinc (hX : sp_OK sh X cc own nL rm) {i : Nat} {n : Int} {x v : Int32} {lv' : List (Option Value)} (hd : decode cc pc = .ok (.iinc i n, 3)) (hv : lv[i]? = some (some (.int x))) (he : x + Int32.ofInt n = v) (hn : i < nL) (hc : sp_c1 lv = true) (hs : lv.set i (some (.int v)) = lv') (hq : pc + 3 = q) (k : sp_GG sh X σ nL lv' st q kc ks) : sp_GG sh X σ nL lv st pc kc ks := by
  subst hq
  intro ls H locs hl hP hS
  have hm := sp_prs_mem (lv := lv) (q := (i, .int x)) |>.mpr hv
  obtain ⟨j, hj⟩ := List.getElem?_of_mem hm
  exact lv_iinc (sp_ex hX) (sp_co hX) hd (sp_lv_has hl) hj he hn rfl (fun ls' hl' => k ls' H locs (hs ▸ sp_lv_set hc hl') hP hS)
theorem sp_iadd (hX : sp_OK sh X cc own nL rm) {x y : Int32} (hd : decode cc pc = .ok (.iadd, 1)) (hq : pc + 1 = q) (k : sp_GG sh X σ nL lv (.int (x + y) :: st) q kc ks) : sp_GG sh X σ nL lv (.int y :: .int x :: st) pc kc ks := by
  subst hq
  exact fun ls H locs hl hP hS => lv_iadd (sp_ex hX) (sp_co hX) hd (k ls H locs hl hP hS)
theorem sp_isub (hX : sp_OK sh X cc own nL rm) {x y : Int32} (hd : decode cc pc = .ok (.isub, 1)) (hq : pc + 1 = q) (k : sp_GG sh X σ nL lv (.int (x - y) :: st) q kc ks) : sp_GG sh X σ nL lv (.int y :: .int x :: st) pc kc ks := by
  subst hq
  exact fun ls H locs hl hP hS => lv_isub (sp_ex hX) (sp_co hX) hd (k ls H locs hl hP hS)
theorem sp_imul (hX : sp_OK sh X cc own nL rm) {x y : Int32} (hd : decode cc pc = .ok (.imul, 1)) (hq : pc + 1 = q) (k : sp_GG sh X σ nL lv (.int (x * y) :: st) q kc ks) : sp_GG sh X σ nL lv (.int y :: .int x :: st) pc kc ks := by
  subst hq
  exact fun ls H locs hl hP hS => lv_imul (sp_ex hX) (sp_co hX) hd (k ls H locs hl hP hS)
theorem sp_iand (hX : sp_OK sh X cc own nL rm) {x y : Int32} (hd : decode cc pc = .ok (.iand, 1)) (hq : pc + 1 = q) (k : sp_GG sh X σ nL lv (.int (x &&& y) :: st) q kc ks) : sp_GG sh X σ nL lv (.int y :: .int x :: st) pc kc ks := by
  subst hq
  exact fun ls H locs hl hP hS => lv_iand (sp_ex hX) (sp_co hX) hd (k ls H locs hl hP hS)
theorem sp_ior (hX : sp_OK sh X cc own nL rm) {x y : Int32} (hd : decode cc pc = .ok (.ior, 1)) (hq : pc + 1 = q) (k : sp_GG sh X σ nL lv (.int (x ||| y) :: st) q kc ks) : sp_GG sh X σ nL lv (.int y :: .int x :: st) pc kc ks := by
  subst hq
  exact fun ls H locs hl hP hS => lv_ior (sp_ex hX) (sp_co hX) hd (k ls H locs hl hP hS)
theorem sp_ixor (hX : sp_OK sh X cc own nL rm) {x y : Int32} (hd : decode cc pc = .ok (.ixor, 1)) (hq : pc + 1 = q) (k : sp_GG sh X σ nL lv (.int (x ^^^ y) :: st) q kc ks) : sp_GG sh X σ nL lv (.int y :: .int x :: st) pc kc ks := by
  subst hq
  exact fun ls H locs hl hP hS => lv_ixor (sp_ex hX) (sp_co hX) hd (k ls H locs hl hP hS)
theorem sp_ishl (hX : sp_OK sh X cc own nL rm) {x y : Int32} (hd : decode cc pc = .ok (.ishl, 1)) (hq : pc + 1 = q) (k : sp_GG sh X σ nL lv (.int (x <<< (y &&& 31)) :: st) q kc ks) : sp_GG sh X σ nL lv (.int y :: .int x :: st) pc kc ks := by
  subst hq
  exact fun ls H locs hl hP hS => lv_ishl (sp_ex hX) (sp_co hX) hd (k ls H locs hl hP hS)
theorem sp_ishr (hX : sp_OK sh X cc own nL rm) {x y : Int32} (hd : decode cc pc = .ok (.ishr, 1)) (hq : pc + 1 = q) (k : sp_GG sh X σ nL lv (.int (x >>> (y &&& 31)) :: st) q kc ks) : sp_GG sh X σ nL lv (.int y :: .int x :: st) pc kc ks := by
  subst hq
  exact fun ls H locs hl hP hS => lv_ishr (sp_ex hX) (sp_co hX) hd (k ls H locs hl hP hS)
theorem sp_iushr (hX : sp_OK sh X cc own nL rm) {x y : Int32} (hd : decode cc pc = .ok (.iushr, 1)) (hq : pc + 1 = q) (k : sp_GG sh X σ nL lv (.int ((x.toUInt32 >>> (y.toUInt32 &&& Int32.toUInt32 31)).toInt32) :: st) q kc ks) : sp_GG sh X σ nL lv (.int y :: .int x :: st) pc kc ks := by
  subst hq
  exact fun ls H locs hl hP hS => lv_iushr (sp_ex hX) (sp_co hX) hd rfl (k ls H locs hl hP hS)
theorem sp_ineg (hX : sp_OK sh X cc own nL rm) {x : Int32} (hd : decode cc pc = .ok (.ineg, 1)) (hq : pc + 1 = q) (k : sp_GG sh X σ nL lv (.int (-x) :: st) q kc ks) : sp_GG sh X σ nL lv (.int x :: st) pc kc ks := by
  subst hq
  exact fun ls H locs hl hP hS => lv_ineg (sp_ex hX) (sp_co hX) hd (k ls H locs hl hP hS)
theorem sp_idiv (hX : sp_OK sh X cc own nL rm) {x y : Int32} (hd : decode cc pc = .ok (.idiv, 1)) (hne : ¬ y = 0) (hq : pc + 1 = q) (k : sp_GG sh X σ nL lv (.int (x / y) :: st) q kc ks) : sp_GG sh X σ nL lv (.int y :: .int x :: st) pc kc ks := by
  subst hq
  exact fun ls H locs hl hP hS => lv_idiv (sp_ex hX) (sp_co hX) hd hne (k ls H locs hl hP hS)
theorem sp_irem (hX : sp_OK sh X cc own nL rm) {x y : Int32} (hd : decode cc pc = .ok (.irem, 1)) (hne : ¬ y = 0) (hq : pc + 1 = q) (k : sp_GG sh X σ nL lv (.int (x - x / y * y) :: st) q kc ks) : sp_GG sh X σ nL lv (.int y :: .int x :: st) pc kc ks := by
  subst hq
  exact fun ls H locs hl hP hS => lv_irem (sp_ex hX) (sp_co hX) hd hne (k ls H locs hl hP hS)
theorem sp_lor (hX : sp_OK sh X cc own nL rm) {x y : Int64} (hd : decode cc pc = .ok (.lor, 1)) (hq : pc + 1 = q) (k : sp_GG sh X σ nL lv (.long (x ||| y) :: st) q kc ks) : sp_GG sh X σ nL lv (.long y :: .long x :: st) pc kc ks := by
  subst hq
  exact fun ls H locs hl hP hS => lv_lor (sp_ex hX) (sp_co hX) hd (k ls H locs hl hP hS)
theorem sp_lshl (hX : sp_OK sh X cc own nL rm) {x : Int64} {y : Int32} (hd : decode cc pc = .ok (.lshl, 1)) (hq : pc + 1 = q) (k : sp_GG sh X σ nL lv (.long (x <<< (y.toInt64 &&& 63)) :: st) q kc ks) : sp_GG sh X σ nL lv (.int y :: .long x :: st) pc kc ks := by
  subst hq
  exact fun ls H locs hl hP hS => lv_lshl (sp_ex hX) (sp_co hX) hd rfl (k ls H locs hl hP hS)
theorem sp_i2l (hX : sp_OK sh X cc own nL rm) {x : Int32} (hd : decode cc pc = .ok (.i2l, 1)) (hq : pc + 1 = q) (k : sp_GG sh X σ nL lv (.long x.toInt64 :: st) q kc ks) : sp_GG sh X σ nL lv (.int x :: st) pc kc ks := by
  subst hq
  exact fun ls H locs hl hP hS => lv_i2l (sp_ex hX) (sp_co hX) hd rfl (k ls H locs hl hP hS)
theorem sp_i2c (hX : sp_OK sh X cc own nL rm) {x : Int32} (hd : decode cc pc = .ok (.i2c, 1)) (hq : pc + 1 = q) (k : sp_GG sh X σ nL lv (.int ((x.toUInt32 % 65536).toInt32) :: st) q kc ks) : sp_GG sh X σ nL lv (.int x :: st) pc kc ks := by
  subst hq
  exact fun ls H locs hl hP hS => lv_i2c (sp_ex hX) (sp_co hX) hd rfl (k ls H locs hl hP hS)
theorem sp_lcmp (hX : sp_OK sh X cc own nL rm) {x y : Int64} (hd : decode cc pc = .ok (.lcmp, 1)) (hq : pc + 1 = q) (k : sp_GG sh X σ nL lv (.int (lg_cmp x y) :: st) q kc ks) : sp_GG sh X σ nL lv (.long y :: .long x :: st) pc kc ks := by
  subst hq
  exact fun ls H locs hl hP hS => W.lcmp (sp_ex hX) (sp_co hX) hd (k ls H locs hl hP hS)
theorem sp_dup (hX : sp_OK sh X cc own nL rm) {v : Value} (hd : decode cc pc = .ok (.dup, 1)) (hv : v.category = 1) (hq : pc + 1 = q) (k : sp_GG sh X σ nL lv (v :: v :: st) q kc ks) : sp_GG sh X σ nL lv (v :: st) pc kc ks := by
  subst hq
  exact fun ls H locs hl hP hS => lv_dup (sp_ex hX) (sp_co hX) hd hv (k ls H locs hl hP hS)
theorem sp_pop (hX : sp_OK sh X cc own nL rm) {v : Value} (hd : decode cc pc = .ok (.pop, 1)) (hv : v.category = 1) (hq : pc + 1 = q) (k : sp_GG sh X σ nL lv st q kc ks) : sp_GG sh X σ nL lv (v :: st) pc kc ks := by
  subst hq
  exact fun ls H locs hl hP hS => lv_pop (sp_ex hX) (sp_co hX) hd hv (k ls H locs hl hP hS)
theorem sp_dup2 (hX : sp_OK sh X cc own nL rm) {u v : Value} (hd : decode cc pc = .ok (.dup2, 1)) (hu : u.category = 1) (hv : v.category = 1) (hq : pc + 1 = q) (k : sp_GG sh X σ nL lv (u :: v :: u :: v :: st) q kc ks) : sp_GG sh X σ nL lv (u :: v :: st) pc kc ks := by
  subst hq
  exact fun ls H locs hl hP hS => lv_dup2_11 (sp_ex hX) (sp_co hX) hd hu hv (k ls H locs hl hP hS)
theorem sp_dup_x1 (hX : sp_OK sh X cc own nL rm) {u v : Value} (hd : decode cc pc = .ok (.dup_x1, 1)) (hu : u.category = 1) (hv : v.category = 1) (hq : pc + 1 = q) (k : sp_GG sh X σ nL lv (u :: v :: u :: st) q kc ks) : sp_GG sh X σ nL lv (u :: v :: st) pc kc ks := by
  subst hq
  exact fun ls H locs hl hP hS => lv_dup_x1 (sp_ex hX) (sp_co hX) hd hu hv (k ls H locs hl hP hS)
theorem sp_if_eq (hX : sp_OK sh X cc own nL rm) {x : Int32} {off : Int} {tgt : Nat} (hd : decode cc pc = .ok (.ifCond .eq off, 3)) (ht : (pc : Int) + off = (tgt : Int)) (hq : pc + 3 = q) (kt : x = 0 → sp_GG sh X σ nL lv st tgt kc ks) (kf : ¬ x = 0 → sp_GG sh X σ nL lv st q kc ks) : sp_GG sh X σ nL lv (.int x :: st) pc kc ks := by
  subst hq
  exact fun ls H locs hl hP hS => lv_if_eq (sp_ex hX) (sp_co hX) hd ht (fun h => kt h ls H locs hl hP hS) (fun h => kf h ls H locs hl hP hS)
theorem sp_icmp_eq (hX : sp_OK sh X cc own nL rm) {x y : Int32} {off : Int} {tgt : Nat} (hd : decode cc pc = .ok (.if_icmp .eq off, 3)) (ht : (pc : Int) + off = (tgt : Int)) (hq : pc + 3 = q) (kt : x = y → sp_GG sh X σ nL lv st tgt kc ks) (kf : ¬ x = y → sp_GG sh X σ nL lv st q kc ks) : sp_GG sh X σ nL lv (.int y :: .int x :: st) pc kc ks := by
  subst hq
  exact fun ls H locs hl hP hS => lv_icmp_eq (sp_ex hX) (sp_co hX) hd ht (fun h => kt h ls H locs hl hP hS) (fun h => kf h ls H locs hl hP hS)
theorem sp_if_ne (hX : sp_OK sh X cc own nL rm) {x : Int32} {off : Int} {tgt : Nat} (hd : decode cc pc = .ok (.ifCond .ne off, 3)) (ht : (pc : Int) + off = (tgt : Int)) (hq : pc + 3 = q) (kt : ¬ x = 0 → sp_GG sh X σ nL lv st tgt kc ks) (kf : x = 0 → sp_GG sh X σ nL lv st q kc ks) : sp_GG sh X σ nL lv (.int x :: st) pc kc ks := by
  subst hq
  exact fun ls H locs hl hP hS => lv_if_ne (sp_ex hX) (sp_co hX) hd ht (fun h => kt h ls H locs hl hP hS) (fun h => kf h ls H locs hl hP hS)
theorem sp_icmp_ne (hX : sp_OK sh X cc own nL rm) {x y : Int32} {off : Int} {tgt : Nat} (hd : decode cc pc = .ok (.if_icmp .ne off, 3)) (ht : (pc : Int) + off = (tgt : Int)) (hq : pc + 3 = q) (kt : ¬ x = y → sp_GG sh X σ nL lv st tgt kc ks) (kf : x = y → sp_GG sh X σ nL lv st q kc ks) : sp_GG sh X σ nL lv (.int y :: .int x :: st) pc kc ks := by
  subst hq
  exact fun ls H locs hl hP hS => lv_icmp_ne (sp_ex hX) (sp_co hX) hd ht (fun h => kt h ls H locs hl hP hS) (fun h => kf h ls H locs hl hP hS)
theorem sp_if_lt (hX : sp_OK sh X cc own nL rm) {x : Int32} {off : Int} {tgt : Nat} (hd : decode cc pc = .ok (.ifCond .lt off, 3)) (ht : (pc : Int) + off = (tgt : Int)) (hq : pc + 3 = q) (kt : x < 0 → sp_GG sh X σ nL lv st tgt kc ks) (kf : ¬ x < 0 → sp_GG sh X σ nL lv st q kc ks) : sp_GG sh X σ nL lv (.int x :: st) pc kc ks := by
  subst hq
  exact fun ls H locs hl hP hS => lv_if_lt (sp_ex hX) (sp_co hX) hd ht (fun h => kt h ls H locs hl hP hS) (fun h => kf h ls H locs hl hP hS)
theorem sp_icmp_lt (hX : sp_OK sh X cc own nL rm) {x y : Int32} {off : Int} {tgt : Nat} (hd : decode cc pc = .ok (.if_icmp .lt off, 3)) (ht : (pc : Int) + off = (tgt : Int)) (hq : pc + 3 = q) (kt : x < y → sp_GG sh X σ nL lv st tgt kc ks) (kf : ¬ x < y → sp_GG sh X σ nL lv st q kc ks) : sp_GG sh X σ nL lv (.int y :: .int x :: st) pc kc ks := by
  subst hq
  exact fun ls H locs hl hP hS => lv_icmp_lt (sp_ex hX) (sp_co hX) hd ht (fun h => kt h ls H locs hl hP hS) (fun h => kf h ls H locs hl hP hS)
theorem sp_if_ge (hX : sp_OK sh X cc own nL rm) {x : Int32} {off : Int} {tgt : Nat} (hd : decode cc pc = .ok (.ifCond .ge off, 3)) (ht : (pc : Int) + off = (tgt : Int)) (hq : pc + 3 = q) (kt : 0 ≤ x → sp_GG sh X σ nL lv st tgt kc ks) (kf : ¬ 0 ≤ x → sp_GG sh X σ nL lv st q kc ks) : sp_GG sh X σ nL lv (.int x :: st) pc kc ks := by
  subst hq
  exact fun ls H locs hl hP hS => lv_if_ge (sp_ex hX) (sp_co hX) hd ht (fun h => kt h ls H locs hl hP hS) (fun h => kf h ls H locs hl hP hS)
theorem sp_icmp_ge (hX : sp_OK sh X cc own nL rm) {x y : Int32} {off : Int} {tgt : Nat} (hd : decode cc pc = .ok (.if_icmp .ge off, 3)) (ht : (pc : Int) + off = (tgt : Int)) (hq : pc + 3 = q) (kt : y ≤ x → sp_GG sh X σ nL lv st tgt kc ks) (kf : ¬ y ≤ x → sp_GG sh X σ nL lv st q kc ks) : sp_GG sh X σ nL lv (.int y :: .int x :: st) pc kc ks := by
  subst hq
  exact fun ls H locs hl hP hS => lv_icmp_ge (sp_ex hX) (sp_co hX) hd ht (fun h => kt h ls H locs hl hP hS) (fun h => kf h ls H locs hl hP hS)
theorem sp_if_gt (hX : sp_OK sh X cc own nL rm) {x : Int32} {off : Int} {tgt : Nat} (hd : decode cc pc = .ok (.ifCond .gt off, 3)) (ht : (pc : Int) + off = (tgt : Int)) (hq : pc + 3 = q) (kt : 0 < x → sp_GG sh X σ nL lv st tgt kc ks) (kf : ¬ 0 < x → sp_GG sh X σ nL lv st q kc ks) : sp_GG sh X σ nL lv (.int x :: st) pc kc ks := by
  subst hq
  exact fun ls H locs hl hP hS => lv_if_gt (sp_ex hX) (sp_co hX) hd ht (fun h => kt h ls H locs hl hP hS) (fun h => kf h ls H locs hl hP hS)
theorem sp_icmp_gt (hX : sp_OK sh X cc own nL rm) {x y : Int32} {off : Int} {tgt : Nat} (hd : decode cc pc = .ok (.if_icmp .gt off, 3)) (ht : (pc : Int) + off = (tgt : Int)) (hq : pc + 3 = q) (kt : y < x → sp_GG sh X σ nL lv st tgt kc ks) (kf : ¬ y < x → sp_GG sh X σ nL lv st q kc ks) : sp_GG sh X σ nL lv (.int y :: .int x :: st) pc kc ks := by
  subst hq
  exact fun ls H locs hl hP hS => lv_icmp_gt (sp_ex hX) (sp_co hX) hd ht (fun h => kt h ls H locs hl hP hS) (fun h => kf h ls H locs hl hP hS)
theorem sp_if_le (hX : sp_OK sh X cc own nL rm) {x : Int32} {off : Int} {tgt : Nat} (hd : decode cc pc = .ok (.ifCond .le off, 3)) (ht : (pc : Int) + off = (tgt : Int)) (hq : pc + 3 = q) (kt : x ≤ 0 → sp_GG sh X σ nL lv st tgt kc ks) (kf : ¬ x ≤ 0 → sp_GG sh X σ nL lv st q kc ks) : sp_GG sh X σ nL lv (.int x :: st) pc kc ks := by
  subst hq
  exact fun ls H locs hl hP hS => lv_if_le (sp_ex hX) (sp_co hX) hd ht (fun h => kt h ls H locs hl hP hS) (fun h => kf h ls H locs hl hP hS)
theorem sp_icmp_le (hX : sp_OK sh X cc own nL rm) {x y : Int32} {off : Int} {tgt : Nat} (hd : decode cc pc = .ok (.if_icmp .le off, 3)) (ht : (pc : Int) + off = (tgt : Int)) (hq : pc + 3 = q) (kt : x ≤ y → sp_GG sh X σ nL lv st tgt kc ks) (kf : ¬ x ≤ y → sp_GG sh X σ nL lv st q kc ks) : sp_GG sh X σ nL lv (.int y :: .int x :: st) pc kc ks := by
  subst hq
  exact fun ls H locs hl hP hS => lv_icmp_le (sp_ex hX) (sp_co hX) hd ht (fun h => kt h ls H locs hl hP hS) (fun h => kf h ls H locs hl hP hS)
theorem sp_goto (hX : sp_OK sh X cc own nL rm) {off : Int} {tgt : Nat} (hd : decode cc pc = .ok (.goto off, 3)) (ht : (pc : Int) + off = (tgt : Int)) (k : sp_GG sh X σ nL lv st tgt kc ks) : sp_GG sh X σ nL lv st pc kc ks := fun ls H locs hl hP hS => lv_goto (sp_ex hX) (sp_co hX) hd ht (k ls H locs hl hP hS)
theorem sp_tblIn (hX : sp_OK sh X cc own nL rm) {dflt lo hi : Int} {offs : Array Int} {len : Nat} {x : Int32} {off : Int} {tgt : Nat} (hd : decode cc pc = .ok (.tableswitch dflt lo hi offs, len)) (h1 : ¬ x.toInt < lo) (h2 : ¬ hi < x.toInt) (ho : offs[(x.toInt - lo).toNat]? = some off) (ht : (pc : Int) + off = (tgt : Int)) (k : sp_GG sh X σ nL lv st tgt kc ks) : sp_GG sh X σ nL lv (.int x :: st) pc kc ks := fun ls H locs hl hP hS => lv_tableIn (sp_ex hX) (sp_co hX) hd h1 h2 ho ht (k ls H locs hl hP hS)
theorem sp_tblOut (hX : sp_OK sh X cc own nL rm) {dflt lo hi : Int} {offs : Array Int} {len : Nat} {x : Int32} {tgt : Nat} (hd : decode cc pc = .ok (.tableswitch dflt lo hi offs, len)) (h : x.toInt < lo ∨ hi < x.toInt) (ht : (pc : Int) + dflt = (tgt : Int)) (k : sp_GG sh X σ nL lv st tgt kc ks) : sp_GG sh X σ nL lv (.int x :: st) pc kc ks := fun ls H locs hl hP hS => lv_tableOut (sp_ex hX) (sp_co hX) hd h ht (k ls H locs hl hP hS)
theorem sp_ldc (hX : sp_OK sh X cc own nL rm) {i : Nat} {v : Int32} (hw : .constant own i v ∈ sp_T) (hd : decode cc pc = .ok (.ldc i, 2)) (hq : pc + 2 = q) (k : sp_GG sh X σ nL lv (.int v :: st) q kc ks) : sp_GG sh X σ nL lv st pc kc ks := by
  subst hq
  exact fun ls H locs hl hP hS => lv_ldc (sp_ex hX) (sp_co hX) (sp_ow hX) (sp_ts hX _ hw) hd (k ls H locs hl hP hS)
theorem sp_ldcw (hX : sp_OK sh X cc own nL rm) {i : Nat} {v : Int32} (hw : .constant own i v ∈ sp_T) (hd : decode cc pc = .ok (.ldc_w i, 3)) (hq : pc + 3 = q) (k : sp_GG sh X σ nL lv (.int v :: st) q kc ks) : sp_GG sh X σ nL lv st pc kc ks := by
  subst hq
  exact fun ls H locs hl hP hS => lv_ldcw (sp_ex hX) (sp_co hX) (sp_ow hX) (sp_ts hX _ hw) hd (k ls H locs hl hP hS)
theorem sp_ldc2 (hX : sp_OK sh X cc own nL rm) {i : Nat} {v : Int64} (hw : .constantLong own i v ∈ sp_T) (hd : decode cc pc = .ok (.ldc2_w i, 3)) (hq : pc + 3 = q) (k : sp_GG sh X σ nL lv (.long v :: st) q kc ks) : sp_GG sh X σ nL lv st pc kc ks := by
  subst hq
  exact fun ls H locs hl hP hS => lv_ldc2 (sp_ex hX) (sp_co hX) (sp_ow hX) (sp_ts hX _ hw) hd (k ls H locs hl hP hS)
theorem sp_mmax (hX : sp_OK sh X cc own nL rm) {x y : Int32} {i : Nat} (h1 : .methodLink own i Lib.Math.max.name ∈ sp_T) (h2 : Cond.static Lib.Math.max.name ∈ sp_T) (h3 : Cond.initialized "java/lang/Math" ∈ sp_T) (h4 : Cond.code Lib.Math.max.name Lib.Math.max.code 2 (some .int) ∈ sp_T) (h5 : 1 ≤ rm.frames) (h6 : (st.map fun v => v.category).sum + 13 ≤ rm.locals) (h7 : kc ≤ rm.cells) (h8 : ks ≤ rm.slots) (hd : decode cc pc = .ok (.invokestatic i, 3)) (hq : pc + 3 = q) (k : sp_GG sh X σ nL lv (.int (if x < y then y else x) :: st) q kc ks) : sp_GG sh X σ nL lv (.int y :: .int x :: st) pc kc ks := by
  subst hq
  have hr := sp_rm hX
  exact fun ls H locs hl hP hS => va_mmax (sp_ex hX) (sp_co hX) (by rw [sp_ml hX, hl.1]) (sp_ow hX) (sp_ts hX _ h1) (sp_ts hX _ h2) (sp_ts hX _ h3) (sp_ts hX _ h4) (by rw [hr]; exact h5) (by rw [hr]; exact h6) (by rw [hr]; exact h7) (by rw [hr]; exact h8) hd (k ls H locs hl hP hS)
theorem sp_mmin (hX : sp_OK sh X cc own nL rm) {x y : Int32} {i : Nat} (h1 : .methodLink own i Lib.Math.min.name ∈ sp_T) (h2 : Cond.static Lib.Math.min.name ∈ sp_T) (h3 : Cond.initialized "java/lang/Math" ∈ sp_T) (h4 : Cond.code Lib.Math.min.name Lib.Math.min.code 2 (some .int) ∈ sp_T) (h5 : 1 ≤ rm.frames) (h6 : (st.map fun v => v.category).sum + 13 ≤ rm.locals) (h7 : kc ≤ rm.cells) (h8 : ks ≤ rm.slots) (hd : decode cc pc = .ok (.invokestatic i, 3)) (hq : pc + 3 = q) (k : sp_GG sh X σ nL lv (.int (if y < x then y else x) :: st) q kc ks) : sp_GG sh X σ nL lv (.int y :: .int x :: st) pc kc ks := by
  subst hq
  have hr := sp_rm hX
  exact fun ls H locs hl hP hS => va_mmin (sp_ex hX) (sp_co hX) (by rw [sp_ml hX, hl.1]) (sp_ow hX) (sp_ts hX _ h1) (sp_ts hX _ h2) (sp_ts hX _ h3) (sp_ts hX _ h4) (by rw [hr]; exact h5) (by rw [hr]; exact h6) (by rw [hr]; exact h7) (by rw [hr]; exact h8) hd (k ls H locs hl hP hS)
end SPR
