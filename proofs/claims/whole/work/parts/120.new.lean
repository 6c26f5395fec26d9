-- ===== CONSTRUCTORS: a world that grows, cell by cell =====
def shE : sp_Sh := (0, fun _ => (0, 0), fun _ _ => 0, fun _ _ => 0)
def ng_A (h : Nat) (sz : Nat) : Nat → Prop := fun z => z = h ∨ sz ≤ z
def ng_G (X : sp_X) (ws : va_W) (nL : Nat) (lv : List (Option Value)) (st : List Value) (pc kc ks : Nat) : Prop :=
  ∀ (ls : Array Slot) (H : Heap) (locs : List Loc), sp_lv ls nL lv → va_P (sx_w X).1 vwCl ws H → va_D (sx_A X) ws → va_S (sx_A X) (sx_s X).heap H locs → W (sx_p X) (sx_l X) (sx_e X) (sx_R X) (sx_s X) (sx_m X) (sx_a X) (sx_b X) (sx_h X) (sx_c X) H locs kc ks (sx_Q X) (F0 (sx_m X) pc ls st)
def ng_pre (w : sp_Wd) (h0 ci : Nat) (fs0 : List Value) (sz : Nat) (U : State) : Prop := U.heap.size = sz ∧ va_P w.1 vwCl [(h0, .inr (ci, fs0))] U.heap ∧ va_K w.1 vwCl (sp_tys w) U ∧ sp_Ev w (ng_A h0 sz) U U.heap
def ng_be (w : sp_Wd) (A : Nat → Prop) (L : (Nat → Nat) → va_W) (q : Nat → Nat) (t : State) : Prop := va_P w.1 vwCl (L q) t.heap ∧ va_D A (L q)
def ng_C (l : Launch) (w : sp_Wd) (y : MethodName) (cc : ByteArray) (nL : Nat) (rm : Room) (mc ms : Nat) (h0 ci : Nat) (fs0 : List Value) (av : List Value) (L : (Nat → Nat) → va_W) : Prop :=
  ∀ sz, Met l y (.code y cc nL none :: sp_T) rm (va_Pc (.ref h0 :: av) (ng_pre w h0 ci fs0 sz)) (va_Qv (fun (_ : Nat → Nat) => True) (ng_be w (ng_A h0 sz) L) (ng_A h0 sz)) mc ms (ng_A h0 sz)
def ng_R (X : sp_X) (L : (Nat → Nat) → va_W) (mc ms : Nat) : Prop := (sx_h X).sig.returnType = none ∧ sx_Q X = MQ (sx_b X) (va_Qv (fun (_ : Nat → Nat) => True) (ng_be (sx_w X) (sx_A X) L) (sx_A X)) (sx_a X) (sx_s X) mc ms (sx_A X)
theorem ng_blind {w : sp_Wd} {h0 ci : Nat} {fs0 av : List Value} {sz : Nat} : FrameBlind (va_Pc av (ng_pre w h0 ci fs0 sz)) := fun a U g mk h =>
  ⟨h.1, h.2.1, h.2.2.1, va_K.moved (u := U) (U := U.calling g mk a) (Vm.Alike.refl U.vm) h.2.2.2.1, sp_Ev.same (u := U) rfl h.2.2.2.2⟩
set_option maxHeartbeats 1000000 in
theorem ng_c {l : Launch} {w : sp_Wd} {y : MethodName} {cc : ByteArray} {nL : Nat} {rm : Room} {mc ms : Nat} {h0 ci : Nat} {fs0 av : List Value} {L : (Nat → Nat) → va_W} {own : String} {lv : List (Option Value)} (hy : plainName y.cls = true) (hown : y.cls = own) (hnm : y.name = "<init>") (hst : l.stackTraces = false) (hlen : (lg_sl (.ref h0 :: av)).length ≤ nL) (hent : (sp_ent (.ref h0 :: av) ++ List.replicate nL none).take nL = lv)
    (body : ∀ X : sp_X, sp_OK shE X cc own nL rm → sx_w X = w → sx_l X = l → (sx_h X).name = "<init>" → ng_R X L mc ms → ng_G X [(h0, .inr (ci, fs0))] nL lv [] 0 0 0) : ng_C l w y cc nL rm mc ms h0 ci fs0 av L := by
  intro sz
  refine Met.ofW (cc := cc) (maxL := nL) (ret := none) hy rfl ?_
  intro p e s m args below meth c s₁ B hml hv
  obtain ⟨rfl, hsz, hP, hK, hE⟩ := hv
  subst hsz
  have hts := atoms_spec (ws := .code y cc nL none :: sp_T) B.pre
  have hc0 : (Cond.code y cc nL none).before (.ref h0 :: av).toArray s = true := hts _ List.mem_cons_self
  have ho : s.vm.findClass own = some m.cls := by rw [← hown]; exact findClass_of_methodNamed B.named
  have hn : meth.name = "<init>" := by rw [← hnm]; exact (name_of_methodNamed B.named B.method).1
  have K := body ((p, l, e, (headSpec (.code y cc nL none :: sp_T) rm).room, s, m, (.ref h0 :: av).toArray, below, meth, c), w, ng_A h0 s.heap.size, MQ below (va_Qv (fun (_ : Nat → Nat) => True) (ng_be w (ng_A h0 s.heap.size) L) (ng_A h0 s.heap.size)) (.ref h0 :: av).toArray s mc ms (ng_A h0 s.heap.size))
    ⟨B.exec, B.bytes, hml, ho, fun w' h' => hts w' (List.mem_cons_of_mem _ h'), hK, fun i j hi => absurd hi (Nat.not_lt_zero _), fun i hi => absurd hi (Nat.not_lt_zero _), fun q hq => Or.inr hq, rfl, B.notSynchronized, hst, hE, Or.inl (B.noHandlers hc0)⟩ rfl rfl hn ⟨B.returns, rfl⟩
  rw [lg_entry_eq]
  refine K _ _ _ (sp_lv_ent hlen hent) hP ⟨fun i j x y hx hy _ => ?_, fun k z hz => ?_⟩ va_S.rf
  · match i, j, hx, hy with
    | 0, 0, _, _ => rfl
    | i + 1, _, hx, _ => simp at hx
    | _, j + 1, _, hy => simp at hy
  · match k, hz with
    | 0, hz => simp at hz; subst hz; exact Or.inl rfl
    | k + 1, hz => simp at hz
section NGR
variable {X : sp_X} {ws ws' : va_W} {nL : Nat} {lv : List (Option Value)} {st : List Value} {pc kc ks mc ms : Nat} {cc : ByteArray} {own : String} {rm : Room} {q : Nat}
theorem ng_aload_n (hX : sp_OK shE X cc own nL rm) {n : Fin 4} {i x : Nat} (hd : decode cc pc = .ok (.aload_n n, 1)) (hi : (n : Nat) = i) (hv : lv[i]? = some (some (.ref x))) (hq : pc + 1 = q) (k : ng_G X ws nL lv (.ref x :: st) q kc ks) : ng_G X ws nL lv st pc kc ks := by
  subst hq
  exact fun ls H locs hl hP hD hS => lv_aload_n (sp_ex hX) (sp_co hX) hd hi (hl.2.2 i _ hv) (k ls H locs hl hP hD hS)
theorem ng_astore_n (hX : sp_OK shE X cc own nL rm) {n : Fin 4} {i x : Nat} {lv' : List (Option Value)} (hd : decode cc pc = .ok (.astore_n n, 1)) (hi : (n : Nat) = i) (hn : i < nL) (hc : sp_c1 lv = true) (hs : lv.set i (some (.ref x)) = lv') (hq : pc + 1 = q) (k : ng_G X ws nL lv' st q kc ks) : ng_G X ws nL lv (.ref x :: st) pc kc ks := by
  subst hq
  exact fun ls H locs hl hP hD hS => lv_astore_n (sp_ex hX) (sp_co hX) hd hi (sp_lv_has hl) hn rfl (fun ls' hl' => k ls' H locs (hs ▸ sp_lv_set hc hl') hP hD hS)
theorem ng_dup (hX : sp_OK shE X cc own nL rm) {v : Value} (hd : decode cc pc = .ok (.dup, 1)) (hv : v.category = 1) (hq : pc + 1 = q) (k : ng_G X ws nL lv (v :: v :: st) q kc ks) : ng_G X ws nL lv (v :: st) pc kc ks := by
  subst hq
  exact fun ls H locs hl hP hD hS => lv_dup (sp_ex hX) (sp_co hX) hd hv (k ls H locs hl hP hD hS)
theorem ng_iconst (hX : sp_OK shE X cc own nL rm) {n : Int} {v : Int32} (hd : decode cc pc = .ok (.iconst n, 1)) (hv : Int32.ofInt n = v) (hq : pc + 1 = q) (k : ng_G X ws nL lv (.int v :: st) q kc ks) : ng_G X ws nL lv st pc kc ks := by
  subst hq
  exact fun ls H locs hl hP hD hS => lv_iconst (sp_ex hX) (sp_co hX) hd hv (k ls H locs hl hP hD hS)
theorem ng_bipush (hX : sp_OK shE X cc own nL rm) {n : Int} {v : Int32} (hd : decode cc pc = .ok (.bipush n, 2)) (hv : (Int8.ofInt n).toInt32 = v) (hq : pc + 2 = q) (k : ng_G X ws nL lv (.int v :: st) q kc ks) : ng_G X ws nL lv st pc kc ks := by
  subst hq
  exact fun ls H locs hl hP hD hS => lv_bipush (sp_ex hX) (sp_co hX) hd hv (k ls H locs hl hP hD hS)
theorem ng_sipush (hX : sp_OK shE X cc own nL rm) {n : Int} {v : Int32} (hd : decode cc pc = .ok (.sipush n, 3)) (hv : (Int16.ofInt n).toInt32 = v) (hq : pc + 3 = q) (k : ng_G X ws nL lv (.int v :: st) q kc ks) : ng_G X ws nL lv st pc kc ks := by
  subst hq
  exact fun ls H locs hl hP hD hS => lv_sipush (sp_ex hX) (sp_co hX) hd hv (k ls H locs hl hP hD hS)
theorem ng_ldc (hX : sp_OK shE X cc own nL rm) {i : Nat} {v : Int32} (hw : .constant own i v ∈ sp_T) (hd : decode cc pc = .ok (.ldc i, 2)) (hq : pc + 2 = q) (k : ng_G X ws nL lv (.int v :: st) q kc ks) : ng_G X ws nL lv st pc kc ks := by
  subst hq
  exact fun ls H locs hl hP hD hS => lv_ldc (sp_ex hX) (sp_co hX) (sp_ow hX) (sp_ts hX _ hw) hd (k ls H locs hl hP hD hS)
theorem ng_ldcS (hX : sp_OK shE X cc own nL rm) {k i : Nat} {tx : String} (hm : (own, k, tx, i) ∈ sp_lits) (hd : decode cc pc = .ok (.ldc k, 2)) (hq : pc + 2 = q) (kk : ng_G X ws nL lv (.ref ((sx_w X).2.2.1 0 i) :: st) q kc ks) : ng_G X ws nL lv st pc kc ks := by
  subst hq
  exact fun ls H locs hl hP hD hS => va_ldcS (sp_ex hX) (sp_co hX) (sp_ow hX) ((sp_ev hX).2.2.2.2.2.1 _ hm) hd (kk ls H locs hl hP hD hS)
theorem ng_obj (hX : sp_OK shE X cc own nL rm) {a i : Nat} (w1 : Cond.methodLink own i Lib.objectInit ∈ sp_T) (w2 : Cond.instanceMethod Lib.objectInit ∈ sp_T) (w3 : Cond.code Lib.objectInit ⟨#[0xb1]⟩ 1 none ∈ sp_T) (hd : decode cc pc = .ok (.invokespecial i, 3)) (hq : pc + 3 = q) (h1 : 1 ≤ rm.frames) (h2 : (st.map fun v => v.category).sum + 12 ≤ rm.locals) (k : ng_G X ws nL lv st q kc ks) : ng_G X ws nL lv (.ref a :: st) pc kc ks := by
  subst hq
  have hr := sp_rm hX
  exact fun ls H locs hl hP hD hS => W.objInit (sp_ex hX) (sp_co hX) (sp_ow hX) (sp_ts hX _ w1) (sp_ts hX _ w2) (sp_ts hX _ w3) rfl (by rw [sp_ml hX]; exact hl.1) rfl hd (by rw [hr]; exact h1) (by rw [hr]; show 2 * 0 + _ + 12 ≤ _; omega) (k ls H locs hl hP hD hS)
theorem ng_newa {at_ : ArrayType} {ty : FieldType} {t0 N : Nat} {n : Int32} {a0 : vp_A} {cA : ClassId} (hX : sp_OK shE X cc own nL rm) (hw : Cond.arrayClass (newarray.typeOf at_) ∈ sp_T) (hty : newarray.typeOf at_ = ty) (hcA : (sp_tys (sx_w X))[t0]? = some (cA, ty)) (hp : ∀ C, ty ≠ .object C) (ha : ∀ c, vp_cell c a0 = arrV c N (fun _ => defaultValue ty)) (hn : ¬ n < 0) (hN : n.toNatClampNeg = N) (hb : N * componentBytes ty ≤ 536870912) (h1 : kc + 1 ≤ rm.cells) (h2 : ks + N ≤ rm.slots) (hd : decode cc pc = .ok (.newarray at_, 2)) (hq : pc + 2 = q)
    (k : ∀ a : Nat, ng_G X (ws ++ [(a, .inl (cA, a0))]) nL lv (.ref a :: st) q (kc + 1) (ks + N)) : ng_G X ws nL lv (.int n :: st) pc kc ks := by
  subst hq
  have hr := sp_rm hX
  intro ls H locs hl hP hD hS
  refine va_newa (sp_ex hX) (sp_co hX) (sp_ts hX _ hw) hty (sp_ka hX) hP hD hS (sp_an hX) ha hn hN hb (by rw [hr]; exact h1) (by rw [hr]; exact h2) hd (fun a cB H1 hK1 hP1 hD1 hS1 => ?_)
  have e1 := (hK1.2 4 (cB, ty) rfl).2
  have e2 := ((sp_ka hX).2 t0 _ hcA).2
  have e3 : cB = cA := by
    unfold va_RA at e1 e2
    cases ty <;> first | exact (hp _ rfl).elim | exact Option.some.inj (e1.symm.trans e2)
  subst e3
  exact k a ls H1 locs hl hP1 hD1 hS1
theorem ng_new {ci N i : Nat} {C : String} {T : u_T} {ty : Nat → FieldType} {fs : List Value} (hX : sp_OK shE X cc own nL rm) (hin : ∀ w ∈ u_ws C T N, w ∈ sp_T) (hty : ∀ k, k < N → parseFieldDescriptor (T k).2.2.1 = some (ty k)) (w1 : Cond.classLink own i C ∈ sp_T) (w2 : Cond.instantiable C N ∈ sp_T) (w3 : Cond.initialized C ∈ sp_T) (hc : vwCl[ci]? = some (C, T, N)) (hfs : ∀ j, j < N → defaultValue (ty j) = vp_V fs j) (h1 : kc + 1 ≤ rm.cells) (h2 : ks + N ≤ rm.slots) (hd : decode cc pc = .ok (.new i, 3)) (hq : pc + 3 = q)
    (k : ∀ a : Nat, ng_G X (ws ++ [(a, .inr (ci, fs))]) nL lv (.ref a :: st) q (kc + 1) (ks + N)) : ng_G X ws nL lv st pc kc ks := by
  subst hq
  have hr := sp_rm hX
  intro ls H locs hl hP hD hS
  exact va_new (sp_ex hX) (sp_co hX) (sp_ts hX) hin ty hty (sp_ow hX) (sp_ts hX _ w1) (sp_ts hX _ w2) (sp_ts hX _ w3) (sp_ka hX) hP hD hS (sp_an hX) hc hfs (by rw [hr]; exact h1) (by rw [hr]; exact h2) hd (fun a H1 hP1 hD1 hS1 => k a ls H1 locs hl hP1 hD1 hS1)
theorem ng_get {a p ci k nf i : Nat} {fs : List Value} {v : Value} (hX : sp_OK shE X cc own nL rm) (hF : sp_F own i ci k nf) (he : ws[p]? = some (a, .inr (ci, fs))) (hv : fs[k]? = some v) (hd : decode cc pc = .ok (.getfield i, 3)) (hq : pc + 3 = q) (kk : ng_G X ws nL lv (v :: st) q kc ks) : ng_G X ws nL lv (.ref a :: st) pc kc ks := by
  subst hq
  obtain ⟨C, T, hc, hin, hk, hl⟩ := hF
  exact fun ls H locs hlv hP hD hS => va_get (ref := (T k).1) (sp_ex hX) (sp_co hX) (sp_ts hX) hin (sp_ow hX) (sp_ka hX) hP p he hc k hk (sp_ts hX _ hl) (fun _ h => h) hv hd (kk ls H locs hlv hP hD hS)
theorem ng_put {a p ci k nf i : Nat} {fs : List Value} {v : Value} {ty : FieldType} (hX : sp_OK shE X cc own nL rm) (hF : sp_FP own i ci k nf ty) (he : ws[p]? = some (a, .inr (ci, fs))) (hn : narrow ty v = v) (hf : fits ty v = true) (hl0 : k < fs.length) (hw : ws.set p (a, .inr (ci, fs.set k v)) = ws') (hd : decode cc pc = .ok (.putfield i, 3)) (hq : pc + 3 = q) (kk : ng_G X ws' nL lv st q kc ks) : ng_G X ws nL lv (v :: .ref a :: st) pc kc ks := by
  subst hq
  subst hw
  obtain ⟨C, T, ty0, hc, hin, hk, hl, hty, hnm, hfin, hd0⟩ := hF
  intro ls H locs hlv hP hD hS
  exact va_put (ref := (T k).1) (sp_ex hX) (sp_co hX) (sp_ts hX) hin ty0 hty hnm (sp_ow hX) (sp_ka hX) hP hD hS p he hc k hk (sp_ts hX _ hl) (fun _ h => h) hfin hd0 hn hf hl0 hd (fun H1 locs1 hP1 hD1 hS1 => kk ls H1 locs1 hlv hP1 hD1 hS1)
/-- a final field, in the constructor of its own class -/
def sp_FF (own : String) (idx ci k nf : Nat) (ty : FieldType) : Prop := ∃ (C : String) (T : u_T) (ty0 : Nat → FieldType), vwCl[ci]? = some (C, T, nf) ∧ (∀ w ∈ u_ws C T nf, w ∈ sp_T) ∧ k < nf ∧ Cond.fieldLink own idx (T k).1 (T k).2.1 (T k).2.2.1 ∈ sp_T ∧ (∀ j, j < nf → parseFieldDescriptor (T j).2.2.1 = some (ty0 j)) ∧ (∀ a, a < nf → ∀ b, b < nf → a ≠ b → (T a).2.1 ≠ (T b).2.1) ∧ (T k).2.2.2 = true ∧ (T k).1 = own ∧ parseFieldDescriptor (T k).2.2.1 = some ty
theorem ng_putF {a p ci k nf i : Nat} {fs : List Value} {v : Value} {ty : FieldType} (hX : sp_OK shE X cc own nL rm) (hni : (sx_h X).name = "<init>") (hF : sp_FF own i ci k nf ty) (he : ws[p]? = some (a, .inr (ci, fs))) (hn : narrow ty v = v) (hf : fits ty v = true) (hl0 : k < fs.length) (hw : ws.set p (a, .inr (ci, fs.set k v)) = ws') (hd : decode cc pc = .ok (.putfield i, 3)) (hq : pc + 3 = q) (kk : ng_G X ws' nL lv st q kc ks) : ng_G X ws nL lv (v :: .ref a :: st) pc kc ks := by
  subst hq
  subst hw
  obtain ⟨C, T, ty0, hc, hin, hk, hl, hty, hnm, hfin, hdecl, hd0⟩ := hF
  intro ls H locs hlv hP hD hS
  exact va_putF (ref := (T k).1) (sp_ex hX) (sp_co hX) (sp_ts hX) hin ty0 hty hnm (sp_ow hX) (sp_ka hX) hP hD hS p he hc k hk (sp_ts hX _ hl) (fun _ h => h) hfin hni hdecl hd0 hn hf hl0 hd (fun H1 locs1 hP1 hD1 hS1 => kk ls H1 locs1 hlv hP1 hD1 hS1)
theorem ng_iast {a p n : Nat} {f : Nat → Int32} {i v : Int32} (hX : sp_OK shE X cc own nL rm) (he : ws[p]? = some (a, .inl ((sx_w X).2.2.2 0, n, .inl f))) (hi : sp_in i n = true) (hw : ws.set p (a, .inl ((sx_w X).2.2.2 0, n, .inl (upd f i.toNatClampNeg v))) = ws') (hd : decode cc pc = .ok (.iastore, 1)) (hq : pc + 1 = q) (kk : ng_G X ws' nL lv st q kc ks) : ng_G X ws nL lv (.int v :: .int i :: .ref a :: st) pc kc ks := by
  subst hq
  subst hw
  exact fun ls H locs hlv hP hD hS => va_iast (sp_ex hX) (sp_co hX) (sp_ka hX) hP hD hS p 0 he rfl (sp_in_vp hi) hd (fun H1 locs1 hP1 hD1 hS1 => kk ls H1 locs1 hlv hP1 hD1 hS1)
theorem ng_newq {N i : Nat} {n : Int32} (hX : sp_OK shE X cc own nL rm) (w1 : Cond.classLink own i "java/lang/String" ∈ sp_T) (hn : ¬ n < 0) (hN : n.toNatClampNeg = N) (hb : N * 4 ≤ 536870912) (h1 : kc + 1 ≤ rm.cells) (h2 : ks + N ≤ rm.slots) (hd : decode cc pc = .ok (.anewarray i, 3)) (hq : pc + 3 = q)
    (k : ∀ a : Nat, ng_G X (ws ++ [(a, .inl ((sx_w X).2.2.2 3, N, .inr (.inr (.inr (.inr (fun _ => none))))))]) nL lv (.ref a :: st) q (kc + 1) (ks + N)) : ng_G X ws nL lv (.int n :: st) pc kc ks := by
  subst hq
  have hr := sp_rm hX
  intro ls H locs hl hP hD hS
  refine va_newq (sp_ex hX) (sp_co hX) (sp_ow hX) (sp_ts hX _ w1) (sp_ev hX).2.2.2.2.2.2.2.1 (sp_ka hX) hP hD hS (sp_an hX) hn hN hb (by rw [hr]; exact h1) (by rw [hr]; exact h2) hd (fun a cB H1 hK1 hP1 hD1 hS1 => ?_)
  obtain ⟨_, _, _, _, _, e1⟩ := (hK1.2 4 (cB, .object "java/lang/String") rfl).2
  obtain ⟨_, _, _, _, _, e2⟩ := ((sp_ka hX).2 3 _ rfl).2
  have e3 : cB = (sx_w X).2.2.2 3 := Option.some.inj (e1.symm.trans e2)
  subst e3
  exact k a ls H1 locs hl hP1 hD1 hS1
theorem ng_aast {a p n tx : Nat} {f : Nat → Option Nat} {i : Int32} (hX : sp_OK shE X cc own nL rm) (ht : tx < 16) (he : ws[p]? = some (a, .inl ((sx_w X).2.2.2 3, n, .inr (.inr (.inr (.inr f)))))) (hi : sp_in i n = true) (hw : ws.set p (a, .inl ((sx_w X).2.2.2 3, n, .inr (.inr (.inr (.inr (va_up f i.toNatClampNeg (some ((sx_w X).2.2.1 0 tx)))))))) = ws') (hd : decode cc pc = .ok (.aastore, 1)) (hq : pc + 1 = q) (kk : ng_G X ws' nL lv st q kc ks) : ng_G X ws nL lv (.ref ((sx_w X).2.2.1 0 tx) :: .int i :: .ref a :: st) pc kc ks := by
  subst hq
  subst hw
  exact fun ls H locs hlv hP hD hS => vb_astq (E := "java/lang/String") (C := "java/lang/String") (sp_ex hX) (sp_co hX) (sp_ka hX) hP hD hS p 3 he rfl (vk_recv ((sp_ev hX).2.2.2.2.1 _ ht) (i := 0) (by decide) hS) (fun comp c0 h1 h2 => vb_asgS comp c0 h1 h2) (sp_in_vp hi) hd (fun H1 locs1 hP1 hD1 hS1 => kk ls H1 locs1 hlv hP1 hD1 hS1)
theorem ng_vret {L : (Nat → Nat) → va_W} (qs : Nat → Nat) (hX : sp_OK shE X cc own nL rm) (hR : ng_R X L mc ms) (hw : ws = L qs) (hd : decode cc pc = .ok (.return_, 1)) (h1 : kc ≤ mc) (h2 : ks ≤ ms) : ng_G X ws nL lv [] pc kc ks := by
  subst hw
  intro ls H locs hl hP hD hS
  rw [hR.2]
  exact W.widen h1 h2 (W.vret (sp_ex hX) (sp_co hX) hR.1 (fun t ht hW => ⟨⟨qs, rfl, trivial, by rw [ht]; exact hP, hD⟩, hS.F ht⟩) hS.2.2 hd (sp_lo hX))
theorem ng_erase (k : Nat) (h : k < ws.length) : ((List.range ws.length).eraseIdx k).map (fun i => ws[i]?) = (ws.eraseIdx k).map some := by
  refine List.ext_getElem? fun i => ?_
  rw [List.getElem?_map, List.getElem?_map, List.getElem?_eraseIdx, List.getElem?_eraseIdx]
  by_cases hi : i < k
  · rw [if_pos hi, if_pos hi]
    have : i < ws.length := by omega
    simp [this]
  · rw [if_neg hi, if_neg hi]
    by_cases h2 : i + 1 < ws.length
    · simp [h2]
    · rw [List.getElem?_eq_none (by simpa using h2), List.getElem?_eq_none (by simpa using h2)]
      rfl
theorem ng_nd : ∀ (l : List Nat), l.Nodup → va_nd l = true
  | [], _ => rfl
  | a :: l, h => by
    unfold va_nd
    rw [List.nodup_cons] at h
    simp [h.1, ng_nd l h.2]
set_option maxHeartbeats 1000000 in
theorem ng_ctor {rY : Room} {i k a ci : Nat} {fs0 : List Value} {y : MethodName} {cy : ByteArray} {nY n mY sY : Nat} {L : (Nat → Nat) → va_W} {As rest : List Value} (hX : sp_OK shE X cc own nL rm) (hC : ng_C (sx_l X) (sx_w X) y cy nY rY mY sY a ci fs0 As L) (w1 : Cond.methodLink own i y ∈ sp_T) (w2 : Cond.instanceMethod y ∈ sp_T) (w3 : Cond.initialized y.cls ∈ sp_T) (w4 : Cond.code y cy nY none ∈ sp_T) (hy1 : y.name = "<init>") (hyd : y.cls ≠ "java/lang/invoke/MethodHandle" ∧ y.cls ≠ "java/lang/invoke/VarHandle" ∧ (parseMethodDescriptor y.desc).map (fun d => d.parameters.length) = some n) (he : ws[k]? = some (a, .inr (ci, fs0))) (hst : st = As.reverse ++ .ref a :: rest) (hn : As.length = n) (h1 : rY.cells = mY) (h2 : rY.slots = sY) (h3 : rY.frames + 1 ≤ rm.frames) (h4 : 8 + (nY + 11) + rY.locals ≤ rm.locals) (h5 : (rest.map fun v => v.category).sum ≤ 8) (h6 : kc + mY ≤ rm.cells) (h7 : ks + sY ≤ rm.slots) (hd : decode cc pc = .ok (.invokespecial i, 3)) (hq : pc + 3 = q) (kk : ∀ qs : Nat → Nat, ng_G X (ws.eraseIdx k ++ L qs) nL lv rest q (kc + mY) (ks + sY)) : ng_G X ws nL lv st pc kc ks := by
  subst hq
  subst hst
  intro ls H locs hl hP hD hS
  have hR := sp_rm hX
  have hsub : ∀ z, ng_A a H.size z → sx_A X z := by
    intro z hz
    rcases hz with rfl | hz
    · exact hD.2 k _ he
    · exact sp_an hX z (Nat.le_trans hS.1 hz)
  refine va_callv (va_runI (As := As) (rest := rest) ⟨sp_ex hX, sp_co hX, sp_ml hX, sp_ow hX, sp_ts hX⟩ (hC H.size) (by rw [hR]; exact cwI n (sp_ts hX) (sp_GT (fun w hw => (List.mem_cons.mp hw).elim (fun e => e ▸ w4) id)) rfl h1 h2 (sp_ts hX _ w3) (sp_ts hX _ w1) (sp_ts hX _ w2) hy1 hyd ⟨h3, h4⟩) ⟨ng_blind, fun U hU hW => ⟨rfl, by rw [hU], ?_, va_K.moved hW.alike (sp_ka hX), ?_⟩⟩ rfl hn hl.1 rfl (lv_room h5) hd ⟨by rw [hR]; exact h6, by rw [hR]; exact h7⟩) hS (fun z _ h => hsub z h) hsub (fun qs t H1 locs1 ht hvm _ hB hz1 hk1 hS1 => ?_)
  · rw [hU]
    intro j z hz
    match j, hz with
    | 0, hz => simp at hz; subst hz; exact hP k _ he
    | j + 1, hz => simp at hz
  · rw [hU]
    exact sp_Ev.narrow hsub (sp_Ev.kept (fun a h1 h2 => hS.2.1 a h1 h2) (sp_Ev.warm hW (sp_ev hX)))
  · obtain ⟨hP1, hD1⟩ := hB
    rw [ht] at hP1
    have hkl : k < ws.length := (List.getElem?_eq_some_iff.mp he).1
    have hAe : ∀ z, va_A [(a, .inr (ci, fs0))] H.size z ↔ ng_A a H.size z := by
      intro z
      constructor
      · rintro (⟨j, e, hj⟩ | h)
        · match j, hj with
          | 0, hj => simp at hj; exact Or.inl hj.1.symm
          | j + 1, hj => simp at hj
        · exact Or.inr h
      · rintro (rfl | h)
        · exact Or.inl ⟨0, _, rfl⟩
        · exact Or.inr h
    obtain ⟨hP2, hD2⟩ := va_join (wc := [(a, .inr (ci, fs0))]) (wr := ws.eraseIdx k) (w1 := L qs) hP hD [k] ((List.range ws.length).eraseIdx k) (by simp [he]) (ng_erase k hkl) (ng_nd _ (List.nodup_range.sublist (List.eraseIdx_sublist _ _))) (fun j hj hjk => by
      rw [List.mem_singleton] at hjk
      subst hjk
      rw [List.mem_eraseIdx_iff_getElem?] at hj
      obtain ⟨b, hb, hbj⟩ := hj
      have := (List.getElem?_eq_some_iff.mp hbj).2
      simp at this
      exact hb this) (fun z h1 h2 => hk1 z h1 (fun h => h2 ((hAe z).mpr h))) (fun z hz => hsub z ((hAe z).mp hz)) hP1 (hD1.weaken (fun _ y _ h => (hAe y.1).mpr h))
    exact kk qs ls H1 locs1 hl hP2 hD2 hS1
set_option maxHeartbeats 1000000 in
theorem ng_ctorN {rY : Room} {i k a ci : Nat} {fs0 : List Value} {y : MethodName} {cy : ByteArray} {nY n mY sY : Nat} {L : (Nat → Nat) → va_W} {As rest : List Value} {host : String} (hX : sp_OK shE X cc own nL rm) (hC : ng_C (sx_l X) (sx_w X) y cy nY rY mY sY a ci fs0 As L) (w1 : Cond.methodLinkNest own i y host ∈ sp_nws) (w2 : Cond.instanceMethod y ∈ sp_T) (w3 : Cond.initialized y.cls ∈ sp_T) (w4 : Cond.code y cy nY none ∈ sp_T) (hy1 : y.name = "<init>") (hyd : y.cls ≠ "java/lang/invoke/MethodHandle" ∧ y.cls ≠ "java/lang/invoke/VarHandle" ∧ (parseMethodDescriptor y.desc).map (fun d => d.parameters.length) = some n) (he : ws[k]? = some (a, .inr (ci, fs0))) (hst : st = As.reverse ++ .ref a :: rest) (hn : As.length = n) (h1 : rY.cells = mY) (h2 : rY.slots = sY) (h3 : rY.frames + 1 ≤ rm.frames) (h4 : 8 + (nY + 11) + rY.locals ≤ rm.locals) (h5 : (rest.map fun v => v.category).sum ≤ 8) (h6 : kc + mY ≤ rm.cells) (h7 : ks + sY ≤ rm.slots) (hd : decode cc pc = .ok (.invokespecial i, 3)) (hq : pc + 3 = q) (kk : ∀ qs : Nat → Nat, ng_G X (ws.eraseIdx k ++ L qs) nL lv rest q (kc + mY) (ks + sY)) : ng_G X ws nL lv st pc kc ks := by
  subst hq
  subst hst
  intro ls H locs hl hP hD hS
  have hR := sp_rm hX
  have hsub : ∀ z, ng_A a H.size z → sx_A X z := by
    intro z hz
    rcases hz with rfl | hz
    · exact hD.2 k _ he
    · exact sp_an hX z (Nat.le_trans hS.1 hz)
  refine va_callv (va_runIN (As := As) (rest := rest) ⟨sp_ex hX, sp_co hX, sp_ml hX, sp_ow hX, sp_ts hX⟩ (hC H.size) (by rw [hR]; exact ⟨va_cnB n (sp_ts hX) (sp_GT (fun w hw => (List.mem_cons.mp hw).elim (fun e => e ▸ w4) id)) rfl h1 h2 ((sp_ev hX).2.2.2.2.2.2.1 _ w1) (sp_ts hX _ w3) hyd ⟨h3, h4⟩, hy1, sp_ts hX _ w2⟩) ⟨ng_blind, fun U hU hW => ⟨rfl, by rw [hU], ?_, va_K.moved hW.alike (sp_ka hX), ?_⟩⟩ rfl hn hl.1 rfl (lv_room h5) hd ⟨by rw [hR]; exact h6, by rw [hR]; exact h7⟩) hS (fun z _ h => hsub z h) hsub (fun qs t H1 locs1 ht hvm _ hB hz1 hk1 hS1 => ?_)
  · rw [hU]
    intro j z hz
    match j, hz with
    | 0, hz => simp at hz; subst hz; exact hP k _ he
    | j + 1, hz => simp at hz
  · rw [hU]
    exact sp_Ev.narrow hsub (sp_Ev.kept (fun a h1 h2 => hS.2.1 a h1 h2) (sp_Ev.warm hW (sp_ev hX)))
  · obtain ⟨hP1, hD1⟩ := hB
    rw [ht] at hP1
    have hkl : k < ws.length := (List.getElem?_eq_some_iff.mp he).1
    have hAe : ∀ z, va_A [(a, .inr (ci, fs0))] H.size z ↔ ng_A a H.size z := by
      intro z
      constructor
      · rintro (⟨j, e, hj⟩ | h)
        · match j, hj with
          | 0, hj => simp at hj; exact Or.inl hj.1.symm
          | j + 1, hj => simp at hj
        · exact Or.inr h
      · rintro (rfl | h)
        · exact Or.inl ⟨0, _, rfl⟩
        · exact Or.inr h
    obtain ⟨hP2, hD2⟩ := va_join (wc := [(a, .inr (ci, fs0))]) (wr := ws.eraseIdx k) (w1 := L qs) hP hD [k] ((List.range ws.length).eraseIdx k) (by simp [he]) (ng_erase k hkl) (ng_nd _ (List.nodup_range.sublist (List.eraseIdx_sublist _ _))) (fun j hj hjk => by
      rw [List.mem_singleton] at hjk
      subst hjk
      rw [List.mem_eraseIdx_iff_getElem?] at hj
      obtain ⟨b, hb, hbj⟩ := hj
      have := (List.getElem?_eq_some_iff.mp hbj).2
      simp at this
      exact hb this) (fun z h1 h2 => hk1 z h1 (fun h => h2 ((hAe z).mpr h))) (fun z hz => hsub z ((hAe z).mp hz)) hP1 (hD1.weaken (fun _ y _ h => (hAe y.1).mpr h))
    exact kk qs ls H1 locs1 hl hP2 hD2 hS1
end NGR
