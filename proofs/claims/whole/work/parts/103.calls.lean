-- ===== CONTRACTS: a method goes from the state σ to the state τ =====
/-- the cells of a world, and those that are new -/
def sp_A (sh : sp_Sh) (w : sp_Wd) (sz : Nat) : Nat → Prop := fun q => (∃ i, i < sh.1 ∧ q = w.2.1 i) ∨ sz ≤ q
def sp_pre (sh : sp_Sh) (w : sp_Wd) (σ : sp_St) (sz : Nat) (U : State) : Prop := U.heap.size = sz ∧ va_P w.1 vwCl (sp_wl sh w σ) U.heap ∧ va_K w.1 vwCl (sp_tys w) U ∧ sp_inj sh w ∧ sp_Ev w (sp_A sh w sz) U U.heap
def sp_be (sh : sp_Sh) (w : sp_Wd) (u : sp_St) (t : State) : Prop := va_P w.1 vwCl (sp_wl sh w u) t.heap
def sp_Ci (sh : sp_Sh) (l : Launch) (w : sp_Wd) (y : MethodName) (cc : ByteArray) (nL : Nat) (ret : Option FieldType) (rm : Room) (mc ms : Nat) (σ : sp_St) (av : List Value) (τ : sp_St) (r : Int32) : Prop :=
  ∀ sz, Met l y (.code y cc nL ret :: sp_T) rm (va_Pc av (sp_pre sh w σ sz)) (va_Qi (fun (r2 : Int32) (u : sp_St) => r2 = r ∧ u = τ) (sp_be sh w) (sp_A sh w sz)) mc ms (sp_A sh w sz)
def sp_Cv (sh : sp_Sh) (l : Launch) (w : sp_Wd) (y : MethodName) (cc : ByteArray) (nL : Nat) (rm : Room) (mc ms : Nat) (σ : sp_St) (av : List Value) (τ : sp_St) : Prop :=
  ∀ sz, Met l y (.code y cc nL none :: sp_T) rm (va_Pc av (sp_pre sh w σ sz)) (va_Qv (fun (u : sp_St) => u = τ) (sp_be sh w) (sp_A sh w sz)) mc ms (sp_A sh w sz)
def sp_Cr (sh : sp_Sh) (l : Launch) (w : sp_Wd) (y : MethodName) (cc : ByteArray) (nL : Nat) (ret : Option FieldType) (rm : Room) (mc ms : Nat) (σ : sp_St) (av : List Value) (τ : sp_St) (r : Nat) : Prop :=
  ∀ sz, Met l y (.code y cc nL ret :: sp_T) rm (va_Pc av (sp_pre sh w σ sz)) (va_Qr (fun (u : sp_St) => u = τ) (fun u a t => sp_be sh w u t ∧ a = w.2.1 r) (sp_A sh w sz)) mc ms (sp_A sh w sz)
/-- what a body owes at its end -/
def sp_Ri (sh : sp_Sh) (X : sp_X) (ret : Option FieldType) (τ : sp_St) (r : Int32) (mc ms : Nat) : Prop := (sx_h X).sig.returnType = ret ∧ sx_Q X = MQ (sx_b X) (va_Qi (fun (r2 : Int32) (u : sp_St) => r2 = r ∧ u = τ) (sp_be sh (sx_w X)) (sx_A X)) (sx_a X) (sx_s X) mc ms (sx_A X)
def sp_Rv (sh : sp_Sh) (X : sp_X) (τ : sp_St) (mc ms : Nat) : Prop := (sx_h X).sig.returnType = none ∧ sx_Q X = MQ (sx_b X) (va_Qv (fun (u : sp_St) => u = τ) (sp_be sh (sx_w X)) (sx_A X)) (sx_a X) (sx_s X) mc ms (sx_A X)
def sp_Rr (sh : sp_Sh) (X : sp_X) (ret : Option FieldType) (τ : sp_St) (r : Nat) (mc ms : Nat) : Prop := (sx_h X).sig.returnType = ret ∧ sx_Q X = MQ (sx_b X) (va_Qr (fun (u : sp_St) => u = τ) (fun u a t => sp_be sh (sx_w X) u t ∧ a = (sx_w X).2.1 r) (sx_A X)) (sx_a X) (sx_s X) mc ms (sx_A X)
theorem sp_A_w {sh : sp_Sh} {w : sp_Wd} {sz i : Nat} (h : i < sh.1) : sp_A sh w sz (w.2.1 i) := Or.inl ⟨i, h, rfl⟩
theorem sp_pre_blind {sh : sp_Sh} {w : sp_Wd} {σ : sp_St} {sz : Nat} {av : List Value} : FrameBlind (va_Pc av (sp_pre sh w σ sz)) := fun a U g mk h =>
  ⟨h.1, h.2.1, h.2.2.1, va_K.moved (u := U) (U := U.calling g mk a) (Vm.Alike.refl U.vm) h.2.2.2.1, h.2.2.2.2.1, sp_Ev.same (u := U) rfl h.2.2.2.2.2⟩
set_option maxHeartbeats 1000000 in
theorem sp_ci {sh : sp_Sh} {l : Launch} {w : sp_Wd} {y : MethodName} {cc : ByteArray} {nL : Nat} {rm : Room} {mc ms : Nat} {σ τ : sp_St} {av : List Value} {r : Int32} {ret : Option FieldType} {own : String} {lv : List (Option Value)} (hy : plainName y.cls = true) (hown : y.cls = own) (hst : l.stackTraces = false) (hlen : (lg_sl av).length ≤ nL) (hent : (sp_ent av ++ List.replicate nL none).take nL = lv)
    (body : ∀ X : sp_X, sp_OK sh X cc own nL rm → sx_w X = w → sx_l X = l → sp_Ri sh X ret τ r mc ms → sp_GG sh X σ nL lv [] 0 0 0) : sp_Ci sh l w y cc nL ret rm mc ms σ av τ r := by
  intro sz
  refine Met.ofW (cc := cc) (maxL := nL) (ret := ret) hy rfl ?_
  intro p e s m args below meth c s₁ B hml hv
  obtain ⟨rfl, hsz, hP, hK, hI, hE⟩ := hv
  subst hsz
  have hts := atoms_spec (ws := .code y cc nL ret :: sp_T) B.pre
  have hc0 : (Cond.code y cc nL ret).before av.toArray s = true := hts _ List.mem_cons_self
  have ho : s.vm.findClass own = some m.cls := by rw [← hown]; exact findClass_of_methodNamed B.named
  have K := body ((p, l, e, (headSpec (.code y cc nL ret :: sp_T) rm).room, s, m, av.toArray, below, meth, c), w, sp_A sh w s.heap.size, MQ below (va_Qi (fun (r2 : Int32) (u : sp_St) => r2 = r ∧ u = τ) (sp_be sh w) (sp_A sh w s.heap.size)) av.toArray s mc ms (sp_A sh w s.heap.size))
    ⟨B.exec, B.bytes, hml, ho, fun w' h' => hts w' (List.mem_cons_of_mem _ h'), hK, hI, fun i hi => sp_A_w hi, fun q hq => Or.inr hq, rfl, B.notSynchronized, hst, hE, Or.inl (B.noHandlers hc0)⟩ rfl rfl ⟨B.returns, rfl⟩
  rw [lg_entry_eq]
  exact K _ _ _ (sp_lv_ent hlen hent) hP va_S.rf

set_option maxHeartbeats 1000000 in
theorem sp_cv {sh : sp_Sh} {l : Launch} {w : sp_Wd} {y : MethodName} {cc : ByteArray} {nL : Nat} {rm : Room} {mc ms : Nat} {σ τ : sp_St} {av : List Value} {own : String} {lv : List (Option Value)} (hy : plainName y.cls = true) (hown : y.cls = own) (hst : l.stackTraces = false) (hlen : (lg_sl av).length ≤ nL) (hent : (sp_ent av ++ List.replicate nL none).take nL = lv)
    (body : ∀ X : sp_X, sp_OK sh X cc own nL rm → sx_w X = w → sx_l X = l → sp_Rv sh X τ mc ms → sp_GG sh X σ nL lv [] 0 0 0) : sp_Cv sh l w y cc nL rm mc ms σ av τ := by
  intro sz
  refine Met.ofW (cc := cc) (maxL := nL) (ret := none) hy rfl ?_
  intro p e s m args below meth c s₁ B hml hv
  obtain ⟨rfl, hsz, hP, hK, hI, hE⟩ := hv
  subst hsz
  have hts := atoms_spec (ws := .code y cc nL none :: sp_T) B.pre
  have hc0 : (Cond.code y cc nL none).before av.toArray s = true := hts _ List.mem_cons_self
  have ho : s.vm.findClass own = some m.cls := by rw [← hown]; exact findClass_of_methodNamed B.named
  have K := body ((p, l, e, (headSpec (.code y cc nL none :: sp_T) rm).room, s, m, av.toArray, below, meth, c), w, sp_A sh w s.heap.size, MQ below (va_Qv (fun (u : sp_St) => u = τ) (sp_be sh w) (sp_A sh w s.heap.size)) av.toArray s mc ms (sp_A sh w s.heap.size))
    ⟨B.exec, B.bytes, hml, ho, fun w' h' => hts w' (List.mem_cons_of_mem _ h'), hK, hI, fun i hi => sp_A_w hi, fun q hq => Or.inr hq, rfl, B.notSynchronized, hst, hE, Or.inl (B.noHandlers hc0)⟩ rfl rfl ⟨B.returns, rfl⟩
  rw [lg_entry_eq]
  exact K _ _ _ (sp_lv_ent hlen hent) hP va_S.rf

set_option maxHeartbeats 1000000 in
theorem sp_cr {sh : sp_Sh} {l : Launch} {w : sp_Wd} {y : MethodName} {cc : ByteArray} {nL : Nat} {rm : Room} {mc ms : Nat} {σ τ : sp_St} {av : List Value} {r : Nat} {ret : Option FieldType} {own : String} {lv : List (Option Value)} (hy : plainName y.cls = true) (hown : y.cls = own) (hst : l.stackTraces = false) (hlen : (lg_sl av).length ≤ nL) (hent : (sp_ent av ++ List.replicate nL none).take nL = lv)
    (body : ∀ X : sp_X, sp_OK sh X cc own nL rm → sx_w X = w → sx_l X = l → sp_Rr sh X ret τ r mc ms → sp_GG sh X σ nL lv [] 0 0 0) : sp_Cr sh l w y cc nL ret rm mc ms σ av τ r := by
  intro sz
  refine Met.ofW (cc := cc) (maxL := nL) (ret := ret) hy rfl ?_
  intro p e s m args below meth c s₁ B hml hv
  obtain ⟨rfl, hsz, hP, hK, hI, hE⟩ := hv
  subst hsz
  have hts := atoms_spec (ws := .code y cc nL ret :: sp_T) B.pre
  have hc0 : (Cond.code y cc nL ret).before av.toArray s = true := hts _ List.mem_cons_self
  have ho : s.vm.findClass own = some m.cls := by rw [← hown]; exact findClass_of_methodNamed B.named
  have K := body ((p, l, e, (headSpec (.code y cc nL ret :: sp_T) rm).room, s, m, av.toArray, below, meth, c), w, sp_A sh w s.heap.size, MQ below (va_Qr (fun (u : sp_St) => u = τ) (fun u a t => sp_be sh w u t ∧ a = w.2.1 r) (sp_A sh w s.heap.size)) av.toArray s mc ms (sp_A sh w s.heap.size))
    ⟨B.exec, B.bytes, hml, ho, fun w' h' => hts w' (List.mem_cons_of_mem _ h'), hK, hI, fun i hi => sp_A_w hi, fun q hq => Or.inr hq, rfl, B.notSynchronized, hst, hE, Or.inl (B.noHandlers hc0)⟩ rfl rfl ⟨B.returns, rfl⟩
  rw [lg_entry_eq]
  exact K _ _ _ (sp_lv_ent hlen hent) hP va_S.rf

section SPC
variable {sh : sp_Sh} {X : sp_X} {σ τ : sp_St} {nL : Nat} {lv : List (Option Value)} {st : List Value} {pc kc ks mc ms : Nat} {cc : ByteArray} {own : String} {rm : Room} {q : Nat}
theorem sp_iret {v r : Int32} (hX : sp_OK sh X cc own nL rm) (hR : sp_Ri sh X (some .int) τ r mc ms) (hd : decode cc pc = .ok (.ireturn, 1)) (hf : some (σ, v) = some (τ, r)) (h1 : kc ≤ mc) (h2 : ks ≤ ms) : sp_GG sh X σ nL lv [.int v] pc kc ks := by
  cases hf
  intro ls H locs hl hP hS
  rw [hR.2]
  exact W.widen h1 h2 (W.iret (sp_ex hX) (sp_co hX) hR.1 (fun t ht hW => ⟨⟨_, _, rfl, ⟨rfl, rfl⟩, by unfold sp_be; rw [ht]; exact hP⟩, hS.F ht⟩) hS.2.2 hd (sp_lo hX))
theorem sp_zret {v r : Int32} (hX : sp_OK sh X cc own nL rm) (hR : sp_Ri sh X (some .boolean) τ r mc ms) (hz : sp_zb v = true) (hd : decode cc pc = .ok (.ireturn, 1)) (hf : some (σ, v) = some (τ, r)) (h1 : kc ≤ mc) (h2 : ks ≤ ms) : sp_GG sh X σ nL lv [.int v] pc kc ks := by
  cases hf
  intro ls H locs hl hP hS
  rw [hR.2]
  exact W.widen h1 h2 (W.zret (sp_ex hX) (sp_co hX) hR.1 (sp_nar hz) (fun t ht hW => ⟨⟨_, _, rfl, ⟨rfl, rfl⟩, by unfold sp_be; rw [ht]; exact hP⟩, hS.F ht⟩) hS.2.2 hd (sp_lo hX))
theorem sp_vret (hX : sp_OK sh X cc own nL rm) (hR : sp_Rv sh X τ mc ms) (hd : decode cc pc = .ok (.return_, 1)) (hf : some σ = some τ) (h1 : kc ≤ mc) (h2 : ks ≤ ms) : sp_GG sh X σ nL lv [] pc kc ks := by
  cases hf
  intro ls H locs hl hP hS
  rw [hR.2]
  exact W.widen h1 h2 (W.vret (sp_ex hX) (sp_co hX) hR.1 (fun t ht hW => ⟨⟨_, rfl, rfl, by unfold sp_be; rw [ht]; exact hP⟩, hS.F ht⟩) hS.2.2 hd (sp_lo hX))
theorem sp_aret {v r : Nat} {C : String} (hX : sp_OK sh X cc own nL rm) (hR : sp_Rr sh X (some (.object C)) τ r mc ms) (hd : decode cc pc = .ok (.areturn, 1)) (hf : some (σ, v) = some (τ, r)) (h1 : kc ≤ mc) (h2 : ks ≤ ms) : sp_GG sh X σ nL lv [.ref (sx_ad X v)] pc kc ks := by
  cases hf
  intro ls H locs hl hP hS
  rw [hR.2]
  exact W.widen h1 h2 (W.aret (sp_ex hX) (sp_co hX) hR.1 (Or.inl ⟨_, rfl⟩) (Or.inr ⟨_, rfl⟩) (fun t ht hW => ⟨⟨_, _, rfl, rfl, ⟨by unfold sp_be; rw [ht]; exact hP, rfl⟩⟩, hS.F ht⟩) hS.2.2 hd (sp_lo hX))
theorem sp_goodV {i : Nat} {C : String} {y : MethodName} {cy : ByteArray} {nY n : Nat} {ret : Option FieldType} (h : sp_wV own i C y cy nY ret n) : GoodIn sp_T (wsV own i C y (.code y cy nY ret :: sp_T)) := by
  obtain ⟨⟨h1, h2, h3, h4, h5⟩, -⟩ := h
  refine sp_GT fun w hw => ?_
  unfold wsV at hw
  simp only [List.mem_append, List.mem_cons, List.not_mem_nil, or_false] at hw
  rcases hw with (rfl | rfl | rfl | rfl) | rfl | hw
  · exact h1
  · exact h2
  · exact h3
  · exact h4
  · exact h5
  · exact hw
theorem sp_goodS {i : Nat} {y : MethodName} {cy : ByteArray} {nY n : Nat} {ret : Option FieldType} (h : sp_wS own i y cy nY ret n) : GoodIn sp_T (va_wsS own i y (.code y cy nY ret :: sp_T)) := by
  obtain ⟨⟨h1, h2, h3, h5⟩, -⟩ := h
  refine sp_GT fun w hw => ?_
  unfold va_wsS at hw
  simp only [List.mem_append, List.mem_cons, List.not_mem_nil, or_false] at hw
  rcases hw with (rfl | rfl | rfl) | rfl | hw
  · exact h1
  · exact h2
  · exact h3
  · exact h5
  · exact hw
theorem sp_cwV {R : Room} {rY : Room} {i : Nat} {C : String} {y : MethodName} {cy : ByteArray} {nY n mY sY : Nat} {ret : Option FieldType} (hX : sp_OK sh X cc own nL rm) (hw : sp_wV own i C y cy nY ret n) (h1 : rY.cells = mY) (h2 : rY.slots = sY) (h3 : rY.frames + 1 ≤ rm.frames) (h4 : 8 + (nY + 11) + rY.locals ≤ rm.locals) : CallW (sx_R X) (sx_s X) (sx_a X) own C i y cy nY ret (.code y cy nY ret :: sp_T) rY mY sY n := by
  rw [sp_rm hX]
  exact cwV n (sp_ts hX) (sp_goodV hw) rfl h1 h2 hw.2 ⟨h3, h4⟩
theorem sp_cwS {rY : Room} {i : Nat} {y : MethodName} {cy : ByteArray} {nY n mY sY : Nat} {ret : Option FieldType} (hX : sp_OK sh X cc own nL rm) (hw : sp_wS own i y cy nY ret n) (h1 : rY.cells = mY) (h2 : rY.slots = sY) (h3 : rY.frames + 1 ≤ rm.frames) (h4 : 8 + (nY + 11) + rY.locals ≤ rm.locals) : CallB (sx_R X) (sx_s X) (sx_a X) own i y cy nY ret (.code y cy nY ret :: sp_T) rY mY sY n ∧ (Cond.static y).before (sx_a X) (sx_s X) = true := by
  rw [sp_rm hX]
  exact va_cwS n (sp_ts hX) (sp_goodS hw) rfl h1 h2 hw.2 ⟨h3, h4⟩
theorem sp_Asub {H : Heap} {locs : List Loc} (hX : sp_OK sh X cc own nL rm) (hS : va_S (sx_A X) (sx_s X).heap H locs) : ∀ z, sp_A sh (sx_w X) H.size z → sx_A X z := by
  intro z hz
  rcases hz with ⟨i, hi, rfl⟩ | hz
  · exact sp_aw hX i hi
  · exact sp_an hX z (Nat.le_trans hS.1 hz)
theorem sp_prec {H : Heap} {locs : List Loc} {U : State} (hX : sp_OK sh X cc own nL rm) (hP : va_P (sx_w X).1 vwCl (sp_wl sh (sx_w X) σ) H) (hS : va_S (sx_A X) (sx_s X).heap H locs) (hU : U.heap = H) (hW : (sx_s X).WarmedH U.vm) : sp_pre sh (sx_w X) σ H.size U := by
  refine ⟨by rw [hU], by rw [hU]; exact hP, va_K.moved hW.alike (sp_ka hX), sp_ij hX, ?_⟩
  rw [hU]
  exact sp_Ev.narrow (sp_Asub hX hS) (sp_Ev.kept (fun a h1 h2 => hS.2.1 a h1 h2) (sp_Ev.warm hW (sp_ev hX)))
theorem sp_rcv {H : Heap} {p ci nf : Nat} {C : String} {T : u_T} (hX : sp_OK sh X cc own nL rm) (hP : va_P (sx_w X).1 vwCl (sp_wl sh (sx_w X) σ) H) (hp : sp_at sh p ci nf) (hc : vwCl[ci]? = some (C, T, nf)) : ∃ cell : Cell, H[sx_ad X p]? = some cell ∧ cell.vm.isStatics = false ∧ (sx_s X).vm.findClass C = some cell.cls := va_recv (sp_ka hX) hP hc (sp_he hp)
set_option maxHeartbeats 1000000 in
theorem sp_callVi {rY : Room} {i : Nat} {p ci nf : Nat} {C : String} {T : u_T} {y : MethodName} {cy : ByteArray} {nY n mY sY : Nat} {r : Int32} {ret : Option FieldType} {As rest : List Value} (hX : sp_OK sh X cc own nL rm) (hC : sp_Ci sh (sx_l X) (sx_w X) y cy nY ret rY mY sY σ (.ref (sx_ad X p) :: As) τ r) (hw : sp_wV own i C y cy nY ret n) (hp : sp_at sh p ci nf) (hc : vwCl[ci]? = some (C, T, nf)) (hst : st = As.reverse ++ .ref (sx_ad X p) :: rest) (hn : As.length = n) (h1 : rY.cells = mY) (h2 : rY.slots = sY) (h3 : rY.frames + 1 ≤ rm.frames) (h4 : 8 + (nY + 11) + rY.locals ≤ rm.locals) (h5 : (rest.map fun v => v.category).sum ≤ 8) (h6 : kc + mY ≤ rm.cells) (h7 : ks + sY ≤ rm.slots) (hd : decode cc pc = .ok (.invokevirtual i, 3)) (hq : pc + 3 = q) (k : sp_GG sh X τ nL lv (.int r :: rest) q (kc + mY) (ks + sY)) : sp_GG sh X σ nL lv st pc kc ks := by
  subst hq
  subst hst
  intro ls H locs hl hP hS
  have hsub := sp_Asub hX hS
  have hR := sp_rm hX
  refine va_calli (va_runV (As := As) (rest := rest) ⟨sp_ex hX, sp_co hX, sp_ml hX, sp_ow hX, sp_ts hX⟩ (hC H.size) (sp_cwV (R := rm) hX hw h1 h2 h3 h4) ⟨sp_pre_blind, sp_rcv hX hP hp hc, fun U hU hW => ⟨rfl, sp_prec hX hP hS hU hW⟩⟩ rfl hn hl.1 rfl (lv_room h5) hd ⟨by rw [hR]; exact h6, by rw [hR]; exact h7⟩) hS (fun z _ h => hsub z h) hsub (fun r9 u t H1 locs1 ht hvm hw9 hB hz1 hk1 hS1 => ?_)
  obtain ⟨rfl, rfl⟩ := hw9
  unfold sp_be at hB
  rw [ht] at hB
  exact k ls H1 locs1 hl hB hS1
set_option maxHeartbeats 1000000 in
theorem sp_callSi {rY : Room} {i : Nat} {y : MethodName} {cy : ByteArray} {nY n mY sY : Nat} {r : Int32} {ret : Option FieldType} {As rest : List Value} (hX : sp_OK sh X cc own nL rm) (hC : sp_Ci sh (sx_l X) (sx_w X) y cy nY ret rY mY sY σ As τ r) (hw : sp_wS own i y cy nY ret n) (hst : st = As.reverse ++ rest) (hn : As.length = n) (h1 : rY.cells = mY) (h2 : rY.slots = sY) (h3 : rY.frames + 1 ≤ rm.frames) (h4 : 8 + (nY + 11) + rY.locals ≤ rm.locals) (h5 : (rest.map fun v => v.category).sum ≤ 8) (h6 : kc + mY ≤ rm.cells) (h7 : ks + sY ≤ rm.slots) (hd : decode cc pc = .ok (.invokestatic i, 3)) (hq : pc + 3 = q) (k : sp_GG sh X τ nL lv (.int r :: rest) q (kc + mY) (ks + sY)) : sp_GG sh X σ nL lv st pc kc ks := by
  subst hq
  subst hst
  intro ls H locs hl hP hS
  have hsub := sp_Asub hX hS
  have hR := sp_rm hX
  refine va_calli (va_runS (As := As) (rest := rest) ⟨sp_ex hX, sp_co hX, sp_ml hX, sp_ow hX, sp_ts hX⟩ (hC H.size) (sp_cwS hX hw h1 h2 h3 h4) ⟨sp_pre_blind, fun U hU hW => ⟨rfl, sp_prec hX hP hS hU hW⟩⟩ rfl hn hl.1 rfl (lv_room h5) hd ⟨by rw [hR]; exact h6, by rw [hR]; exact h7⟩) hS (fun z _ h => hsub z h) hsub (fun r9 u t H1 locs1 ht hvm hw9 hB hz1 hk1 hS1 => ?_)
  obtain ⟨rfl, rfl⟩ := hw9
  unfold sp_be at hB
  rw [ht] at hB
  exact k ls H1 locs1 hl hB hS1
set_option maxHeartbeats 1000000 in
theorem sp_callVv {rY : Room} {i : Nat} {p ci nf : Nat} {C : String} {T : u_T} {y : MethodName} {cy : ByteArray} {nY n mY sY : Nat} {As rest : List Value} (hX : sp_OK sh X cc own nL rm) (hC : sp_Cv sh (sx_l X) (sx_w X) y cy nY rY mY sY σ (.ref (sx_ad X p) :: As) τ) (hw : sp_wV own i C y cy nY none n) (hp : sp_at sh p ci nf) (hc : vwCl[ci]? = some (C, T, nf)) (hst : st = As.reverse ++ .ref (sx_ad X p) :: rest) (hn : As.length = n) (h1 : rY.cells = mY) (h2 : rY.slots = sY) (h3 : rY.frames + 1 ≤ rm.frames) (h4 : 8 + (nY + 11) + rY.locals ≤ rm.locals) (h5 : (rest.map fun v => v.category).sum ≤ 8) (h6 : kc + mY ≤ rm.cells) (h7 : ks + sY ≤ rm.slots) (hd : decode cc pc = .ok (.invokevirtual i, 3)) (hq : pc + 3 = q) (k : sp_GG sh X τ nL lv rest q (kc + mY) (ks + sY)) : sp_GG sh X σ nL lv st pc kc ks := by
  subst hq
  subst hst
  intro ls H locs hl hP hS
  have hsub := sp_Asub hX hS
  have hR := sp_rm hX
  refine va_callv (va_runV (As := As) (rest := rest) ⟨sp_ex hX, sp_co hX, sp_ml hX, sp_ow hX, sp_ts hX⟩ (hC H.size) (sp_cwV (R := rm) hX hw h1 h2 h3 h4) ⟨sp_pre_blind, sp_rcv hX hP hp hc, fun U hU hW => ⟨rfl, sp_prec hX hP hS hU hW⟩⟩ rfl hn hl.1 rfl (lv_room h5) hd ⟨by rw [hR]; exact h6, by rw [hR]; exact h7⟩) hS (fun z _ h => hsub z h) hsub (fun u t H1 locs1 ht hvm hw9 hB hz1 hk1 hS1 => ?_)
  subst hw9
  unfold sp_be at hB
  rw [ht] at hB
  exact k ls H1 locs1 hl hB hS1
set_option maxHeartbeats 1000000 in
theorem sp_callSv {rY : Room} {i : Nat} {y : MethodName} {cy : ByteArray} {nY n mY sY : Nat} {As rest : List Value} (hX : sp_OK sh X cc own nL rm) (hC : sp_Cv sh (sx_l X) (sx_w X) y cy nY rY mY sY σ As τ) (hw : sp_wS own i y cy nY none n) (hst : st = As.reverse ++ rest) (hn : As.length = n) (h1 : rY.cells = mY) (h2 : rY.slots = sY) (h3 : rY.frames + 1 ≤ rm.frames) (h4 : 8 + (nY + 11) + rY.locals ≤ rm.locals) (h5 : (rest.map fun v => v.category).sum ≤ 8) (h6 : kc + mY ≤ rm.cells) (h7 : ks + sY ≤ rm.slots) (hd : decode cc pc = .ok (.invokestatic i, 3)) (hq : pc + 3 = q) (k : sp_GG sh X τ nL lv rest q (kc + mY) (ks + sY)) : sp_GG sh X σ nL lv st pc kc ks := by
  subst hq
  subst hst
  intro ls H locs hl hP hS
  have hsub := sp_Asub hX hS
  have hR := sp_rm hX
  refine va_callv (va_runS (As := As) (rest := rest) ⟨sp_ex hX, sp_co hX, sp_ml hX, sp_ow hX, sp_ts hX⟩ (hC H.size) (sp_cwS hX hw h1 h2 h3 h4) ⟨sp_pre_blind, fun U hU hW => ⟨rfl, sp_prec hX hP hS hU hW⟩⟩ rfl hn hl.1 rfl (lv_room h5) hd ⟨by rw [hR]; exact h6, by rw [hR]; exact h7⟩) hS (fun z _ h => hsub z h) hsub (fun u t H1 locs1 ht hvm hw9 hB hz1 hk1 hS1 => ?_)
  subst hw9
  unfold sp_be at hB
  rw [ht] at hB
  exact k ls H1 locs1 hl hB hS1
set_option maxHeartbeats 1000000 in
theorem sp_callVr {rY : Room} {i : Nat} {p ci nf : Nat} {C : String} {T : u_T} {y : MethodName} {cy : ByteArray} {nY n mY sY : Nat} {r : Nat} {ret : Option FieldType} {As rest : List Value} (hX : sp_OK sh X cc own nL rm) (hC : sp_Cr sh (sx_l X) (sx_w X) y cy nY ret rY mY sY σ (.ref (sx_ad X p) :: As) τ r) (hw : sp_wV own i C y cy nY ret n) (hp : sp_at sh p ci nf) (hc : vwCl[ci]? = some (C, T, nf)) (hst : st = As.reverse ++ .ref (sx_ad X p) :: rest) (hn : As.length = n) (h1 : rY.cells = mY) (h2 : rY.slots = sY) (h3 : rY.frames + 1 ≤ rm.frames) (h4 : 8 + (nY + 11) + rY.locals ≤ rm.locals) (h5 : (rest.map fun v => v.category).sum ≤ 8) (h6 : kc + mY ≤ rm.cells) (h7 : ks + sY ≤ rm.slots) (hd : decode cc pc = .ok (.invokevirtual i, 3)) (hq : pc + 3 = q) (k : sp_GG sh X τ nL lv (.ref (sx_ad X r) :: rest) q (kc + mY) (ks + sY)) : sp_GG sh X σ nL lv st pc kc ks := by
  subst hq
  subst hst
  intro ls H locs hl hP hS
  have hsub := sp_Asub hX hS
  have hR := sp_rm hX
  refine va_callr (va_runV (As := As) (rest := rest) ⟨sp_ex hX, sp_co hX, sp_ml hX, sp_ow hX, sp_ts hX⟩ (hC H.size) (sp_cwV (R := rm) hX hw h1 h2 h3 h4) ⟨sp_pre_blind, sp_rcv hX hP hp hc, fun U hU hW => ⟨rfl, sp_prec hX hP hS hU hW⟩⟩ rfl hn hl.1 rfl (lv_room h5) hd ⟨by rw [hR]; exact h6, by rw [hR]; exact h7⟩) hS (fun z _ h => hsub z h) hsub (fun u ra t H1 locs1 ht hvm hw9 hB hz1 hk1 hS1 => ?_)
  subst hw9
  obtain ⟨hB, rfl⟩ := hB
  unfold sp_be at hB
  rw [ht] at hB
  exact k ls H1 locs1 hl hB hS1
set_option maxHeartbeats 1000000 in
theorem sp_callSr {rY : Room} {i : Nat} {y : MethodName} {cy : ByteArray} {nY n mY sY : Nat} {r : Nat} {ret : Option FieldType} {As rest : List Value} (hX : sp_OK sh X cc own nL rm) (hC : sp_Cr sh (sx_l X) (sx_w X) y cy nY ret rY mY sY σ As τ r) (hw : sp_wS own i y cy nY ret n) (hst : st = As.reverse ++ rest) (hn : As.length = n) (h1 : rY.cells = mY) (h2 : rY.slots = sY) (h3 : rY.frames + 1 ≤ rm.frames) (h4 : 8 + (nY + 11) + rY.locals ≤ rm.locals) (h5 : (rest.map fun v => v.category).sum ≤ 8) (h6 : kc + mY ≤ rm.cells) (h7 : ks + sY ≤ rm.slots) (hd : decode cc pc = .ok (.invokestatic i, 3)) (hq : pc + 3 = q) (k : sp_GG sh X τ nL lv (.ref (sx_ad X r) :: rest) q (kc + mY) (ks + sY)) : sp_GG sh X σ nL lv st pc kc ks := by
  subst hq
  subst hst
  intro ls H locs hl hP hS
  have hsub := sp_Asub hX hS
  have hR := sp_rm hX
  refine va_callr (va_runS (As := As) (rest := rest) ⟨sp_ex hX, sp_co hX, sp_ml hX, sp_ow hX, sp_ts hX⟩ (hC H.size) (sp_cwS hX hw h1 h2 h3 h4) ⟨sp_pre_blind, fun U hU hW => ⟨rfl, sp_prec hX hP hS hU hW⟩⟩ rfl hn hl.1 rfl (lv_room h5) hd ⟨by rw [hR]; exact h6, by rw [hR]; exact h7⟩) hS (fun z _ h => hsub z h) hsub (fun u ra t H1 locs1 ht hvm hw9 hB hz1 hk1 hS1 => ?_)
  subst hw9
  obtain ⟨hB, rfl⟩ := hB
  unfold sp_be at hB
  rw [ht] at hB
  exact k ls H1 locs1 hl hB hS1
end SPC
