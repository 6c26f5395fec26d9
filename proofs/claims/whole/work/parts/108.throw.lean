-- ===== METHODS THAT MAY THROW =====
def sp_exn (k : Nat) : String := if k = 1 then "java/util/NoSuchElementException" else "java/lang/IllegalArgumentException"
abbrev sp_sup : List String := ["java/lang/RuntimeException", "java/lang/Exception"]
theorem sp_exn_nw {w : sp_Wd} {A : Nat → Prop} {U : State} {H : Heap} (h : sp_Ev w A U H) (k : Nat) : va_Nw (.castable (sp_exn k) (sp_exn k)) U := by
  unfold sp_exn
  split
  · exact h.2.2.2.2.2.2.1 _ List.mem_cons_self
  · exact h.2.2.2.2.2.2.1 _ (List.mem_cons_of_mem _ List.mem_cons_self)
def sp_xI (sh : sp_Sh) (w : sp_Wd) (A : Nat → Prop) (τ : sp_St) (ρ : Int32 ⊕ Nat) : String → State → State → Prop := vx_X (fun (u : sp_St) => u = τ) (fun E u t => sp_be sh w u t ∧ ∃ k, ρ = Sum.inr k ∧ E = sp_exn k) A
def sp_xV (sh : sp_Sh) (w : sp_Wd) (A : Nat → Prop) (τ : sp_St) (ρ : Option Nat) : String → State → State → Prop := vx_X (fun (u : sp_St) => u = τ) (fun E u t => sp_be sh w u t ∧ ∃ k, ρ = some k ∧ E = sp_exn k) A
def sp_qI (sh : sp_Sh) (w : sp_Wd) (A : Nat → Prop) (τ : sp_St) (ρ : Int32 ⊕ Nat) : Array Value → State → Outcome → State → Prop := va_Qi (fun (r2 : Int32) (u : sp_St) => ρ = Sum.inl r2 ∧ u = τ) (sp_be sh w) A
def sp_qV (sh : sp_Sh) (w : sp_Wd) (A : Nat → Prop) (τ : sp_St) (ρ : Option Nat) : Array Value → State → Outcome → State → Prop := va_Qv (fun (u : sp_St) => ρ = none ∧ u = τ) (sp_be sh w) A
def sp_Xi (sh : sp_Sh) (l : Launch) (w : sp_Wd) (y : MethodName) (cc : ByteArray) (nL : Nat) (ret : Option FieldType) (rm : Room) (mc ms : Nat) (σ : sp_St) (av : List Value) (τ : sp_St) (ρ : Int32 ⊕ Nat) : Prop :=
  ∀ sz, vx_Met l y (.code y cc nL ret :: sp_T) rm (va_Pc av (sp_pre sh w σ sz)) (sp_qI sh w (sp_A sh w sz) τ ρ) (sp_xI sh w (sp_A sh w sz) τ ρ) mc ms (sp_A sh w sz)
def sp_Xv (sh : sp_Sh) (l : Launch) (w : sp_Wd) (y : MethodName) (cc : ByteArray) (nL : Nat) (rm : Room) (mc ms : Nat) (σ : sp_St) (av : List Value) (τ : sp_St) (ρ : Option Nat) : Prop :=
  ∀ sz, vx_Met l y (.code y cc nL none :: sp_T) rm (va_Pc av (sp_pre sh w σ sz)) (sp_qV sh w (sp_A sh w sz) τ ρ) (sp_xV sh w (sp_A sh w sz) τ ρ) mc ms (sp_A sh w sz)
def sp_RXi (sh : sp_Sh) (X : sp_X) (ret : Option FieldType) (τ : sp_St) (ρ : Int32 ⊕ Nat) (mc ms : Nat) : Prop := (sx_h X).sig.returnType = ret ∧ sx_Q X = vx_MQ (sx_b X) (sp_qI sh (sx_w X) (sx_A X) τ ρ) (sp_xI sh (sx_w X) (sx_A X) τ ρ) (sx_a X) (sx_s X) mc ms (sx_A X)
def sp_RXv (sh : sp_Sh) (X : sp_X) (τ : sp_St) (ρ : Option Nat) (mc ms : Nat) : Prop := (sx_h X).sig.returnType = none ∧ sx_Q X = vx_MQ (sx_b X) (sp_qV sh (sx_w X) (sx_A X) τ ρ) (sp_xV sh (sx_w X) (sx_A X) τ ρ) (sx_a X) (sx_s X) mc ms (sx_A X)
set_option maxHeartbeats 1000000 in
theorem sp_xi {sh : sp_Sh} {l : Launch} {w : sp_Wd} {y : MethodName} {cc : ByteArray} {nL : Nat} {rm : Room} {mc ms : Nat} {σ τ : sp_St} {ρ : Int32 ⊕ Nat} {av : List Value} {ret : Option FieldType} {own : String} {lv : List (Option Value)} (hy : plainName y.cls = true) (hown : y.cls = own) (hst : l.stackTraces = false) (hlen : (lg_sl av).length ≤ nL) (hent : (sp_ent av ++ List.replicate nL none).take nL = lv)
    (body : ∀ X : sp_X, sp_OK sh X cc own nL rm → sx_w X = w → sx_l X = l → sp_RXi sh X ret τ ρ mc ms → sp_GG sh X σ nL lv [] 0 0 0) : sp_Xi sh l w y cc nL ret rm mc ms σ av τ ρ := by
  intro sz
  refine vx_ofW (cc := cc) (maxL := nL) (ret := ret) hy rfl ?_
  intro p e s m args below meth c s₁ B hml _ hv
  obtain ⟨rfl, hsz, hP, hK, hI, hE⟩ := hv
  subst hsz
  have hts := atoms_spec (ws := .code y cc nL ret :: sp_T) B.pre
  have hc0 : (Cond.code y cc nL ret).before av.toArray s = true := hts _ List.mem_cons_self
  have ho : s.vm.findClass own = some m.cls := by rw [← hown]; exact findClass_of_methodNamed B.named
  have K := body ((p, l, e, (headSpec (.code y cc nL ret :: sp_T) rm).room, s, m, av.toArray, below, meth, c), w, sp_A sh w s.heap.size, vx_MQ below (sp_qI sh w (sp_A sh w s.heap.size) τ ρ) (sp_xI sh w (sp_A sh w s.heap.size) τ ρ) av.toArray s mc ms (sp_A sh w s.heap.size))
    ⟨B.exec, B.bytes, hml, ho, fun w' h' => hts w' (List.mem_cons_of_mem _ h'), hK, hI, fun i hi => sp_A_w hi, fun q hq => Or.inr hq, rfl, B.notSynchronized, hst, hE, Or.inl (B.noHandlers hc0)⟩ rfl rfl ⟨B.returns, rfl⟩
  rw [lg_entry_eq]
  exact K _ _ _ (sp_lv_ent hlen hent) hP va_S.rf
set_option maxHeartbeats 1000000 in
theorem sp_xv {sh : sp_Sh} {l : Launch} {w : sp_Wd} {y : MethodName} {cc : ByteArray} {nL : Nat} {rm : Room} {mc ms : Nat} {σ τ : sp_St} {ρ : Option Nat} {av : List Value} {own : String} {lv : List (Option Value)} (hy : plainName y.cls = true) (hown : y.cls = own) (hst : l.stackTraces = false) (hlen : (lg_sl av).length ≤ nL) (hent : (sp_ent av ++ List.replicate nL none).take nL = lv)
    (body : ∀ X : sp_X, sp_OK sh X cc own nL rm → sx_w X = w → sx_l X = l → sp_RXv sh X τ ρ mc ms → sp_GG sh X σ nL lv [] 0 0 0) : sp_Xv sh l w y cc nL rm mc ms σ av τ ρ := by
  intro sz
  refine vx_ofW (cc := cc) (maxL := nL) (ret := none) hy rfl ?_
  intro p e s m args below meth c s₁ B hml _ hv
  obtain ⟨rfl, hsz, hP, hK, hI, hE⟩ := hv
  subst hsz
  have hts := atoms_spec (ws := .code y cc nL none :: sp_T) B.pre
  have hc0 : (Cond.code y cc nL none).before av.toArray s = true := hts _ List.mem_cons_self
  have ho : s.vm.findClass own = some m.cls := by rw [← hown]; exact findClass_of_methodNamed B.named
  have K := body ((p, l, e, (headSpec (.code y cc nL none :: sp_T) rm).room, s, m, av.toArray, below, meth, c), w, sp_A sh w s.heap.size, vx_MQ below (sp_qV sh w (sp_A sh w s.heap.size) τ ρ) (sp_xV sh w (sp_A sh w s.heap.size) τ ρ) av.toArray s mc ms (sp_A sh w s.heap.size))
    ⟨B.exec, B.bytes, hml, ho, fun w' h' => hts w' (List.mem_cons_of_mem _ h'), hK, hI, fun i hi => sp_A_w hi, fun q hq => Or.inr hq, rfl, B.notSynchronized, hst, hE, Or.inl (B.noHandlers hc0)⟩ rfl rfl ⟨B.returns, rfl⟩
  rw [lg_entry_eq]
  exact K _ _ _ (sp_lv_ent hlen hent) hP va_S.rf
section SPX
variable {sh : sp_Sh} {X : sp_X} {σ τ σ1 : sp_St} {nL : Nat} {lv : List (Option Value)} {st : List Value} {pc kc ks mc ms : Nat} {cc : ByteArray} {own : String} {rm : Room} {q : Nat}
theorem sp_nretX {v : Int32} {ρ : Int32 ⊕ Nat} {ty : FieldType} (hX : sp_OK sh X cc own nL rm) (hR : sp_RXi sh X (some ty) τ ρ mc ms) (hz : narrow ty (.int v) = .int v) (hd : decode cc pc = .ok (.ireturn, 1)) (hf : some (σ, Sum.inl v) = some (τ, ρ)) (h1 : kc ≤ mc) (h2 : ks ≤ ms) : sp_GG sh X σ nL lv [.int v] pc kc ks := by
  cases hf
  intro ls H locs hl hP hS
  rw [hR.2]
  exact vx_ret (W.widen h1 h2 (W.zret (sp_ex hX) (sp_co hX) hR.1 hz (fun t ht hW => ⟨⟨_, _, rfl, ⟨rfl, rfl⟩, by unfold sp_be; rw [ht]; exact hP⟩, hS.F ht⟩) hS.2.2 hd (sp_lo hX)))
theorem sp_iretX {v : Int32} {ρ : Int32 ⊕ Nat} (hX : sp_OK sh X cc own nL rm) (hR : sp_RXi sh X (some .int) τ ρ mc ms) (hd : decode cc pc = .ok (.ireturn, 1)) (hf : some (σ, Sum.inl v) = some (τ, ρ)) (h1 : kc ≤ mc) (h2 : ks ≤ ms) : sp_GG sh X σ nL lv [.int v] pc kc ks := sp_nretX hX hR rfl hd hf h1 h2
theorem sp_zretX {v : Int32} {ρ : Int32 ⊕ Nat} (hX : sp_OK sh X cc own nL rm) (hR : sp_RXi sh X (some .boolean) τ ρ mc ms) (hz : sp_zb v = true) (hd : decode cc pc = .ok (.ireturn, 1)) (hf : some (σ, Sum.inl v) = some (τ, ρ)) (h1 : kc ≤ mc) (h2 : ks ≤ ms) : sp_GG sh X σ nL lv [.int v] pc kc ks := sp_nretX hX hR (sp_nar hz) hd hf h1 h2
theorem sp_vretX {ρ : Option Nat} (hX : sp_OK sh X cc own nL rm) (hR : sp_RXv sh X τ ρ mc ms) (hd : decode cc pc = .ok (.return_, 1)) (hf : some (σ, (none : Option Nat)) = some (τ, ρ)) (h1 : kc ≤ mc) (h2 : ks ≤ ms) : sp_GG sh X σ nL lv [] pc kc ks := by
  cases hf
  intro ls H locs hl hP hS
  rw [hR.2]
  exact vx_ret (W.widen h1 h2 (W.vret (sp_ex hX) (sp_co hX) hR.1 (fun t ht hW => ⟨⟨_, rfl, ⟨rfl, rfl⟩, by unfold sp_be; rw [ht]; exact hP⟩, hS.F ht⟩) hS.2.2 hd (sp_lo hX)))
theorem sp_nohandlers (hX : sp_OK sh X cc own nL rm) (ho : own ≠ "SwordPeaceLaw") (n : Nat) : ∀ x ∈ (sx_c X).exceptionTable.toList, covers x n = false := by
  intro x hx
  have h := (sp_nh hX).resolve_right ho
  rw [Array.isEmpty_iff] at h
  rw [h] at hx
  cases hx
/-- 'throw new E()' in a method whose end is Qc or XC -/
theorem sp_thr0 {k ik ic : Nat} {Qc : Array Value → State → Outcome → State → Prop} {XC : String → State → State → Prop} (hX : sp_OK sh X cc own nL rm) (ho : own ≠ "SwordPeaceLaw") (hQ : sx_Q X = vx_MQ (sx_b X) Qc XC (sx_a X) (sx_s X) mc ms (sx_A X))
    (hxc : ∀ t : State, sp_be sh (sx_w X) σ t → va_F (sx_A X) (sx_s X) t → XC (sp_exn k) (sx_s X) t)
    (w1 : Cond.classLink own ik (sp_exn k) ∈ sp_T) (w2 : Cond.initialized (sp_exn k) ∈ sp_T) (w3 : ∀ w ∈ (vx_at0 own ic (sp_exn k) sp_sup).filter goodWord, w ∈ sp_T) (w4 : ∀ w ∈ (vx_at0 own ic (sp_exn k) sp_sup).filter (fun w => !goodWord w), w ∈ Cond.castable (sp_exn k) (sp_exn k) :: sp_decl) (w5 : ∀ w ∈ Cond.classLink own ik (sp_exn k) :: Cond.initialized (sp_exn k) :: vx_at0 own ic (sp_exn k) sp_sup, vx_ot w = true) (w6 : Bundle.fit (sp_exn k) = true)
    (d0 : decode cc pc = .ok (.new ik, 3)) (d3 : decode cc (pc + 3) = .ok (.dup, 1)) (d4 : decode cc (pc + 4) = .ok (.invokespecial ic, 3)) (d7 : decode cc (pc + 7) = .ok (.athrow, 1))
    (r1 : 5 < rm.frames) (r2 : (st.map fun v => v.category).sum + 81 ≤ rm.locals) (r3 : kc + 1 ≤ rm.cells) (r4 : ks + 6 ≤ rm.slots) (r5 : kc + 1 ≤ mc) (r6 : ks + 6 ≤ ms) : sp_GG sh X σ nL lv st pc kc ks := by
  intro ls H locs hl hP hS
  rw [hQ]
  have hr := sp_rm hX
  have hE := sp_ev hX
  refine vx_throw0 (names := sp_sup) (sp_ex hX) (sp_co hX) (sp_st hX) (sp_ow hX) w6 (by decide +kernel) (sp_ts hX _ w1) (sp_ts hX _ w2) (vx_hat (fun w hw => sp_ts hX _ (w3 w hw)) w4 (fun w hw => ?_)) w5 hE.1 hE.2.1 hS (by rw [hl.1, sp_ml hX]) d0 d3 d4 d7 (sp_nohandlers hX ho _) (by rw [hr]; exact r1) (by rw [hr]; exact r2) (by rw [hr]; exact r3) (by rw [hr]; exact r4) (sp_lo hX) (fun t ha hz hk => ?_) hS.2.2 r5 r6
  · rcases List.mem_cons.mp hw with rfl | hw
    · exact va_Nw.use rfl (sp_exn_nw hE k)
    · have h9 : w ∈ sp_nws := List.mem_cons_of_mem _ (List.mem_cons_of_mem _ (List.mem_append_left _ hw))
      exact va_Nw.use (sp_nws_ot w h9) (hE.2.2.2.2.2.2.1 w h9)
  · refine hxc t ?_ ⟨Nat.le_trans hS.1 hz, fun z h1 h2 => by rw [hk z (Nat.lt_of_lt_of_le h1 hS.1)]; exact hS.2.1 z h1 h2⟩
    exact hP.kept (fun j y hy => hk y.1 (vx_lt hP hy))
theorem sp_thrI {k ik ic : Nat} {ρ : Int32 ⊕ Nat} {ret : Option FieldType} (hX : sp_OK sh X cc own nL rm) (ho : own ≠ "SwordPeaceLaw") (hR : sp_RXi sh X ret τ ρ mc ms) (hf : some (σ, (Sum.inr k : Int32 ⊕ Nat)) = some (τ, ρ))
    (w1 : Cond.classLink own ik (sp_exn k) ∈ sp_T) (w2 : Cond.initialized (sp_exn k) ∈ sp_T) (w3 : ∀ w ∈ (vx_at0 own ic (sp_exn k) sp_sup).filter goodWord, w ∈ sp_T) (w4 : ∀ w ∈ (vx_at0 own ic (sp_exn k) sp_sup).filter (fun w => !goodWord w), w ∈ Cond.castable (sp_exn k) (sp_exn k) :: sp_decl) (w5 : ∀ w ∈ Cond.classLink own ik (sp_exn k) :: Cond.initialized (sp_exn k) :: vx_at0 own ic (sp_exn k) sp_sup, vx_ot w = true) (w6 : Bundle.fit (sp_exn k) = true)
    (d0 : decode cc pc = .ok (.new ik, 3)) (d3 : decode cc (pc + 3) = .ok (.dup, 1)) (d4 : decode cc (pc + 4) = .ok (.invokespecial ic, 3)) (d7 : decode cc (pc + 7) = .ok (.athrow, 1))
    (r1 : 5 < rm.frames) (r2 : (st.map fun v => v.category).sum + 81 ≤ rm.locals) (r3 : kc + 1 ≤ rm.cells) (r4 : ks + 6 ≤ rm.slots) (r5 : kc + 1 ≤ mc) (r6 : ks + 6 ≤ ms) : sp_GG sh X σ nL lv st pc kc ks := by
  cases hf
  exact sp_thr0 hX ho hR.2 (fun t h1 h2 => ⟨_, rfl, ⟨h1, _, rfl, rfl⟩, h2⟩) w1 w2 w3 w4 w5 w6 d0 d3 d4 d7 r1 r2 r3 r4 r5 r6
theorem sp_thrV {k ik ic : Nat} {ρ : Option Nat} (hX : sp_OK sh X cc own nL rm) (ho : own ≠ "SwordPeaceLaw") (hR : sp_RXv sh X τ ρ mc ms) (hf : some (σ, some k) = some (τ, ρ))
    (w1 : Cond.classLink own ik (sp_exn k) ∈ sp_T) (w2 : Cond.initialized (sp_exn k) ∈ sp_T) (w3 : ∀ w ∈ (vx_at0 own ic (sp_exn k) sp_sup).filter goodWord, w ∈ sp_T) (w4 : ∀ w ∈ (vx_at0 own ic (sp_exn k) sp_sup).filter (fun w => !goodWord w), w ∈ Cond.castable (sp_exn k) (sp_exn k) :: sp_decl) (w5 : ∀ w ∈ Cond.classLink own ik (sp_exn k) :: Cond.initialized (sp_exn k) :: vx_at0 own ic (sp_exn k) sp_sup, vx_ot w = true) (w6 : Bundle.fit (sp_exn k) = true)
    (d0 : decode cc pc = .ok (.new ik, 3)) (d3 : decode cc (pc + 3) = .ok (.dup, 1)) (d4 : decode cc (pc + 4) = .ok (.invokespecial ic, 3)) (d7 : decode cc (pc + 7) = .ok (.athrow, 1))
    (r1 : 5 < rm.frames) (r2 : (st.map fun v => v.category).sum + 81 ≤ rm.locals) (r3 : kc + 1 ≤ rm.cells) (r4 : ks + 6 ≤ rm.slots) (r5 : kc + 1 ≤ mc) (r6 : ks + 6 ≤ ms) : sp_GG sh X σ nL lv st pc kc ks := by
  cases hf
  exact sp_thr0 hX ho hR.2 (fun t h1 h2 => ⟨_, rfl, ⟨h1, _, rfl, rfl⟩, h2⟩) w1 w2 w3 w4 w5 w6 d0 d3 d4 d7 r1 r2 r3 r4 r5 r6
set_option maxHeartbeats 1000000 in
/-- a call of a method that may throw; what it throws goes on -/
theorem sp_callXv {rY : Room} {i p ci nf : Nat} {C : String} {T : u_T} {y : MethodName} {cy : ByteArray} {nY n mY sY : Nat} {ρ : Int32 ⊕ Nat} {ρ1 : Option Nat} {ret : Option FieldType} {P : Prop} {As rest : List Value} (hX : sp_OK sh X cc own nL rm) (ho : own ≠ "SwordPeaceLaw") (hR : sp_RXi sh X ret τ ρ mc ms) (hC : sp_Xv sh (sx_l X) (sx_w X) y cy nY rY mY sY σ (.ref (sx_ad X p) :: As) σ1 ρ1) (hw : sp_wV own i C y cy nY none n) (hp : sp_at sh p ci nf) (hc : vwCl[ci]? = some (C, T, nf)) (hst : st = As.reverse ++ .ref (sx_ad X p) :: rest) (hn : As.length = n) (h1 : rY.cells = mY) (h2 : rY.slots = sY) (h3 : rY.frames + 1 ≤ rm.frames) (h4 : 8 + (nY + 11) + rY.locals ≤ rm.locals) (h5 : (rest.map fun v => v.category).sum ≤ 8) (h6 : kc + mY ≤ rm.cells) (h7 : ks + sY ≤ rm.slots) (h8 : kc + mY ≤ mc) (h9 : ks + sY ≤ ms) (hd : decode cc pc = .ok (.invokevirtual i, 3)) (hq : pc + 3 = q) (hf : (ρ1 = none ∧ P) ∨ ∃ k, ρ1 = some k ∧ τ = σ1 ∧ ρ = Sum.inr k) (k : P → sp_GG sh X σ1 nL lv rest q (kc + mY) (ks + sY)) : sp_GG sh X σ nL lv st pc kc ks := by
  subst hq
  subst hst
  intro ls H locs hl hP hS
  have hsub := sp_Asub hX hS
  have hRm := sp_rm hX
  refine vx_callv (vx_runV (As := As) (rest := rest) ⟨sp_ex hX, sp_co hX, sp_ml hX, sp_ow hX, sp_ts hX⟩ (hC H.size) (sp_cwV (R := rm) hX hw h1 h2 h3 h4) ⟨sp_pre_blind, sp_rcv hX hP hp hc, fun U hU hW => ⟨rfl, sp_prec hX hP hS hU hW⟩⟩ rfl hn hl.1 rfl (lv_room h5) hd ⟨by rw [hRm]; exact h6, by rw [hRm]; exact h7⟩) hS (fun z _ h => hsub z h) hsub (fun z _ h => hsub z h) (fun E ce q9 u t H1 locs1 ht hvm hu hB hz1 hk1 hS1 hc1 hc2 hc3 => ?_) (fun u t H1 locs1 ht hvm hu hB hz1 hk1 hS1 => ?_)
  · subst hu
    obtain ⟨hB, k9, rfl, rfl⟩ := hB
    rcases hf with ⟨hf, -⟩ | ⟨k8, hf, rfl, rfl⟩
    · cases hf
    · cases hf
      rw [hR.2]
      refine vx_out (sp_nohandlers hX ho _) (sp_lo hX) hc1 hc2 hc3 (fun t9 ht9 _ => ⟨_, rfl, ⟨?_, _, rfl, rfl⟩, hS1.F ht9⟩) hS1.2.2 h8 h9
      unfold sp_be at hB ⊢
      rw [ht9, ← ht]
      exact hB
  · obtain ⟨rfl, rfl⟩ := hu
    rcases hf with ⟨-, hf⟩ | ⟨k8, hf, -⟩
    · unfold sp_be at hB
      rw [ht] at hB
      exact k hf ls H1 locs1 hl hB hS1
    · cases hf
end SPX
def sp_bx (e : Option (sp_St × Option Nat)) (k : sp_St → Option (sp_St × (Int32 ⊕ Nat))) : Option (sp_St × (Int32 ⊕ Nat)) := match e with
  | none => none
  | some (σ, none) => k σ
  | some (σ, some j) => some (σ, Sum.inr j)
theorem sp_bx_so {e : Option (sp_St × Option Nat)} {k : sp_St → Option (sp_St × (Int32 ⊕ Nat))} {τ : sp_St} {ρ : Int32 ⊕ Nat} (h : sp_bx e k = some (τ, ρ)) : ∃ σ o, e = some (σ, o) ∧ ((o = none ∧ k σ = some (τ, ρ)) ∨ ∃ j, o = some j ∧ τ = σ ∧ ρ = Sum.inr j) := by
  unfold sp_bx at h
  split at h
  · cases h
  · exact ⟨_, _, rfl, Or.inl ⟨rfl, h⟩⟩
  · cases h
    exact ⟨_, _, rfl, Or.inr ⟨_, rfl, rfl, rfl⟩⟩
theorem sp_bx_ret {e : Option (sp_St × Option Nat)} {k : sp_St → Option (sp_St × (Int32 ⊕ Nat))} {σ : sp_St} (h : e = some (σ, none)) : sp_bx e k = k σ := by rw [h]; rfl
theorem sp_bx_thr {e : Option (sp_St × Option Nat)} {k : sp_St → Option (sp_St × (Int32 ⊕ Nat))} {σ : sp_St} {j : Nat} (h : e = some (σ, some j)) : sp_bx e k = some (σ, Sum.inr j) := by rw [h]; rfl
