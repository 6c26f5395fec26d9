-- ===== THE LAW'S WRAPPERS: methods that catch =====
def sp_Cw (sh : sp_Sh) (l : Launch) (w : sp_Wd) (y : MethodName) (cc : ByteArray) (nL : Nat) (ret : Option FieldType) (hh : List (Nat × Nat × Nat × Nat)) (rm : Room) (mc ms : Nat) (σ : sp_St) (av : List Value) (τ : sp_St) (r : Int32) : Prop :=
  ∀ sz, Met l y (.codeWith y cc nL ret hh :: sp_T) rm (va_Pc av (sp_pre sh w σ sz)) (va_Qi (fun (r2 : Int32) (u : sp_St) => r2 = r ∧ u = τ) (sp_be sh w) (sp_A sh w sz)) mc ms (sp_A sh w sz)
set_option maxHeartbeats 1000000 in
theorem sp_cw {sh : sp_Sh} {l : Launch} {w : sp_Wd} {y : MethodName} {cc : ByteArray} {nL : Nat} {rm : Room} {mc ms : Nat} {σ τ : sp_St} {av : List Value} {r : Int32} {ret : Option FieldType} {hh : List (Nat × Nat × Nat × Nat)} {lv : List (Option Value)} (hy : plainName y.cls = true) (hown : y.cls = "SwordPeaceLaw") (hst : l.stackTraces = false) (hlen : (lg_sl av).length ≤ nL) (hent : (sp_ent av ++ List.replicate nL none).take nL = lv)
    (body : ∀ X : sp_X, sp_OK sh X cc "SwordPeaceLaw" nL rm → (sx_c X).exceptionTable.toList = tableOf hh → sx_w X = w → sx_l X = l → sp_Ri sh X ret τ r mc ms → sp_GG sh X σ nL lv [] 0 0 0) : sp_Cw sh l w y cc nL ret hh rm mc ms σ av τ r := by
  intro sz
  refine va_MetW (cc := cc) (maxL := nL) (ret := ret) hy rfl ?_
  intro p e s m args below meth c s₁ B hml hv
  obtain ⟨rfl, hsz, hP, hK, hI, hE⟩ := hv
  subst hsz
  have hts := atoms_spec (ws := .codeWith y cc nL ret hh :: sp_T) B.pre
  have hc0 : (Cond.codeWith y cc nL ret hh).before av.toArray s = true := hts _ List.mem_cons_self
  have ho : s.vm.findClass "SwordPeaceLaw" = some m.cls := by rw [← hown]; exact findClass_of_methodNamed B.named
  have K := body ((p, l, e, (headSpec (.codeWith y cc nL ret hh :: sp_T) rm).room, s, m, av.toArray, below, meth, c), w, sp_A sh w s.heap.size, MQ below (va_Qi (fun (r2 : Int32) (u : sp_St) => r2 = r ∧ u = τ) (sp_be sh w) (sp_A sh w s.heap.size)) av.toArray s mc ms (sp_A sh w s.heap.size))
    ⟨B.exec, B.bytes, hml, ho, fun w' h' => hts w' (List.mem_cons_of_mem _ h'), hK, hI, fun i hi => sp_A_w hi, fun q hq => Or.inr hq, rfl, B.notSynchronized, hst, hE, Or.inr rfl⟩ (vx_table (x := y) B hc0) rfl rfl ⟨B.returns, rfl⟩
  rw [lg_entry_eq]
  exact K _ _ _ (sp_lv_ent hlen hent) hP va_S.rf
def sp_bc {β : Type} (e : Option (sp_St × (Int32 ⊕ Nat))) (kr : sp_St → Int32 → Option β) (kx : sp_St → Nat → Option β) : Option β := match e with
  | none => none
  | some (σ, .inl v) => kr σ v
  | some (σ, .inr k) => kx σ k
theorem sp_bc_so {β : Type} {e : Option (sp_St × (Int32 ⊕ Nat))} {kr : sp_St → Int32 → Option β} {kx : sp_St → Nat → Option β} {r : β} (h : sp_bc e kr kx = some r) : ∃ σ ρ, e = some (σ, ρ) ∧ (∀ v, ρ = Sum.inl v → kr σ v = some r) ∧ (∀ k, ρ = Sum.inr k → kx σ k = some r) := by
  unfold sp_bc at h
  split at h
  · cases h
  · exact ⟨_, _, rfl, fun v hv => (by cases hv; exact h), fun k hk => (by cases hk)⟩
  · exact ⟨_, _, rfl, fun v hv => (by cases hv), fun k hk => (by cases hk; exact h)⟩
section SPW
variable {sh : sp_Sh} {X : sp_X} {σ τ σ1 : sp_St} {nL : Nat} {lv : List (Option Value)} {st : List Value} {pc kc ks mc ms : Nat} {cc : ByteArray} {own : String} {rm : Room} {q : Nat}
set_option maxHeartbeats 1000000 in
/-- a call of a method that may throw; what it throws is caught here -/
theorem sp_callXc {rY : Room} {i p ci nf : Nat} {C : String} {T : u_T} {y : MethodName} {cy : ByteArray} {nY n mY sY : Nat} {ρ : Int32 ⊕ Nat} {ret : Option FieldType} {As rest : List Value} (hX : sp_OK sh X cc own nL rm) (hC : sp_Xi sh (sx_l X) (sx_w X) y cy nY ret rY mY sY σ (.ref (sx_ad X p) :: As) σ1 ρ) (hw : sp_wV own i C y cy nY ret n) (hp : sp_at sh p ci nf) (hc : vwCl[ci]? = some (C, T, nf)) (hst : st = As.reverse ++ .ref (sx_ad X p) :: rest) (hn : As.length = n) (h1 : rY.cells = mY) (h2 : rY.slots = sY) (h3 : rY.frames + 1 ≤ rm.frames) (h4 : 8 + (nY + 11) + rY.locals ≤ rm.locals) (h5 : (rest.map fun v => v.category).sum ≤ 8) (h6 : kc + mY ≤ rm.cells) (h7 : ks + sY ≤ rm.slots) (hd : decode cc pc = .ok (.invokevirtual i, 3)) (hq : pc + 3 = q) (kr : ∀ r, ρ = Sum.inl r → sp_GG sh X σ1 nL lv (.int r :: rest) q (kc + mY) (ks + sY))
    (kx : ∀ k, ρ = Sum.inr k → ∃ (pre : List ExceptionTableEntry) (x : ExceptionTableEntry) (suf : List ExceptionTableEntry), (sx_c X).exceptionTable.toList = pre ++ x :: suf ∧ (∀ z ∈ pre, covers z pc = false ∨ (z.catchType ≠ 0 ∧ ∃ nm : String, Cond.classLink own z.catchType nm ∈ sp_T ∧ va_Nc (sp_exn k) nm (sx_s X))) ∧ covers x pc = true ∧ x.catchType ≠ 0 ∧ Cond.classLink own x.catchType (sp_exn k) ∈ sp_T ∧ ∀ a, sp_GG sh X σ1 nL lv [.ref a] x.handlerPc (kc + mY) (ks + sY)) : sp_GG sh X σ nL lv st pc kc ks := by
  subst hq
  subst hst
  intro ls H locs hl hP hS
  have hsub := sp_Asub hX hS
  have hRm := sp_rm hX
  refine vx_calli (vx_runV (As := As) (rest := rest) ⟨sp_ex hX, sp_co hX, sp_ml hX, sp_ow hX, sp_ts hX⟩ (hC H.size) (sp_cwV (R := rm) hX hw h1 h2 h3 h4) ⟨sp_pre_blind, sp_rcv hX hP hp hc, fun U hU hW => ⟨rfl, sp_prec hX hP hS hU hW⟩⟩ rfl hn hl.1 rfl (lv_room h5) hd ⟨by rw [hRm]; exact h6, by rw [hRm]; exact h7⟩) hS (fun z _ h => hsub z h) hsub (fun z _ h => hsub z h) (fun E ce q9 u t H1 locs1 ht hvm hu hB hz1 hk1 hS1 hc1 hc2 hc3 => ?_) (fun r u t H1 locs1 ht hvm hu hB hz1 hk1 hS1 => ?_)
  · subst hu
    obtain ⟨hB, k9, hk9, rfl⟩ := hB
    obtain ⟨pre, x, suf, e1, e2, e3, e4, e5, e6⟩ := kx k9 hk9
    unfold sp_be at hB
    rw [ht] at hB
    exact vx_catch (sp_ow hX) pre x suf e1 (fun z hz => (e2 z hz).imp id (fun h => ⟨h.1, h.2.imp fun nm h => ⟨sp_ts hX _ h.1, h.2⟩⟩)) e3 e4 (sp_ts hX _ e5) (va_Nw.use rfl (sp_exn_nw (sp_ev hX) k9)) hc1 hc2 hc3 (e6 q9 ls H1 locs1 hl hB hS1)
  · obtain ⟨hu, rfl⟩ := hu
    unfold sp_be at hB
    rw [ht] at hB
    exact kr r hu ls H1 locs1 hl hB hS1
end SPW
theorem clL_13 : Cond.classLink RL 13 (sp_exn 2) ∈ sp_T := sp_T_in 853 (by decide +kernel) (by decide +kernel)
theorem clL_18 : Cond.classLink RL 18 (sp_exn 1) ∈ sp_T := sp_T_in 1184 (by decide +kernel) (by decide +kernel)
