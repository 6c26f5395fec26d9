-- ===== TEXTS =====
def sp_tl (i : Nat) : Nat := sp_lenS.getD i 0
def sp_tb (i : Nat) (k : Int32) : Int32 := (sp_bytS.getD i []).getD k.toNatClampNeg 0
def sp_cb (v : Int32) : Bool := decide (0 ≤ v) && decide (v ≤ 65535)
theorem sp_narc {v : Int32} (h : sp_cb v = true) : narrow .char (.int v) = .int v := by
  simp only [sp_cb, Bool.and_eq_true, decide_eq_true_eq] at h
  obtain ⟨j, hj, rfl⟩ := nI_of2 (M := 65535) (n := 65535) (by decide) (Int32.not_lt.mpr h.1) h.2
  exact (pk_charN (by omega)).1
theorem sp_narb {v : Int32} (h : sp_zb v = true) : narrow .byte (.int v) = .int v := by
  simp only [sp_zb, Bool.or_eq_true, decide_eq_true_eq] at h
  rcases h with rfl | rfl <;> rfl
section SPT
variable {sh : sp_Sh} {X : sp_X} {σ τ : sp_St} {nL : Nat} {lv : List (Option Value)} {st : List Value} {pc kc ks mc ms : Nat} {cc : ByteArray} {own : String} {rm : Room} {q : Nat}
theorem sp_txv (hX : sp_OK sh X cc own nL rm) {i k : Nat} (hi : i < 16) (hl : Cond.fieldLink own k "java/lang/String" "value" "[B" ∈ sp_T) (hd : decode cc pc = .ok (.getfield k, 3)) (hq : pc + 3 = q) (kk : sp_GG sh X σ nL lv (.ref ((sx_w X).2.2.1 1 i) :: st) q kc ks) : sp_GG sh X σ nL lv (.ref ((sx_w X).2.2.1 0 i) :: st) pc kc ks := by
  subst hq
  exact fun ls H locs hlv hP hS => vk_getf (sp_ex hX) (sp_co hX) (((sp_ev hX).2.2.2.2.1 _ hi).1 0 (by decide)).2.2.1 hS (sp_ow hX) (sp_ts hX _ hl) (fun _ h => h) hd (kk ls H locs hlv hP hS)
theorem sp_txc (hX : sp_OK sh X cc own nL rm) {i k : Nat} (hi : i < 16) (hl : Cond.fieldLink own k "java/lang/String" "coder" "B" ∈ sp_T) (hd : decode cc pc = .ok (.getfield k, 3)) (hq : pc + 3 = q) (kk : sp_GG sh X σ nL lv (.int 0 :: st) q kc ks) : sp_GG sh X σ nL lv (.ref ((sx_w X).2.2.1 0 i) :: st) pc kc ks := by
  subst hq
  exact fun ls H locs hlv hP hS => vk_getf (sp_ex hX) (sp_co hX) (((sp_ev hX).2.2.2.2.1 _ hi).1 0 (by decide)).2.1 hS (sp_ow hX) (sp_ts hX _ hl) (fun _ h => h) hd (kk ls H locs hlv hP hS)
theorem sp_txn (hX : sp_OK sh X cc own nL rm) {i : Nat} (hi : i < 16) (hd : decode cc pc = .ok (.arraylength, 1)) (hq : pc + 1 = q) (kk : sp_GG sh X σ nL lv (.int (Int32.ofNat (sp_tl i)) :: st) q kc ks) : sp_GG sh X σ nL lv (.ref ((sx_w X).2.2.1 1 i) :: st) pc kc ks := by
  subst hq
  exact fun ls H locs hlv hP hS => va_tlen (sp_ex hX) (sp_co hX) (((sp_ev hX).2.2.2.2.1 _ hi).1 0 (by decide)).2.2.2 hS rfl hd (kk ls H locs hlv hP hS)
theorem sp_txb (hX : sp_OK sh X cc own nL rm) {i : Nat} {k : Int32} (hi : i < 16) (hk : sp_in k (sp_tl i) = true) (hd : decode cc pc = .ok (.baload, 1)) (hq : pc + 1 = q) (kk : sp_GG sh X σ nL lv (.int (sp_tb i k) :: st) q kc ks) : sp_GG sh X σ nL lv (.int k :: .ref ((sx_w X).2.2.1 1 i) :: st) pc kc ks := by
  subst hq
  exact fun ls H locs hlv hP hS => va_tb (sp_ex hX) (sp_co hX) (((sp_ev hX).2.2.2.2.1 _ hi).1 0 (by decide)).2.2.2 hS (sp_in_vp hk) rfl hd (kk ls H locs hlv hP hS)
theorem sp_cst (hX : sp_OK sh X cc own nL rm) {k : Nat} (hl : Cond.fieldLink own k "java/lang/String" "COMPACT_STRINGS" "Z" ∈ sp_T) (hd : decode cc pc = .ok (.getstatic k, 3)) (hq : pc + 3 = q) (kk : sp_GG sh X σ nL lv (.int 1 :: st) q kc ks) : sp_GG sh X σ nL lv st pc kc ks := by
  subst hq
  exact fun ls H locs hlv hP hS => va_gets (sp_ex hX) (sp_co hX) (sp_ev hX).2.2.1 hS (sp_ow hX) (sp_ts hX _ hl) (fun _ h => h) hd (kk ls H locs hlv hP hS)
theorem sp_fmt (hX : sp_OK sh X cc own nL rm) {k : Nat} (hl : Cond.fieldLink own k "jdk/internal/util/Preconditions" "SIOOBE_FORMATTER" "Ljava/util/function/BiFunction;" ∈ sp_T) (hd : decode cc pc = .ok (.getstatic k, 3)) (hq : pc + 3 = q) (k1 : sp_GG sh X σ nL lv (.null :: st) q kc ks) (k2 : ∀ a, sp_GG sh X σ nL lv (.ref a :: st) q kc ks) : sp_GG sh X σ nL lv st pc kc ks := by
  subst hq
  intro ls H locs hlv hP hS
  rcases (sp_ev hX).2.2.2.1 with hZ | ⟨a, hZ⟩
  · exact va_gets (sp_ex hX) (sp_co hX) hZ hS (sp_ow hX) (sp_ts hX _ hl) (fun _ h => h) hd (k1 ls H locs hlv hP hS)
  · exact va_gets (sp_ex hX) (sp_co hX) hZ hS (sp_ow hX) (sp_ts hX _ hl) (fun _ h => h) hd (k2 a ls H locs hlv hP hS)
theorem sp_i2b (hX : sp_OK sh X cc own nL rm) {x : Int32} (hd : decode cc pc = .ok (.i2b, 1)) (hq : pc + 1 = q) (k : sp_GG sh X σ nL lv (.int x.toInt8.toInt32 :: st) q kc ks) : sp_GG sh X σ nL lv (.int x :: st) pc kc ks := by
  subst hq
  exact fun ls H locs hl hP hS => lv_i2b (sp_ex hX) (sp_co hX) hd rfl (k ls H locs hl hP hS)
theorem sp_ldcS (hX : sp_OK sh X cc own nL rm) {k i : Nat} {tx : String} (hm : (own, k, tx, i) ∈ sp_lits) (hd : decode cc pc = .ok (.ldc k, 2)) (hq : pc + 2 = q) (kk : sp_GG sh X σ nL lv (.ref ((sx_w X).2.2.1 0 i) :: st) q kc ks) : sp_GG sh X σ nL lv st pc kc ks := by
  subst hq
  exact fun ls H locs hl hP hS => va_ldcS (sp_ex hX) (sp_co hX) (sp_ow hX) ((sp_ev hX).2.2.2.2.2.1 _ hm) hd (kk ls H locs hl hP hS)
theorem sp_ldcSw (hX : sp_OK sh X cc own nL rm) {k i : Nat} {tx : String} (hm : (own, k, tx, i) ∈ sp_lits) (hd : decode cc pc = .ok (.ldc_w k, 3)) (hq : pc + 3 = q) (kk : sp_GG sh X σ nL lv (.ref ((sx_w X).2.2.1 0 i) :: st) q kc ks) : sp_GG sh X σ nL lv st pc kc ks := by
  subst hq
  intro ls H locs hl hP hS T9 hT9 Y9
  obtain ⟨t9, a9, b9⟩ := kk ls H locs hl hP hS T9 hT9 Y9
  have hZ := (sp_ev hX).2.2.2.2.2.1 _ hm
  exact ⟨t9, Y9.ldcStringW (sp_ex hX) (sp_ow hX) (text := tx) hZ.1 hZ.2 (g := F0 (sx_m X) pc ls st) rfl (by rw [sp_co hX]; exact hd) t9 a9, b9⟩
/-- a return of a kind that is narrowed -/
theorem sp_nret {v r : Int32} {ty : FieldType} (hX : sp_OK sh X cc own nL rm) (hR : sp_Ri sh X (some ty) τ r mc ms) (hz : narrow ty (.int v) = .int v) (hd : decode cc pc = .ok (.ireturn, 1)) (hf : some (σ, v) = some (τ, r)) (h1 : kc ≤ mc) (h2 : ks ≤ ms) : sp_GG sh X σ nL lv [.int v] pc kc ks := by
  cases hf
  intro ls H locs hl hP hS
  rw [hR.2]
  exact W.widen h1 h2 (W.zret (sp_ex hX) (sp_co hX) hR.1 hz (fun t ht hW => ⟨⟨_, _, rfl, ⟨rfl, rfl⟩, by unfold sp_be; rw [ht]; exact hP⟩, hS.F ht⟩) hS.2.2 hd (sp_lo hX))
set_option maxHeartbeats 1000000 in
/-- a call on a text -/
theorem sp_callTi {rY : Room} {i tx : Nat} {y : MethodName} {cy : ByteArray} {nY n mY sY : Nat} {r : Int32} {ret : Option FieldType} {As rest : List Value} (hX : sp_OK sh X cc own nL rm) (hC : sp_Ci sh (sx_l X) (sx_w X) y cy nY ret rY mY sY σ (.ref ((sx_w X).2.2.1 0 tx) :: As) τ r) (hw : sp_wV own i "java/lang/String" y cy nY ret n) (hi : tx < 16) (hst : st = As.reverse ++ .ref ((sx_w X).2.2.1 0 tx) :: rest) (hn : As.length = n) (h1 : rY.cells = mY) (h2 : rY.slots = sY) (h3 : rY.frames + 1 ≤ rm.frames) (h4 : 8 + (nY + 11) + rY.locals ≤ rm.locals) (h5 : (rest.map fun v => v.category).sum ≤ 8) (h6 : kc + mY ≤ rm.cells) (h7 : ks + sY ≤ rm.slots) (hd : decode cc pc = .ok (.invokevirtual i, 3)) (hq : pc + 3 = q) (k : sp_GG sh X τ nL lv (.int r :: rest) q (kc + mY) (ks + sY)) : sp_GG sh X σ nL lv st pc kc ks := by
  subst hq
  subst hst
  intro ls H locs hl hP hS
  have hsub := sp_Asub hX hS
  have hR := sp_rm hX
  refine va_calli (va_runV (As := As) (rest := rest) ⟨sp_ex hX, sp_co hX, sp_ml hX, sp_ow hX, sp_ts hX⟩ (hC H.size) (sp_cwV (R := rm) hX hw h1 h2 h3 h4) ⟨sp_pre_blind, vk_recv ((sp_ev hX).2.2.2.2.1 _ hi) (i := 0) (by decide) hS, fun U hU hW => ⟨rfl, sp_prec hX hP hS hU hW⟩⟩ rfl hn hl.1 rfl (lv_room h5) hd ⟨by rw [hR]; exact h6, by rw [hR]; exact h7⟩) hS (fun z _ h => hsub z h) hsub (fun r9 u t H1 locs1 ht hvm hw9 hB hz1 hk1 hS1 => ?_)
  obtain ⟨rfl, rfl⟩ := hw9
  unfold sp_be at hB
  rw [ht] at hB
  exact k ls H1 locs1 hl hB hS1
end SPT
