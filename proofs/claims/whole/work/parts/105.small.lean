def sp_max (x y : Int32) : Int32 := if x < y then y else x
def sp_min (x y : Int32) : Int32 := if y < x then y else x
theorem sp_nz {y : Int32} (h : (!decide (y = 0)) = true) : ¬ y = 0 := by simpa using h
theorem sp_i32 {x k : Int32} {a : Int} (e : x.toInt = a) (h : k.toInt = a) : x = k := Int32.toInt_inj.mp (e.trans h.symm)
theorem sp_swo {x : Int32} (lo hi : Int) (_ : lo ≤ hi) (h : ∀ k : Int, lo ≤ k → k ≤ hi → x.toInt = k → False) : x.toInt < lo ∨ hi < x.toInt := by
  rcases Int.lt_or_le x.toInt lo with h1 | h1
  · exact Or.inl h1
  · rcases Int.lt_or_le hi x.toInt with h2 | h2
    · exact Or.inr h2
    · exact (h x.toInt h1 h2 rfl).elim
section SPL
variable {sh : sp_Sh} {X : sp_X} {σ : sp_St} {nL : Nat} {lv : List (Option Value)} {st : List Value} {pc kc ks : Nat} {cc : ByteArray} {own : String} {rm : Room} {q : Nat}
theorem sp_ladd (hX : sp_OK sh X cc own nL rm) {x y : Int64} (hd : decode cc pc = .ok (.ladd, 1)) (hq : pc + 1 = q) (k : sp_GG sh X σ nL lv (.long (x + y) :: st) q kc ks) : sp_GG sh X σ nL lv (.long y :: .long x :: st) pc kc ks := by
  subst hq
  exact fun ls H locs hl hP hS => lv_ladd (sp_ex hX) (sp_co hX) hd (k ls H locs hl hP hS)
theorem sp_lsub (hX : sp_OK sh X cc own nL rm) {x y : Int64} (hd : decode cc pc = .ok (.lsub, 1)) (hq : pc + 1 = q) (k : sp_GG sh X σ nL lv (.long (x - y) :: st) q kc ks) : sp_GG sh X σ nL lv (.long y :: .long x :: st) pc kc ks := by
  subst hq
  exact fun ls H locs hl hP hS => lv_lsub (sp_ex hX) (sp_co hX) hd (k ls H locs hl hP hS)
theorem sp_land (hX : sp_OK sh X cc own nL rm) {x y : Int64} (hd : decode cc pc = .ok (.land, 1)) (hq : pc + 1 = q) (k : sp_GG sh X σ nL lv (.long (x &&& y) :: st) q kc ks) : sp_GG sh X σ nL lv (.long y :: .long x :: st) pc kc ks := by
  subst hq
  exact fun ls H locs hl hP hS => lv_land (sp_ex hX) (sp_co hX) hd (k ls H locs hl hP hS)
theorem sp_lushr (hX : sp_OK sh X cc own nL rm) {x : Int64} {y : Int32} (hd : decode cc pc = .ok (.lushr, 1)) (hq : pc + 1 = q) (k : sp_GG sh X σ nL lv (.long ((x.toUInt64 >>> (y.toInt64.toUInt64 &&& Int64.toUInt64 63)).toInt64) :: st) q kc ks) : sp_GG sh X σ nL lv (.int y :: .long x :: st) pc kc ks := by
  subst hq
  exact fun ls H locs hl hP hS => lv_lushr (sp_ex hX) (sp_co hX) hd rfl (k ls H locs hl hP hS)
theorem sp_l2i (hX : sp_OK sh X cc own nL rm) {x : Int64} (hd : decode cc pc = .ok (.l2i, 1)) (hq : pc + 1 = q) (k : sp_GG sh X σ nL lv (.int x.toInt32 :: st) q kc ks) : sp_GG sh X σ nL lv (.long x :: st) pc kc ks := by
  subst hq
  exact fun ls H locs hl hP hS => lv_l2i (sp_ex hX) (sp_co hX) hd rfl (k ls H locs hl hP hS)
/-- a long that is the only known local -/
theorem sp_lstore0 (hX : sp_OK sh X cc own 2 rm) {n : Fin 4} {x : Int64} (hd : decode cc pc = .ok (.lstore_n n, 1)) (hi : (n : Nat) = 0) (hq : pc + 1 = q) (k : sp_GG sh X σ 2 [some (.long x), none] st q kc ks) : sp_GG sh X σ 2 lv (.long x :: st) pc kc ks := by
  subst hq
  refine fun ls H locs hl hP hS => lv_lstore_n (sp_ex hX) (sp_co hX) hd hi (sp_lv_has hl) (by decide) rfl (fun ls' hl' => k ls' H locs ⟨hl'.1, hl'.2.1, fun i v hv => ?_⟩ hP hS)
  match i, hv with
  | 0, hv => simp at hv; subst hv; exact hl'.2.2 (0, .long x) List.mem_cons_self
  | 1, hv => simp at hv
  | i + 2, hv => simp at hv
theorem sp_lkp (hX : sp_OK sh X cc own nL rm) {dflt : Int} {ps : Array (Int × Int)} {len : Nat} {x : Int32} {off : Int} {tgt : Nat} (hd : decode cc pc = .ok (.lookupswitch dflt ps, len)) (hp : (ps.toList.zip (ps.toList.drop 1)).all (fun (a, next) => a.1 < next.1) = true) (ho : Op.lookupswitch.offset ps.toList dflt x.toInt = off) (ht : (pc : Int) + off = (tgt : Int)) (k : sp_GG sh X σ nL lv st tgt kc ks) : sp_GG sh X σ nL lv (.int x :: st) pc kc ks := fun ls H locs hl hP hS => lv_lookup (sp_ex hX) (sp_co hX) hd hp ho ht (k ls H locs hl hP hS)
end SPL
