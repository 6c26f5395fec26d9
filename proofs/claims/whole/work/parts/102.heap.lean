-- ===== ROWS ON FIELDS AND ARRAYS =====
def sp_at (sh : sp_Sh) (p ci nf : Nat) : Prop := p < sh.1 ∧ sh.2.1 p = (10 + ci, nf)
def sp_ar (sh : sp_Sh) (p kd n : Nat) : Prop := p < sh.1 ∧ sh.2.1 p = (kd, n)
def sp_in (i : Int32) (n : Nat) : Bool := decide (0 ≤ i) && decide (i.toNatClampNeg < n)
theorem sp_in_vp {i : Int32} {n : Nat} (h : sp_in i n = true) : vp_in i n := by
  simp only [sp_in, Bool.and_eq_true, decide_eq_true_eq] at h
  intro q
  rcases q with q | q
  · exact absurd h.1 (Int32.not_le.mpr q)
  · omega
def sp_zb (v : Int32) : Bool := decide (v = 0) || decide (v = 1)
def sp_ck {α : Type} (b : Bool) (k : Option α) : Option α := if b = true then k else none
theorem sp_ck_some {α : Type} {b : Bool} {k : Option α} {r : α} (h : sp_ck b k = some r) : b = true ∧ k = some r := by
  unfold sp_ck at h
  split at h
  · exact ⟨by assumption, h⟩
  · cases h
theorem sp_ck_t {α : Type} {b : Bool} {k : Option α} (h : b = true) : sp_ck b k = k := by unfold sp_ck; rw [if_pos h]
def sp_pl {α β : Type} (e : α) (k : α → β) : β := k e
theorem sp_pl_some {α β : Type} {e : α} {k : α → β} {r : β} (h : sp_pl e k = r) : ∃ x, x = e ∧ k x = r := ⟨e, rfl, h⟩
theorem sp_bd_some {α β : Type} {e : Option α} {k : α → Option β} {r : β} (h : e.bind k = some r) : ∃ x, e = some x ∧ k x = some r := by
  cases e with
  | none => cases h
  | some x => exact ⟨x, rfl, h⟩
theorem sp_nar {v : Int32} (h : sp_zb v = true) : narrow .boolean (.int v) = .int v := by
  simp only [sp_zb, Bool.or_eq_true, decide_eq_true_eq] at h
  rcases h with rfl | rfl <;> rfl
theorem sp_fit {v : Int32} (h : sp_zb v = true) : fits .boolean (.int v) = true := by
  simp only [sp_zb, Bool.or_eq_true, decide_eq_true_eq] at h
  rcases h with rfl | rfl <;> rfl
theorem sp_vnar {v : Int32} (h : sp_zb v = true) : vp_nar .boolean v = v := by
  simp only [sp_zb, Bool.or_eq_true, decide_eq_true_eq] at h
  rcases h with rfl | rfl <;> rfl
/-- an element, by its index -/
def sp_g (σ : sp_St) (p : Nat) (i : Int32) : Int32 := σ.2.2.1 p i.toNatClampNeg
def sp_gl (σ : sp_St) (p : Nat) (i : Int32) : Int64 := σ.2.2.2 p i.toNatClampNeg
def sp_cp (σ : sp_St) (ps : Nat) (s : Int32) (pd : Nat) (d n : Int32) : sp_St := (σ.1, σ.2.1, (fun q j => if q = pd then va_cpy (σ.2.2.1 ps) (σ.2.2.1 pd) s.toNatClampNeg d.toNatClampNeg n.toNatClampNeg j else σ.2.2.1 q j), σ.2.2.2)
/-- System.arraycopy may be called so -/
def sp_cpok (s d n : Int32) (ns nd : Nat) : Bool := decide (0 ≤ s) && decide (0 ≤ d) && decide (0 ≤ n) && decide (s.toNatClampNeg + n.toNatClampNeg ≤ ns) && decide (d.toNatClampNeg + n.toNatClampNeg ≤ nd)
theorem sp_cell_ne {sh : sp_Sh} {w : sp_Wd} {σ τ : sp_St} {q : Nat} (h1 : ∀ j, τ.1 q j = σ.1 q j) (h2 : ∀ j, τ.2.1 q j = σ.2.1 q j) (h3 : τ.2.2.1 q = σ.2.2.1 q) (h4 : τ.2.2.2 q = σ.2.2.2 q) : sp_cell sh w τ q = sp_cell sh w σ q := by
  have h : ∀ ci, sp_fv sh w τ ci q = sp_fv sh w σ ci q := by
    intro ci
    funext j
    unfold sp_fv
    rw [h1, h2]
  unfold sp_cell
  rw [h3, h4, h]
section SPH
variable {sh : sp_Sh} {X : sp_X} {σ : sp_St} {nL : Nat} {lv : List (Option Value)} {st : List Value} {pc kc ks : Nat} {cc : ByteArray} {own : String} {rm : Room} {q : Nat}
theorem sp_he {w : sp_Wd} {p ci nf : Nat} (h : sp_at sh p ci nf) : (sp_wl sh w σ)[p]? = some (w.2.1 p, .inr (ci, (List.range nf).map (sp_fv sh w σ ci p))) := by
  rw [sp_wl_get h.1, sp_cell_o h.2]
theorem sp_ha {w : sp_Wd} {p n : Nat} (h : sp_ar sh p 1 n) : (sp_wl sh w σ)[p]? = some (w.2.1 p, .inl (w.2.2.2 0, n, .inl (σ.2.2.1 p))) := by
  rw [sp_wl_get h.1, sp_cell_i h.2]
theorem sp_hz {w : sp_Wd} {p n : Nat} (h : sp_ar sh p 2 n) : (sp_wl sh w σ)[p]? = some (w.2.1 p, .inl (w.2.2.2 1, n, .inl (σ.2.2.1 p))) := by
  rw [sp_wl_get h.1, sp_cell_z h.2]
theorem sp_hl {w : sp_Wd} {p n : Nat} (h : sp_ar sh p 3 n) : (sp_wl sh w σ)[p]? = some (w.2.1 p, .inl (w.2.2.2 2, n, .inr (.inl (σ.2.2.2 p)))) := by
  rw [sp_wl_get h.1, sp_cell_l h.2]
theorem sp_hs {w : sp_Wd} {p n : Nat} (h : sp_ar sh p 4 n) : (sp_wl sh w σ)[p]? = some (w.2.1 p, .inl (w.2.2.2 3, n, .inr (.inr (.inr (.inr (fun j => some (w.2.2.1 0 (sh.2.2.2 p j)))))))) := by
  rw [sp_wl_get h.1, sp_cell_s h.2]
theorem sp_get {p ci k nf i : Nat} {v : Value} (hX : sp_OK sh X cc own nL rm) (hF : sp_F own i ci k nf) (hp : sp_at sh p ci nf) (hv : sp_fv sh (sx_w X) σ ci p k = v) (hd : decode cc pc = .ok (.getfield i, 3)) (hq : pc + 3 = q) (kk : sp_GG sh X σ nL lv (v :: st) q kc ks) : sp_GG sh X σ nL lv (.ref (sx_ad X p) :: st) pc kc ks := by
  subst hq
  subst hv
  obtain ⟨C, T, hc, hin, hk, hl⟩ := hF
  exact fun ls H locs hlv hP hS => va_get (ref := (T k).1) (sp_ex hX) (sp_co hX) (sp_ts hX) hin (sp_ow hX) (sp_ka hX) hP p (sp_he hp) hc k hk (sp_ts hX _ hl) (fun _ h => h) (sp_fs_get hk) hd (kk ls H locs hlv hP hS)
theorem sp_geti {p ci k nf i : Nat} (hX : sp_OK sh X cc own nL rm) (hF : sp_F own i ci k nf) (hk : sh.2.2.1 ci k = 0) (hp : sp_at sh p ci nf) (hd : decode cc pc = .ok (.getfield i, 3)) (hq : pc + 3 = q) (kk : sp_GG sh X σ nL lv (.int (σ.1 p k) :: st) q kc ks) : sp_GG sh X σ nL lv (.ref (sx_ad X p) :: st) pc kc ks :=
  sp_get hX hF hp (by unfold sp_fv; rw [if_pos hk]) hd hq kk
theorem sp_gets {p ci k nf i t : Nat} (hX : sp_OK sh X cc own nL rm) (hF : sp_F own i ci k nf) (hk : sh.2.2.1 ci k = 1) (hp : sp_at sh p ci nf) (ht : sh.2.2.2 p k = t) (hd : decode cc pc = .ok (.getfield i, 3)) (hq : pc + 3 = q) (kk : sp_GG sh X σ nL lv (.ref (sx_ad X t) :: st) q kc ks) : sp_GG sh X σ nL lv (.ref (sx_ad X p) :: st) pc kc ks :=
  sp_get hX hF hp (by unfold sp_fv; rw [if_neg (by rw [hk]; decide), if_pos hk, ht]) hd hq kk
theorem sp_getr {p ci k nf i : Nat} (hX : sp_OK sh X cc own nL rm) (hF : sp_F own i ci k nf) (hk : sh.2.2.1 ci k = 2) (hp : sp_at sh p ci nf) (hd : decode cc pc = .ok (.getfield i, 3)) (hq : pc + 3 = q) (kk : sp_GG sh X σ nL lv (.ref (sx_ad X (σ.2.1 p k)) :: st) q kc ks) : sp_GG sh X σ nL lv (.ref (sx_ad X p) :: st) pc kc ks :=
  sp_get hX hF hp (by unfold sp_fv; rw [if_neg (by rw [hk]; decide), if_neg (by rw [hk]; decide)]) hd hq kk
theorem sp_put {τ : sp_St} {p ci k nf i : Nat} {ty : FieldType} {v : Value} (hX : sp_OK sh X cc own nL rm) (hF : sp_FP own i ci k nf ty) (hp : sp_at sh p ci nf) (hn : narrow ty v = v) (hf : fits ty v = true) (h1 : sp_fv sh (sx_w X) τ ci p k = v) (h2 : ∀ j, j ≠ k → sp_fv sh (sx_w X) τ ci p j = sp_fv sh (sx_w X) σ ci p j) (h3 : ∀ r, r ≠ p → sp_cell sh (sx_w X) τ r = sp_cell sh (sx_w X) σ r) (hd : decode cc pc = .ok (.putfield i, 3)) (hq : pc + 3 = q) (kk : sp_GG sh X τ nL lv st q kc ks) : sp_GG sh X σ nL lv (v :: .ref (sx_ad X p) :: st) pc kc ks := by
  subst hq
  obtain ⟨C, T, ty0, hc, hin, hk, hl, hty, hnm, hfin, hd0⟩ := hF
  intro ls H locs hlv hP hS
  refine va_put (ref := (T k).1) (sp_ex hX) (sp_co hX) (sp_ts hX) hin ty0 hty hnm (sp_ow hX) (sp_ka hX) hP (sp_dd hX) hS p (sp_he hp) hc k hk (sp_ts hX _ hl) (fun _ h => h) hfin hd0 hn hf (by simpa using hk) hd (fun H1 locs1 hP1 _ hS1 => ?_)
  rw [sp_fs_set h1 h2, sp_wl_set hp.1 (sp_cell_o hp.2) h3] at hP1
  exact kk ls H1 locs1 hlv hP1 hS1
theorem sp_puti {p ci k nf i : Nat} {v : Int32} (hX : sp_OK sh X cc own nL rm) (hF : sp_FP own i ci k nf .int) (hk : sh.2.2.1 ci k = 0) (hp : sp_at sh p ci nf) (hd : decode cc pc = .ok (.putfield i, 3)) (hq : pc + 3 = q) (kk : sp_GG sh X (sp_si σ p k v) nL lv st q kc ks) : sp_GG sh X σ nL lv (.int v :: .ref (sx_ad X p) :: st) pc kc ks :=
  sp_put (τ := sp_si σ p k v) hX hF hp rfl rfl (by unfold sp_fv; rw [if_pos hk]; simp [sp_si]) (fun j hj => by unfold sp_fv; simp [sp_si, hj]) (fun r hr => sp_cell_ne (fun j => by simp [sp_si, hr]) (fun j => rfl) rfl rfl) hd hq kk
theorem sp_putz {p ci k nf i : Nat} {v : Int32} (hX : sp_OK sh X cc own nL rm) (hF : sp_FP own i ci k nf .boolean) (hk : sh.2.2.1 ci k = 0) (hp : sp_at sh p ci nf) (hz : sp_zb v = true) (hd : decode cc pc = .ok (.putfield i, 3)) (hq : pc + 3 = q) (kk : sp_GG sh X (sp_si σ p k v) nL lv st q kc ks) : sp_GG sh X σ nL lv (.int v :: .ref (sx_ad X p) :: st) pc kc ks :=
  sp_put (τ := sp_si σ p k v) hX hF hp (sp_nar hz) (sp_fit hz) (by unfold sp_fv; rw [if_pos hk]; simp [sp_si]) (fun j hj => by unfold sp_fv; simp [sp_si, hj]) (fun r hr => sp_cell_ne (fun j => by simp [sp_si, hr]) (fun j => rfl) rfl rfl) hd hq kk
theorem sp_putr {p ci k nf i t : Nat} {ty : FieldType} (hX : sp_OK sh X cc own nL rm) (hF : sp_FP own i ci k nf ty) (hk : sh.2.2.1 ci k = 2) (hp : sp_at sh p ci nf) (hn : ∀ a, narrow ty (.ref a) = .ref a) (hf : ∀ a, fits ty (.ref a) = true) (hd : decode cc pc = .ok (.putfield i, 3)) (hq : pc + 3 = q) (kk : sp_GG sh X (sp_sr σ p k t) nL lv st q kc ks) : sp_GG sh X σ nL lv (.ref (sx_ad X t) :: .ref (sx_ad X p) :: st) pc kc ks :=
  sp_put (τ := sp_sr σ p k t) hX hF hp (hn _) (hf _) (by unfold sp_fv; rw [if_neg (by rw [hk]; decide), if_neg (by rw [hk]; decide)]; simp [sp_sr]) (fun j hj => by unfold sp_fv; simp [sp_sr, hj]) (fun r hr => sp_cell_ne (fun j => rfl) (fun j => by simp [sp_sr, hr]) rfl rfl) hd hq kk
theorem sp_iald {p n : Nat} {i : Int32} (hX : sp_OK sh X cc own nL rm) (ha : sp_ar sh p 1 n) (hi : sp_in i n = true) (hd : decode cc pc = .ok (.iaload, 1)) (hq : pc + 1 = q) (kk : sp_GG sh X σ nL lv (.int (sp_g σ p i) :: st) q kc ks) : sp_GG sh X σ nL lv (.int i :: .ref (sx_ad X p) :: st) pc kc ks := by
  subst hq
  exact fun ls H locs hlv hP hS => va_iald (sp_ex hX) (sp_co hX) (sp_ka hX) hP p 0 (sp_ha ha) rfl (sp_in_vp hi) hd (kk ls H locs hlv hP hS)
theorem sp_zald {p n : Nat} {i : Int32} (hX : sp_OK sh X cc own nL rm) (ha : sp_ar sh p 2 n) (hi : sp_in i n = true) (hd : decode cc pc = .ok (.baload, 1)) (hq : pc + 1 = q) (kk : sp_GG sh X σ nL lv (.int (sp_g σ p i) :: st) q kc ks) : sp_GG sh X σ nL lv (.int i :: .ref (sx_ad X p) :: st) pc kc ks := by
  subst hq
  exact fun ls H locs hlv hP hS => va_zald (sp_ex hX) (sp_co hX) (sp_ka hX) hP p 1 (sp_hz ha) rfl (sp_in_vp hi) hd (kk ls H locs hlv hP hS)
theorem sp_lald {p n : Nat} {i : Int32} (hX : sp_OK sh X cc own nL rm) (ha : sp_ar sh p 3 n) (hi : sp_in i n = true) (hd : decode cc pc = .ok (.laload, 1)) (hq : pc + 1 = q) (kk : sp_GG sh X σ nL lv (.long (sp_gl σ p i) :: st) q kc ks) : sp_GG sh X σ nL lv (.int i :: .ref (sx_ad X p) :: st) pc kc ks := by
  subst hq
  exact fun ls H locs hlv hP hS => va_lald (sp_ex hX) (sp_co hX) (sp_ka hX) hP p 2 (sp_hl ha) rfl (sp_in_vp hi) hd (kk ls H locs hlv hP hS)
theorem sp_aald {p n : Nat} {i : Int32} (hX : sp_OK sh X cc own nL rm) (ha : sp_ar sh p 4 n) (hi : sp_in i n = true) (hd : decode cc pc = .ok (.aaload, 1)) (hq : pc + 1 = q) (kk : sp_GG sh X σ nL lv (.ref ((sx_w X).2.2.1 0 (sh.2.2.2 p i.toNatClampNeg)) :: st) q kc ks) : sp_GG sh X σ nL lv (.int i :: .ref (sx_ad X p) :: st) pc kc ks := by
  subst hq
  exact fun ls H locs hlv hP hS => va_aldq (C := "java/lang/String") (sp_ex hX) (sp_co hX) (sp_ka hX) hP p 3 (sp_hs ha) rfl (sp_in_vp hi) hd (kk ls H locs hlv hP hS)
theorem sp_aleni {p n : Nat} {v : Int32} (hX : sp_OK sh X cc own nL rm) (ha : sp_ar sh p 1 n) (hv : Int32.ofNat n = v) (hd : decode cc pc = .ok (.arraylength, 1)) (hq : pc + 1 = q) (kk : sp_GG sh X σ nL lv (.int v :: st) q kc ks) : sp_GG sh X σ nL lv (.ref (sx_ad X p) :: st) pc kc ks := by
  subst hq
  exact fun ls H locs hlv hP hS => va_alen (sp_ex hX) (sp_co hX) (sp_ka hX) hP p 0 (sp_ha ha) rfl hv hd (kk ls H locs hlv hP hS)
theorem sp_alenl {p n : Nat} {v : Int32} (hX : sp_OK sh X cc own nL rm) (ha : sp_ar sh p 3 n) (hv : Int32.ofNat n = v) (hd : decode cc pc = .ok (.arraylength, 1)) (hq : pc + 1 = q) (kk : sp_GG sh X σ nL lv (.int v :: st) q kc ks) : sp_GG sh X σ nL lv (.ref (sx_ad X p) :: st) pc kc ks := by
  subst hq
  exact fun ls H locs hlv hP hS => va_alen (sp_ex hX) (sp_co hX) (sp_ka hX) hP p 2 (sp_hl ha) rfl hv hd (kk ls H locs hlv hP hS)
theorem sp_alens {p n : Nat} {v : Int32} (hX : sp_OK sh X cc own nL rm) (ha : sp_ar sh p 4 n) (hv : Int32.ofNat n = v) (hd : decode cc pc = .ok (.arraylength, 1)) (hq : pc + 1 = q) (kk : sp_GG sh X σ nL lv (.int v :: st) q kc ks) : sp_GG sh X σ nL lv (.ref (sx_ad X p) :: st) pc kc ks := by
  subst hq
  exact fun ls H locs hlv hP hS => va_alen (sp_ex hX) (sp_co hX) (sp_ka hX) hP p 3 (sp_hs ha) rfl hv hd (kk ls H locs hlv hP hS)
theorem sp_sa_row (σ : sp_St) (p i : Nat) (v : Int32) : (sp_sa σ p i v).2.2.1 p = upd (σ.2.2.1 p) i v := by
  funext j
  by_cases h : j = i <;> simp [sp_sa, upd, h]
theorem sp_iast {p n : Nat} {i v : Int32} (hX : sp_OK sh X cc own nL rm) (ha : sp_ar sh p 1 n) (hi : sp_in i n = true) (hd : decode cc pc = .ok (.iastore, 1)) (hq : pc + 1 = q) (kk : sp_GG sh X (sp_sa σ p i.toNatClampNeg v) nL lv st q kc ks) : sp_GG sh X σ nL lv (.int v :: .int i :: .ref (sx_ad X p) :: st) pc kc ks := by
  subst hq
  intro ls H locs hlv hP hS
  refine va_iast (sp_ex hX) (sp_co hX) (sp_ka hX) hP (sp_dd hX) hS p 0 (sp_ha ha) rfl (sp_in_vp hi) hd (fun H1 locs1 hP1 _ hS1 => ?_)
  rw [← sp_sa_row, sp_wl_set (σ := σ) (τ := sp_sa σ p i.toNatClampNeg v) ha.1 (sp_cell_i ha.2) (fun r hr => sp_cell_ne (fun _ => rfl) (fun _ => rfl) (by funext j; simp [sp_sa, hr]) rfl)] at hP1
  exact kk ls H1 locs1 hlv hP1 hS1
theorem sp_zast {p n : Nat} {i v : Int32} (hX : sp_OK sh X cc own nL rm) (ha : sp_ar sh p 2 n) (hi : sp_in i n = true) (hz : sp_zb v = true) (hd : decode cc pc = .ok (.bastore, 1)) (hq : pc + 1 = q) (kk : sp_GG sh X (sp_sa σ p i.toNatClampNeg v) nL lv st q kc ks) : sp_GG sh X σ nL lv (.int v :: .int i :: .ref (sx_ad X p) :: st) pc kc ks := by
  subst hq
  intro ls H locs hlv hP hS
  refine va_zast (sp_ex hX) (sp_co hX) (sp_ka hX) hP (sp_dd hX) hS p 1 (sp_hz ha) rfl (sp_in_vp hi) hd (fun H1 locs1 hP1 _ hS1 => ?_)
  rw [sp_vnar hz, ← sp_sa_row, sp_wl_set (σ := σ) (τ := sp_sa σ p i.toNatClampNeg v) ha.1 (sp_cell_z ha.2) (fun r hr => sp_cell_ne (fun _ => rfl) (fun _ => rfl) (by funext j; simp [sp_sa, hr]) rfl)] at hP1
  exact kk ls H1 locs1 hlv hP1 hS1
theorem sp_sl_row (σ : sp_St) (p i : Nat) (v : Int64) : (sp_sl σ p i v).2.2.2 p = vp_updL (σ.2.2.2 p) i v := by
  funext j
  by_cases h : j = i <;> simp [sp_sl, vp_updL, h]
theorem sp_last {p n : Nat} {i : Int32} {v : Int64} (hX : sp_OK sh X cc own nL rm) (ha : sp_ar sh p 3 n) (hi : sp_in i n = true) (hd : decode cc pc = .ok (.lastore, 1)) (hq : pc + 1 = q) (kk : sp_GG sh X (sp_sl σ p i.toNatClampNeg v) nL lv st q kc ks) : sp_GG sh X σ nL lv (.long v :: .int i :: .ref (sx_ad X p) :: st) pc kc ks := by
  subst hq
  intro ls H locs hlv hP hS
  refine va_last (sp_ex hX) (sp_co hX) (sp_ka hX) hP (sp_dd hX) hS p 2 (sp_hl ha) rfl (sp_in_vp hi) hd (fun H1 locs1 hP1 _ hS1 => ?_)
  rw [← sp_sl_row, sp_wl_set (σ := σ) (τ := sp_sl σ p i.toNatClampNeg v) ha.1 (sp_cell_l ha.2) (fun r hr => sp_cell_ne (fun _ => rfl) (fun _ => rfl) rfl (by funext j; simp [sp_sl, hr]))] at hP1
  exact kk ls H1 locs1 hlv hP1 hS1
theorem sp_copy {ps pd ns nd i : Nat} {s d n : Int32} (hX : sp_OK sh X cc own nL rm) (h1 : .methodLink own i arraycopyName ∈ sp_T) (h2 : Cond.native arraycopyName ∈ sp_T) (h3 : Cond.static arraycopyName ∈ sp_T) (h4 : Cond.initialized "java/lang/System" ∈ sp_T) (hs : sp_ar sh ps 1 ns) (hd' : sp_ar sh pd 1 nd) (ho : sp_cpok s d n ns nd = true) (h5 : 1 ≤ rm.frames) (h6 : (st.map fun v => v.category).sum + (nativeFrameWords "java/lang/System" "arraycopy" 5 + 11) ≤ rm.locals) (hd : decode cc pc = .ok (.invokestatic i, 3)) (hq : pc + 3 = q) (kk : sp_GG sh X (sp_cp σ ps s pd d n) nL lv st q kc ks) : sp_GG sh X σ nL lv (.int n :: .int d :: .ref (sx_ad X pd) :: .int s :: .ref (sx_ad X ps) :: st) pc kc ks := by
  subst hq
  have hr := sp_rm hX
  simp only [sp_cpok, Bool.and_eq_true, decide_eq_true_eq] at ho
  intro ls H locs hlv hP hS
  refine va_copyi (sp_ex hX) (sp_co hX) (by rw [sp_ml hX, hlv.1]) (sp_ow hX) (sp_ts hX _ h1) (sp_ts hX _ h2) (sp_ts hX _ h3) (sp_ts hX _ h4) (sp_ka hX) hP (sp_dd hX) hS ps pd 0 0 (ty := .int) (sp_ha hs) (sp_ha hd') rfl rfl rfl (Int32.not_lt.mpr ho.1.1.1.1) (Int32.not_lt.mpr ho.1.1.1.2) (Int32.not_lt.mpr ho.1.1.2) ho.1.2 ho.2 (fun _ _ => rfl) (by rw [hr]; exact h5) (by rw [hr]; exact h6) hd (fun H1 locs1 hP1 _ hS1 => ?_)
  rw [sp_wl_set (σ := σ) (τ := sp_cp σ ps s pd d n) hd'.1 (by rw [sp_cell_i hd'.2]; simp [sp_cp]) (fun r hr => sp_cell_ne (fun _ => rfl) (fun _ => rfl) (by funext j; simp [sp_cp, hr]) rfl)] at hP1
  exact kk ls H1 locs1 hlv hP1 hS1
end SPH
