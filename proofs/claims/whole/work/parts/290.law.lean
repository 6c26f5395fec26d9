-- ===== THE LAW'S BEGINNING: both are made, then the loop =====
theorem wz_154 : Cond.classLink RL 8 RX11 ∈ sp_T := sp_T_in 154 (by decide +kernel) (by decide +kernel)
theorem wz_156 : Cond.methodLink RL 99 yX11_init ∈ sp_T := sp_T_in 156 (by decide +kernel) (by decide +kernel)
theorem wz_157 : Cond.instanceMethod yX11_init ∈ sp_T := sp_T_in 157 (by decide +kernel) (by decide +kernel)
theorem wz_158 : Cond.code yX11_init cX11_init 2 none ∈ sp_T := sp_T_in 158 (by decide +kernel) (by decide +kernel)
theorem wz_1585 : Cond.classLink RL 100 RX12 ∈ sp_T := sp_T_in 1585 (by decide +kernel) (by decide +kernel)
theorem wz_1587 : Cond.methodLink RL 102 yX12_init ∈ sp_T := sp_T_in 1587 (by decide +kernel) (by decide +kernel)
theorem wz_1588 : Cond.instanceMethod yX12_init ∈ sp_T := sp_T_in 1588 (by decide +kernel) (by decide +kernel)
theorem wz_1589 : Cond.code yX12_init cX12_init 1 none ∈ sp_T := sp_T_in 1589 (by decide +kernel) (by decide +kernel)
theorem er_last {α : Type} : ∀ (l : List α) (a : α) (k : Nat), l.length = k → (l ++ [a]).eraseIdx k = l
  | [], a, k, h => by subst h; rfl
  | x :: l, a, k, h => by
    subst h
    show x :: (l ++ [a]).eraseIdx l.length = x :: l
    rw [er_last l a l.length rfl]
theorem vq_cg {cA : ClassId} {n : Nat} {f g : Nat → Option Nat} (h : ∀ j, j < n → f j = g j) : vp_cell cA (n, .inr (.inr (.inr (.inr f)))) = vp_cell cA (n, .inr (.inr (.inr (.inr g)))) := by
  rw [vp_cell_q, vp_cell_q]
  have e : (fun j : Fin n => va_rf (f j.val)) = fun j => va_rf (g j.val) := funext fun j => by rw [h j.1 j.2]
  unfold arrV
  rw [e]
def adL (a0 a1 a2 : Nat) (q r : Nat → Nat) : Nat → Nat := fun p => [a0, q 0, q 1, q 2, q 3, q 4, q 5, q 6, q 7, q 8, q 9, q 10, q 11, q 12, q 13, q 14, q 15, q 16, q 17, q 18, q 20, q 19, q 21, q 28, q 29, q 30, q 31, q 32, q 33, q 34, q 22, q 23, q 24, q 25, q 26, q 27, q 35, q 42, q 43, q 44, q 45, q 46, q 47, q 48, q 36, q 37, q 38, q 39, q 40, q 41, q 49, q 50, q 51, q 52, q 53, q 54, q 55, q 56, q 57, q 58, q 59, q 60, q 61, q 62, q 63, q 64, q 65, q 66, a2, a1, r 0, r 1, r 2, r 3, r 4, r 5, r 6, r 7, r 8, r 9, r 10, r 11, r 12, r 13, r 14, r 15, r 16, r 17, r 18, r 19, r 20, r 21, r 22, r 23, r 24, r 25, r 26, r 27, r 28, r 29, r 30, r 31, r 32, r 33, r 34, r 35, r 36, r 37, r 38, r 39, r 40, r 41].getD p 0
def pmL : Nat → Nat := fun p => [0, 1, 2, 3, 4, 5, 6, 7, 8, 9, 10, 11, 12, 13, 14, 15, 16, 17, 18, 19, 20, 21, 22, 29, 30, 31, 32, 33, 34, 35, 23, 24, 25, 26, 27, 28, 36, 43, 44, 45, 46, 47, 48, 49, 37, 38, 39, 40, 41, 42, 50, 51, 52, 53, 54, 55, 56, 57, 58, 59, 60, 61, 62, 63, 64, 65, 66, 67, 111, 68, 69, 70, 71, 72, 73, 74, 75, 76, 77, 78, 79, 80, 81, 82, 83, 84, 85, 86, 87, 88, 89, 90, 91, 92, 93, 94, 95, 96, 97, 98, 99, 100, 101, 102, 103, 104, 105, 106, 107, 108, 109, 110].getD p 0
theorem pmL_inj : ∀ i, i < 112 → ∀ j, j < 112 → pmL i = pmL j → i = j := by decide +kernel
def wsL (w : sp_Wd) (a0 a1 a2 : Nat) (q r : Nat → Nat) : va_W := LCX11 w a0 q ++ LCX12 w a1 r ++ [(a2, .inl (w.2.2.2 2, 1, .inr (.inl (fun _ => 0))))]
set_option maxHeartbeats 8000000 in
set_option maxRecDepth 100000 in
/-- the world as it lies there, place by place -/
theorem wl_ex (D : va_G) (tx : Nat → Nat → Nat) (cy : Nat → ClassId) (a0 a1 a2 : Nat) (q r : Nat → Nat) : ∀ p, p < 112 → ∃ z : Nat × va_E, (wsL (D, fun _ => 0, tx, cy) a0 a1 a2 q r)[pmL p]? = some z ∧ z.1 = adL a0 a1 a2 q r p ∧ ∀ H : Heap, va_at D vwCl z H → va_at D vwCl (adL a0 a1 a2 q r p, sp_cell shL (D, adL a0 a1 a2 q r, tx, cy) (sp_pair sX0 sM0) p) H := by
  have e0 : (0 : Int32).toNatClampNeg = 0 := by decide
  have e1 : (1 : Int32).toNatClampNeg = 1 := by decide
  have e2 : (2 : Int32).toNatClampNeg = 2 := by decide
  have e3 : (3 : Int32).toNatClampNeg = 3 := by decide
  have e4 : (4 : Int32).toNatClampNeg = 4 := by decide
  have e5 : (5 : Int32).toNatClampNeg = 5 := by decide
  intro p hp
  match p, hp with
  | 0, _ => exact ⟨_, rfl, rfl, fun _ h => h⟩
  | 1, _ => exact ⟨_, rfl, rfl, fun _ h => h⟩
  | 2, _ => exact ⟨_, rfl, rfl, fun _ h => h⟩
  | 3, _ => exact ⟨_, rfl, rfl, fun _ h => h⟩
  | 4, _ => exact ⟨_, rfl, rfl, fun _ h => h⟩
  | 5, _ => exact ⟨_, rfl, rfl, fun _ h => h⟩
  | 6, _ => exact ⟨_, rfl, rfl, fun _ h => h⟩
  | 7, _ => exact ⟨_, rfl, rfl, fun _ h => h⟩
  | 8, _ => exact ⟨_, rfl, rfl, fun _ h => h⟩
  | 9, _ => exact ⟨_, rfl, rfl, fun _ h => h⟩
  | 10, _ => exact ⟨_, rfl, rfl, fun _ h => h⟩
  | 11, _ => exact ⟨_, rfl, rfl, fun _ h => h⟩
  | 12, _ => exact ⟨_, rfl, rfl, fun _ h => h⟩
  | 13, _ => exact ⟨_, rfl, rfl, fun _ h => h⟩
  | 14, _ => exact ⟨_, rfl, rfl, fun _ h => h⟩
  | 15, _ => exact ⟨_, rfl, rfl, fun _ h => h⟩
  | 16, _ => exact ⟨_, rfl, rfl, fun _ h => h⟩
  | 17, _ => exact ⟨_, rfl, rfl, fun _ h => h⟩
  | 18, _ => exact ⟨_, rfl, rfl, fun _ h => h⟩
  | 19, _ => exact ⟨_, rfl, rfl, fun _ h => h⟩
  | 20, _ => exact ⟨_, rfl, rfl, fun _ h => h⟩
  | 21, _ => exact ⟨_, rfl, rfl, fun _ h => h⟩
  | 22, _ => exact ⟨_, rfl, rfl, fun _ h => h⟩
  | 23, _ => exact ⟨_, rfl, rfl, fun _ h => h⟩
  | 24, _ => exact ⟨_, rfl, rfl, fun _ h => h⟩
  | 25, _ => exact ⟨_, rfl, rfl, fun _ h => h⟩
  | 26, _ => exact ⟨_, rfl, rfl, fun _ h => h⟩
  | 27, _ => exact ⟨_, rfl, rfl, fun _ h => h⟩
  | 28, _ => exact ⟨_, rfl, rfl, fun _ h => h⟩
  | 29, _ => exact ⟨_, rfl, rfl, fun _ h => h⟩
  | 30, _ => exact ⟨_, rfl, rfl, fun _ h => h⟩
  | 31, _ => exact ⟨_, rfl, rfl, fun _ h => h⟩
  | 32, _ => exact ⟨_, rfl, rfl, fun _ h => h⟩
  | 33, _ => exact ⟨_, rfl, rfl, fun _ h => h⟩
  | 34, _ => exact ⟨_, rfl, rfl, fun _ h => h⟩
  | 35, _ => exact ⟨_, rfl, rfl, fun _ h => h⟩
  | 36, _ => exact ⟨_, rfl, rfl, fun _ h => h⟩
  | 37, _ => exact ⟨_, rfl, rfl, fun _ h => h⟩
  | 38, _ => exact ⟨_, rfl, rfl, fun _ h => h⟩
  | 39, _ => exact ⟨_, rfl, rfl, fun _ h => h⟩
  | 40, _ => exact ⟨_, rfl, rfl, fun _ h => h⟩
  | 41, _ => exact ⟨_, rfl, rfl, fun _ h => h⟩
  | 42, _ => exact ⟨_, rfl, rfl, fun _ h => h⟩
  | 43, _ => exact ⟨_, rfl, rfl, fun _ h => h⟩
  | 44, _ => exact ⟨_, rfl, rfl, fun _ h => h⟩
  | 45, _ => exact ⟨_, rfl, rfl, fun _ h => h⟩
  | 46, _ => exact ⟨_, rfl, rfl, fun _ h => h⟩
  | 47, _ => exact ⟨_, rfl, rfl, fun _ h => h⟩
  | 48, _ => exact ⟨_, rfl, rfl, fun _ h => h⟩
  | 49, _ => exact ⟨_, rfl, rfl, fun _ h => h⟩
  | 50, _ => exact ⟨_, rfl, rfl, fun _ h => h⟩
  | 51, _ => exact ⟨_, rfl, rfl, fun _ h => h⟩
  | 52, _ => exact ⟨_, rfl, rfl, fun _ h => h⟩
  | 53, _ => exact ⟨_, rfl, rfl, fun _ h => h⟩
  | 54, _ => exact ⟨_, rfl, rfl, fun _ h => h⟩
  | 55, _ => exact ⟨_, rfl, rfl, fun _ h => h⟩
  | 56, _ => exact ⟨_, rfl, rfl, fun _ h => h⟩
  | 57, _ => exact ⟨_, rfl, rfl, fun _ h => h⟩
  | 58, _ => exact ⟨_, rfl, rfl, fun _ h => h⟩
  | 59, _ => exact ⟨_, rfl, rfl, fun _ h => h⟩
  | 60, _ => exact ⟨_, rfl, rfl, fun _ h => h⟩
  | 61, _ => exact ⟨_, rfl, rfl, fun _ h => h⟩
  | 62, _ => exact ⟨_, rfl, rfl, fun _ h => h⟩
  | 63, _ => exact ⟨_, rfl, rfl, fun _ h => h⟩
  | 64, _ => exact ⟨_, rfl, rfl, fun _ h => h⟩
  | 65, _ => exact ⟨_, rfl, rfl, fun _ h => h⟩
  | 66, _ => exact ⟨_, rfl, rfl, fun _ h => h⟩
  | 67, _ => exact ⟨_, rfl, rfl, fun _ h => h⟩
  | 68, _ => exact ⟨_, rfl, rfl, fun _ h => h⟩
  | 69, _ => exact ⟨_, rfl, rfl, fun _ h => h⟩
  | 70, _ =>
    refine ⟨_, rfl, rfl, fun H h => ?_⟩
    refine Eq.trans h (congrArg some (vq_cg (fun j hj => ?_)))
    match j, hj with
    | 0, _ => simp only [va_up, e0, e1, e2, e3, e4, e5]; rfl
    | 1, _ => simp only [va_up, e0, e1, e2, e3, e4, e5]; rfl
    | 2, _ => simp only [va_up, e0, e1, e2, e3, e4, e5]; rfl
    | 3, _ => simp only [va_up, e0, e1, e2, e3, e4, e5]; rfl
    | 4, _ => simp only [va_up, e0, e1, e2, e3, e4, e5]; rfl
    | 5, _ => simp only [va_up, e0, e1, e2, e3, e4, e5]; rfl
    | j + 6, hj => omega
  | 71, _ =>
    refine ⟨_, rfl, rfl, fun H h => ?_⟩
    refine Eq.trans h (congrArg some (vq_cg (fun j hj => ?_)))
    match j, hj with
    | 0, _ => simp only [va_up, e0, e1, e2, e3, e4, e5]; rfl
    | 1, _ => simp only [va_up, e0, e1, e2, e3, e4, e5]; rfl
    | 2, _ => simp only [va_up, e0, e1, e2, e3, e4, e5]; rfl
    | 3, _ => simp only [va_up, e0, e1, e2, e3, e4, e5]; rfl
    | j + 4, hj => omega
  | 72, _ => exact ⟨_, rfl, rfl, fun _ h => h⟩
  | 73, _ => exact ⟨_, rfl, rfl, fun _ h => h⟩
  | 74, _ => exact ⟨_, rfl, rfl, fun _ h => h⟩
  | 75, _ => exact ⟨_, rfl, rfl, fun _ h => h⟩
  | 76, _ => exact ⟨_, rfl, rfl, fun _ h => h⟩
  | 77, _ => exact ⟨_, rfl, rfl, fun _ h => h⟩
  | 78, _ => exact ⟨_, rfl, rfl, fun _ h => h⟩
  | 79, _ => exact ⟨_, rfl, rfl, fun _ h => h⟩
  | 80, _ => exact ⟨_, rfl, rfl, fun _ h => h⟩
  | 81, _ => exact ⟨_, rfl, rfl, fun _ h => h⟩
  | 82, _ => exact ⟨_, rfl, rfl, fun _ h => h⟩
  | 83, _ => exact ⟨_, rfl, rfl, fun _ h => h⟩
  | 84, _ => exact ⟨_, rfl, rfl, fun _ h => h⟩
  | 85, _ => exact ⟨_, rfl, rfl, fun _ h => h⟩
  | 86, _ => exact ⟨_, rfl, rfl, fun _ h => h⟩
  | 87, _ => exact ⟨_, rfl, rfl, fun _ h => h⟩
  | 88, _ => exact ⟨_, rfl, rfl, fun _ h => h⟩
  | 89, _ => exact ⟨_, rfl, rfl, fun _ h => h⟩
  | 90, _ => exact ⟨_, rfl, rfl, fun _ h => h⟩
  | 91, _ => exact ⟨_, rfl, rfl, fun _ h => h⟩
  | 92, _ => exact ⟨_, rfl, rfl, fun _ h => h⟩
  | 93, _ => exact ⟨_, rfl, rfl, fun _ h => h⟩
  | 94, _ => exact ⟨_, rfl, rfl, fun _ h => h⟩
  | 95, _ => exact ⟨_, rfl, rfl, fun _ h => h⟩
  | 96, _ => exact ⟨_, rfl, rfl, fun _ h => h⟩
  | 97, _ => exact ⟨_, rfl, rfl, fun _ h => h⟩
  | 98, _ => exact ⟨_, rfl, rfl, fun _ h => h⟩
  | 99, _ => exact ⟨_, rfl, rfl, fun _ h => h⟩
  | 100, _ => exact ⟨_, rfl, rfl, fun _ h => h⟩
  | 101, _ => exact ⟨_, rfl, rfl, fun _ h => h⟩
  | 102, _ => exact ⟨_, rfl, rfl, fun _ h => h⟩
  | 103, _ => exact ⟨_, rfl, rfl, fun _ h => h⟩
  | 104, _ => exact ⟨_, rfl, rfl, fun _ h => h⟩
  | 105, _ => exact ⟨_, rfl, rfl, fun _ h => h⟩
  | 106, _ => exact ⟨_, rfl, rfl, fun _ h => h⟩
  | 107, _ => exact ⟨_, rfl, rfl, fun _ h => h⟩
  | 108, _ => exact ⟨_, rfl, rfl, fun _ h => h⟩
  | 109, _ => exact ⟨_, rfl, rfl, fun _ h => h⟩
  | 110, _ => exact ⟨_, rfl, rfl, fun _ h => h⟩
  | 111, _ => exact ⟨_, rfl, rfl, fun _ h => h⟩
  | p + 112, hp => omega
theorem wl_at {D : va_G} {tx : Nat → Nat → Nat} {cy : Nat → ClassId} {a0 a1 a2 : Nat} {q r : Nat → Nat} {H : Heap} (hP : va_P D vwCl (wsL (D, fun _ => 0, tx, cy) a0 a1 a2 q r) H) : va_P D vwCl (sp_wl shL (D, adL a0 a1 a2 q r, tx, cy) (sp_pair sX0 sM0)) H := by
  intro k z hz
  have hk : k < 112 := by
    have h1 := (List.getElem?_eq_some_iff.mp hz).1
    have h2 : (sp_wl shL (D, adL a0 a1 a2 q r, tx, cy) (sp_pair sX0 sM0)).length = 112 := by unfold sp_wl; rw [List.length_map, List.length_range]; rfl
    omega
  have hz2 : z = (adL a0 a1 a2 q r k, sp_cell shL (D, adL a0 a1 a2 q r, tx, cy) (sp_pair sX0 sM0) k) := by
    unfold sp_wl at hz
    rw [List.getElem?_map, List.getElem?_range (show k < shL.1 from hk)] at hz
    exact (Option.some.inj hz).symm
  rw [hz2]
  obtain ⟨y, y1, _, y3⟩ := wl_ex D tx cy a0 a1 a2 q r k hk
  exact y3 H (hP _ _ y1)
theorem wl_dj {D : va_G} {tx : Nat → Nat → Nat} {cy : Nat → ClassId} {a0 a1 a2 : Nat} {q r : Nat → Nat} {A : Nat → Prop} (hD : va_D A (wsL (D, fun _ => 0, tx, cy) a0 a1 a2 q r)) : sp_inj shL (D, adL a0 a1 a2 q r, tx, cy) ∧ ∀ i, i < 112 → A (adL a0 a1 a2 q r i) := by
  refine ⟨fun i j hi hj he => ?_, fun i hi => ?_⟩
  · obtain ⟨y, y1, y2, _⟩ := wl_ex D tx cy a0 a1 a2 q r i hi
    obtain ⟨z, z1, z2, _⟩ := wl_ex D tx cy a0 a1 a2 q r j hj
    exact pmL_inj i hi j hj (hD.1 _ _ y z y1 z1 (by rw [y2, z2]; exact he))
  · obtain ⟨y, y1, y2, _⟩ := wl_ex D tx cy a0 a1 a2 q r i hi
    rw [← y2]
    exact hD.2 _ _ y1
set_option maxHeartbeats 8000000 in
set_option maxRecDepth 100000 in
theorem whole_start (l : Launch) (hflags : l.flags = flags0) {p : Program} {e : Env} {s : State} {m : MethodId} {below : List Frame} {meth : Method} {c : Code} {b L : Nat} {xs : Nat → Int32} (hL : L ≤ 3072) (C0 : lw_At p s m meth c b L xs) : W p l e room_1 s m #[Value.ref b] below meth c s.heap [] 0 0 (lw_Z below #[Value.ref b] s) (entryFrame m ([Value.ref b] : List Value).toArray 7) := by
  obtain ⟨D, tx, cy, hKE⟩ := lg_start C0
  obtain ⟨hx, hb, hr, hml, hown, hts, hXs, hbl, hlocks, hgv⟩ := C0
  have hst : l.stackTraces = false := by unfold Launch.stackTraces; rw [hflags]; decide +kernel
  have hT : ∀ w ∈ sp_T, w.before #[Value.ref b] s = true := fun w hw => hts w (List.mem_filter.mp hw).1
  obtain ⟨X, eX⟩ : ∃ X : sp_X, X = ((p, l, e, room_1, s, m, #[Value.ref b], below, meth, c), (D, (fun _ => 0), tx, cy), (fun q => s.heap.size ≤ q), lw_Z below #[Value.ref b] s) := ⟨_, rfl⟩
  have hX : sp_OK shE X cL_law RL 7 room_1 := by
    subst eX
    exact ⟨hx, hb, hml, hown, hT, (hKE _).1, fun i j hi => absurd hi (Nat.not_lt_zero _), fun i hi => absurd hi (Nat.not_lt_zero _), fun q hq => hq, rfl, hlocks, hst, (hKE _).2, Or.inr rfl⟩
  have hw : sx_w X = (D, (fun _ => 0), tx, cy) := by rw [eX]
  have K : ng_G X [] 7 [some (.ref b), none, none, none, none, none, none] [] 0 0 0 := by
    refine ng_new (ci := 11) (N := 13) (fs := [.null, .int 0, .int 0, .null, .null, .null, .null, .null, .int 0, .null, .null, .null, .null]) (q := 3) hX fwX11 tyX11_ok wz_154 wc_155 wd_127 rfl dfX11 (Nat.le_of_ble_eq_true rfl) (Nat.le_of_ble_eq_true rfl) dL_law_0 rfl (fun a0 => ?_)
    refine ng_dup (q := 4) hX dL_law_3 rfl rfl ?_
    refine ng_ctor (n := 0) (k := 0) (As := []) (rest := [.ref a0]) (q := 7) hX (ctX11_init (sp_st hX)) wz_156 wz_157 wd_127 wz_158 rfl (by decide +kernel) rfl rfl rfl rfl rfl (Nat.le_of_ble_eq_true rfl) (Nat.le_of_ble_eq_true rfl) (Nat.le_of_ble_eq_true rfl) (Nat.le_of_ble_eq_true rfl) (Nat.le_of_ble_eq_true rfl) dL_law_4 rfl (fun qs => ?_)
    show ng_G X (LCX11 (sx_w X) a0 qs) 7 _ _ _ _ _
    refine ng_astore_n (i := 1) (lv' := [some (.ref b), some (.ref a0), none, none, none, none, none]) (q := 8) hX dL_law_7 rfl (by decide) rfl rfl rfl ?_
    refine ng_new (ci := 12) (N := 64) (fs := [.null, .null, .null, .int 0, .null, .null, .null, .null, .null, .null, .null, .null, .null, .null, .null, .int 0, .int 0, .int 0, .int 0, .int 0, .int 0, .int 0, .int 0, .int 0, .int 0, .int 0, .null, .null, .null, .null, .null, .null, .null, .int 0, .int 0, .int 0, .int 0, .null, .null, .null, .null, .null, .null, .null, .null, .null, .null, .null, .null, .null, .null, .int 0, .null, .null, .int 0, .int 0, .int 0, .int 0, .null, .null, .null, .null, .null, .null]) (q := 11) hX fwX12 tyX12_ok wz_1585 wc_1586 wd_139 rfl dfX12 (Nat.le_of_ble_eq_true rfl) (Nat.le_of_ble_eq_true rfl) dL_law_8 rfl (fun a1 => ?_)
    refine ng_dup (q := 12) hX dL_law_11 rfl rfl ?_
    refine ng_ctor (n := 0) (k := 68) (As := []) (rest := [.ref a1]) (q := 15) hX (ctX12_init (sp_st hX)) wz_1587 wz_1588 wd_139 wz_1589 rfl (by decide +kernel) rfl rfl rfl rfl rfl (Nat.le_of_ble_eq_true rfl) (Nat.le_of_ble_eq_true rfl) (Nat.le_of_ble_eq_true rfl) (Nat.le_of_ble_eq_true rfl) (Nat.le_of_ble_eq_true rfl) dL_law_12 rfl (fun rs => ?_)
    have er := er_last (LCX11 (sx_w X) a0 qs) ((a1, .inr (12, [.null, .null, .null, .int 0, .null, .null, .null, .null, .null, .null, .null, .null, .null, .null, .null, .int 0, .int 0, .int 0, .int 0, .int 0, .int 0, .int 0, .int 0, .int 0, .int 0, .int 0, .null, .null, .null, .null, .null, .null, .null, .int 0, .int 0, .int 0, .int 0, .null, .null, .null, .null, .null, .null, .null, .null, .null, .null, .null, .null, .null, .null, .int 0, .null, .null, .int 0, .int 0, .int 0, .int 0, .null, .null, .null, .null, .null, .null])) : Nat × va_E) 68 rfl
    show ng_G X ((LCX11 (sx_w X) a0 qs ++ [((a1, .inr (12, [.null, .null, .null, .int 0, .null, .null, .null, .null, .null, .null, .null, .null, .null, .null, .null, .int 0, .int 0, .int 0, .int 0, .int 0, .int 0, .int 0, .int 0, .int 0, .int 0, .int 0, .null, .null, .null, .null, .null, .null, .null, .int 0, .int 0, .int 0, .int 0, .null, .null, .null, .null, .null, .null, .null, .null, .null, .null, .null, .null, .null, .null, .int 0, .null, .null, .int 0, .int 0, .int 0, .int 0, .null, .null, .null, .null, .null, .null])) : Nat × va_E)]).eraseIdx 68 ++ LCX12 (sx_w X) a1 rs) 7 _ _ _ _ _
    rw [er]
    refine ng_astore_n (i := 2) (lv' := [some (.ref b), some (.ref a0), some (.ref a1), none, none, none, none]) (q := 16) hX dL_law_15 rfl (by decide) rfl rfl rfl ?_
    refine ng_iconst (v := 1) (q := 17) hX dL_law_16 li_1 rfl ?_
    refine ng_newa (at_ := .long) (ty := .long) (t0 := 2) (N := 1) (a0 := (1, .inr (.inl (fun _ => 0)))) (cA := (sx_w X).2.2.2 2) (q := 19) hX wc_525 rfl rfl (fun C h => by cases h) (fun _ => rfl) (by decide) (by decide) (Nat.le_of_ble_eq_true rfl) (Nat.le_of_ble_eq_true rfl) (Nat.le_of_ble_eq_true rfl) dL_law_17 rfl (fun a2 => ?_)
    refine ng_astore_n (i := 3) (lv' := [some (.ref b), some (.ref a0), some (.ref a1), some (.ref a2), none, none, none]) (q := 20) hX dL_law_19 rfl (by decide) rfl rfl rfl ?_
    intro ls H locs hl hP hD hS
    subst eX
    have hD2 := wl_dj (D := D) (tx := tx) (cy := cy) (a0 := a0) (a1 := a1) (a2 := a2) (q := qs) (r := rs) hD
    obtain ⟨Y, eY⟩ : ∃ Y : sp_X, Y = ((p, l, e, room_1, s, m, #[Value.ref b], below, meth, c), (D, adL a0 a1 a2 qs rs, tx, cy), (fun q => s.heap.size ≤ q), lw_Z below #[Value.ref b] s) := ⟨_, rfl⟩
    have hY : sp_OK shL Y cL_law RL 7 room_1 := by
      subst eY
      exact ⟨hx, hb, hml, hown, hT, (hKE _).1, hD2.1, hD2.2, fun q hq => hq, rfl, hlocks, hst, (hKE _).2, Or.inr rfl⟩
    have hs : lg_scr Y b L xs := by
      subst eY
      exact ⟨hXs, hbl, fun h => absurd hbl (Nat.not_lt.mpr h)⟩
    have G : sp_GG shL Y (sp_pair sX0 sM0) 7 [some (.ref b), some (.ref (sx_ad Y 0)), some (.ref (sx_ad Y 69)), some (.ref (sx_ad Y 68)), none, none, none] [] 20 112 70200 := by
      refine sp_iconst (v := 0) (q := 21) hY dL_law_20 li_0 rfl ?_
      refine sp_istore (i := 4) (x := 0) (lv' := [some (.ref b), some (.ref (sx_ad Y 0)), some (.ref (sx_ad Y 69)), some (.ref (sx_ad Y 68)), some (.int 0), none, none]) (q := 23) hY dL_law_21 (by decide) rfl rfl rfl ?_
      exact lg_loop hY hs hL (by subst eY; rfl) (by subst eY; exact hr) (by subst eY; rfl) (fun z hz => by subst eY; exact hz) lk_all 112 70200 (by decide) (by decide) 513 0 sX0 sM0 0 Inv_0 rfl (by decide) (by decide)
    subst eY
    exact G ls H locs hl (wl_at hP) hS
  subst eX
  rw [lg_entry_eq]
  exact K _ _ _ (sp_lv_ent (Nat.le_of_ble_eq_true rfl) rfl) (fun k z hz => by simp at hz) ⟨fun i j x y hx => by simp at hx, fun k z hz => by simp at hz⟩ va_S.rf
