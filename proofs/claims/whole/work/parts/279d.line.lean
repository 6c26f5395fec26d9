-- ===== lines: a swallower, a blade, a feud, the patience =====
def fl (cd : List Nat × List Nat) (pt : Nat) : Nat := pt + 2 * (if cd.1.length = 0 then 0 else 1) + 4 * (if cd.2.length = 0 then 0 else 1)
def LnS (T : Nat → Nat) (N c : Nat) (σ0 μ0 σ μ : sp_St) (e b kd v : Nat) (ct : Nat → Nat → Nat) (cd : List Nat × List Nat) (pt : Nat) : Prop := TK T N σ μ e b kd v ∧ (∃ kk, kk ≤ b ∧ cLs c σ0 σ ct cd pt kk) ∧ mLs μ0 μ ct cd ∧ gL ct cd ∧ pt ≤ 1
def LnO (T : Nat → Nat) (N c : Nat) (σ0 μ0 : sp_St) (b dn : Nat) (X : Option (sp_St × Int32)) (Y : Option sp_St) : Prop := (∃ τ υ e' b' kd' v' ct' cd' pt', X = some (τ, 1) ∧ Y = some υ ∧ LnS T N c σ0 μ0 τ υ e' b' kd' v' ct' cd' pt' ∧ b < b' ∧ fl cd' pt' = dn) ∨ ∃ τ υ, X = some (τ, 0) ∧ Y = some υ ∧ BL c σ0 μ0 τ υ
def ctS (ct : Nat → Nat → Nat) (x y : Nat) : Nat → Nat → Nat := fun p k => if p = 0 ∧ k = 14 then ct 0 14 + 1 else if p = 5 ∧ k = ct 0 14 then x else if p = 6 ∧ k = ct 0 14 then y else ct p k
def ctB (ct : Nat → Nat → Nat) (h l x : Nat) : Nat → Nat → Nat := fun p k => if p = 0 ∧ k = 13 then ct 0 13 + 1 else if p = 1 ∧ k = ct 0 13 then h else if p = 2 ∧ k = ct 0 13 then l else if p = 3 ∧ k = ct 0 13 then x else if p = 4 ∧ k = h then ct 4 h ||| 2 ^ ct 0 13 else ct p k
def ctF (ct : Nat → Nat → Nat) (x y : Nat) : Nat → Nat → Nat := fun p k => if p = 0 ∧ k = 15 then ct 0 15 + 1 else if p = 7 ∧ k = x then ct 7 x ||| 2 ^ y else if p = 7 ∧ k = y then ct 7 y ||| 2 ^ x else ct p k
def ctP (ct : Nat → Nat → Nat) (x : Nat) : Nat → Nat → Nat := fun p k => if p = 0 ∧ k = 16 then x else ct p k
section
variable {T : Nat → Nat} {n N c e b kd v pt kk : Nat} {σ0 μ0 σ μ τ υ : sp_St} {ct : Nat → Nat → Nat} {cd : List Nat × List Nat}
theorem tk_csa {p i : Nat} {x : Int32} (h : TK T N σ μ e b kd v) (hp : p ≠ 1) : TK T N (sp_sa σ p i x) μ e b kd v := TK_f h (fun _ => rfl) (fun j => by rw [sp_sa_np (by omega)]) (fun _ _ => rfl) (fun _ => rfl)
theorem tk_csi {p i : Nat} {x : Int32} (h : TK T N σ μ e b kd v) (hp : p ≠ 20) : TK T N (sp_si σ p i x) μ e b kd v := TK_f h (fun _ => by rw [sp_si_g, if_neg (by omega)]) (fun j => rfl) (fun _ _ => rfl) (fun _ => rfl)
theorem tk_msa {p i : Nat} {x : Int32} (h : TK T N σ μ e b kd v) (hp : p ≠ 13) : TK T N σ (sp_sa μ p i x) e b kd v := TK_f h (fun _ => rfl) (fun _ => rfl) (fun _ _ => rfl) (fun j => by rw [sp_sa_np (by omega)])
theorem tk_msi {i : Nat} {x : Int32} (h : TK T N σ μ e b kd v) (hp : ¬ (16 ≤ i ∧ i ≤ 21)) : TK T N σ (sp_si μ 0 i x) e b kd v := TK_f h (fun _ => rfl) (fun _ => rfl) (fun j hj => by rw [sp_si_g, if_neg (by omega)]) (fun _ => rfl)
theorem tk_b (h : TK T N σ μ e b kd v) (hk : kd ≠ 0) : b < e := h.2.2.2.2.2.2.2.2.2.1 hk
theorem cl_sw {x y : Nat} (h : cLs c σ0 σ ct cd pt kk) (hx : σ.2.2.1 (c + 5) (ct 0 14) = nI x) (hy : σ.2.2.1 (c + 6) (ct 0 14) = nI y) : cLs c σ0 (sp_si σ c 14 (nI (ct 0 14 + 1))) (ctS ct x y) cd pt kk := by
  obtain ⟨h1, h2, ⟨a1, a2, a3, a4, a5, a6, a7, a8, a9, a10, a11, a12⟩, h4, h5, h6, h7, h8, h9⟩ := h
  have q1 : ctS ct x y 0 14 = ct 0 14 + 1 := by simp [ctS]
  have q2 : ∀ k, k ≠ 14 → ctS ct x y 0 k = ct 0 k := fun k hk => by simp [ctS, hk]
  have q3 : ∀ p k, p ≠ 0 → p ≠ 5 → p ≠ 6 → ctS ct x y p k = ct p k := fun p k h1 h2 h3 => by simp [ctS, h1, h2, h3]
  have q5 : ∀ k, ctS ct x y 5 k = if k = ct 0 14 then x else ct 5 k := fun k => by simp [ctS]
  have q6 : ∀ k, ctS ct x y 6 k = if k = ct 0 14 then y else ct 6 k := fun k => by simp [ctS]
  refine ⟨h1, h2, ⟨?_, by rw [q1]; exact sp_si_eq, ?_, fun k hk => ?_, fun k hk => ?_, fun k hk => ?_, fun k hk => ?_, fun k hk => ?_, fun k hk => ?_, fun k hk => ?_, ?_, ?_⟩, ?_, ?_, ?_, ?_, ?_, cfL_tr h9 (cfL_si (by omega))⟩
  · rw [q2 13 (by omega), sp_si_ne (by omega)]; exact a1
  · rw [q2 16 (by omega), sp_si_ne (by omega)]; exact a3
  · rw [q2 13 (by omega)] at hk; rw [q3 1 k (by omega) (by omega) (by omega)]; exact a4 k hk
  · rw [q2 13 (by omega)] at hk; rw [q3 2 k (by omega) (by omega) (by omega)]; exact a5 k hk
  · rw [q2 13 (by omega)] at hk; rw [q3 3 k (by omega) (by omega) (by omega)]; exact a6 k hk
  · rw [q3 4 k (by omega) (by omega) (by omega)]; exact a7 k hk
  · rw [q1] at hk; rw [q5]
    by_cases hh : k = ct 0 14
    · rw [if_pos hh, hh]; exact hx
    · rw [if_neg hh]; exact a8 k (by omega)
  · rw [q1] at hk; rw [q6]
    by_cases hh : k = ct 0 14
    · rw [if_pos hh, hh]; exact hy
    · rw [if_neg hh]; exact a9 k (by omega)
  · rw [q3 7 k (by omega) (by omega) (by omega)]; exact a10 k hk
  · obtain ⟨z, z1, z2, z3, z4⟩ := a11
    exact ⟨z, by rw [sp_si_ne (by omega)]; exact z1, by rw [sp_si_ne (by omega)]; exact z2, z3, z4⟩
  · obtain ⟨z, z1, z2, z3, z4⟩ := a12
    exact ⟨z, by rw [sp_si_ne (by omega)]; exact z1, by rw [sp_si_ne (by omega)]; exact z2, z3, z4⟩
  · rw [q2 15 (by omega), sp_si_ne (by omega)]; exact h4
  · rw [sp_si_ne (by omega)]; exact h5
  · rw [sp_si_ne (by omega)]; exact h6
  · rw [sp_si_ne (by omega)]; exact h7
  · rw [sp_si_ne (by omega)]; exact h8
theorem ml_sw {x y : Nat} (h : mLs μ0 μ ct cd) (hx : μ.2.2.1 5 (5 + ct 0 14) = nI x) (hy : μ.2.2.1 6 (5 + ct 0 14) = nI y) : mLs μ0 (sp_sa μ 3 7 (nI (ct 0 14 + 1))) (ctS ct x y) cd := by
  obtain ⟨h1, ⟨a1, a2, a3, a4, a5, a6, a7, a8, a9, a10, a11, a12, a13, a14⟩, h3⟩ := h
  have q1 : ctS ct x y 0 14 = ct 0 14 + 1 := by simp [ctS]
  have q2 : ∀ k, k ≠ 14 → ctS ct x y 0 k = ct 0 k := fun k hk => by simp [ctS, hk]
  have q3 : ∀ p k, p ≠ 0 → p ≠ 5 → p ≠ 6 → ctS ct x y p k = ct p k := fun p k h1 h2 h3 => by simp [ctS, h1, h2, h3]
  have q5 : ∀ k, ctS ct x y 5 k = if k = ct 0 14 then x else ct 5 k := fun k => by simp [ctS]
  have q6 : ∀ k, ctS ct x y 6 k = if k = ct 0 14 then y else ct 6 k := fun k => by simp [ctS]
  refine ⟨h1, ⟨?_, by rw [q1]; exact sp_sa_eq, ?_, ?_, ?_, ?_, fun k hk => ?_, fun k hk => ?_, fun k hk => ?_, fun k hk => ?_, fun k hk => ?_, fun k hk => ?_, fun k hk => ?_, fun k hk => ?_⟩, mfL_tr h3 (mfL_sa ⟨by omega, by omega, by decide⟩)⟩
  · rw [q2 15 (by omega), sp_sa_nj (by omega)]; exact a1
  · rw [q2 13 (by omega), sp_sa_nj (by omega)]; exact a3
  · rw [q2 16 (by omega), sp_sa_nj (by omega)]; exact a4
  · rw [sp_sa_nj (by omega)]; exact a5
  · rw [sp_sa_nj (by omega)]; exact a6
  · rw [q2 13 (by omega)] at hk; rw [q3 1 k (by omega) (by omega) (by omega), sp_sa_np (by omega)]; exact a7 k hk
  · rw [q2 13 (by omega)] at hk; rw [q3 2 k (by omega) (by omega) (by omega), sp_sa_np (by omega)]; exact a8 k hk
  · rw [q2 13 (by omega)] at hk; rw [q3 3 k (by omega) (by omega) (by omega), sp_sa_np (by omega)]; exact a9 k hk
  · rw [q1] at hk; rw [q5, sp_sa_np (by omega)]
    by_cases hh : k = ct 0 14
    · rw [if_pos hh, hh]; exact hx
    · rw [if_neg hh]; exact a10 k (by omega)
  · rw [q1] at hk; rw [q6, sp_sa_np (by omega)]
    by_cases hh : k = ct 0 14
    · rw [if_pos hh, hh]; exact hy
    · rw [if_neg hh]; exact a11 k (by omega)
  · rw [q3 7 k (by omega) (by omega) (by omega), sp_sa_np (by omega)]; exact a12 k hk
  · rw [sp_sa_np (by omega)]; exact a13 k hk
  · rw [sp_sa_np (by omega)]; exact a14 k hk
theorem g_sw {x y : Nat} (h : gL ct cd) (hs : ct 0 14 < 5) (hx : x ≤ 99) (hy : y ≤ 30) : gL (ctS ct x y) cd := by
  obtain ⟨⟨k1, k2, k3, k4, k5, k6, k7⟩, g2, g3, g4, g5, g6, g7, g8, g9⟩ := h
  have q1 : ctS ct x y 0 14 = ct 0 14 + 1 := by simp [ctS]
  have q2 : ∀ k, k ≠ 14 → ctS ct x y 0 k = ct 0 k := fun k hk => by simp [ctS, hk]
  have q3 : ∀ p k, p ≠ 0 → p ≠ 5 → p ≠ 6 → ctS ct x y p k = ct p k := fun p k h1 h2 h3 => by simp [ctS, h1, h2, h3]
  have q5 : ∀ k, ctS ct x y 5 k = if k = ct 0 14 then x else ct 5 k := fun k => by simp [ctS]
  have q6 : ∀ k, ctS ct x y 6 k = if k = ct 0 14 then y else ct 6 k := fun k => by simp [ctS]
  refine ⟨⟨by rw [q2 13 (by omega)]; exact k1, by rw [q1]; omega, fun p k => ?_, fun k => by rw [q3 1 k (by omega) (by omega) (by omega)]; exact k4 k, fun k => by rw [q3 2 k (by omega) (by omega) (by omega)]; exact k5 k, fun s => ?_, fun h hh => ?_⟩, fun k => by rw [q3 3 k (by omega) (by omega) (by omega)]; exact g2 k, fun s => ?_, fun k => by rw [q3 7 k (by omega) (by omega) (by omega)]; exact g4 k, fun k o => by rw [q3 7 k (by omega) (by omega) (by omega), q3 7 o (by omega) (by omega) (by omega)]; exact g5 k o, fun k => by rw [q3 7 k (by omega) (by omega) (by omega)]; exact g6 k, by rw [q2 16 (by omega)]; exact g7, by rw [q2 15 (by omega)]; exact g8, g9⟩
  · have := k3 p k
    unfold ctS
    split
    · omega
    · split
      · omega
      · split <;> omega
  · rw [q6]; split
    · exact hy
    · exact k6 s
  · rw [q3 4 h (by omega) (by omega) (by omega), q2 13 (by omega), k7 h hh]
    exact bs_cong fun k _ => by rw [q3 1 k (by omega) (by omega) (by omega)]
  · rw [q5]; split
    · exact hx
    · exact g3 s
theorem ln_swallow (hn : 1000 ≤ n) (h : LnS T N c σ0 μ0 σ μ e b kd v ct cd pt) (hk : kd ≠ 0) : LnO T N c σ0 μ0 b (fl cd pt) (X7_swallowerLine n σ) (X12_sayThroat n μ) := by
  obtain ⟨hT, ⟨kk, hkk, hC⟩, hM, hG, hpt⟩ := h
  have hbe := tk_b hT hk
  have hc2 := isc_ge hC.2.1
  have hc11 := isc_le hC.2.1
  have h14 := hC.2.2.1.2.1
  have h37 := hM.2.1.2.1
  have hs5 := hG.1.2.1
  rw [X7_swallowerLine, sp_pl, hC.1, hC.2.1, sp_ckt, sp_pl, h14, X12_sayThroat]
  by_cases h5 : ct 0 14 = 5
  · rw [if_neg (show ¬ nI (ct 0 14) < 5 by show ¬ nI (ct 0 14) < nI 5; rw [qn_lt (by omega) (by omega)]; omega), show X12_another n μ 1 5 = some (mFl μ 2, 0) from rq_anNo (k := 1) (m := 5) hM.1 (by omega) (by omega) (by rw [← h5]; exact h37), sp_bd_s, if_pos (show (0 : Int32) = 0 from rfl)]
    exact Or.inr ⟨cFl σ 2, mFl μ 2, rfl, rfl, bl_fl hT hC.2.2.2.2.2.2.2.2 hM.2.2 (by omega) (by omega)⟩
  · obtain ⟨τ1, υ1, e1, b1, kd1, v1, n1, n2, T1, n4, n5, n6⟩ := tk_nx hn hT.1
    have C1 := cL_T hC n5
    have M1 := mL_T hM n6
    have g37 := M1.2.1.2.1
    rw [if_pos (show nI (ct 0 14) < 5 by show nI (ct 0 14) < nI 5; rw [qn_lt (by omega) (by omega)]; omega), n1, sp_bv_s, show X12_another n μ 1 5 = _ from rq_anOk (k := 1) (m := 5) hM.1 (by omega) (by omega) h37 (by omega) h5, n2, sp_bv_s, sp_bd_s, if_neg (show ¬ (1 : Int32) = 0 by decide), sp_pl, show sp_g υ1 3 7 = nI (ct 0 14) from g37, show (5 : Int32) + nI (ct 0 14) = nI (5 + ct 0 14) from nI_add 5 _]
    rcases nu_step (n := n) T1 M1.1 (lo := 1) (hi := 99) (by omega) (by omega) with ⟨k1, k2, k3, z1, z2, z3, z4⟩ | ⟨f, f1, f2, z1, z2, z3⟩
    · have z1' : X7_isNumber n τ1 1 99 = some (τ1, 1) := z1
      have z3' : X12_readNumber n υ1 1 99 = sp_bv (X12_stepOn n υ1) fun υ => some (υ, nI v1) := z3
      have T1' := tk_csa (p := c + 5) (i := ct 0 14) (x := nI v1) T1 (by omega)
      obtain ⟨τ2, υ2, e2, b2, kd2, v2, m1, m2, T2, m4, m5, m6⟩ := tk_nx hn T1'.1
      have C2 := cL_T (cL_sa (x := nI v1) C1 (p := c + 5) (i := ct 0 14) (by omega)) m5
      have x2 : τ2.2.2.1 (c + 5) (ct 0 14) = nI v1 := by rw [m5.1]; exact sp_sa_eq
      have M2 := mL_sa (x := nI v1) (mL_T M1 m6) (p := 5) (i := 5 + ct 0 14) (by omega)
      have y2 : (sp_sa υ2 5 (5 + ct 0 14) (nI v1)).2.2.1 5 (5 + ct 0 14) = nI v1 := sp_sa_eq
      have T2' := tk_msa (p := 5) (i := 5 + ct 0 14) (x := nI v1) T2 (by omega)
      rw [z1', sp_bd_s, if_neg (show ¬ (1 : Int32) = 0 by decide), sp_pl, C1.1, C1.2.1, sp_ckt, qn_in (by omega) (by omega), sp_ckt, sp_pl, nI_clamp (by omega), z4, m1, sp_bv_s, z3', m2, sp_bv_s, sp_bd_s, qn_in (by omega) (by omega), sp_ckt, sp_pl, nI_clamp (by omega)]
      generalize sp_sa υ2 5 (5 + ct 0 14) (nI v1) = υ3 at *
      rcases nu_step (n := n) T2' M2.1 (lo := 0) (hi := 30) (by omega) (by omega) with ⟨j1, j2, j3, w1, w2, w3, w4⟩ | ⟨f, f1, f2, w1, w2, w3⟩
      · have w1' : X7_isNumber n τ2 0 30 = some (τ2, 1) := w1
        have w3' : X12_readNumber n υ3 0 30 = sp_bv (X12_stepOn n υ3) fun υ => some (υ, nI v2) := w3
        have C3 := cl_sw (x := v1) (y := v2) (cL_sa (x := nI v2) C2 (p := c + 6) (i := ct 0 14) (by omega)) (by rw [sp_sa_np (by omega)]; exact x2) sp_sa_eq
        have T3' := tk_csi (p := c) (i := 14) (x := nI (ct 0 14 + 1)) (tk_csa (p := c + 6) (i := ct 0 14) (x := nI v2) T2' (by omega)) (by omega)
        obtain ⟨τ4, υ4, e4, b4, kd4, v4, o1, o2, T4, o4, o5, o6⟩ := tk_nx hn T3'.1
        have M4 := ml_sw (x := v1) (y := v2) (mL_sa (x := nI v2) (mL_T M2 o6) (p := 6) (i := 5 + ct 0 14) (by omega)) (by rw [sp_sa_np (by omega), o6.1]; exact y2) sp_sa_eq
        have g14 : (sp_sa τ2 (c + 6) (ct 0 14) (nI v2)).1 c 14 = nI (ct 0 14) := C2.2.2.1.2.1
        have g37' : (sp_sa υ4 6 (5 + ct 0 14) (nI v2)).2.2.1 3 7 = nI (ct 0 14) := by rw [sp_sa_np (by omega), o6.1]; exact M2.2.1.2.1
        rw [w1', sp_bd_s, if_neg (show ¬ (1 : Int32) = 0 by decide), sp_pl, C2.1, C2.2.1, sp_ckt, sp_ckt, sp_pl, w4, sp_pl]
        show LnO T N c σ0 μ0 b (fl cd pt) (sp_ck (sp_isc (τ2.2.1 21 1)) <| sp_pl (sp_si (sp_sa τ2 (c + 6) (ct 0 14) (nI v2)) (τ2.2.1 21 1) 14 ((sp_sa τ2 (c + 6) (ct 0 14) (nI v2)).1 (τ2.2.1 21 1) 14 + 1)) fun σ31 => sp_bv (X10_next n σ31) fun σ34 => some (σ34, (1 : Int32))) _
        rw [C2.1, C2.2.1, sp_ckt, sp_pl, g14, show nI (ct 0 14) + 1 = nI (ct 0 14 + 1) from nI_add _ 1, o1, sp_bv_s, w3', o2, sp_bv_s, sp_bd_s, sp_ckt, sp_pl, sp_pl]
        show LnO T N c σ0 μ0 b (fl cd pt) _ (some (sp_sa (sp_sa υ4 6 (5 + ct 0 14) (nI v2)) 3 7 ((sp_sa υ4 6 (5 + ct 0 14) (nI v2)).2.2.1 3 7 + 1)))
        rw [g37', show nI (ct 0 14) + 1 = nI (ct 0 14 + 1) from nI_add _ 1]
        refine Or.inl ⟨τ4, _, e4, b4, kd4, v4, ctS ct v1 v2, cd, pt, rfl, rfl, ⟨tk_msa (tk_msa T4 (by omega)) (by omega), ⟨kk, ?_, cL_T C3 o5⟩, M4, g_sw hG (by omega) k3 j3, hpt⟩, ?_, rfl⟩
        · have := T1.2.1; have := T2.2.1; omega
        · have := T1.2.1; have := T2.2.1; omega
      · have w1' : X7_isNumber n τ2 0 30 = some (cFl τ2 f, 0) := w1
        have w3' : X12_readNumber n υ3 0 30 = some (mFl υ3 f, 0) := w3
        rw [w1', sp_bd_s, if_pos (show (0 : Int32) = 0 from rfl), w3', sp_bd_s, sp_ckt, sp_pl, sp_pl]
        exact Or.inr ⟨_, _, rfl, rfl, bl_sa (bl_sa (bl_fl T2' C2.2.2.2.2.2.2.2.2 M2.2.2 f1 f2) ⟨by omega, by omega, by show 5 ≤ _; omega⟩) ⟨by omega, by omega, by decide⟩⟩
    · have z1' : X7_isNumber n τ1 1 99 = some (cFl τ1 f, 0) := z1
      have z3' : X12_readNumber n υ1 1 99 = some (mFl υ1 f, 0) := z3
      rw [z1', sp_bd_s, if_pos (show (0 : Int32) = 0 from rfl), z3', sp_bd_s, qn_in (by omega) (by omega), sp_ckt, sp_pl, nI_clamp (by omega), rq_rnB (show (sp_sa (mFl υ1 f) 5 (5 + ct 0 14) 0).1 0 22 ≠ 0 from mFl_bad (μ := υ1) f1 f2), sp_bd_s, sp_ckt, sp_pl, sp_pl]
      exact Or.inr ⟨_, _, rfl, rfl, bl_sa (bl_sa (bl_sa (bl_fl T1 C1.2.2.2.2.2.2.2.2 M1.2.2 f1 f2) ⟨by omega, by omega, by show 5 ≤ _; omega⟩) ⟨by omega, by omega, by show 5 ≤ _; omega⟩) ⟨by omega, by omega, by decide⟩⟩
end
