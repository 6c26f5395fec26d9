-- ===== a rule's expression, both sides =====
def cfE (c a : Nat) (σ τ : sp_St) : Prop := τ.2.1 = σ.2.1 ∧ (∀ p k, ¬ (p = 20 ∧ 2 ≤ k ∨ p = 21 ∧ (k = 2 ∨ k = 4) ∨ p = c ∧ k = 8) → τ.1 p k = σ.1 p k) ∧ ∀ p i, ¬ (p = c + 8 ∧ a ≤ i) → τ.2.2.1 p i = σ.2.2.1 p i
def mfE (r : Nat) (μ υ : sp_St) : Prop := υ.2.1 = μ.2.1 ∧ (∀ k, ¬ (k = 16 ∨ 18 ≤ k ∧ k ≤ 23) → υ.1 0 k = μ.1 0 k) ∧ ∀ p i, ¬ (p = 3 ∧ i = 10 + r ∨ p = 10 + r ∧ 700 ≤ i) → υ.2.2.1 p i = μ.2.2.1 p i
theorem cfE_tr {c a : Nat} {σ τ υ : sp_St} (h : cfE c a σ τ) (g : cfE c a τ υ) : cfE c a σ υ := ⟨g.1.trans h.1, fun p k hk => (g.2.1 p k hk).trans (h.2.1 p k hk), fun p k hk => (g.2.2 p k hk).trans (h.2.2 p k hk)⟩
theorem mfE_tr {r : Nat} {σ τ υ : sp_St} (h : mfE r σ τ) (g : mfE r τ υ) : mfE r σ υ := ⟨g.1.trans h.1, fun k hk => (g.2.1 k hk).trans (h.2.1 k hk), fun p k hk => (g.2.2 p k hk).trans (h.2.2 p k hk)⟩
theorem cfE_T {c a : Nat} {σ τ : sp_St} (h : cfT σ τ) : cfE c a σ τ := ⟨by rw [h.1], fun p k hk => h.2 p k (by omega), fun p i _ => by rw [h.1]⟩
theorem mfE_T {r : Nat} {σ τ : sp_St} (h : mfT σ τ) : mfE r σ τ := ⟨by rw [h.1], fun k hk => h.2 k (by omega), fun p i _ => by rw [h.1]⟩
/-- what is read so far: L, from place a on -/
def cXs (c a r : Nat) (σ0 σ : sp_St) (L : List Nat) : Prop := σ.2.1 21 1 = c ∧ sp_isc c = true ∧ σ.1 21 3 = nI (1 - r) ∧ σ.1 c 8 = nI (a + L.length) ∧ (∀ k, k < L.length → σ.2.2.1 (c + 8) (a + k) = encC (L.getD k 0)) ∧ cfE c a σ0 σ
def mXs (r : Nat) (μ0 μ : sp_St) (L : List Nat) : Prop := μ.1 0 22 = 0 ∧ μ.1 0 25 = nI r ∧ μ.2.1 0 2 = 1 + r ∧ r ≤ 1 ∧ μ.2.2.1 3 (10 + r) = nI L.length ∧ (∀ k, k < L.length → μ.2.2.1 (10 + r) (700 + k) = encM (L.getD k 0)) ∧ mfE r μ0 μ
def ES (T : Nat → Nat) (N c a r : Nat) (σ0 μ0 σ μ : sp_St) (e b kd v : Nat) (L : List Nat) : Prop := TK T N σ μ e b kd v ∧ cXs c a r σ0 σ L ∧ mXs r μ0 μ L ∧ a + L.length ≤ b
/-- both have the same fault -/
def BD (c a r : Nat) (σ0 μ0 σ μ : sp_St) : Prop := μ.1 0 22 ≠ 0 ∧ σ.1 21 2 = μ.1 0 22 ∧ σ.1 21 4 = μ.1 0 23 ∧ σ.2.1 21 1 = c ∧ sp_isc c = true ∧ (∃ k, a ≤ k ∧ k ≤ 700 ∧ σ.1 c 8 = nI k) ∧ cfE c a σ0 σ ∧ mfE r μ0 μ
/-- a well formed piece: it leaves one more on the rods, and needs w of them -/
def seg (lv w : Nat) (D : List Nat) : Prop := ∀ R h, h + w ≤ 40 → qok 40 lv R (h + 1) → qok 40 lv (D ++ R) h
theorem seg_mono {lv w x : Nat} {D : List Nat} (h : seg lv w D) (hw : w ≤ x) : seg lv x D := fun R k hk hR => h R k (by omega) hR
theorem seg_one {lv k : Nat} (h : k < 10000 + lv) : seg lv 1 [k] := fun R d hd hR => by
  show (if k < 10000 + lv then d + 1 ≤ 40 ∧ qok 40 lv R (d + 1) else _)
  rw [if_pos h]
  exact ⟨by omega, hR⟩
theorem seg_op {lv w x k : Nat} {A B : List Nat} (hA : seg lv w A) (hB : seg lv x B) (hw : x + 1 ≤ w) (h1 : 10010 ≤ k) (h2 : k ≤ 10018) (h3 : k ≠ 10016) (hl : lv ≤ 6) : seg lv w (A ++ B ++ [k]) := fun R d hd hR => by
  rw [List.append_assoc, List.append_assoc]
  refine hA _ d hd (hB _ (d + 1) (by omega) ?_)
  show (if k < 10000 + lv then _ else if k = 10016 then _ else (10010 ≤ k ∧ k ≤ 10018 ∧ 2 ≤ d + 1 + 1) ∧ qok 40 lv R (d + 1 + 1 - 1))
  rw [if_neg (by omega), if_neg h3]
  exact ⟨⟨h1, h2, by omega⟩, hR⟩
theorem seg_not {lv w : Nat} {A : List Nat} (hA : seg lv w A) (hl : lv ≤ 6) : seg lv w (A ++ [10016]) := fun R d hd hR => by
  rw [List.append_assoc]
  refine hA _ d hd ?_
  show (if 10016 < 10000 + lv then _ else if 10016 = 10016 then 1 ≤ d + 1 ∧ qok 40 lv R (d + 1) else _)
  rw [if_neg (by omega), if_pos rfl]
  exact ⟨by omega, hR⟩
section
variable {T : Nat → Nat} {n N c a r e b kd v : Nat} {σ0 μ0 σ μ : sp_St} {L : List Nat}
theorem TK_f {τ υ : sp_St} (h : TK T N σ μ e b kd v) (h1 : ∀ k, τ.1 20 k = σ.1 20 k) (h2 : ∀ i, τ.2.2.1 1 i = σ.2.2.1 1 i) (h3 : ∀ k, k = 16 ∨ k = 17 ∨ 18 ≤ k ∧ k ≤ 21 → υ.1 0 k = μ.1 0 k) (h4 : ∀ i, υ.2.2.1 13 i = μ.2.2.1 13 i) : TK T N τ υ e b kd v := by
  unfold TK TP cTx mTx at *
  simp only [h1, h2, h3 16 (by omega), h3 17 (by omega), h3 18 (by omega), h3 19 (by omega), h3 20 (by omega), h3 21 (by omega), h4]
  exact h
theorem cX_T {τ : sp_St} (h : cXs c a r σ0 σ L) (g : cfT σ τ) : cXs c a r σ0 τ L := by
  obtain ⟨h1, h2, h3, h4, h5, h6⟩ := h
  have hc11 := isc_le h2
  exact ⟨by rw [g.1]; exact h1, h2, by rw [g.2 21 3 (by omega)]; exact h3, by rw [g.2 c 8 (by omega)]; exact h4, by rw [g.1]; exact h5, cfE_tr h6 (cfE_T g)⟩
theorem mX_T {υ : sp_St} (h : mXs r μ0 μ L) (g : mfT μ υ) : mXs r μ0 υ L := by
  obtain ⟨h1, h2, h3, h4, h5, h6, h7⟩ := h
  exact ⟨by rw [g.2 22 (by omega)]; exact h1, by rw [g.2 25 (by omega)]; exact h2, by rw [g.1]; exact h3, h4, by rw [g.1]; exact h5, by rw [g.1]; exact h6, mfE_tr h7 (mfE_T g)⟩
theorem es_nx (hn : 1000 ≤ n) (h : ES T N c a r σ0 μ0 σ μ e b kd v L) (hk : kd ≠ 0) : ∃ τ υ e' b' kd' v', X10_next n σ = some τ ∧ X12_stepOn n μ = some υ ∧ ES T N c a r σ0 μ0 τ υ e' b' kd' v' L ∧ b < b' := by
  obtain ⟨hT, hC, hM, hab⟩ := h
  have hbe := hT.2.2.2.2.2.2.2.2.2.1 hk
  obtain ⟨τ, υ, e', b', kd', v', n1, n2, n3, n4, n5, n6⟩ := tk_nx hn hT.1
  exact ⟨τ, υ, e', b', kd', v', n1, n2, ⟨n3, cX_T hC n5, mX_T hM n6, by omega⟩, by omega⟩
theorem gz_l (L : List Nat) (k : Nat) : (L ++ [k]).getD L.length 0 = k := by simp [List.getD_eq_getElem?_getD]
theorem gz_k (L : List Nat) (k : Nat) {i : Nat} (h : i < L.length) : (L ++ [k]).getD i 0 = L.getD i 0 := by simp [List.getD_eq_getElem?_getD, List.getElem?_append_left h]
theorem c_add (h : cXs c a r σ0 σ L) (hl : a + L.length < 700) (k : Nat) : ∃ τ, X2_addCode n σ c (encC k) = some τ ∧ cXs c a r σ0 τ (L ++ [k]) ∧ (∀ j, τ.1 20 j = σ.1 20 j) ∧ ∀ i, τ.2.2.1 1 i = σ.2.2.1 1 i := by
  obtain ⟨hc, hic, h213, h8, hC, hcf⟩ := h
  have hc11 := isc_le hic
  have hc2 := isc_ge hic
  have e1 : X2_addCode n σ c (encC k) = some (sp_si (sp_sa σ (c + 8) (a + L.length) (encC k)) c 8 (nI (a + (L ++ [k]).length))) := by
    rw [X2_addCode, h8, if_neg (show ¬ (700 : Int32) ≤ nI (a + L.length) by show ¬ nI 700 ≤ nI (a + L.length); rw [qn_le (by omega) (by omega)]; omega), qn_in (by omega) (by omega), sp_ckt, sp_pl, sp_pl, nI_clamp (by omega), sp_sa_1, h8, show nI (a + L.length) + 1 = nI (a + L.length + 1) from nI_add _ 1]
    rw [List.length_append]
    rfl
  refine ⟨_, e1, ⟨hc, hic, ?_, sp_si_eq, fun j hj => ?_, cfE_tr hcf ⟨rfl, fun p j hj => ?_, fun p i hi => ?_⟩⟩, fun j => by rw [sp_si_g, if_neg (by omega), sp_sa_1], fun i => by show (sp_sa σ (c + 8) (a + L.length) (encC k)).2.2.1 1 i = _; rw [sp_sa_np (by omega)]⟩
  · rw [sp_si_g, if_neg (by omega)]; exact h213
  · show (sp_sa σ (c + 8) (a + L.length) (encC k)).2.2.1 (c + 8) (a + j) = _
    rw [List.length_append] at hj
    by_cases p : j = L.length
    · subst p; rw [gz_l]; exact sp_sa_eq
    · have : j < L.length := by simp at hj; omega
      rw [gz_k _ _ this, sp_sa_nj (by omega)]; exact hC j this
  · rw [sp_si_g, if_neg (by omega), sp_sa_1]
  · show (sp_sa σ (c + 8) (a + L.length) (encC k)).2.2.1 p i = _
    rw [sp_sa_g, if_neg (by omega)]
theorem m_add (h : mXs r μ0 μ L) (hl : L.length < 700) (k : Nat) : ∃ υ, X12_lay n μ (encM k) = some υ ∧ mXs r μ0 υ (L ++ [k]) ∧ (∀ j, υ.1 0 j = μ.1 0 j) ∧ ∀ i, υ.2.2.1 13 i = μ.2.2.1 13 i := by
  obtain ⟨h22, h25, hv2, hr, h3, hM, hmf⟩ := h
  have e2 : X12_lay n μ (encM k) = some (sp_sa (sp_sa μ (10 + r) (700 + L.length) (encM k)) 3 (10 + r) (nI (L ++ [k]).length)) := by
    rw [X12_lay, if_pos h22, h25, List.length_append]
    have r01 : r = 0 ∨ r = 1 := by omega
    have aux : ∀ p, p = 10 + r → X12_lay_42 n μ (encM k) (nI (10 + r)) p = some (sp_sa (sp_sa μ (10 + r) (700 + L.length) (encM k)) 3 (10 + r) (nI (L.length + [k].length))) := fun p hp => by
      subst hp
      rw [X12_lay_42, qn_in (by omega) (by omega), sp_ckt, qn_g (by omega), h3, show (700 : Int32) + nI L.length = nI (700 + L.length) from nI_add 700 _, qn_in (by omega) (by omega), sp_ckt, sp_pl, nI_clamp (by omega), sp_ckt, sp_ckt, sp_pl, nI_clamp (by omega), qn_g (by omega), sp_sa_np (by omega), h3, show nI L.length + 1 = nI (L.length + 1) from nI_add _ 1]
      rfl
    rcases r01 with rfl | rfl
    · rw [if_pos (show nI 0 = 0 from rfl), sp_pl, sp_pl, if_pos (show nI 0 = 0 from rfl)]
      exact aux 10 rfl
    · rw [if_neg (show ¬ nI 1 = 0 by decide), sp_pl, sp_pl, if_neg (show ¬ nI 1 = 0 by decide)]
      exact aux 11 rfl
  refine ⟨_, e2, ⟨h22, h25, hv2, hr, sp_sa_eq, fun j hj => ?_, mfE_tr hmf ⟨rfl, fun j hj => rfl, fun p i hi => ?_⟩⟩, fun j => rfl, fun i => by rw [sp_sa_np (by omega), sp_sa_np (by omega)]⟩
  · rw [sp_sa_np (by omega)]
    rw [List.length_append] at hj
    by_cases p : j = L.length
    · subst p; rw [gz_l]; exact sp_sa_eq
    · have : j < L.length := by simp at hj; omega
      rw [gz_k _ _ this, sp_sa_nj (by omega)]; exact hM j this
  · rw [sp_sa_g, if_neg (by omega), sp_sa_g, if_neg (by omega)]
theorem es_le (h : ES T N c a r σ0 μ0 σ μ e b kd v L) : b ≤ e ∧ e ≤ N ∧ N ≤ 700 ∧ (kd ≠ 0 → b < e) := ⟨h.1.2.1, h.1.1.2.2.1, h.1.1.1.2.1, h.1.2.2.2.2.2.2.2.2.2.1⟩
theorem es_add (h : ES T N c a r σ0 μ0 σ μ e b kd v L) (hl : a + L.length < b) (k : Nat) : ∃ τ υ, X2_addCode n σ c (encC k) = some τ ∧ X12_lay n μ (encM k) = some υ ∧ ES T N c a r σ0 μ0 τ υ e b kd v (L ++ [k]) := by
  have hle := es_le h
  obtain ⟨hT, hC, hM, hab⟩ := h
  obtain ⟨τ, c1, c2, c3, c4⟩ := c_add (n := n) hC (by omega) k
  obtain ⟨υ, m1, m2, m3, m4⟩ := m_add (n := n) hM (by omega) k
  exact ⟨τ, υ, c1, m1, TK_f hT c3 c4 (fun j _ => m3 j) m4, c2, m2, by rw [List.length_append]; simp; omega⟩
theorem bd_add (h : BD c a r σ0 μ0 σ μ) (x : Int32) : ∃ τ, X2_addCode n σ c x = some τ ∧ BD c a r σ0 μ0 τ μ := by
  obtain ⟨h1, h2, h3, h4, h5, ⟨k, k1, k2, k3⟩, h7, h8⟩ := h
  have hc11 := isc_le h5
  rw [X2_addCode, k3]
  by_cases p : 700 ≤ k
  · rw [if_pos (show (700 : Int32) ≤ nI k by show nI 700 ≤ nI k; rw [qn_le (by omega) (by omega)]; omega)]
    exact ⟨σ, rfl, h1, h2, h3, h4, h5, ⟨k, k1, k2, k3⟩, h7, h8⟩
  · rw [if_neg (show ¬ (700 : Int32) ≤ nI k by show ¬ nI 700 ≤ nI k; rw [qn_le (by omega) (by omega)]; omega), qn_in (by omega) (by omega), sp_ckt, sp_pl, sp_pl, nI_clamp (by omega), sp_sa_1, k3, show nI k + 1 = nI (k + 1) from nI_add _ 1]
    refine ⟨_, rfl, h1, ?_, ?_, h4, h5, ⟨k + 1, by omega, by omega, sp_si_eq⟩, cfE_tr h7 ⟨rfl, fun p j hj => ?_, fun p i hi => ?_⟩, h8⟩
    · rw [sp_si_g, if_neg (by omega)]; exact h2
    · rw [sp_si_g, if_neg (by omega)]; exact h3
    · rw [sp_si_g, if_neg (by omega), sp_sa_1]
    · show (sp_sa σ (c + 8) k x).2.2.1 p i = _
      rw [sp_sa_g, if_neg (by omega)]
theorem rq_layB {x : Int32} (h : μ.1 0 22 ≠ 0) : X12_lay n μ x = some μ := by rw [X12_lay, if_neg h]
/-- a fault, told by both -/
theorem es_fl (h : ES T N c a r σ0 μ0 σ μ e b kd v L) {f : Nat} (h0 : f ≠ 0) (h1 : f < 10) : BD c a r σ0 μ0 (cFl σ f) (mFl μ f) := by
  have hle := es_le h
  obtain ⟨hT, ⟨hc, hic, h213, h8, hC, hcf⟩, ⟨h22, h25, hv2, hr, h3, hM, hmf⟩, hab⟩ := h
  have hc11 := isc_le hic
  refine ⟨mFl_bad h0 h1, ?_, ?_, hc, hic, ⟨a + L.length, by omega, by omega, ?_⟩, cfE_tr hcf ⟨rfl, fun p j hj => ?_, fun p i hi => rfl⟩, mfE_tr hmf ⟨rfl, fun j hj => ?_, fun p i hi => rfl⟩⟩
  · unfold cFl mFl
    rw [sp_si_ne (by omega), sp_si_eq, sp_si_ne (by omega), sp_si_eq]
  · unfold cFl mFl
    rw [sp_si_eq, sp_si_eq, hT.2.2.1, hT.2.2.2.1]
  · unfold cFl
    rw [sp_si_g, if_neg (by omega), sp_si_g, if_neg (by omega)]; exact h8
  · unfold cFl
    rw [sp_si_g, if_neg (by omega), sp_si_g, if_neg (by omega)]
  · unfold mFl
    rw [sp_si_g, if_neg (by omega), sp_si_g, if_neg (by omega)]
end
/-- what a piece of the reader gives: it is read, or there is a fault -/
def OUT (T : Nat → Nat) (N c a r : Nat) (σ0 μ0 : sp_St) (w b : Nat) (L : List Nat) (X : Option (sp_St × Int32)) (Y : Option sp_St) : Prop := (∃ τ υ e' b' kd' v' D, X = some (τ, 1) ∧ Y = some υ ∧ ES T N c a r σ0 μ0 τ υ e' b' kd' v' (L ++ D) ∧ D.length + b ≤ b' ∧ 0 < D.length ∧ seg (6 - 2 * r) w D) ∨ ∃ τ υ, X = some (τ, 0) ∧ Y = some υ ∧ BD c a r σ0 μ0 τ υ
def PP (T : Nat → Nat) (N c a r : Nat) (σ0 μ0 : sp_St) (w : Nat) (F : sp_St → Option (sp_St × Int32)) (G : sp_St → Option sp_St) : Prop := ∀ σ μ e b kd v L, ES T N c a r σ0 μ0 σ μ e b kd v L → OUT T N c a r σ0 μ0 w b L (F σ) (G μ)
section
variable {T : Nat → Nat} {n N c a r e b kd v w : Nat} {σ0 μ0 σ μ : sp_St} {L : List Nat}
theorem OUT_mono {w x b b0 : Nat} {L : List Nat} {X : Option (sp_St × Int32)} {Y : Option sp_St} (h : OUT T N c a r σ0 μ0 w b L X Y) (hw : w ≤ x) (hb : b0 ≤ b) : OUT T N c a r σ0 μ0 x b0 L X Y := by
  rcases h with ⟨τ, υ, e', b', kd', v', D, h1, h2, h3, h4, h5, h6⟩ | h
  · exact Or.inl ⟨τ, υ, e', b', kd', v', D, h1, h2, h3, by omega, h5, seg_mono h6 hw⟩
  · exact Or.inr h
theorem lp_op (hn : 1000 ≤ n) {P : sp_St → Option (sp_St × Int32)} {Q : sp_St → Option sp_St} (hP : PP T N c a r σ0 μ0 w P Q) {FL : Nat → sp_St → Int32 → Int32 → Option (sp_St × Int32)} {GL : Nat → sp_St → Option sp_St} {op : Nat → Nat → Nat → Option Nat}
    (H1 : ∀ σ μ e b kd v L f g i, ES T N c a r σ0 μ0 σ μ e b kd v L → op e b kd = none → FL (f + 1) σ 1 (nI i) = some (σ, 1) ∧ GL (g + 1) μ = some μ)
    (H2 : ∀ σ μ e b kd v L k f g i, ES T N c a r σ0 μ0 σ μ e b kd v L → op e b kd = some k → i < 700 → (FL (f + 1) σ 1 (nI i) = sp_bv (X10_next n σ) fun σ4 => sp_bd (P σ4) fun σ6 v7 => sp_ck (sp_isc (σ6.2.1 21 1)) <| sp_bv (X2_addCode n σ6 (σ6.2.1 21 1) (encC k)) fun σ12 => FL f σ12 v7 (nI (i + 1))) ∧ (GL (g + 1) μ = sp_bv (X12_stepOn n μ) fun σ7 => sp_bv (Q σ7) fun σ9 => sp_bv (X12_lay n σ9 (encM k)) fun σ11 => GL g σ11))
    (H3 : ∀ σ f i, FL (f + 1) σ 0 (nI i) = some (σ, 0)) (H4 : ∀ (μ : sp_St) g, μ.1 0 22 ≠ 0 → GL (g + 1) μ = some μ)
    (H5 : ∀ e b kd k, op e b kd = some k → kd ≠ 0 ∧ 10010 ≤ k ∧ k ≤ 10018 ∧ k ≠ 10016) (b0 : Nat) (L0 : List Nat) :
    ∀ m f g i σ μ e b kd v D, N - b ≤ m → m + 1 < f → m + 1 < g → i ≤ b → ES T N c a r σ0 μ0 σ μ e b kd v (L0 ++ D) → D.length + b0 ≤ b → 0 < D.length → seg (6 - 2 * r) (w + 1) D → OUT T N c a r σ0 μ0 (w + 1) b0 L0 (FL f σ 1 (nI i)) (GL g μ) := by
  intro m
  induction m with
  | zero =>
    intro f g i σ μ e b kd v D hm hf hg hi hE hD hD0 hs
    obtain ⟨f, rfl⟩ : ∃ x, f = x + 1 := ⟨f - 1, by omega⟩
    obtain ⟨g, rfl⟩ : ∃ x, g = x + 1 := ⟨g - 1, by omega⟩
    have hle := es_le hE
    cases ho : op e b kd with
    | none =>
      obtain ⟨x1, x2⟩ := H1 σ μ e b kd v _ f g i hE ho
      exact Or.inl ⟨σ, μ, e, b, kd, v, D, x1, x2, hE, hD, hD0, hs⟩
    | some k => exact absurd (hle.2.2.2 (H5 e b kd k ho).1) (by omega)
  | succ m ih =>
    intro f g i σ μ e b kd v D hm hf hg hi hE hD hD0 hs
    obtain ⟨f, rfl⟩ : ∃ x, f = x + 1 := ⟨f - 1, by omega⟩
    obtain ⟨g, rfl⟩ : ∃ x, g = x + 1 := ⟨g - 1, by omega⟩
    have hle := es_le hE
    cases ho : op e b kd with
    | none =>
      obtain ⟨x1, x2⟩ := H1 σ μ e b kd v _ f g i hE ho
      exact Or.inl ⟨σ, μ, e, b, kd, v, D, x1, x2, hE, hD, hD0, hs⟩
    | some k =>
      obtain ⟨k0, k1, k2, k3⟩ := H5 e b kd k ho
      have hbe := hle.2.2.2 k0
      obtain ⟨x1, x2⟩ := H2 σ μ e b kd v _ k f g i hE ho (by omega)
      obtain ⟨τ, υ, e1, b1, kd1, v1, n1, n2, n3, n4⟩ := es_nx hn hE k0
      rw [x1, x2, n1, sp_bv_s, n2, sp_bv_s]
      have hab := hE.2.2.2
      rcases hP τ υ e1 b1 kd1 v1 _ n3 with ⟨τ2, υ2, e2, b2, kd2, v2, D2, p1, p2, p3, p4, p5, p6⟩ | ⟨τ2, υ2, p1, p2, p3⟩
      · have hc := p3.2.1.1
        have hic := p3.2.1.2.1
        obtain ⟨τ3, υ3, q1, q2, q3⟩ := es_add (n := n) p3 (by rw [List.length_append]; omega) k
        rw [p1, sp_bd_s, hc, hic, sp_ckt, q1, sp_bv_s, p2, sp_bv_s, q2, sp_bv_s]
        have hle2 := es_le p3
        have e3 : L0 ++ D ++ D2 ++ [k] = L0 ++ (D ++ D2 ++ [k]) := by simp
        rw [e3] at q3
        refine ih f g (i + 1) τ3 υ3 e2 b2 kd2 v2 (D ++ D2 ++ [k]) (by omega) (by omega) (by omega) (by omega) q3 ?_ ?_ (seg_op hs p6 (by omega) k1 k2 k3 (by omega))
        · simp only [List.length_append, List.length_cons, List.length_nil]; omega
        · simp only [List.length_append, List.length_cons, List.length_nil]; omega
      · obtain ⟨τ3, q1, q3⟩ := bd_add (n := n) p3 (encC k)
        have hc := p3.2.2.2.1
        have hic := p3.2.2.2.2.1
        rw [p1, sp_bd_s, hc, hic, sp_ckt, q1, sp_bv_s, p2, sp_bv_s, rq_layB p3.1, sp_bv_s]
        obtain ⟨f, rfl⟩ : ∃ x, f = x + 1 := ⟨f - 1, by omega⟩
        obtain ⟨g, rfl⟩ : ∃ x, g = x + 1 := ⟨g - 1, by omega⟩
        exact Or.inr ⟨τ3, υ2, H3 τ3 f (i + 1), H4 υ2 g q3.1, q3⟩
theorem pp_loop (hn : 1000 ≤ n) {P : sp_St → Option (sp_St × Int32)} {Q : sp_St → Option sp_St} (hP : PP T N c a r σ0 μ0 w P Q) {FL : Nat → sp_St → Int32 → Int32 → Option (sp_St × Int32)} {GL : Nat → sp_St → Option sp_St} {op : Nat → Nat → Nat → Option Nat}
    (H1 : ∀ σ μ e b kd v L f g i, ES T N c a r σ0 μ0 σ μ e b kd v L → op e b kd = none → FL (f + 1) σ 1 (nI i) = some (σ, 1) ∧ GL (g + 1) μ = some μ)
    (H2 : ∀ σ μ e b kd v L k f g i, ES T N c a r σ0 μ0 σ μ e b kd v L → op e b kd = some k → i < 700 → (FL (f + 1) σ 1 (nI i) = sp_bv (X10_next n σ) fun σ4 => sp_bd (P σ4) fun σ6 v7 => sp_ck (sp_isc (σ6.2.1 21 1)) <| sp_bv (X2_addCode n σ6 (σ6.2.1 21 1) (encC k)) fun σ12 => FL f σ12 v7 (nI (i + 1))) ∧ (GL (g + 1) μ = sp_bv (X12_stepOn n μ) fun σ7 => sp_bv (Q σ7) fun σ9 => sp_bv (X12_lay n σ9 (encM k)) fun σ11 => GL g σ11))
    (H3 : ∀ σ f i, FL (f + 1) σ 0 (nI i) = some (σ, 0)) (H4 : ∀ (μ : sp_St) g, μ.1 0 22 ≠ 0 → GL (g + 1) μ = some μ)
    (H5 : ∀ e b kd k, op e b kd = some k → kd ≠ 0 ∧ 10010 ≤ k ∧ k ≤ 10018 ∧ k ≠ 10016) : PP T N c a r σ0 μ0 (w + 1) (fun σ => sp_bd (P σ) fun σ2 v3 => FL n σ2 v3 (nI 0)) (fun μ => sp_bv (Q μ) fun μ2 => GL n μ2) := by
  intro σ μ e b kd v L hE
  show OUT T N c a r σ0 μ0 (w + 1) b L (sp_bd (P σ) fun σ2 v3 => FL n σ2 v3 (nI 0)) (sp_bv (Q μ) fun μ2 => GL n μ2)
  rcases hP σ μ e b kd v L hE with ⟨τ2, υ2, e2, b2, kd2, v2, D2, p1, p2, p3, p4, p5, p6⟩ | ⟨τ2, υ2, p1, p2, p3⟩
  · rw [p1, sp_bd_s, p2, sp_bv_s]
    have hle2 := es_le p3
    exact lp_op hn hP H1 H2 H3 H4 H5 b L (N - b2) n n 0 τ2 υ2 e2 b2 kd2 v2 D2 (Nat.le_refl _) (by omega) (by omega) (by omega) p3 p4 p5 (seg_mono p6 (by omega))
  · rw [p1, sp_bd_s, p2, sp_bv_s]
    obtain ⟨f, rfl⟩ : ∃ x, n = x + 1 := ⟨n - 1, by omega⟩
    exact Or.inr ⟨τ2, υ2, H3 τ2 f 0, H4 υ2 f p3.1, p3⟩
end
