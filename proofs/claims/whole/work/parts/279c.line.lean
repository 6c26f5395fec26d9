-- ===== lines: the city that is being told, both sides =====
/-- where the reference keeps what is being told -/
def hf (p : Nat) : Nat := if p ≤ 4 then 6 else if p ≤ 6 then 5 else if p ≤ 9 then 10 else 700
def cfL (c : Nat) (σ τ : sp_St) : Prop := (∀ p, p ≠ 21 → τ.2.1 p = σ.2.1 p) ∧ (∀ p k, ¬ (p = 20 ∨ p = 21 ∨ c ≤ p ∧ p ≤ c + 8) → τ.1 p k = σ.1 p k) ∧ ∀ p i, ¬ (c ≤ p ∧ p ≤ c + 8) → τ.2.2.1 p i = σ.2.2.1 p i
def mfL (μ υ : sp_St) : Prop := (∀ k, ¬ (16 ≤ k ∧ k ≤ 23 ∨ k = 25) → υ.1 0 k = μ.1 0 k) ∧ ∀ p i, ¬ (3 ≤ p ∧ p ≤ 11 ∧ hf p ≤ i) → υ.2.2.1 p i = μ.2.2.1 p i
theorem cfL_tr {c : Nat} {σ τ υ : sp_St} (h : cfL c σ τ) (g : cfL c τ υ) : cfL c σ υ := ⟨fun p hp => (g.1 p hp).trans (h.1 p hp), fun p k hk => (g.2.1 p k hk).trans (h.2.1 p k hk), fun p k hk => (g.2.2 p k hk).trans (h.2.2 p k hk)⟩
theorem mfL_tr {σ τ υ : sp_St} (h : mfL σ τ) (g : mfL τ υ) : mfL σ υ := ⟨fun k hk => (g.1 k hk).trans (h.1 k hk), fun p k hk => (g.2 p k hk).trans (h.2 p k hk)⟩
theorem cfL_T {c : Nat} {σ τ : sp_St} (h : cfT σ τ) : cfL c σ τ := ⟨fun p _ => by rw [h.1], fun p k hk => h.2 p k (by omega), fun p i _ => by rw [h.1]⟩
theorem mfL_T {σ τ : sp_St} (h : mfT σ τ) : mfL σ τ := ⟨fun k hk => h.2 k (by omega), fun p i _ => by rw [h.1]⟩
theorem cfL_E {c a : Nat} {σ τ : sp_St} (h : cfE c a σ τ) : cfL c σ τ := ⟨fun p _ => by rw [h.1], fun p k hk => h.2.1 p k (by omega), fun p i hp => h.2.2 p i (by omega)⟩
theorem mfL_E {r : Nat} {σ τ : sp_St} (hr : r ≤ 1) (h : mfE r σ τ) : mfL σ τ := ⟨fun k hk => h.2.1 k (by omega), fun p i hp => h.2.2 p i (by
  unfold hf at hp
  intro hh
  apply hp
  refine ⟨by omega, by omega, ?_⟩
  split <;> (try split) <;> (try split) <;> omega)⟩
theorem cfL_sa {c p i : Nat} {σ : sp_St} {v : Int32} (h : c ≤ p ∧ p ≤ c + 8) : cfL c σ (sp_sa σ p i v) := ⟨fun _ _ => rfl, fun _ _ _ => rfl, fun q j hq => by rw [sp_sa_np (by omega)]⟩
theorem cfL_si {c p i : Nat} {σ : sp_St} {v : Int32} (h : p = 20 ∨ p = 21 ∨ c ≤ p ∧ p ≤ c + 8) : cfL c σ (sp_si σ p i v) := ⟨fun _ _ => rfl, fun q j hq => by rw [sp_si_g, if_neg (by omega)], fun q j _ => rfl⟩
theorem mfL_sa {p i : Nat} {μ : sp_St} {v : Int32} (h : 3 ≤ p ∧ p ≤ 11 ∧ hf p ≤ i) : mfL μ (sp_sa μ p i v) := ⟨fun _ _ => rfl, fun q j hq => by
  rw [sp_sa_g, if_neg]
  rintro ⟨rfl, rfl⟩
  exact hq h⟩
theorem mfL_si {i : Nat} {μ : sp_St} {v : Int32} (h : 16 ≤ i ∧ i ≤ 23 ∨ i = 25) : mfL μ (sp_si μ 0 i v) := ⟨fun j hj => by rw [sp_si_g, if_neg (by omega)], fun q j _ => rfl⟩
/-- the class's side -/
def cLs (c : Nat) (σ0 σ : sp_St) (ct : Nat → Nat → Nat) (cd : List Nat × List Nat) (pt kk : Nat) : Prop := σ.2.1 21 1 = c ∧ sp_isc c = true ∧ qC σ c ct cd ∧ σ.1 c 15 = nI (ct 0 15) ∧ σ.1 c 17 = nI pt ∧ σ.1 c 8 = nI kk ∧ (∃ x, x ≤ kk ∧ σ.1 c 10 = nI x) ∧ (∃ x, x ≤ kk ∧ σ.1 c 12 = nI x) ∧ cfL c σ0 σ
/-- the reference's side -/
def mH (μ : sp_St) (ct : Nat → Nat → Nat) (cd : List Nat × List Nat) : Prop := μ.2.2.1 3 6 = nI (ct 0 15) ∧ μ.2.2.1 3 7 = nI (ct 0 14) ∧ μ.2.2.1 3 8 = nI (ct 0 13) ∧ μ.2.2.1 3 9 = nI (ct 0 16) ∧ μ.2.2.1 3 10 = nI cd.1.length ∧ μ.2.2.1 3 11 = nI cd.2.length ∧ (∀ b, b < ct 0 13 → μ.2.2.1 7 (10 + b) = nI (ct 1 b)) ∧ (∀ b, b < ct 0 13 → μ.2.2.1 8 (10 + b) = nI (ct 2 b)) ∧ (∀ b, b < ct 0 13 → μ.2.2.1 9 (10 + b) = nI (ct 3 b)) ∧ (∀ s, s < ct 0 14 → μ.2.2.1 5 (5 + s) = nI (ct 5 s)) ∧ (∀ s, s < ct 0 14 → μ.2.2.1 6 (5 + s) = nI (ct 6 s)) ∧ (∀ h, h < 6 → μ.2.2.1 4 (6 + h) = nI (ct 7 h)) ∧ (∀ k, k < cd.1.length → μ.2.2.1 10 (700 + k) = encM (cd.1.getD k 0)) ∧ (∀ k, k < cd.2.length → μ.2.2.1 11 (700 + k) = encM (cd.2.getD k 0))
def mLs (μ0 μ : sp_St) (ct : Nat → Nat → Nat) (cd : List Nat × List Nat) : Prop := μ.1 0 22 = 0 ∧ mH μ ct cd ∧ mfL μ0 μ
def gL (ct : Nat → Nat → Nat) (cd : List Nat × List Nat) : Prop := qK ct ∧ (∀ b, ct 3 b ≤ 99) ∧ (∀ s, ct 5 s ≤ 99) ∧ (∀ h, h < 6 → ct 7 h < 64) ∧ (∀ h o, h < 6 → o < 6 → (ct 7 h).testBit o = (ct 7 o).testBit h) ∧ (∀ h, h < 6 → (ct 7 h).testBit h = false) ∧ ct 0 16 ≤ 99 ∧ ct 0 15 ≤ 9 ∧ qcd cd
/-- both have the same fault -/
def BL (c : Nat) (σ0 μ0 σ μ : sp_St) : Prop := μ.1 0 22 ≠ 0 ∧ σ.1 21 2 = μ.1 0 22 ∧ σ.1 21 4 = μ.1 0 23 ∧ cfL c σ0 σ ∧ mfL μ0 μ
section
variable {T : Nat → Nat} {n N c e b kd v pt kk : Nat} {σ0 μ0 σ μ τ υ : sp_St} {ct : Nat → Nat → Nat} {cd : List Nat × List Nat}
theorem cL_T (h : cLs c σ0 σ ct cd pt kk) (g : cfT σ τ) : cLs c σ0 τ ct cd pt kk := by
  obtain ⟨h1, h2, h3, h4, h5, h6, h7, h8, h9⟩ := h
  have hc11 := isc_le h2
  have gp : ∀ k, τ.1 c k = σ.1 c k := fun k => g.2 c k (by omega)
  refine ⟨by rw [g.1]; exact h1, h2, ?_, by rw [gp]; exact h4, by rw [gp]; exact h5, by rw [gp]; exact h6, by rw [gp]; exact h7, by rw [gp]; exact h8, cfL_tr h9 (cfL_T g)⟩
  unfold qC qR at *
  simp only [gp, g.1]
  exact h3
theorem mL_T (h : mLs μ0 μ ct cd) (g : mfT μ υ) : mLs μ0 υ ct cd := by
  obtain ⟨h1, h2, h3⟩ := h
  refine ⟨by rw [g.2 22 (by omega)]; exact h1, ?_, mfL_tr h3 (mfL_T g)⟩
  unfold mH at *
  simp only [g.1]
  exact h2
/-- a cell of the class's rows that nothing is said of yet -/
theorem cL_sa {p i : Nat} {x : Int32} (h : cLs c σ0 σ ct cd pt kk) (hp : (p = c + 1 ∨ p = c + 2 ∨ p = c + 3) ∧ ct 0 13 ≤ i ∨ (p = c + 5 ∨ p = c + 6) ∧ ct 0 14 ≤ i) : cLs c σ0 (sp_sa σ p i x) ct cd pt kk := by
  obtain ⟨h1, h2, ⟨a1, a2, a3, a4, a5, a6, a7, a8, a9, a10, a11, a12⟩, h4, h5, h6, h7, h8, h9⟩ := h
  refine ⟨h1, h2, ⟨a1, a2, a3, fun k hk => ?_, fun k hk => ?_, fun k hk => ?_, fun k hk => ?_, fun k hk => ?_, fun k hk => ?_, fun k hk => ?_, ?_, ?_⟩, h4, h5, h6, h7, h8, cfL_tr h9 (cfL_sa (by omega))⟩
  · rw [sp_sa_g, if_neg (by omega)]; exact a4 k hk
  · rw [sp_sa_g, if_neg (by omega)]; exact a5 k hk
  · rw [sp_sa_g, if_neg (by omega)]; exact a6 k hk
  · rw [sp_sa_g, if_neg (by omega)]; exact a7 k hk
  · rw [sp_sa_g, if_neg (by omega)]; exact a8 k hk
  · rw [sp_sa_g, if_neg (by omega)]; exact a9 k hk
  · rw [sp_sa_g, if_neg (by omega)]; exact a10 k hk
  · obtain ⟨y, y1, y2, y3, y4⟩ := a11
    exact ⟨y, y1, y2, y3, fun k hk => by rw [sp_sa_g, if_neg (by omega)]; exact y4 k hk⟩
  · obtain ⟨y, y1, y2, y3, y4⟩ := a12
    exact ⟨y, y1, y2, y3, fun k hk => by rw [sp_sa_g, if_neg (by omega)]; exact y4 k hk⟩
theorem mL_sa {p i : Nat} {x : Int32} (h : mLs μ0 μ ct cd) (hp : (p = 7 ∨ p = 8 ∨ p = 9) ∧ 10 + ct 0 13 ≤ i ∨ (p = 5 ∨ p = 6) ∧ 5 + ct 0 14 ≤ i) : mLs μ0 (sp_sa μ p i x) ct cd := by
  obtain ⟨h1, ⟨a1, a2, a3, a4, a5, a6, a7, a8, a9, a10, a11, a12, a13, a14⟩, h3⟩ := h
  refine ⟨h1, ⟨?_, ?_, ?_, ?_, ?_, ?_, fun k hk => ?_, fun k hk => ?_, fun k hk => ?_, fun k hk => ?_, fun k hk => ?_, fun k hk => ?_, fun k hk => ?_, fun k hk => ?_⟩, mfL_tr h3 (mfL_sa ⟨by omega, by omega, ?_⟩)⟩
  · rw [sp_sa_g, if_neg (by omega)]; exact a1
  · rw [sp_sa_g, if_neg (by omega)]; exact a2
  · rw [sp_sa_g, if_neg (by omega)]; exact a3
  · rw [sp_sa_g, if_neg (by omega)]; exact a4
  · rw [sp_sa_g, if_neg (by omega)]; exact a5
  · rw [sp_sa_g, if_neg (by omega)]; exact a6
  · rw [sp_sa_g, if_neg (by omega)]; exact a7 k hk
  · rw [sp_sa_g, if_neg (by omega)]; exact a8 k hk
  · rw [sp_sa_g, if_neg (by omega)]; exact a9 k hk
  · rw [sp_sa_g, if_neg (by omega)]; exact a10 k hk
  · rw [sp_sa_g, if_neg (by omega)]; exact a11 k hk
  · rw [sp_sa_g, if_neg (by omega)]; exact a12 k hk
  · rw [sp_sa_g, if_neg (by omega)]; exact a13 k hk
  · rw [sp_sa_g, if_neg (by omega)]; exact a14 k hk
  · unfold hf; split <;> (try split) <;> (try split) <;> omega
theorem bl_fl (hT : TK T N σ μ e b kd v) (hC : cfL c σ0 σ) (hM : mfL μ0 μ) {f : Nat} (h0 : f ≠ 0) (h1 : f < 10) : BL c σ0 μ0 (cFl σ f) (mFl μ f) := by
  refine ⟨mFl_bad h0 h1, ?_, ?_, cfL_tr hC (cfL_tr (cfL_si (i := 2) (v := nI f) (by omega)) (cfL_si (by omega))), mfL_tr hM (mfL_tr (mfL_si (i := 22) (v := nI f) (by omega)) (mfL_si (by omega)))⟩
  · unfold cFl mFl
    rw [sp_si_ne (by omega), sp_si_eq, sp_si_ne (by omega), sp_si_eq]
  · unfold cFl mFl
    rw [sp_si_eq, sp_si_eq, hT.2.2.1, hT.2.2.2.1]
theorem bl_sa {p i : Nat} {x : Int32} (h : BL c σ0 μ0 σ μ) (hp : 3 ≤ p ∧ p ≤ 11 ∧ hf p ≤ i) : BL c σ0 μ0 σ (sp_sa μ p i x) := ⟨h.1, h.2.1, h.2.2.1, h.2.2.2.1, mfL_tr h.2.2.2.2 (mfL_sa hp)⟩
theorem rq_nnB (h0 : μ.1 0 22 ≠ 0) {x y : Int32} : X12_numberNow n μ x y = some (μ, 0) := by rw [X12_numberNow, if_neg h0]
theorem rq_rnB (h0 : μ.1 0 22 ≠ 0) {x y : Int32} : X12_readNumber n μ x y = some (μ, 0) := by
  rw [X12_readNumber, rq_nnB h0, sp_bd_s, if_neg h0]; rfl
/-- one number: it may stand there, or there is a fault -/
theorem nu_step (hT : TK T N σ μ e b kd v) (h0 : μ.1 0 22 = 0) {lo hi : Nat} (hl : lo < 1000) (hh : hi ≤ 9999) : (kd = 2 ∧ lo ≤ v ∧ v ≤ hi ∧ X7_isNumber n σ (nI lo) (nI hi) = some (σ, 1) ∧ X12_numberNow n μ (nI lo) (nI hi) = some (μ, nI v) ∧ (X12_readNumber n μ (nI lo) (nI hi) = sp_bv (X12_stepOn n μ) fun υ => some (υ, nI v)) ∧ σ.1 20 5 = nI v) ∨ ∃ f, f ≠ 0 ∧ f < 10 ∧ X7_isNumber n σ (nI lo) (nI hi) = some (cFl σ f, 0) ∧ X12_numberNow n μ (nI lo) (nI hi) = some (mFl μ f, 0) ∧ X12_readNumber n μ (nI lo) (nI hi) = some (mFl μ f, 0) := by
  by_cases h : kd = 2 ∧ lo ≤ v ∧ v ≤ hi
  · obtain ⟨z1, z2, z3⟩ := nu_ok (n := n) hT h0 hh h.1 h.2.1 h.2.2
    exact Or.inl ⟨h.1, h.2.1, h.2.2, z1, z2, by rw [X12_readNumber, z2, sp_bd_s, if_pos h0]; rfl, z3⟩
  · obtain ⟨f, f1, f2, f3, f4⟩ := nu_no (n := n) hT h0 hl hh h
    exact Or.inr ⟨f, f1, f2, f3, f4, by rw [X12_readNumber, f4, sp_bd_s, if_neg (mFl_bad f1 f2)]; rfl⟩
/-- one more: there is still room for it -/
theorem rq_anOk {k m : Nat} (h0 : μ.1 0 22 = 0) (hk : k < 6) (hm : m < 100) {x : Nat} (hx : μ.2.2.1 3 (6 + k) = nI x) (hx2 : x < 100) (h : x ≠ m) : X12_another n μ (nI k) (nI m) = sp_bv (X12_stepOn n μ) fun υ => some (υ, 1) := by
  rw [X12_another, show (6 : Int32) + nI k = nI (6 + k) from nI_add 6 k, qn_in (by omega) (by omega), sp_ckt, qn_g (by omega), hx, if_neg (by rw [qn_eq (by omega) (by omega)]; exact h), X12_another_18, if_pos h0]
theorem rq_anNo {k m : Nat} (h0 : μ.1 0 22 = 0) (hk : k < 6) (hm : m < 100) (hx : μ.2.2.1 3 (6 + k) = nI m) : X12_another n μ (nI k) (nI m) = some (mFl μ 2, 0) := by
  rw [X12_another, show (6 : Int32) + nI k = nI (6 + k) from nI_add 6 k, qn_in (by omega) (by omega), sp_ckt, qn_g (by omega), hx, if_pos rfl, show X12_amiss n μ 2 = some (mFl μ 2) from rq_amiss 2 h0, sp_bv_s, X12_another_18, if_neg (mFl_bad (by omega) (by omega))]
end
