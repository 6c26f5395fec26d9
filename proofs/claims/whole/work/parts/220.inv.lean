-- ===== WHAT HOLDS BETWEEN THE CALLS =====
/-- a scene as it may be -/
def qI (ct : Nat → Nat → Nat) (sc : Nat → Nat) : Prop := (∀ b, b < ct 0 13 → sc b ≤ 99) ∧ (∀ b, b < ct 0 13 → sc (10 + b) ≤ ct 0 14 ∨ sc (10 + b) = 6) ∧ (∀ b, b < ct 0 13 → sc (20 + b) ≤ sc 49) ∧ (∀ s, s < ct 0 14 → qus ct sc s ≤ sc (30 + s)) ∧ (∀ s, s < ct 0 14 → sc (30 + s) ≤ 99) ∧ (∀ h, h < 6 → sc (35 + h) < 64) ∧ (∀ h o, h < 6 → o < 6 → (sc (35 + h)).testBit o = (sc (35 + o)).testBit h) ∧ (∀ h, h < 6 → (sc (35 + h)).testBit h = false) ∧ (∀ h, h < 6 → sc (41 + h) = bs (fun b => (sc (35 + h)).testBit (ct 1 b)) (ct 0 13)) ∧ sc 48 ≤ 10 * sc 47
theorem qI_P {ct : Nat → Nat → Nat} {sc : Nat → Nat} (h5 : ct 0 14 ≤ 5) (h : qI ct sc) : qP ct sc := ⟨fun b hb => by have := h.2.1 b hb; omega, h.2.2.2.2.2.2.2.2.1⟩
def sG (ct : Nat → Nat → Nat) (sc : Nat → Nat) (stk : Nat → List Nat) (j : Nat) : Prop := qI ct sc ∧ qStk ct sc stk ∧ (∀ k, sc k < 1048576) ∧ sc 47 ≤ 999 ∧ sc 49 ≤ j
def cHs (σ : sp_St) (t : Nat) (past : Nat → Int32) (ct : Nat → Nat → Nat) (j m nr : Nat) (hs : Nat → Nat → Nat) (ht : Nat → Nat → List Nat) : Prop := nr < 40 ∧ m ≤ 40 ∧ σ.1 t 4 = nI nr ∧ σ.1 t 5 = nI m ∧ ∀ i, i < m → (∀ k, k < 50 → σ.2.2.1 (t + 13) (50 * ((nr + 40 - m + i) % 40) + k) = nI (hs i k)) ∧ mRow (fun x => past (88 * i + x)) ct (hs i) (ht i) ∧ sG ct (hs i) (ht i) j
def cSe (σ : sp_St) (t : Nat) (rb rd ra : Nat → Int32) (ct : Nat → Nat → Nat) (s : Nat) (sb sd sa : Nat → Nat) : Prop := s ≤ 8 ∧ σ.1 (t + 8) 3 = nI s ∧ ∀ i, i < s → σ.2.2.1 (t + 9) i = nI (sb i) ∧ σ.2.2.1 (t + 10) i = nI (sd i) ∧ σ.2.2.1 (t + 11) i = nI (sa i) ∧ rb i = nI (sb i) ∧ rd i = nI (sd i) ∧ ra i = nI (sa i) ∧ sb i < ct 0 13 ∧ sd i ≤ 30 ∧ sa i ≤ 99
def Chr (σ : sp_St) (t c : Nat) (ct : Nat → Nat → Nat) (cd : List Nat × List Nat) (j : Nat) (row past rb rd ra rs : Nat → Int32) (acts seen : Int32) : Prop := ∃ (sc : Nat → Nat) (stk : Nat → List Nat) (m nr : Nat) (hs : Nat → Nat → Nat) (ht : Nat → Nat → List Nat) (s : Nat) (sb sd sa : Nat → Nat), qSC σ (t + 1) c ct cd sc ∧ mRow row ct sc stk ∧ sG ct sc stk j ∧ cHs σ t past ct j m nr hs ht ∧ acts = nI m ∧ cSe σ t rb rd ra ct s sb sd sa ∧ seen = nI s ∧ ∀ k, k < 3 → σ.2.2.1 (t + 12) k = rs k
def cTp (σ μ : sp_St) : Prop := ∃ tp, tp ≤ 700 ∧ σ.1 0 1 = nI tp ∧ μ.1 0 15 = nI tp ∧ (∀ i, i < tp → σ.2.2.1 1 i = μ.2.2.1 13 i ∧ ∃ b, b < 256 ∧ σ.2.2.1 1 i = nI b) ∧ σ.2.2.1 67 0 = 0
def Inv (j : Nat) (σ μ : sp_St) : Prop := ∃ (c d : Nat) (ct : Nat → Nat → Nat) (cd : List Nat × List Nat), (c = 2 ∧ d = 11 ∨ c = 11 ∧ d = 2) ∧ σ.2.1 0 3 = c ∧ σ.2.1 0 4 = d ∧ qcd cd ∧ mC μ ct cd ∧ Chr σ 22 c ct cd j (rowOf μ) (μ.2.2.1 20) (μ.2.2.1 29) (μ.2.2.1 30) (μ.2.2.1 31) (μ.2.2.1 12) (μ.1 0 35) (μ.1 0 36) ∧ σ.1 0 8 = μ.1 0 55 ∧ (μ.1 0 55 = 0 ∨ μ.1 0 55 = 1 ∧ Chr σ 36 c ct cd j (μ.2.2.1 37) (μ.2.2.1 38) (μ.2.2.1 39) (μ.2.2.1 40) (μ.2.2.1 41) (μ.2.2.1 42) (μ.1 0 56) (μ.1 0 57)) ∧ cTp σ μ ∧ σ.1 0 2 = μ.1 0 24
/-- the class's places that no question changes -/
def cK (p : Nat) : Prop := p ≤ 19 ∨ 22 ≤ p ∧ p ≤ 24 ∨ 30 ≤ p ∧ p ≤ 38 ∨ 44 ≤ p ∧ p ≤ 49
def cq0 (σ τ : sp_St) : Prop := ∀ p, cK p → τ.1 p = σ.1 p ∧ τ.2.1 p = σ.2.1 p ∧ τ.2.2.1 p = σ.2.2.1 p
def cq (σ τ : sp_St) : Prop := ∀ p, cK p ∨ p = 67 → τ.1 p = σ.1 p ∧ τ.2.1 p = σ.2.1 p ∧ τ.2.2.1 p = σ.2.2.1 p
theorem cq_refl (σ : sp_St) : cq σ σ := fun _ _ => ⟨rfl, rfl, rfl⟩
theorem cq_trans {σ τ υ : sp_St} (h : cq σ τ) (g : cq τ υ) : cq σ υ := fun p hp => ⟨(g p hp).1.trans (h p hp).1, (g p hp).2.1.trans (h p hp).2.1, (g p hp).2.2.trans (h p hp).2.2⟩
theorem cq_fp {σ τ : sp_St} {a b : Nat} (h : qfp a b σ τ) (g : ∀ p, cK p → p < a ∨ b < p) (hb : b < 67 := by omega) : cq σ τ := fun p hp => by
  have gp : p < a ∨ b < p := hp.elim (g p) (fun e => by omega)
  exact ⟨(h.2.2 p gp).1, by rw [h.1], (h.2.2 p gp).2⟩
def mq (μ ν : sp_St) : Prop := (∀ p, p < 21 ∨ 29 ≤ p ∧ p ≤ 31 ∨ 37 ≤ p ∧ p ≤ 42 → ν.2.2.1 p = μ.2.2.1 p) ∧ ∀ k, k = 15 ∨ k = 24 ∨ 33 ≤ k ∧ k ≤ 36 ∨ 55 ≤ k ∧ k ≤ 57 → ν.1 0 k = μ.1 0 k
theorem mq_refl (μ : sp_St) : mq μ μ := ⟨fun _ _ => rfl, fun _ _ => rfl⟩
theorem mq_trans {μ ν ξ : sp_St} (h : mq μ ν) (g : mq ν ξ) : mq μ ξ := ⟨fun p hp => (g.1 p hp).trans (h.1 p hp), fun k hk => (g.2 k hk).trans (h.2 k hk)⟩
theorem mq_si {μ : sp_St} {k : Nat} {v : Int32} (h : ¬ (k = 15 ∨ k = 24 ∨ 33 ≤ k ∧ k ≤ 36 ∨ 55 ≤ k ∧ k ≤ 57)) : mq μ (sp_si μ 0 k v) := ⟨fun _ _ => rfl, fun k' hk => by
  show (if 0 = 0 ∧ k' = k then v else μ.1 0 k') = _
  rw [if_neg (by rintro ⟨_, rfl⟩; exact h hk)]⟩
theorem mq_sa {μ : sp_St} {p i : Nat} {v : Int32} (h : ¬ (p < 21 ∨ 29 ≤ p ∧ p ≤ 31 ∨ 37 ≤ p ∧ p ≤ 42)) : mq μ (sp_sa μ p i v) := ⟨fun q hq => by
  funext j
  rw [sp_sa_np (by rintro rfl; exact h hq)], fun _ _ => rfl⟩
theorem mq_fs {μ ν : sp_St} (h : mfs μ ν) : mq μ ν := ⟨fun p hp => h.2.1 p (by omega), fun k _ => by rw [h.2.2]⟩
theorem rowOf_q {μ ν : sp_St} (h : mq μ ν) : rowOf ν = rowOf μ := by
  funext j
  unfold rowOf
  rw [h.2 33 (by omega), h.2 34 (by omega), h.1 14 (by omega), h.1 15 (by omega), h.1 16 (by omega), h.1 17 (by omega), h.1 18 (by omega), h.1 19 (by omega)]
theorem mC_q {μ ν : sp_St} {ct : Nat → Nat → Nat} {cd : List Nat × List Nat} (h : mq μ ν) (g : mC μ ct cd) : mC ν ct cd := by
  unfold mC at *
  rw [h.1 3 (by omega), h.1 7 (by omega), h.1 8 (by omega), h.1 6 (by omega), h.1 10 (by omega), h.1 11 (by omega)]
  exact g
theorem qSC_q {σ τ : sp_St} {t c : Nat} {ct : Nat → Nat → Nat} {cd : List Nat × List Nat} {sc : Nat → Nat} (hc : ∀ p, p ≤ 19 → τ.1 p = σ.1 p ∧ τ.2.2.1 p = σ.2.2.1 p) (ht : τ.2.1 t 0 = σ.2.1 t 0) (hr : τ.2.2.1 (t + 1) = σ.2.2.1 (t + 1)) (h : qSC σ t c ct cd sc) : qSC τ t c ct cd sc := by
  obtain ⟨h1, h2, h3, h4, h5, h6⟩ := h
  have hc11 := isc_le h3
  refine ⟨h1, by rw [ht]; exact h2, h3, ?_, by rw [hr]; exact h5, h6⟩
  unfold qC qR at *
  rw [(hc c (by omega)).1, (hc (c + 1) (by omega)).2, (hc (c + 2) (by omega)).2, (hc (c + 3) (by omega)).2, (hc (c + 4) (by omega)).2, (hc (c + 5) (by omega)).2, (hc (c + 6) (by omega)).2, (hc (c + 7) (by omega)).2, (hc (c + 8) (by omega)).2]
  exact h4
theorem Chr_q {σ τ : sp_St} {t c j : Nat} {ct : Nat → Nat → Nat} {cd : List Nat × List Nat} {row past rb rd ra rs : Nat → Int32} {acts seen : Int32} (ht : t = 22 ∨ t = 36) (g : cq0 σ τ) (h : Chr σ t c ct cd j row past rb rd ra rs acts seen) : Chr τ t c ct cd j row past rb rd ra rs acts seen := by
  obtain ⟨sc, stk, m, nr, hs, ht', s, sb, sd, sa, h1, h2, h3, h4, h5, h6, h7, h8⟩ := h
  have gp : ∀ p, cK p → τ.1 p = σ.1 p ∧ τ.2.1 p = σ.2.1 p ∧ τ.2.2.1 p = σ.2.2.1 p := g
  have k0 := gp t (by unfold cK; omega)
  have k1 := gp (t + 1) (by unfold cK; omega)
  have k2 := gp (t + 1 + 1) (by unfold cK; omega)
  have k8 := gp (t + 8) (by unfold cK; omega)
  have k9 := gp (t + 9) (by unfold cK; omega)
  have k10 := gp (t + 10) (by unfold cK; omega)
  have k11 := gp (t + 11) (by unfold cK; omega)
  have k12 := gp (t + 12) (by unfold cK; omega)
  have k13 := gp (t + 13) (by unfold cK; omega)
  refine ⟨sc, stk, m, nr, hs, ht', s, sb, sd, sa, qSC_q (fun p hp => ⟨(gp p (by unfold cK; omega)).1, (gp p (by unfold cK; omega)).2.2⟩) (by rw [k1.2.1]) k2.2.2 h1, h2, h3, ?_, h5, ?_, h7, ?_⟩
  · unfold cHs at *
    rw [k0.1, k13.2.2]
    exact h4
  · unfold cSe at *
    rw [k8.1, k9.2.2, k10.2.2, k11.2.2]
    exact h6
  · rw [k12.2.2]
    exact h8
theorem Inv_q0 {j : Nat} {σ τ μ ν : sp_St} (h : Inv j σ μ) (g : cq0 σ τ) (e67 : τ.2.2.1 67 0 = σ.2.2.1 67 0) (k : mq μ ν) : Inv j τ ν := by
  obtain ⟨c, d, ct, cd, h1, h2, h3, h4, h5, h6, h7, h8, h9, h10⟩ := h
  have k0 := g 0 (by unfold cK; omega)
  have k1 := g 1 (by unfold cK; omega)
  refine ⟨c, d, ct, cd, h1, by rw [k0.2.1]; exact h2, by rw [k0.2.1]; exact h3, h4, mC_q k h5, ?_, ?_, ?_, ?_, ?_⟩
  · rw [rowOf_q k, k.1 20 (by omega), k.1 29 (by omega), k.1 30 (by omega), k.1 31 (by omega), k.1 12 (by omega), k.2 35 (by omega), k.2 36 (by omega)]
    exact Chr_q (by omega) g h6
  · rw [k0.1, k.2 55 (by omega)]; exact h7
  · rw [k.2 55 (by omega), k.1 37 (by omega), k.1 38 (by omega), k.1 39 (by omega), k.1 40 (by omega), k.1 41 (by omega), k.1 42 (by omega), k.2 56 (by omega), k.2 57 (by omega)]
    rcases h8 with h8 | ⟨h8, h8'⟩
    · exact Or.inl h8
    · exact Or.inr ⟨h8, Chr_q (by omega) g h8'⟩
  · unfold cTp at *
    rw [k0.1, k1.2.2, e67, k.2 15 (by omega), k.1 13 (by omega)]
    exact h9
  · rw [k0.1, k.2 24 (by omega)]; exact h10
theorem Inv_q {j : Nat} {σ τ μ ν : sp_St} (h : Inv j σ μ) (g : cq σ τ) (k : mq μ ν) : Inv j τ ν := Inv_q0 h (fun p hp => g p (Or.inl hp)) (by rw [(g 67 (Or.inr rfl)).2.2]) k
theorem sG_mono {ct : Nat → Nat → Nat} {sc : Nat → Nat} {stk : Nat → List Nat} {i j : Nat} (hij : i ≤ j) (h : sG ct sc stk i) : sG ct sc stk j := ⟨h.1, h.2.1, h.2.2.1, h.2.2.2.1, Nat.le_trans h.2.2.2.2 hij⟩
theorem Chr_mono {σ : sp_St} {t c i j : Nat} {ct : Nat → Nat → Nat} {cd : List Nat × List Nat} {row past rb rd ra rs : Nat → Int32} {acts seen : Int32} (hij : i ≤ j) (h : Chr σ t c ct cd i row past rb rd ra rs acts seen) : Chr σ t c ct cd j row past rb rd ra rs acts seen := by
  obtain ⟨sc, stk, m, nr, hs, ht', s, sb, sd, sa, h1, h2, h3, h4, h5⟩ := h
  exact ⟨sc, stk, m, nr, hs, ht', s, sb, sd, sa, h1, h2, sG_mono hij h3, ⟨h4.1, h4.2.1, h4.2.2.1, h4.2.2.2.1, fun i hi => ⟨(h4.2.2.2.2 i hi).1, (h4.2.2.2.2 i hi).2.1, sG_mono hij (h4.2.2.2.2 i hi).2.2⟩⟩, h5⟩
theorem Inv_mono {i j : Nat} {σ μ : sp_St} (hij : i ≤ j) (h : Inv i σ μ) : Inv j σ μ := by
  obtain ⟨c, d, ct, cd, h1, h2, h3, h4, h5, h6, h7, h8, h9⟩ := h
  refine ⟨c, d, ct, cd, h1, h2, h3, h4, h5, Chr_mono hij h6, h7, ?_, h9⟩
  rcases h8 with h8 | ⟨h8, h8'⟩
  · exact Or.inl h8
  · exact Or.inr ⟨h8, Chr_mono hij h8'⟩
theorem stk_10 {ct : Nat → Nat → Nat} {sc : Nat → Nat} {stk : Nat → List Nat} (hb10 : ct 0 13 ≤ 10) (hQ : qStk ct sc stk) : ∀ s, s < ct 0 14 → (stk s).length ≤ 10 := fun s hs => Nat.le_trans (stk_le hQ hs) hb10
theorem mSC_of {μ : sp_St} {ct : Nat → Nat → Nat} {cd : List Nat × List Nat} {sc : Nat → Nat} {stk : Nat → List Nat} {j : Nat} (hK : qK ct) (hC : mC μ ct cd) (hR : mRow (rowOf μ) ct sc stk) (hG : sG ct sc stk j) : mSC μ ct cd sc stk := ⟨hC, (mRow_of hK.1 hK.2.1 (stk_10 hK.1 hG.2.1)).mpr hR, hG.2.1, hK, hG.2.2.1, hG.1.2.1⟩
-- ===== a call's answer on both sides =====
/-- both answer the same, or throw alike (kd: what the law calls the class's throw) -/
def agr (j : Nat) (kd : Nat → Option Int32) (x : Option (sp_St × (Int32 ⊕ Nat))) (y : Option (sp_St × Int32)) : Prop := ∃ τ υ r w, x = some (τ, r) ∧ y = some (υ, w) ∧ Inv j τ υ ∧ match r with
  | Sum.inl v => w = v ∧ υ.1 0 3 = 0
  | Sum.inr k => ∃ e, kd k = some e ∧ υ.1 0 3 = e ∧ e ≠ 0
def agi (j : Nat) (x : Option (sp_St × Int32)) (y : Option (sp_St × Int32)) : Prop := ∃ τ υ r, x = some (τ, r) ∧ y = some (υ, r) ∧ Inv j τ υ
def agv (j : Nat) (x : Option sp_St) (y : Option sp_St) : Prop := ∃ τ υ, x = some τ ∧ y = some υ ∧ Inv j τ υ
