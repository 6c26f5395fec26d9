-- ===== the reference's most anger =====
theorem subm : ∀ n S U V, S < 2 ^ n → Sb U S → Sb V S → V < U → V ≤ (U - 1) &&& S := by
  intro n
  induction n with
  | zero =>
    intro S U V hS hU _ h
    have : S = 0 := by omega
    subst this
    have := Sb_z hU
    omega
  | succ n ih =>
    intro S U V hS hU hV h
    have d2 : ∀ {T : Nat}, Sb T S → Sb (T / 2) (S / 2) := fun {T} hT k hk => by
      rw [Nat.testBit_div_two] at hk ⊢
      exact hT _ hk
    have m2 : ∀ {T : Nat}, Sb T S → T % 2 ≤ S % 2 := fun {T} hT => by
      have := hT 0
      rw [Nat.testBit_zero, Nat.testBit_zero] at this
      simp at this
      omega
    have k1 : ((U - 1) &&& S) / 2 = (U - 1) / 2 &&& S / 2 := Nat.and_div_two
    have k2 : ((U - 1) &&& S) % 2 = 1 ↔ (U - 1) % 2 = 1 ∧ S % 2 = 1 := Nat.and_mod_two_eq_one
    have u2 := m2 hU
    have v2 := m2 hV
    by_cases b : U % 2 = 1
    · have e : U / 2 &&& S / 2 = U / 2 := by
        apply Nat.eq_of_testBit_eq
        intro k
        rw [Nat.testBit_and]
        cases q : (U / 2).testBit k with
        | false => rfl
        | true => rw [d2 hU k q]; rfl
      rw [show (U - 1) / 2 = U / 2 by omega, e] at k1
      omega
    · have := ih (S / 2) (U / 2) (V / 2) (by omega) (d2 hU) (d2 hV) (by omega)
      rw [show (U - 1) / 2 = U / 2 - 1 by omega] at k1
      rw [← k1] at this
      by_cases s : S % 2 = 1
      · have := k2.mpr ⟨by omega, s⟩; omega
      · omega
theorem isM_ex {w A : Nat → Nat} {N : Nat} {R : List Nat} {r S z : Nat} {g : Nat → Nat} (h : isM w A N (r :: R) S z) (hg : ∀ T, Sb T S → isM w A N R (qd S T) (g (qd S T))) : ∃ T, Sb T S ∧ sW w N T ≤ r ∧ sW A N T + g (qd S T) = z := by
  obtain ⟨⟨P, p1, ⟨T, t1, t2, t3⟩, p3⟩, h2⟩ := h
  have s1 := Sb_trans t1 p1
  obtain ⟨⟨Q, q1, q2, q3⟩, g2⟩ := hg T s1
  have a1 := g2 (qd P T) (fun k hk => by
    rw [qd_t] at hk ⊢
    simp at hk ⊢
    exact ⟨p1 k hk.1, hk.2⟩) t3
  have dis : ∀ k, Q.testBit k = true → T.testBit k = false := fun k hk => by have := q1 k hk; rw [qd_t] at this; simp at this; exact this.2
  have e1 : qd (T ||| Q) T = Q := by
    apply Nat.eq_of_testBit_eq
    intro k
    rw [qd_t, Nat.testBit_or]
    cases q : Q.testBit k with
    | false => cases T.testBit k <;> rfl
    | true => rw [dis k q]; rfl
  have s2 : Sb T (T ||| Q) := fun k hk => by rw [Nat.testBit_or, hk]; rfl
  have a2 := h2 (T ||| Q) (fun k hk => by
    rw [Nat.testBit_or] at hk
    simp at hk
    rcases hk with hk | hk
    · exact s1 k hk
    · exact Sb_qd k (q1 k hk)) ⟨T, s2, t2, by rw [e1]; exact q2⟩
  rw [sW_sp s2, e1] at a2
  rw [sW_sp t1] at p3
  exact ⟨T, s1, t2, by omega⟩
def m27 (μ ν : sp_St) : Prop := ν.1 = μ.1 ∧ ν.2.1 = μ.2.1 ∧ ∀ p, p ≠ 27 → ν.2.2.1 p = μ.2.2.1 p
theorem m27_refl (μ : sp_St) : m27 μ μ := ⟨rfl, rfl, fun _ _ => rfl⟩
theorem m27_sa {μ ν : sp_St} {i : Nat} {v : Int32} (h : m27 μ ν) : m27 μ (sp_sa ν 27 i v) := ⟨h.1, h.2.1, fun p hp => by
  rw [← h.2.2 p hp]
  funext j
  rw [sp_sa_np hp]⟩
section
variable {n j c : Nat} {σ μ : sp_St} {ct : Nat → Nat → Nat} {cd : List Nat × List Nat} {sc : Nat → Nat} {stk : Nat → List Nat}
theorem mSC_27 {ν : sp_St} (h : mSC μ ct cd sc stk) (g : m27 μ ν) : mSC ν ct cd sc stk := mSC_eq h (fun p hp => g.2.2 p (by omega)) (by rw [g.1]) (by rw [g.1])
theorem ix10 {s t : Nat} (hs : s < 40) (ht : t < 1024) : (nI s <<< ((10 : Int32) &&& 31)) + nI t = nI (s * 1024 + t) := by
  rw [show nI s <<< ((10 : Int32) &&& 31) = nI (s * 1024) from qn_shl (i := 10) (by omega) (by omega), nI_add]
def tR (ν : sp_St) (w A : Nat → Nat) (N : Nat) (R : List Nat) (O base k : Nat) : Prop := ∀ T, T < k → Sb T O → ∃ v, v ≤ 990 ∧ ν.2.2.1 27 (base + T) = nI v ∧ isM w A N R T v
theorem tR_g {ν : sp_St} {w A : Nat → Nat} {N : Nat} {R : List Nat} {O base k T : Nat} (h : tR ν w A N R O base k) (hT : T < k) (hO : Sb T O) : ν.2.2.1 27 (base + T) = nI (ν.2.2.1 27 (base + T)).toNatClampNeg ∧ (ν.2.2.1 27 (base + T)).toNatClampNeg ≤ 990 ∧ isM w A N R T (ν.2.2.1 27 (base + T)).toNatClampNeg := by
  obtain ⟨x, x1, x2, x3⟩ := h T hT hO
  rw [x2, nI_clamp (by omega)]
  exact ⟨rfl, x1, x3⟩
theorem sW_990 {A : Nat → Nat} {N S : Nat} (hA : ∀ b, b < N → A b ≤ 99) (hN : N ≤ 10) : sW A N S ≤ 990 := by
  have : sW A N S ≤ N * 99 := qs_le (fun k hk => by
    have := hA k hk
    split <;> omega)
  omega
theorem rq_subs (h : mSC μ ct cd sc stk) (hn : 100 ≤ n) (hA : ∀ b, b < ct 0 13 → sc b ≤ 99) {k41 : sp_St → Int32 → Int32 → Option sp_St} {k54 : sp_St → Int32 → Int32 → Int32 → Int32 → Option sp_St} {z1 : Int32} {s l T : Nat} (hs : s < 5) (hl : l ≤ 99) (hT : T < 1024) {g : Nat → Nat} (hg : ∀ U, Sb U T → μ.2.2.1 27 ((s + 1) * 1024 + qd T U) = nI (g (qd T U)) ∧ g (qd T U) ≤ 990) : ∀ f U v, U < f → Sb U T → v ≤ 10000 → g T ≤ v → (∃ V, Sb V T ∧ sW (ct 2) (ct 0 13) V ≤ l ∧ sW sc (ct 0 13) V + g (qd T V) = v) → (∀ V, Sb V T → U < V → sW (ct 2) (ct 0 13) V ≤ l → sW sc (ct 0 13) V + g (qd T V) ≤ v) → ∃ v', X12_tellMost_92 n k41 k54 f μ z1 (nI s) (nI l) (nI T) (nI v) (nI U) = X12_tellMost_152 n k41 k54 μ z1 (nI s) (nI l) (nI T) (nI v') ∧ (∃ V, Sb V T ∧ sW (ct 2) (ct 0 13) V ≤ l ∧ sW sc (ct 0 13) V + g (qd T V) = v') ∧ ∀ V, Sb V T → sW (ct 2) (ct 0 13) V ≤ l → sW sc (ct 0 13) V + g (qd T V) ≤ v' := by
  have hb10 := h.2.2.2.1.1
  intro f
  induction f with
  | zero => intro U v hf; omega
  | succ f ih =>
    intro U v hf hU hv h0 h1 h2
    rw [X12_tellMost_92]
    have lU : U < 1024 := Nat.lt_of_le_of_lt (Sb_le hU) hT
    by_cases e : U = 0
    · subst e
      refine ⟨v, by rw [if_pos (show nI 0 ≤ 0 by decide)], h1, fun V hV hw => ?_⟩
      by_cases e : V = 0
      · subst e; rw [sW_0, qd_z]; omega
      · exact h2 V hV (by omega) hw
    · have e140 : ∀ (z : Int32), X12_tellMost_140 n k41 k54 (X12_tellMost_92 n k41 k54 f) μ z1 (nI s) (nI l) (nI T) z (nI U) = X12_tellMost_92 n k41 k54 f μ z1 (nI s) (nI l) (nI T) z (nI ((U - 1) &&& T)) := fun z => by
        rw [X12_tellMost_140, sp_pl, show nI U - (1 : Int32) = nI (U - 1) from qn_sub (b := 1) (by omega), qn_and]
      have nU : (U - 1) &&& T < f := Nat.lt_of_le_of_lt Nat.and_le_left (by omega)
      have sU : Sb ((U - 1) &&& T) T := fun k hk => by rw [Nat.testBit_and] at hk; simp at hk; exact hk.2
      have cov : ∀ V, Sb V T → (U - 1) &&& T < V → V = U ∨ U < V := fun V hV hlt => by
        rcases Nat.lt_trichotomy V U with q | q | q
        · have := subm 10 T U V hT hU hV q; omega
        · exact Or.inl q
        · exact Or.inr q
      rw [if_neg (show ¬ nI U ≤ 0 from by show ¬ nI U ≤ nI 0; rw [qn_le (by omega) (by omega)]; omega), rq_lengths h hn (by omega), sp_bd_s]
      show ∃ v', (if nI l < nI (sW (ct 2) (ct 0 13) U) then _ else _) = _ ∧ _
      have lw : sW (ct 2) (ct 0 13) U ≤ ct 0 13 * 40 := qs_le (fun k hk => by
        have := (h.2.2.2.1.2.2.2.2.1 k).2
        split <;> omega)
      by_cases p : l < sW (ct 2) (ct 0 13) U
      · rw [if_pos (by rw [qn_lt (by omega) (by omega)]; exact p), e140]
        refine ih _ v nU sU hv h0 h1 (fun V hV hlt hw => ?_)
        rcases cov V hV hlt with q | q
        · subst q; omega
        · exact h2 V hV q hw
      · have sub : qd T U < 1024 := qd_le2 (m := 10) _ _ hT
        have gU := hg U hU
        have a990 := sW_990 (S := U) hA hb10
        rw [if_neg (by rw [qn_lt (by omega) (by omega)]; exact p), rq_angers h hn (by omega), sp_bd_s, show nI T &&& (nI U ^^^ (-1 : Int32)) = nI (qd T U) from qn_dif T U, show nI s + (1 : Int32) = nI (s + 1) from nI_1 s, ix10 (by omega) sub, qn_in (by omega) (by omega), sp_ckt, qn_g (by omega), gU.1]
        show ∃ v', (sp_pl (sp_max (nI v) (nI (sW sc (ct 0 13) U) + nI (g (qd T U)))) _) = _ ∧ _
        rw [nI_add, qn_max (by omega) (by omega), sp_pl, e140]
        refine ih _ _ nU sU (by omega) (by omega) ?_ (fun V hV hlt hw => ?_)
        · rcases Nat.le_total (sW sc (ct 0 13) U + g (qd T U)) v with le | le
          · rw [Nat.max_eq_left le]; exact h1
          · rw [Nat.max_eq_right le]; exact ⟨U, hU, by omega, rfl⟩
        · rcases cov V hV hlt with q | q
          · subst q; omega
          · have := h2 V hV q hw; omega
theorem rq_tell (h : mSC μ ct cd sc stk) (hn : 1100 ≤ n) (hA : ∀ b, b < ct 0 13 → sc b ≤ 99) (hu : ∀ s, s < ct 0 14 → qus ct sc s ≤ sc (30 + s)) (h99 : ∀ s, s < ct 0 14 → lfO ct sc s ≤ 99) {O : Nat} (hO : O < 2 ^ ct 0 13) : ∃ ν, X12_tellMost n μ (nI O) = some ν ∧ m27 μ ν ∧ ∀ s, s ≤ ct 0 14 → tR ν (ct 2) sc (ct 0 13) (rr (lfO ct sc) s (ct 0 14 - s)) O (s * 1024) 1024 := by
  have hb10 := h.2.2.2.1.1
  have hs5 := h.2.2.2.1.2.1
  have hO2 : O < 1024 := Nat.lt_of_lt_of_le hO (Nat.pow_le_pow_right (by decide) hb10 : 2 ^ ct 0 13 ≤ 2 ^ 10)
  have row : ∀ (k41 : sp_St → Int32 → Int32 → Option sp_St) s, s < ct 0 14 → ∀ f k ν, k ≤ O + 1 → O + 1 - k < f → m27 μ ν → (∀ s', s < s' → s' ≤ ct 0 14 → tR ν (ct 2) sc (ct 0 13) (rr (lfO ct sc) s' (ct 0 14 - s')) O (s' * 1024) 1024) → tR ν (ct 2) sc (ct 0 13) (rr (lfO ct sc) s (ct 0 14 - s)) O (s * 1024) k → ∃ ν', X12_tellMost_54 n k41 f ν (nI O) (nI s) (nI (lfO ct sc s)) (nI k) = k41 ν' (nI O) (nI s + (-1)) ∧ m27 μ ν' ∧ ∀ s', s ≤ s' → s' ≤ ct 0 14 → tR ν' (ct 2) sc (ct 0 13) (rr (lfO ct sc) s' (ct 0 14 - s')) O (s' * 1024) 1024 := by
    intro k41 s hs f
    induction f with
    | zero => intro k ν _ hf; omega
    | succ f ih =>
      intro k ν hk hf g gR gT
      rw [X12_tellMost_54]
      by_cases e : O < k
      · refine ⟨ν, by rw [if_pos (by rw [qn_lt (by omega) (by omega)]; exact e), X12_tellMost_172, sp_pl], g, fun s' h1 h2 => ?_⟩
        by_cases es : s = s'
        · subst es; exact fun T _ hT => gT T (Nat.lt_of_le_of_lt (Sb_le hT) e) hT
        · exact gR s' (by omega) h2
      · have e166 : ∀ (υ : sp_St), X12_tellMost_166 n k41 (X12_tellMost_54 n k41 f) υ (nI O) (nI s) (nI (lfO ct sc s)) (nI k) = X12_tellMost_54 n k41 f υ (nI O) (nI s) (nI (lfO ct sc s)) (nI (k + 1)) := fun υ => by rw [X12_tellMost_166, sp_pl, nI_1]
        rw [if_neg (by rw [qn_lt (by omega) (by omega)]; exact e)]
        by_cases p : Sb k O
        · have hν := mSC_27 h g
          have R1 := gR (s + 1) (by omega) (by omega)
          have gk := tR_g R1 (show k < 1024 by omega) p
          have sub : ∀ U, Sb U k → qd k U < 1024 ∧ Sb (qd k U) O := fun U _ => ⟨qd_le2 (m := 10) _ _ (by omega), Sb_trans Sb_qd p⟩
          rw [if_pos (by rw [qn_dif0 (by omega)]; exact p), show nI s + (1 : Int32) = nI (s + 1) from nI_1 s, ix10 (by omega) (by omega), qn_in (by omega) (by omega), sp_ckt, qn_g (by omega), sp_pl, gk.1]
          obtain ⟨v, v1, v2, v3⟩ := rq_subs hν (by omega : 100 ≤ n) hA (k41 := k41) (k54 := X12_tellMost_54 n k41 f) (z1 := nI O) (s := s) (l := lfO ct sc s) (T := k) (by omega) (h99 s hs) (by omega) (g := fun X => (ν.2.2.1 27 ((s + 1) * 1024 + X)).toNatClampNeg) (fun U hU => ⟨(tR_g R1 (sub U hU).1 (sub U hU).2).1, (tR_g R1 (sub U hU).1 (sub U hU).2).2.1⟩) n k _ (by omega) Sb_refl (Nat.le_trans gk.2.1 (by omega)) (Nat.le_refl _) ⟨0, Sb_0, by rw [sW_0]; exact Nat.zero_le _, by rw [sW_0, qd_z, Nat.zero_add]⟩ (fun V hV hlt _ => by have := Sb_le hV; omega)
          have im := isM_c (w := ct 2) (A := sc) (N := ct 0 13) (r := lfO ct sc s) (S := k) (v := v) (g := fun X => (ν.2.2.1 27 ((s + 1) * 1024 + X)).toNatClampNeg) (fun T hT => (tR_g R1 (sub T hT).1 (sub T hT).2).2.2) v2 v3
          rw [show lfO ct sc s :: rr (lfO ct sc) (s + 1) (ct 0 14 - (s + 1)) = rr (lfO ct sc) s (ct 0 14 - s) by rw [show ct 0 14 - s = (ct 0 14 - (s + 1)) + 1 by omega, rr]] at im
          rw [v1, X12_tellMost_152, ix10 (by omega) (by omega), qn_in (by omega) (by omega), sp_ckt, nI_clamp (by omega), sp_pl, e166]
          refine ih (k + 1) _ (by omega) (by omega) (m27_sa g) (fun s' h1 h2 T hT hTO => ?_) (fun T hT hTO => ?_)
          · rw [sp_sa_nj (by omega)]; exact gR s' h1 h2 T hT hTO
          · by_cases eT : T = k
            · subst eT; exact ⟨v, isM_990 hA hb10 im, sp_sa_eq, im⟩
            · rw [sp_sa_nj (by omega)]; exact gT T (by omega) hTO
        · rw [if_neg (by rw [qn_dif0 (by omega)]; exact p), e166]
          refine ih (k + 1) ν (by omega) (by omega) g gR (fun T hT hTO => gT T ?_ hTO)
          have : T ≠ k := fun e => by subst e; exact p hTO
          omega
  have all : ∀ s f ν, s < f → s ≤ ct 0 14 → m27 μ ν → (∀ s', s ≤ s' → s' ≤ ct 0 14 → tR ν (ct 2) sc (ct 0 13) (rr (lfO ct sc) s' (ct 0 14 - s')) O (s' * 1024) 1024) → ∃ ν', X12_tellMost_41 n f ν (nI O) (nI s + (-1)) = some ν' ∧ m27 μ ν' ∧ ∀ s, s ≤ ct 0 14 → tR ν' (ct 2) sc (ct 0 13) (rr (lfO ct sc) s (ct 0 14 - s)) O (s * 1024) 1024 := by
    intro s
    induction s with
    | zero =>
      intro f ν hf _ g gR
      obtain ⟨f, rfl⟩ : ∃ f', f = f' + 1 := ⟨f - 1, by omega⟩
      exact ⟨ν, by rw [X12_tellMost_41, if_pos (show nI 0 + (-1) < 0 by decide)], g, fun s hs => gR s (by omega) hs⟩
    | succ s ih =>
      intro f ν hf hs g gR
      obtain ⟨f, rfl⟩ : ∃ f', f = f' + 1 := ⟨f - 1, by omega⟩
      rw [X12_tellMost_41, show nI (s + 1) + (-1) = nI s from pk_m1 s, if_neg (nI_pos (by omega)), rq_leftOf (mSC_27 h g) (by omega) (by omega) (hu s (by omega)), sp_bd_s, sp_pl]
      obtain ⟨ν', w1, w2, w3⟩ := row (X12_tellMost_41 n f) s (by omega) n 0 ν (by omega) (by omega) g (fun s' h1 h2 => gR s' (by omega) h2) (fun T hT => by omega)
      obtain ⟨ν2, y1, y2, y3⟩ := ih f ν' (by omega) (by omega) w2 w3
      exact ⟨ν2, w1.trans y1, y2, y3⟩
  have w31 : ∀ {ν : sp_St}, m27 μ ν → sp_g ν 3 (1 : Int32) = nI (ct 0 14) := fun {ν} g => by
    show ν.2.2.1 3 1 = _
    rw [g.2.2 3 (by omega)]; exact h.1.1
  have zero : ∀ f k ν, k ≤ 1024 → 1024 - k < f → m27 μ ν → (∀ T, T < k → ν.2.2.1 27 (ct 0 14 * 1024 + T) = 0) → ∃ ν', X12_tellMost_2 n f ν (nI O) (nI k) = some ν' ∧ m27 μ ν' ∧ ∀ s, s ≤ ct 0 14 → tR ν' (ct 2) sc (ct 0 13) (rr (lfO ct sc) s (ct 0 14 - s)) O (s * 1024) 1024 := by
    intro f
    induction f with
    | zero => intro k ν _ hf; omega
    | succ f ih =>
      intro k ν hk hf g gz
      rw [X12_tellMost_2]
      by_cases e : k = 1024
      · subst e
        rw [if_pos (show (1024 : Int32) ≤ nI 1024 by decide), X12_tellMost_32, w31 g, sp_pl, show nI (ct 0 14) - (1 : Int32) = nI (ct 0 14) + (-1) from Int32.sub_eq_add_neg _ _]
        refine all (ct 0 14) n ν (by omega) (Nat.le_refl _) g (fun s' h1 h2 T hT _ => ?_)
        obtain rfl : s' = ct 0 14 := by omega
        exact ⟨0, by omega, gz T hT, by rw [Nat.sub_self, rr]; exact isM_nil⟩
      · rw [if_neg (show ¬ (1024 : Int32) ≤ nI k from nI_ge (b := 1024) (by omega) (by omega)), w31 g, ix10 (by omega) (by omega), qn_in (by omega) (by omega), sp_ckt, nI_clamp (by omega), sp_pl, sp_pl, nI_1]
        refine ih (k + 1) _ (by omega) (by omega) (m27_sa g) (fun T hT => ?_)
        by_cases eT : T = k
        · subst eT; rw [sp_sa_eq]
        · rw [sp_sa_nj (by omega)]; exact gz T (by omega)
  rw [X12_tellMost, sp_pl]
  exact zero n 0 μ (by omega) (by omega) (m27_refl _) (fun T hT => by omega)
end
