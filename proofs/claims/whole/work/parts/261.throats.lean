-- ===== throats: the reference's =====
theorem mkL_none {lf : Nat → Nat} {Z : Nat} : ∀ m, (∀ i, i < m → Z.testBit i = false) → mkL lf Z m = [] := by
  intro m
  induction m with
  | zero => intro _; rfl
  | succ m ih => intro h; rw [mkL, if_neg (by rw [h m (by omega)]; decide), ih (fun i hi => h i (by omega))]
theorem mkL_low {lf : Nat → Nat} {Z k : Nat} (h1 : Z.testBit k = true) (h2 : ∀ i, i < k → Z.testBit i = false) : ∀ m, k < m → mkL lf Z m = lf k :: mkL lf (qd Z (2 ^ k)) m := by
  intro m
  induction m with
  | zero => intro h; omega
  | succ m ih =>
    intro h
    rw [mkL, mkL, qd_b]
    by_cases e : k = m
    · subst e
      rw [if_pos h1, if_neg (by simp), mkL_none k h2, mkL_none k (fun i hi => by rw [qd_b, h2 i hi]; rfl)]
      rfl
    · rw [ih (by omega)]
      cases p : Z.testBit m with
      | false => rfl
      | true => rw [if_pos rfl, if_pos (by simp [e]), List.cons_append]
def m28 (μ ν : sp_St) : Prop := ν.1 = μ.1 ∧ ν.2.1 = μ.2.1 ∧ ∀ p, p ≠ 28 → ν.2.2.1 p = μ.2.2.1 p
theorem m28_refl (μ : sp_St) : m28 μ μ := ⟨rfl, rfl, fun _ _ => rfl⟩
theorem m28_sa {μ ν : sp_St} {i : Nat} {v : Int32} (h : m28 μ ν) : m28 μ (sp_sa ν 28 i v) := ⟨h.1, h.2.1, fun p hp => by
  rw [← h.2.2 p hp]
  funext j
  rw [sp_sa_np hp]⟩
def t28 (ν : sp_St) (w : Nat → Nat) (N : Nat) (R : List Nat) (O base k : Nat) : Prop := ∀ T, T < k → Sb T O → ∃ x, x ≤ 1 ∧ ν.2.2.1 28 (base + T) = nI x ∧ (x = 1 ↔ pk w N R T)
section
variable {n j c : Nat} {σ μ : sp_St} {ct : Nat → Nat → Nat} {cd : List Nat × List Nat} {sc : Nat → Nat} {stk : Nat → List Nat}
theorem mSC_28 {ν : sp_St} (h : mSC μ ct cd sc stk) (g : m28 μ ν) : mSC ν ct cd sc stk := mSC_eq h (fun p hp => g.2.2 p (by omega)) (by rw [g.1]) (by rw [g.1])
theorem rq_sub28 (h : mSC μ ct cd sc stk) (hn : 100 ≤ n) (hu : ∀ s, s < ct 0 14 → qus ct sc s ≤ sc (30 + s)) (h99 : ∀ s, s < ct 0 14 → lfO ct sc s ≤ 99) {k15 : sp_St → Int32 → Int32 → Int32 → Option (sp_St × Int32)} {k62 : sp_St → Int32 → Int32 → Int32 → Int32 → Int32 → Int32 → Option (sp_St × Int32)} {z1 z2 : Int32} {Z k Z' T : Nat} {R : List Nat} (hZ : Z < 32) (hZ1 : 1 ≤ Z) (hZ' : Z' < 32) (hk : k < ct 0 14) (hT : T < 1024) (hr : ∀ U, Sb U T → ∃ x, x ≤ 1 ∧ μ.2.2.1 28 (Z' * 1024 + qd T U) = nI x ∧ (x = 1 ↔ pk (ct 2) (ct 0 13) R (qd T U))) : ∀ f U x, U < f → Sb U T → x ≤ 1 → (x = 1 → ∃ V, Sb V T ∧ sW (ct 2) (ct 0 13) V ≤ lfO ct sc k ∧ pk (ct 2) (ct 0 13) R (qd T V)) → (x = 0 → ∀ V, Sb V T → U < V → sW (ct 2) (ct 0 13) V ≤ lfO ct sc k → ¬ pk (ct 2) (ct 0 13) R (qd T V)) → ∃ x', x' ≤ 1 ∧ X12_throats_96 n k15 k62 f μ z1 z2 (nI Z) (nI k) (nI Z') (nI T) (nI x) (nI U) = X12_throats_165 n k15 k62 μ z1 z2 (nI Z) (nI k) (nI Z') (nI T) (nI x') ∧ (x' = 1 → ∃ V, Sb V T ∧ sW (ct 2) (ct 0 13) V ≤ lfO ct sc k ∧ pk (ct 2) (ct 0 13) R (qd T V)) ∧ (x' = 0 → ∀ V, Sb V T → V ≠ 0 → sW (ct 2) (ct 0 13) V ≤ lfO ct sc k → ¬ pk (ct 2) (ct 0 13) R (qd T V)) := by
  have hb10 := h.2.2.2.1.1
  have hs5 := h.2.2.2.1.2.1
  intro f
  induction f with
  | zero => intro U x hf; omega
  | succ f ih =>
    intro U x hf hU hx h1 h2
    have lU : U < 1024 := Nat.lt_of_le_of_lt (Sb_le hU) hT
    rw [X12_throats_96]
    by_cases e : U = 0
    · subst e
      exact ⟨x, hx, by rw [if_pos (show nI 0 ≤ 0 by decide)], h1, fun hx0 V hV hv => h2 hx0 V hV (by omega)⟩
    · rw [if_neg (show ¬ nI U ≤ 0 from by show ¬ nI U ≤ nI 0; rw [qn_le (by omega) (by omega)]; omega), if_neg (show ¬ nI Z ≤ 0 from by show ¬ nI Z ≤ nI 0; rw [qn_le (by omega) (by omega)]; omega)]
      by_cases ex : x = 1
      · subst ex
        exact ⟨1, by omega, by rw [if_neg n10], h1, fun hx0 => by omega⟩
      · obtain rfl : x = 0 := by omega
        have e151 : ∀ (z : Int32), X12_throats_151 n k15 k62 (X12_throats_96 n k15 k62 f) μ z1 z2 (nI Z) (nI k) (nI Z') (nI T) (nI U) z = X12_throats_96 n k15 k62 f μ z1 z2 (nI Z) (nI k) (nI Z') (nI T) z (nI ((U - 1) &&& T)) := fun z => by
          rw [X12_throats_151, sp_pl, show nI U - (1 : Int32) = nI (U - 1) from qn_sub (b := 1) (by omega), qn_and]
        have nU : (U - 1) &&& T < f := Nat.lt_of_le_of_lt Nat.and_le_left (by omega)
        have sU : Sb ((U - 1) &&& T) T := fun k hk => by rw [Nat.testBit_and] at hk; simp at hk; exact hk.2
        have cov : ∀ V, Sb V T → (U - 1) &&& T < V → V = U ∨ U < V := fun V hV hlt => by
          rcases Nat.lt_trichotomy V U with q | q | q
          · have := subm 10 T U V hT hU hV q; omega
          · exact Or.inl q
          · exact Or.inr q
        have lw : sW (ct 2) (ct 0 13) U ≤ ct 0 13 * 40 := qs_le (fun k hk => by
          have := (h.2.2.2.1.2.2.2.2.1 k).2
          split <;> omega)
        have l99 := h99 k hk
        have no : (¬ (sW (ct 2) (ct 0 13) U ≤ lfO ct sc k ∧ pk (ct 2) (ct 0 13) R (qd T U))) → _ := fun hno => ih ((U - 1) &&& T) 0 nU sU (by omega) (fun q => by omega) (fun _ V hV hlt hw => by
          rcases cov V hV hlt with q | q
          · subst q; exact fun hp => hno ⟨hw, hp⟩
          · exact h2 rfl V hV q hw)
        rw [if_pos n00, rq_lengths h hn (by omega), sp_bd_s, rq_leftOf h hn hk (hu k hk), sp_bd_s]
        show ∃ x', x' ≤ 1 ∧ (if nI (lfO ct sc k) < nI (sW (ct 2) (ct 0 13) U) then _ else _) = _ ∧ _
        by_cases p : lfO ct sc k < sW (ct 2) (ct 0 13) U
        · rw [if_pos (by rw [qn_lt (by omega) (by omega)]; exact p), X12_throats_150, e151]
          exact no (fun hh => by omega)
        · have sub : qd T U < 1024 := qd_le2 (m := 10) _ _ hT
          obtain ⟨y, y1, y2, y3⟩ := hr U hU
          rw [if_neg (by rw [qn_lt (by omega) (by omega)]; exact p), show nI T &&& (nI U ^^^ (-1 : Int32)) = nI (qd T U) from qn_dif T U, ix10 (by omega) sub, qn_in (by omega) (by omega), sp_ckt, qn_g (by omega), y2]
          by_cases q : y = 1
          · subst q
            rw [if_neg n10, e151]
            exact ih ((U - 1) &&& T) 1 nU sU (by omega) (fun _ => ⟨U, hU, by omega, y3.mp rfl⟩) (fun q => by omega)
          · obtain rfl : y = 0 := by omega
            rw [if_pos n00, X12_throats_150, e151]
            exact no (fun hh => by have := y3.mpr hh.2; omega)
theorem rq_cell (h : mSC μ ct cd sc stk) (hn : 1100 ≤ n) (hu : ∀ s, s < ct 0 14 → qus ct sc s ≤ sc (30 + s)) (h99 : ∀ s, s < ct 0 14 → lfO ct sc s ≤ 99) {k15 : sp_St → Int32 → Int32 → Int32 → Option (sp_St × Int32)} {k62 : sp_St → Int32 → Int32 → Int32 → Int32 → Int32 → Int32 → Option (sp_St × Int32)} {z1 z2 : Int32} {Z k T O : Nat} (hZ : Z < 32) (hk : Z = 0 ∧ k = 0 ∨ Z.testBit k = true ∧ (∀ i, i < k → Z.testBit i = false) ∧ k < ct 0 14) (hT : T < 1024) (hTO : Sb T O) (hr : ∀ Y, Y < Z → t28 μ (ct 2) (ct 0 13) (mkL (lfO ct sc) Y (ct 0 14)) O (Y * 1024) 1024) : ∃ y, y ≤ 1 ∧ X12_throats_96 n k15 k62 n μ z1 z2 (nI Z) (nI k) (nI (qd Z (2 ^ k))) (nI T) (if nI T = 0 then 1 else 0) (nI T) = X12_throats_211 n k15 k62 (sp_sa μ 28 (Z * 1024 + T) (nI y)) z1 z2 (nI Z) (nI k) (nI (qd Z (2 ^ k))) (nI T) ∧ (y = 1 ↔ pk (ct 2) (ct 0 13) (mkL (lfO ct sc) Z (ct 0 14)) T) := by
  have e0 : ∀ (y : Nat), y ≤ 1 → X12_throats_195 n k15 k62 μ z1 z2 (nI Z) (nI k) (nI (qd Z (2 ^ k))) (nI T) (nI y) = X12_throats_211 n k15 k62 (sp_sa μ 28 (Z * 1024 + T) (nI y)) z1 z2 (nI Z) (nI k) (nI (qd Z (2 ^ k))) (nI T) := fun y hy => by
    have zb : sp_zb (nI y) = true := by
      rcases (show y = 0 ∨ y = 1 by omega) with rfl | rfl
      · exact sp_zb0
      · exact sp_zb1
    rw [X12_throats_195, ix10 (by omega) hT, qn_in (by omega) (by omega), sp_ckt, zb, sp_ckt, nI_clamp (by omega), sp_pl]
  have eT : (if nI T = 0 then (1 : Int32) else 0) = nI (if T = 0 then 1 else 0) := by
    by_cases e : T = 0
    · subst e; rw [if_pos n00, if_pos rfl]; rfl
    · rw [if_neg (show ¬ nI T = 0 from by show ¬ nI T = nI 0; rw [qn_eq (by omega) (by omega)]; exact e), if_neg e]; rfl
  rw [eT]
  rcases hk with ⟨rfl, rfl⟩ | ⟨k1, k2, k3⟩
  · have q0 : qd 0 (2 ^ 0) = 0 := by decide
    have eL : mkL (lfO ct sc) 0 (ct 0 14) = [] := mkL_none _ (fun i _ => Nat.zero_testBit i)
    rw [eL]
    obtain ⟨n', rfl⟩ : ∃ n', n = n' + 1 := ⟨n - 1, by omega⟩
    have e165 : ∀ (z : Int32), X12_throats_96 (n' + 1) k15 k62 (n' + 1) μ z1 z2 (nI 0) (nI 0) (nI (qd 0 (2 ^ 0))) (nI T) z (nI T) = X12_throats_165 (n' + 1) k15 k62 μ z1 z2 (nI 0) (nI 0) (nI (qd 0 (2 ^ 0))) (nI T) z := fun z => by
      rw [X12_throats_96]
      split
      · rfl
      · rw [if_pos (show nI 0 ≤ 0 by decide)]
    refine ⟨if T = 0 then 1 else 0, by split <;> omega, ?_, ?_⟩
    · rw [e165, X12_throats_165, ← e0 _ (by split <;> omega)]
      by_cases e : T = 0
      · rw [if_pos e, if_neg n10, X12_throats_190]; rfl
      · rw [if_neg e, if_pos n00, if_pos (show nI 0 ≤ 0 by decide), X12_throats_194]; rfl
    · rw [pk]
      by_cases e : T = 0
      · simp [e]
      · simp [e]
  · have Z1 : 1 ≤ Z := Nat.le_trans Nat.one_le_two_pow (top_ge k1)
    have lt := qd_lt1 k1
    have row := hr (qd Z (2 ^ k)) lt
    have eL := mkL_low (lf := lfO ct sc) k1 k2 (ct 0 14) k3
    rw [eL]
    obtain ⟨x, x1, x2, x3, x4⟩ := rq_sub28 h (by omega : 100 ≤ n) hu h99 (k15 := k15) (k62 := k62) (z1 := z1) (z2 := z2) hZ Z1 (show qd Z (2 ^ k) < 32 by omega) k3 hT (R := mkL (lfO ct sc) (qd Z (2 ^ k)) (ct 0 14)) (fun U hU => row (qd T U) (qd_le2 (m := 10) _ _ hT) (Sb_trans Sb_qd hTO)) n T (if T = 0 then 1 else 0) (by omega) Sb_refl (by split <;> omega) (fun hx => by
      have : T = 0 := by
        by_cases e : T = 0
        · exact e
        · rw [if_neg e] at hx; omega
      subst this
      exact ⟨0, Sb_0, by rw [sW_0]; exact Nat.zero_le _, by rw [qd_z]; exact pk_0⟩) (fun _ V hV hlt => by have := Sb_le hV; omega)
    rw [x2, X12_throats_165]
    by_cases ex : x = 1
    · subst ex
      refine ⟨1, by omega, ?_, ?_⟩
      · rw [if_neg n10, X12_throats_190, show (1 : Int32) = nI 1 from rfl, e0 1 (by omega)]
      · obtain ⟨V, v1, v2, v3⟩ := x3 rfl
        exact ⟨fun _ => ⟨V, v1, v2, v3⟩, fun _ => rfl⟩
    · obtain rfl : x = 0 := by omega
      obtain ⟨y, y1, y2, y3⟩ := row T hT hTO
      rw [if_pos n00, if_neg (show ¬ nI Z ≤ 0 from by show ¬ nI Z ≤ nI 0; rw [qn_le (by omega) (by omega)]; omega), ix10 (by omega) hT, qn_in (by omega) (by omega), sp_ckt, qn_g (by omega), y2]
      have iff : y = 1 ↔ pk (ct 2) (ct 0 13) (lfO ct sc k :: mkL (lfO ct sc) (qd Z (2 ^ k)) (ct 0 14)) T := by
        rw [y3]
        constructor
        · intro hp
          exact ⟨0, Sb_0, by rw [sW_0]; exact Nat.zero_le _, by rw [qd_z]; exact hp⟩
        · rintro ⟨V, v1, v2, v3⟩
          by_cases e : V = 0
          · subst e; rw [qd_z] at v3; exact v3
          · exact absurd v3 (x4 rfl V v1 e v2)
      refine ⟨y, y1, ?_, iff⟩
      by_cases ey : y = 1
      · subst ey
        rw [if_neg n10, X12_throats_190, show (1 : Int32) = nI 1 from rfl, e0 1 (by omega)]
      · obtain rfl : y = 0 := by omega
        rw [if_pos n00, X12_throats_194, show (0 : Int32) = nI 0 from rfl, e0 0 (by omega)]
end
