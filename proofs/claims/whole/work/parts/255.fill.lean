-- ===== the class's packing: its rooms, its fillings =====
def mkL (lf : Nat → Nat) (Z : Nat) : Nat → List Nat
  | 0 => []
  | i + 1 => if Z.testBit i then mkL lf Z i ++ [lf i] else mkL lf Z i
theorem mkL_len {lf : Nat → Nat} {Z : Nat} : ∀ i, (mkL lf Z i).length ≤ i := by
  intro i
  induction i with
  | zero => exact Nat.le_refl _
  | succ i ih =>
    rw [mkL]
    split
    · rw [List.length_append]; exact Nat.add_le_add ih (Nat.le_refl 1)
    · omega
theorem mkL_99 {lf : Nat → Nat} {Z : Nat} : ∀ i, (∀ k, k < i → lf k ≤ 99) → ∀ x, x ∈ mkL lf Z i → x ≤ 99 := by
  intro i
  induction i with
  | zero => intro _ x hx; cases hx
  | succ i ih =>
    intro h x hx
    have ih := ih (fun k hk => h k (by omega))
    rw [mkL] at hx
    split at hx
    · rcases List.mem_append.mp hx with hx | hx
      · exact ih x hx
      · rw [List.mem_singleton.mp hx]; exact h i (by omega)
    · exact ih x hx
theorem gd_l {L : List Nat} {x k : Nat} (h : k < L.length) : (L ++ [x]).getD k 0 = L.getD k 0 := by
  rw [List.getD_eq_getElem?_getD, List.getD_eq_getElem?_getD, List.getElem?_append_left h]
theorem gd_r {L : List Nat} {x : Nat} : (L ++ [x]).getD L.length 0 = x := by
  rw [List.getD_eq_getElem?_getD, List.getElem?_concat_length]; rfl
theorem gd_99 {L : List Nat} (h : ∀ x, x ∈ L → x ≤ 99) (k : Nat) : L.getD k 0 ≤ 99 := by
  rw [List.getD_eq_getElem?_getD]
  cases e : L[k]? with
  | none => exact Nat.zero_le _
  | some x => exact h x (List.mem_of_getElem? e)
theorem rl_list : ∀ (L : List Nat) (Rf : Nat → Nat), (∀ k, k < L.length → Rf k = L.getD k 0) → rl Rf L.length = L := by
  intro L Rf h
  unfold rl
  apply List.ext_getElem
  · simp
  · intro i h1 h2
    rw [List.getElem_map, List.getElem_range, h i h2, List.getD_eq_getElem?_getD, List.getElem?_eq_getElem h2]
    rfl
def lfO (ct : Nat → Nat → Nat) (sc : Nat → Nat) (s : Nat) : Nat := sc (30 + s) - qus ct sc s
section
variable {n j c : Nat} {σ μ : sp_St} {ct : Nat → Nat → Nat} {cd : List Nat × List Nat} {sc : Nat → Nat} {stk : Nat → List Nat}
theorem qSC_pk {τ : sp_St} (h : qSC σ 23 c ct cd sc) (g : qfp 60 63 σ τ) : qSC τ 23 c ct cd sc := qSC_q (fun p hp => ⟨(g.2.2 p (by omega)).1, (g.2.2 p (by omega)).2⟩) (by rw [g.1]) ((g.2.2 24 (by omega)).2) h
theorem sq_roomIn (h : qSC σ 23 c ct cd sc) (hn : 100 ≤ n) (hu : ∀ s, s < ct 0 14 → qus ct sc s ≤ sc (30 + s)) {Z : Nat} (hZ : Z < 2 ^ 31) : ∃ τ, X5_roomIn n σ (nI Z) = some (τ, nI (mkL (lfO ct sc) Z (ct 0 14)).sum) ∧ qfp 60 63 σ τ ∧ τ.1 60 4 = nI (mkL (lfO ct sc) Z (ct 0 14)).length ∧ ∀ k, k < (mkL (lfO ct sc) Z (ct 0 14)).length → τ.2.2.1 63 k = nI ((mkL (lfO ct sc) Z (ct 0 14)).getD k 0) := by
  have hs5 := h.2.2.2.2.2.1.2.1
  have key : ∀ f i τ, i ≤ ct 0 14 → ct 0 14 - i < f → qfp 60 63 σ τ → τ.1 60 4 = nI (mkL (lfO ct sc) Z i).length → (∀ k, k < (mkL (lfO ct sc) Z i).length → τ.2.2.1 63 k = nI ((mkL (lfO ct sc) Z i).getD k 0)) → ∃ υ, X5_roomIn_9 n f τ (nI Z) (nI (mkL (lfO ct sc) Z i).sum) (nI i) = some (υ, nI (mkL (lfO ct sc) Z (ct 0 14)).sum) ∧ qfp 60 63 σ υ ∧ υ.1 60 4 = nI (mkL (lfO ct sc) Z (ct 0 14)).length ∧ ∀ k, k < (mkL (lfO ct sc) Z (ct 0 14)).length → υ.2.2.1 63 k = nI ((mkL (lfO ct sc) Z (ct 0 14)).getD k 0) := by
    intro f
    induction f with
    | zero => intro i τ _ hf; omega
    | succ f ih =>
      intro i τ hi hf g g1 g2
      have hτ := qSC_pk h g
      obtain ⟨_, hc, hisc, ⟨hnb, hns, _⟩, _⟩ := hτ
      rw [X5_roomIn_9, sp_pl, hc, hisc, sp_ckt, hns]
      by_cases e : i = ct 0 14
      · subst e
        exact ⟨τ, by rw [if_pos (Int32.le_refl _), X5_roomIn_84], g, g1, g2⟩
      · have hi2 : i < ct 0 14 := by omega
        have e78 : ∀ (υ : sp_St) (z : Int32), X5_roomIn_78 n (X5_roomIn_9 n f) υ (nI Z) z (nI i) = X5_roomIn_9 n f υ (nI Z) z (nI (i + 1)) := fun υ z => by rw [X5_roomIn_78, sp_pl, nI_1]
        rw [if_neg (nI_ge hi2 (by omega))]
        have ih := ih (i + 1)
        rw [mkL] at ih
        cases p : Z.testBit i with
        | false =>
          rw [if_neg (by rw [p]; decide)] at ih
          rw [if_pos (by rw [show (nI Z >>> (nI i &&& 31) &&& 1 = 0) = (Z.testBit i = false) from qn_bit0 hZ (by omega)]; exact p), e78]
          exact ih τ (by omega) (by omega) g g1 g2
        | true =>
          have hl := mkL_len (lf := lfO ct sc) (Z := Z) i
          rw [if_pos p] at ih
          have a1 : (sp_sa τ 63 (mkL (lfO ct sc) Z i).length (nI (lfO ct sc i))).1 60 4 = nI (mkL (lfO ct sc) Z i).length := g1
          rw [if_neg (by rw [show (nI Z >>> (nI i &&& 31) &&& 1 = 0) = (Z.testBit i = false) from qn_bit0 hZ (by omega), p]; decide), g1, if_neg (show ¬ (5 : Int32) ≤ nI (mkL (lfO ct sc) Z i).length from nI_ge (b := 5) (by omega) (by omega)), sq_leftN (qSC_pk h g) hn (by omega) (hu i hi2), show sc (30 + i) - qus ct sc i = lfO ct sc i from rfl, sp_bd_s, qn_in (by omega) (by omega), sp_ckt, nI_clamp (by omega), sp_pl, a1, qn_in (by omega) (by omega), sp_ckt, sp_pl, sp_pl, qn_g (by omega), sp_sa_eq, nI_add, e78, show nI (mkL (lfO ct sc) Z i).length + (1 : Int32) = nI ((mkL (lfO ct sc) Z i).length + 1) from nI_1 _]
          have es : (mkL (lfO ct sc) Z i ++ [lfO ct sc i]).sum = (mkL (lfO ct sc) Z i).sum + lfO ct sc i := by rw [List.sum_append_nat]; rfl
          have el : (mkL (lfO ct sc) Z i ++ [lfO ct sc i]).length = (mkL (lfO ct sc) Z i).length + 1 := by simp
          rw [es, el] at ih
          refine ih _ (by omega) (by omega) (qfp_trans g (qfp_trans (qfp_sa (p := 63) (by omega) (by omega)) (qfp_si (p := 60) (by omega) (by omega)))) ?_ ?_
          · rw [sp_si_g, if_pos ⟨rfl, rfl⟩]
          · intro k hk
            show (sp_sa τ 63 (mkL (lfO ct sc) Z i).length (nI (lfO ct sc i))).2.2.1 63 k = _
            by_cases ek : k = (mkL (lfO ct sc) Z i).length
            · subst ek; rw [sp_sa_eq, gd_r]
            · rw [sp_sa_nj ek, gd_l (by omega)]; exact g2 k (by omega)
  rw [X5_roomIn, sp_pl, sp_pl, sp_pl]
  exact key n 0 (sp_si σ 60 4 0) (by omega) (by omega) (qfp_si (p := 60) (by omega) (by omega)) (by rw [sp_si_g, if_pos ⟨rfl, rfl⟩]; rfl) (fun k hk => by simp [mkL] at hk)
theorem stp_b {Rf : Nat → Nat} {l : Nat} : ∀ d i φ, φ ≤ 128 → stp Rf l d i φ ≤ 640 + (i + d) * 128 + 128 + l := by
  intro d
  induction d with
  | zero => intro i φ _; rw [stp]; omega
  | succ d ih =>
    intro i φ h
    rw [stp]
    split
    · have := ih (i + 1) 0 (by omega); omega
    · omega
theorem sq_fillW {Rf : Nat → Nat} {m : Nat} (hn : 100 ≤ n) (hm : m ≤ 5) (h4 : σ.1 60 4 = nI m) (hR : ∀ k, k < m → σ.2.2.1 63 k = nI (Rf k)) (h99 : ∀ k, k < m → Rf k ≤ 99) {x l : Nat} (hx : x ≤ 640) (hl : l ≤ 40) : X5_fillingWith n σ (nI x) (nI l) = some (σ, nI (stp Rf l (m - x / 128) (x / 128) (x % 128))) := by
  have key : ∀ d f i φ, d = m - i → i ≤ 5 → d < f → φ < 128 → X5_fillingWith_13 n f σ (nI l) (nI φ) (nI i) = some (σ, nI (stp Rf l d i φ)) := by
    intro d
    induction d with
    | zero =>
      intro f i φ hd hi hf hφ
      obtain ⟨f, rfl⟩ : ∃ f', f = f' + 1 := ⟨f - 1, by omega⟩
      rw [X5_fillingWith_13, h4, if_pos (by rw [qn_le (by omega) (by omega)]; omega), X5_fillingWith_54]
      rfl
    | succ d ih =>
      intro f i φ hd hi hf hφ
      obtain ⟨f, rfl⟩ : ∃ f', f = f' + 1 := ⟨f - 1, by omega⟩
      have := h99 i (by omega)
      rw [X5_fillingWith_13, h4, if_neg (nI_ge (by omega) (by omega)), qn_in (by omega) (by omega), sp_ckt, qn_g (by omega), hR i (by omega), nI_add, stp]
      by_cases p : Rf i < φ + l
      · rw [if_pos p, if_pos (by rw [qn_lt (by omega) (by omega)]; exact p), sp_pl, sp_pl, nI_1]
        exact ih f (i + 1) 0 (by omega) (by omega) (by omega) (by omega)
      · rw [if_neg p, if_neg (by rw [qn_lt (by omega) (by omega)]; exact p), X5_fillingWith_35, show nI i * (128 : Int32) = nI (i * 128) from pk_mul i 128, nI_add, nI_add]
  rw [X5_fillingWith, show (!decide ((128 : Int32) = 0)) = true by decide, sp_ckt, sp_pl, sp_ckt, sp_pl, show nI x - nI x / (128 : Int32) * (128 : Int32) = nI (x % 128) from pk_rem (d := 128) (by omega) (by omega) (by omega), show nI x / (128 : Int32) = nI (x / 128) from pk_div (d := 128) (by omega) (by omega) (by omega)]
  exact key _ _ _ _ rfl (by omega) (by omega) (Nat.mod_lt _ (by decide))
theorem lfm_640 {w Rf g : Nat → Nat} {m S : Nat} : ∀ b, lfm w Rf m g S b ≤ 640 := by
  intro b
  induction b with
  | zero => exact Nat.le_refl _
  | succ b ih => rw [lfm]; split <;> omega
theorem sq_leastF (h : qSC σ 23 c ct cd sc) (hn : 100 ≤ n) {Rf : Nat → Nat} {m : Nat} (hm : m ≤ 5) (h4 : σ.1 60 4 = nI m) (hR : ∀ k, k < m → σ.2.2.1 63 k = nI (Rf k)) (h99 : ∀ k, k < m → Rf k ≤ 99) {g : Nat → Nat} {S : Nat} (hS : S < 1024) (hg : ∀ b, b < ct 0 13 → S.testBit b = true → σ.2.2.1 61 (qd S (2 ^ b)) = nI (g (qd S (2 ^ b))) ∧ g (qd S (2 ^ b)) ≤ 640) : X5_leastFilling n σ (nI S) = some (σ, nI (lfm (ct 2) Rf m g S (ct 0 13))) := by
  obtain ⟨_, hc, hisc, ⟨hnb, hns, _, _, hA2, _⟩, _, ⟨hb10, hs5, _, _, hL, _⟩, _⟩ := h
  rw [X5_leastFilling, sp_pl, sp_pl]
  refine lp_up (fun f b => X5_leastFilling_6 n f σ (nI S) (nI (lfm (ct 2) Rf m g S b)) (nI b)) (ct 0 13) _ (fun f => ?_) (fun f b hb => ?_) n 0 (by omega) (by omega)
  · rw [X5_leastFilling_6, sp_pl, hc, hisc, sp_ckt, hnb, if_pos (Int32.le_refl _), X5_leastFilling_67]
  · have e61 : ∀ (z : Int32), X5_leastFilling_61 n (X5_leastFilling_6 n f) σ (nI S) z (nI b) = X5_leastFilling_6 n f σ (nI S) z (nI (b + 1)) := fun z => by rw [X5_leastFilling_61, sp_pl, nI_1]
    rw [X5_leastFilling_6, sp_pl, hc, hisc, sp_ckt, hnb, if_neg (nI_ge hb (by omega)), lfm]
    cases p : S.testBit b with
    | false => rw [if_pos (by rw [show (nI S >>> (nI b &&& 31) &&& 1 = 0) = (S.testBit b = false) from qn_bit0 (by omega) (by omega)]; exact p), e61, if_neg (by decide)]
    | true =>
      obtain ⟨g1, g2⟩ := hg b hb p
      have l1 : qd S (2 ^ b) < 1024 := qd_le2 (m := 10) _ _ hS
      have l2 := (hL b).2
      have l3 := stp_b (Rf := Rf) (l := ct 2 b) (m - g (qd S (2 ^ b)) / 128) (g (qd S (2 ^ b)) / 128) (g (qd S (2 ^ b)) % 128) (by omega)
      have l4 := lfm_640 (w := ct 2) (Rf := Rf) (g := g) (m := m) (S := S) b
      have x1 : nI S &&& (((1 : Int32) <<< (nI b &&& 31)) ^^^ (-1 : Int32)) = nI (qd S (2 ^ b)) := by
        rw [show (1 : Int32) <<< (nI b &&& 31) = nI (2 ^ b) from qn_sh1 (by omega)]
        exact qn_dif _ _
      rw [if_neg (by rw [show (nI S >>> (nI b &&& 31) &&& 1 = 0) = (S.testBit b = false) from qn_bit0 (by omega) (by omega), p]; decide), x1, qn_in (by omega) (by omega), sp_ckt, qn_in (by omega) (by omega), sp_ckt, qn_g (by omega), g1, qn_g (by omega), hA2 b hb, sq_fillW hn hm h4 hR h99 g2 l2, sp_bd_s, qn_min (by omega) (by omega), sp_pl, e61, if_pos rfl]
theorem qn_dif0 {a b : Nat} (ha : a < 1024) : (nI a &&& (nI b ^^^ (-1 : Int32)) = 0) = Sb a b := by
  rw [show nI a &&& (nI b ^^^ (-1 : Int32)) = nI (qd a b) from qn_dif a b]
  have := qd_le2 (m := 10) a b ha
  show (nI (qd a b) = nI 0) = _
  rw [qn_eq (by omega) (by omega)]
  exact propext qd_0
/-- the table of fillings for all sets of the blades that are out -/
def tF (σ : sp_St) (w : Nat → Nat) (N : Nat) (Rf : Nat → Nat) (m O k : Nat) : Prop := ∀ T, T < k → Sb T O → ∃ x, x ≤ 640 ∧ σ.2.2.1 61 T = nI x ∧ isF w N Rf m T x
theorem sq_fill (h : qSC σ 23 c ct cd sc) (hn : 1100 ≤ n) {Rf : Nat → Nat} {m : Nat} (hm : m ≤ 5) (h4 : σ.1 60 4 = nI m) (hR : ∀ k, k < m → σ.2.2.1 63 k = nI (Rf k)) (h99 : ∀ k, k < m → Rf k ≤ 99) {O : Nat} (hO : O < 2 ^ ct 0 13) : ∃ τ, X5_fill n σ (nI O) = some τ ∧ qfp 61 61 σ τ ∧ tF τ (ct 2) (ct 0 13) Rf m O 1024 := by
  have hO2 : O < 1024 := Nat.lt_of_lt_of_le hO (Nat.pow_le_pow_right (by decide) h.2.2.2.2.2.1.1 : 2 ^ ct 0 13 ≤ 2 ^ 10)
  have key : ∀ f k τ, 1 ≤ k → k ≤ O + 1 → O + 1 - k < f → qfp 61 61 σ τ → tF τ (ct 2) (ct 0 13) Rf m O k → ∃ υ, X5_fill_9 n f τ (nI O) (nI k) = some υ ∧ qfp 61 61 σ υ ∧ tF υ (ct 2) (ct 0 13) Rf m O 1024 := by
    intro f
    induction f with
    | zero => intro k τ _ _ hf; omega
    | succ f ih =>
      intro k τ k1 k2 hf g gT
      rw [X5_fill_9]
      by_cases e : O < k
      · refine ⟨τ, by rw [if_pos (by rw [qn_lt (by omega) (by omega)]; exact e), X5_fill_46], g, fun T _ hT => gT T (Nat.lt_of_le_of_lt (Sb_le hT) e) hT⟩
      · have e40 : ∀ (υ : sp_St), X5_fill_40 n (X5_fill_9 n f) υ (nI O) (nI k) = X5_fill_9 n f υ (nI O) (nI (k + 1)) := fun υ => by rw [X5_fill_40, sp_pl, nI_1]
        rw [if_neg (by rw [qn_lt (by omega) (by omega)]; exact e), if_neg (show ¬ (1024 : Int32) ≤ nI k from nI_ge (b := 1024) (by omega) (by omega))]
        by_cases p : Sb k O
        · have hτ := qSC_pk h (qfp_mono g (by omega) (by omega))
          have gg : ∀ T, T < k → Sb T O → τ.2.2.1 61 T = nI (τ.2.2.1 61 T).toNatClampNeg ∧ (τ.2.2.1 61 T).toNatClampNeg ≤ 640 ∧ isF (ct 2) (ct 0 13) Rf m T (τ.2.2.1 61 T).toNatClampNeg := fun T h1 h2 => by
            obtain ⟨x, x1, x2, x3⟩ := gT T h1 h2
            rw [x2, nI_clamp (by omega)]
            exact ⟨rfl, x1, x3⟩
          have sub : ∀ b, k.testBit b = true → qd k (2 ^ b) < k ∧ Sb (qd k (2 ^ b)) O := fun b hb => ⟨qd_lt1 hb, Sb_trans Sb_qd p⟩
          rw [if_pos (by rw [qn_dif0 (by omega)]; exact p), sq_leastF hτ (by omega) hm (by rw [(g.2.2 60 (by omega)).1]; exact h4) (fun k hk => by rw [(g.2.2 63 (by omega)).2]; exact hR k hk) h99 (g := fun T => (τ.2.2.1 61 T).toNatClampNeg) (by omega) (fun b hb hb2 => ⟨(gg _ (sub b hb2).1 (sub b hb2).2).1, (gg _ (sub b hb2).1 (sub b hb2).2).2.1⟩), sp_bd_s, qn_in (by omega) (by omega), sp_ckt, nI_clamp (by omega), sp_pl, e40]
          refine ih (k + 1) _ (by omega) (by omega) (by omega) (qfp_trans g (qfp_sa (by omega) (by omega))) (fun T hT hTO => ?_)
          by_cases eT : T = k
          · subst eT
            exact ⟨_, lfm_640 _, sp_sa_eq, isF_s h99 hm (Nat.lt_of_le_of_lt (Sb_le hTO) hO) (by omega) (fun b hb hb2 => (gg _ (sub b hb2).1 (sub b hb2).2).2.2)⟩
          · rw [sp_sa_nj eT]; exact gT T (by omega) hTO
        · rw [if_neg (by rw [qn_dif0 (by omega)]; exact p), e40]
          refine ih (k + 1) τ (by omega) (by omega) (by omega) g (fun T hT hTO => gT T ?_ hTO)
          have : T ≠ k := fun e => by subst e; exact p hTO
          omega
  rw [X5_fill, sp_pl, sp_pl]
  exact key n 1 _ (by omega) (by omega) (by omega) (qfp_sa (p := 61) (by omega) (by omega)) (fun T hT _ => by
    rw [show T = 0 by omega]
    exact ⟨0, by omega, sp_sa_eq, isF_0⟩)
end
