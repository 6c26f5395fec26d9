-- ===== THE REFERENCE'S RULES: its stack, its changes =====
theorem lp_up2 {α : Type} (F : Nat → Nat → Option α) (N : Nat) (r : Option α) (hx : ∀ f, F (f + 1) N = r) (hs : ∀ f i, i < N → N - (i + 1) < f → F (f + 1) i = F f (i + 1)) : ∀ f i, i ≤ N → N - i < f → F f i = r := by
  intro f
  induction f with
  | zero => intro i _ h; omega
  | succ f ih =>
    intro i hi hf
    by_cases h : i = N
    · subst h; exact hx f
    · rw [hs f i (by omega) (by omega)]
      exact ih (i + 1) (by omega) (by omega)
theorem lp_find2 {α : Type} (F : Nat → Nat → Option α) (N : Nat) (P : Nat → Bool) (r : Option α) (g : Nat → Option α) (hx : ∀ f, F (f + 1) N = r) (hs : ∀ f i, i < N → N - (i + 1) < f → F (f + 1) i = if P i then g i else F f (i + 1)) : ∀ f i, i ≤ N → N - i < f → F f i = match qf P (N - i) i with
    | some j => g j
    | none => r := by
  intro f
  induction f with
  | zero => intro i _ h; omega
  | succ f ih =>
    intro i hi hf
    by_cases h : i = N
    · subst h
      rw [Nat.sub_self, hx f]
      rfl
    · rw [hs f i (by omega) (by omega), show N - i = (N - (i + 1)) + 1 by omega]
      unfold qf
      by_cases hp : P i = true
      · simp [hp]
      · simp only [hp]
        exact ih (i + 1) (by omega) (by omega)
theorem encM_n {k : Nat} (h : k < 10000) : encM k = nI k := by simp [encM, h]
theorem mb_join {n : Nat} {σ : sp_St} {k : Nat} (h1 : 10010 ≤ k) (h2 : k ≤ 10018) (h3 : k ≠ 10016) (a b : Int32) : X12_reckon n σ (encM k) a b = some (σ, qjoin k a b) := by
  rcases (show k = 10010 ∨ k = 10011 ∨ k = 10012 ∨ k = 10013 ∨ k = 10014 ∨ k = 10015 ∨ k = 10017 ∨ k = 10018 by omega) with rfl | rfl | rfl | rfl | rfl | rfl | rfl | rfl
  · rw [show encM 10010 = -20 by decide]; simp [X12_reckon, qjoin]
  · rw [show encM 10011 = -21 by decide]; simp [X12_reckon, qjoin]
  · rw [show encM 10012 = -22 by decide]; simp [X12_reckon, qjoin]
  · rw [show encM 10013 = -23 by decide]
    by_cases hb : b = 0
    · simp [X12_reckon, qjoin, X12_reckon_67, hb]
    · simp [X12_reckon, qjoin, X12_reckon_67, hb, sp_ck]
  · rw [show encM 10014 = -24 by decide]; simp [X12_reckon, qjoin, sp_pl]
  · rw [show encM 10015 = -25 by decide]; simp [X12_reckon, qjoin, sp_pl]
  · rw [show encM 10017 = -26 by decide]
    by_cases ha : a = 0
    · simp [X12_reckon, qjoin, X12_reckon_102, X12_reckon_103, ha]
    · by_cases hb : b = 0
      · simp [X12_reckon, qjoin, X12_reckon_102, X12_reckon_103, ha, hb]
      · simp [X12_reckon, qjoin, X12_reckon_102, X12_reckon_103, ha, hb]
  · rw [show encM 10018 = -27 by decide]
    by_cases ha : a = 0
    · by_cases hb : b = 0
      · simp [X12_reckon, qjoin, X12_reckon_112, X12_reckon_117, ha, hb]
      · simp [X12_reckon, qjoin, X12_reckon_112, X12_reckon_117, ha, hb]
    · simp [X12_reckon, qjoin, X12_reckon_112, X12_reckon_117, ha]
theorem encM_v {k : Nat} (h : k < 10006) : ¬ encM k ≤ -20 := by
  by_cases h1 : k < 10000
  · rw [encM_n h1]
    intro h
    have := Int32.le_iff_toInt_le.mp h
    rw [nI_toInt (by omega)] at this
    have e : (-20 : Int32).toInt = -20 := by decide
    omega
  · rcases (show k = 10000 ∨ k = 10001 ∨ k = 10002 ∨ k = 10003 ∨ k = 10004 ∨ k = 10005 by omega) with rfl | rfl | rfl | rfl | rfl | rfl <;> decide
theorem encM_o : ∀ k, 10010 ≤ k → k ≤ 10018 → encM k ≤ -20 ∧ (encM k = -28 ↔ k = 10016) := by
  intro k h1 h2
  rcases (show k = 10010 ∨ k = 10011 ∨ k = 10012 ∨ k = 10013 ∨ k = 10014 ∨ k = 10015 ∨ k = 10016 ∨ k = 10017 ∨ k = 10018 by omega) with rfl | rfl | rfl | rfl | rfl | rfl | rfl | rfl | rfl <;> decide
section
variable {n p e i f h : Nat} {μ : sp_St}
theorem mb_48 {x : Int32} {k5 : sp_St → Int32 → Int32 → Int32 → Option (sp_St × Int32)} (hh : h < 64) : X12_valueNow_48 n p 1400 k5 μ (nI e) (nI h) (nI i) x (nI h) = k5 (sp_sa μ 22 h x) (nI e) (nI (h + 1)) (nI (i + 1)) := by
  have w6 : sp_in (nI h) 64 = true := qn_in (by omega) (by omega)
  simp only [X12_valueNow_48, X12_valueNow_119, w6, sp_ckt, sp_pl, nI_clamp (show h < 2 ^ 31 by omega), nI_1]
theorem mb_s1 {k : Nat} (he : e ≤ 1400) (hi : i < e) (hk : μ.2.2.1 p i = encM k) (hh : h < 64) (h1 : k < 10000) : X12_valueNow_5 n p 1400 (f + 1) μ (nI e) (nI h) (nI i) = X12_valueNow_5 n p 1400 f (sp_sa μ 22 h (nI k)) (nI e) (nI (h + 1)) (nI (i + 1)) := by
  have w1 : ¬ nI e ≤ nI i := nI_ge (by omega) (by omega)
  have w3 : sp_in (nI i) 1400 = true := qn_in (by omega) (by omega)
  have w4 : sp_g μ p (nI i) = encM k := by rw [qn_g (by omega)]; exact hk
  have w8 : ¬ encM k ≤ -20 := encM_v (by omega)
  have w9 : ¬ encM k < 0 := by rw [encM_n h1]; exact nI_pos (by omega)
  rw [← mb_48 (k5 := X12_valueNow_5 n p 1400 f) hh, X12_valueNow_5, if_neg w1, w3, sp_ckt, w4, sp_pl, if_neg w8, if_neg w9, encM_n h1]
theorem mb_s1v {m : Nat} (he : e ≤ 1400) (hi : i < e) (hk : μ.2.2.1 p i = encM (10000 + m)) (hh : h < 64) (h1 : m < 6) : X12_valueNow_5 n p 1400 (f + 1) μ (nI e) (nI h) (nI i) = X12_valueNow_5 n p 1400 f (sp_sa μ 22 h (μ.2.2.1 21 m)) (nI e) (nI (h + 1)) (nI (i + 1)) := by
  have w1 : ¬ nI e ≤ nI i := nI_ge (by omega) (by omega)
  have w3 : sp_in (nI i) 1400 = true := qn_in (by omega) (by omega)
  have w4 : sp_g μ p (nI i) = encM (10000 + m) := by rw [qn_g (by omega)]; exact hk
  have w8 : ¬ encM (10000 + m) ≤ -20 := encM_v (by omega)
  have w7 : encM (10000 + m) < 0 ∧ (-1 : Int32) - encM (10000 + m) = nI m := by
    rcases (show m = 0 ∨ m = 1 ∨ m = 2 ∨ m = 3 ∨ m = 4 ∨ m = 5 by omega) with rfl | rfl | rfl | rfl | rfl | rfl <;> decide
  have w2 : sp_in (nI m) 6 = true := qn_in h1 (by omega)
  rw [← mb_48 (k5 := X12_valueNow_5 n p 1400 f) hh, X12_valueNow_5, if_neg w1, w3, sp_ckt, w4, sp_pl, if_neg w8, if_pos w7.1, w7.2, w2, sp_ckt, qn_g (show m < 2 ^ 31 by omega)]
theorem mb_s2 (he : e ≤ 1400) (hi : i < e) (hk : μ.2.2.1 p i = encM 10016) (hh : h < 64) : X12_valueNow_5 n p 1400 (f + 1) μ (nI e) (nI (h + 1)) (nI i) = X12_valueNow_5 n p 1400 f (sp_sa μ 22 h (if μ.2.2.1 22 h = 0 then 1 else 0)) (nI e) (nI (h + 1)) (nI (i + 1)) := by
  have w1 : ¬ nI e ≤ nI i := nI_ge (by omega) (by omega)
  have w3 : sp_in (nI i) 1400 = true := qn_in (by omega) (by omega)
  have w4 : sp_g μ p (nI i) = -28 := by rw [qn_g (by omega), hk]; decide
  have w6 : nI (h + 1) - 1 = nI h := nI_pred _
  have w7 : sp_in (nI h) 64 = true := qn_in (by omega) (by omega)
  have w8 : (-28 : Int32) ≤ -20 := by decide
  rw [X12_valueNow_5, if_neg w1, w3, sp_ckt, w4, sp_pl, if_pos w8, if_pos rfl, w6, w7, sp_ckt, sp_pl, sp_ckt, sp_pl, X12_valueNow_119, sp_pl, nI_clamp (show h < 2 ^ 31 by omega), qn_g (show h < 2 ^ 31 by omega), nI_1]
theorem mb_s3 {k : Nat} (he : e ≤ 1400) (hi : i < e) (h1 : 10010 ≤ k) (h2 : k ≤ 10018) (h3 : k ≠ 10016) (hk : μ.2.2.1 p i = encM k) (hh : h + 1 < 64) : X12_valueNow_5 n p 1400 (f + 1) μ (nI e) (nI (h + 2)) (nI i) = X12_valueNow_5 n p 1400 f (sp_sa μ 22 h (qjoin k (μ.2.2.1 22 h) (μ.2.2.1 22 (h + 1)))) (nI e) (nI (h + 1)) (nI (i + 1)) := by
  have w1 : ¬ nI e ≤ nI i := nI_ge (by omega) (by omega)
  have w3 : sp_in (nI i) 1400 = true := qn_in (by omega) (by omega)
  have w4 : sp_g μ p (nI i) = encM k := by rw [qn_g (by omega)]; exact hk
  have w6 : nI (h + 2) + (-1) = nI (h + 1) := pk_m1 (h + 1)
  have w6' : nI (h + 1) - 1 = nI h := nI_pred _
  have w7 : sp_in (nI h) 64 = true := qn_in (by omega) (by omega)
  have w7' : sp_in (nI (h + 1)) 64 = true := qn_in (by omega) (by omega)
  have w9 : ¬ encM k = -28 := fun hh => h3 ((encM_o k h1 h2).2.mp hh)
  rw [X12_valueNow_5, if_neg w1, w3, sp_ckt, w4, sp_pl, if_pos (encM_o k h1 h2).1, if_neg w9, w6, sp_pl, w6', w7, w7', sp_ckt, sp_ckt, mb_join h1 h2 h3, sp_bd_s, sp_ckt, sp_pl, X12_valueNow_119, sp_pl, nI_clamp (show h < 2 ^ 31 by omega), qn_g (show h < 2 ^ 31 by omega), qn_g (show h + 1 < 2 ^ 31 by omega), nI_1]
end
theorem mb_work {n p : Nat} (hp : p ≠ 22) (v : Nat → Int32) {e lv : Nat} (he : e ≤ 1400) (hlv : lv ≤ 6) : ∀ (L : List Nat) (st : List Int32) (f i : Nat) (μ : sp_St), L.length < f → i + L.length = e → st.length ≤ 40 → qok 40 lv L st.length → (∀ k, k < lv → μ.2.2.1 21 k = v k) → (∀ k, k < L.length → μ.2.2.1 p (i + k) = encM (L.getD k 0)) → qst (μ.2.2.1 22) st → sp_wp (X12_valueNow_5 n p 1400 f μ (nI e) (nI st.length) (nI i)) (fun r => r.2 = (qev v L st).headD 0 ∧ r.1.1 = μ.1 ∧ r.1.2.1 = μ.2.1 ∧ r.1.2.2.2 = μ.2.2.2 ∧ ∀ q, q ≠ 22 → r.1.2.2.1 q = μ.2.2.1 q) := by
  intro L
  induction L with
  | nil =>
    intro st f i μ hf hi hm hq hv hc hs
    obtain ⟨f, rfl⟩ : ∃ g, f = g + 1 := ⟨f - 1, by simp at hf; omega⟩
    simp only [List.length_nil, Nat.add_zero] at hi
    subst hi
    unfold qok at hq
    have h1 := hs 0 (by omega)
    rw [hq] at h1 ⊢
    rw [X12_valueNow_5]
    rw [if_pos (Int32.le_refl _), X12_valueNow_125]
    refine wp_of rfl ⟨?_, rfl, rfl, rfl, fun _ _ => rfl⟩
    show μ.2.2.1 22 0 = _
    rw [h1]
    unfold qev
    cases st <;> rfl
  | cons k L ih =>
    intro st f i μ hf hi hm hq hv hc hs
    simp only [List.length_cons] at hf hi
    obtain ⟨f, rfl⟩ : ∃ g, f = g + 1 := ⟨f - 1, by omega⟩
    have hk := hc 0 (by simp)
    simp only [Nat.add_zero, List.getD_cons_zero] at hk
    have hc' : ∀ j, j < L.length → μ.2.2.1 p (i + 1 + j) = encM (L.getD j 0) := fun j hj => by
      have := hc (j + 1) (by simp only [List.length_cons]; omega)
      rw [List.getD_cons_succ] at this
      rw [show i + 1 + j = i + (j + 1) by omega]
      exact this
    unfold qok at hq
    have go : ∀ (st' : List Int32) (x : Int32) (j : Nat), st'.length ≤ 40 → qst (fun m => if m = j then x else μ.2.2.1 22 m) st' → qok 40 lv L st'.length → qstep v k st = st' → sp_wp (X12_valueNow_5 n p 1400 f (sp_sa μ 22 j x) (nI e) (nI st'.length) (nI (i + 1))) (fun r => r.2 = (qev v (k :: L) st).headD 0 ∧ r.1.1 = μ.1 ∧ r.1.2.1 = μ.2.1 ∧ r.1.2.2.2 = μ.2.2.2 ∧ ∀ q, q ≠ 22 → r.1.2.2.1 q = μ.2.2.1 q) := by
      intro st' x j h0 h1 h2 h3
      have hg := ih st' f (i + 1) (sp_sa μ 22 j x) (by omega) (by omega) h0 h2 (fun m hm => by rw [sp_sa_g, if_neg (fun hh => absurd hh.1 (by decide))]; exact hv m hm) (fun m hm => by rw [sp_sa_g, if_neg (fun hh => hp hh.1)]; exact hc' m hm) (by
        intro m hm
        rw [sp_sa_g]
        have := h1 m hm
        simpa using this)
      refine wp_mono hg ?_
      rintro ⟨τ, r⟩ ⟨g1, g2, g3, g4, g5⟩
      refine ⟨?_, g2, g3, g4, fun q hq2 => ?_⟩
      · rw [g1, ← h3]; rfl
      · rw [g5 q hq2]
        funext m
        rw [sp_sa_g, if_neg (fun hh => hq2 hh.1)]
    by_cases hv6 : k < 10000 + lv
    · rw [if_pos hv6] at hq
      by_cases h1 : k < 10000
      · rw [mb_s1 he (by omega) hk (by omega) h1]
        exact go (nI k :: st) (nI k) st.length (by simp only [List.length_cons]; omega) (qst_push hs _) hq.2 (by simp [qstep, h1])
      · obtain ⟨m, rfl⟩ : ∃ m, k = 10000 + m := ⟨k - 10000, by omega⟩
        rw [mb_s1v he (by omega) hk (by omega) (by omega)]
        refine go (μ.2.2.1 21 m :: st) _ st.length (by simp only [List.length_cons]; omega) (qst_push hs _) hq.2 ?_
        unfold qstep
        rw [if_neg h1, if_pos (by omega), hv m (by omega), Nat.add_sub_cancel_left]
    · rw [if_neg hv6] at hq
      by_cases h16 : k = 10016
      · subst h16
        rw [if_pos rfl] at hq
        obtain ⟨x, st, rfl⟩ : ∃ x s2, st = x :: s2 := by
          cases st with
          | nil => simp at hq
          | cons x s2 => exact ⟨x, s2, rfl⟩
        simp only [List.length_cons] at hq hm ⊢
        rw [mb_s2 he (by omega) hk (by omega), qst_top hs]
        refine go ((if x = 0 then 1 else 0) :: st) _ st.length hm (qst_push (qst_pop hs) _) hq.2 ?_
        unfold qstep
        rfl
      · rw [if_neg h16] at hq
        obtain ⟨y, x, st, rfl⟩ : ∃ y x s2, st = y :: x :: s2 := by
          cases st with
          | nil => simp at hq
          | cons y s2 => cases s2 with
            | nil => simp at hq
            | cons x s3 => exact ⟨y, x, s3, rfl⟩
        simp only [List.length_cons] at hq hm ⊢
        rw [mb_s3 he (by omega) hq.1.1 hq.1.2.1 h16 hk (by omega), qst_top (qst_pop hs), show μ.2.2.1 22 (st.length + 1) = y from qst_top hs]
        refine go (qjoin k x y :: st) _ st.length (by simp only [List.length_cons]; omega) (qst_push (qst_pop (qst_pop hs)) _) hq.2 ?_
        unfold qstep
        rw [if_neg (by omega), if_neg (by omega), if_neg h16]
        rfl
section
variable {μ : sp_St} {n : Nat} {ct : Nat → Nat → Nat} {cd : List Nat × List Nat} {sc : Nat → Nat} {stk : Nat → List Nat}
theorem rq_work {p lv : Nat} (hp : p ≠ 22) (hn : 1000 ≤ n) (v : Nat → Int32) {L : List Nat} (hr : L.length ≤ 700) (hl : lv ≤ 6) (hq : qok 40 lv L 0) (hv : ∀ k, k < lv → μ.2.2.1 21 k = v k) (hc : ∀ k, k < L.length → μ.2.2.1 p k = encM (L.getD k 0)) : sp_wp (X12_valueNow n μ p 1400 (nI L.length)) (fun r => r.2 = qrv v L ∧ mfs μ r.1) := by
  rw [X12_valueNow, sp_pl, sp_pl]
  refine wp_mono (mb_work hp v (by omega) hl L [] n 0 μ (by omega) (by omega) (by decide) hq hv (fun k hk => by rw [Nat.zero_add]; exact hc k hk) (fun i hi => absurd hi (by simp))) ?_
  rintro ⟨τ, r⟩ ⟨g1, g2, g3, g4, g5⟩
  exact ⟨g1, ⟨g3, fun p hp => g5 p (by omega), fun k _ _ => by rw [g2]⟩, fun p hp => g5 p (by omega), by rw [g2]⟩
theorem rq_ch163 (h : mSC μ ct cd sc stk) (hn : 1000 ≤ n) (hD : qcd cd) {b : Nat} (r : Bool) (hl : (if r then cd.2 else cd.1).length ≠ 0) (hv : ∀ k, k < (if r then 4 else 6) → μ.2.2.1 21 k = qval ct sc b k) : sp_wp (X12_changeOf_163 n μ (if r then nI 0 else nI 1) (if r then 11 else 10) 99 0) (fun x => x.2 = nI (qclamp (qrv (qval ct sc b) (if r then cd.2 else cd.1))) ∧ mfs μ x.1) := by
  have h0 := h
  obtain ⟨⟨hns, hnb, hpt, hl4, hl5, hA1, hA2, hA6, hE1, hE2, hl7, hl8⟩, ⟨h47, h48, hAn, hWh, hRo, hMa, hSt, hFe⟩, hQ, ⟨hb10, hs5, hG, hH, hL, hU, hO⟩, hB, hPl⟩ := h
  have hX := fun k => Nat.lt_trans (hB k) (by decide : (1048576 : Nat) < 2 ^ 31)
  have hY : ∀ p k, ct p k < 2 ^ 31 := fun p k => Nat.lt_trans (hG p k) (by decide)
  have key : ∀ τ x, x = qrv (qval ct sc b) (if r then cd.2 else cd.1) → mfs μ τ → sp_wp (sp_pl (sp_min 99 x) fun v7 => sp_pl (sp_max 0 v7) fun v9 => some (τ, v9)) (fun x => x.2 = nI (qclamp (qrv (qval ct sc b) (if r then cd.2 else cd.1))) ∧ mfs μ x.1) := by
    intro τ x hx hf
    refine wp_of rfl ⟨?_, hf⟩
    rw [← hx]
    exact (qclamp_is x).1
  cases r with
  | true =>
    have w : sp_g μ 3 (5 : Int32) = nI cd.2.length := hl5
    have w2 : sp_in (5 : Int32) 12 = true := by decide
    rw [X12_changeOf_163, if_pos rfl, if_pos rfl, if_pos (show nI 0 = 0 from rfl), sp_pl, w2, sp_ckt, w]
    refine wp_bd (wp_mono (rq_work (by decide) hn (qval ct sc b) hl8 (by decide) (hD.2 hl) hv hE2) ?_)
    rintro ⟨τ, x⟩ ⟨g1, g2⟩
    exact key τ x g1 g2
  | false =>
    have w : sp_g μ 3 (4 : Int32) = nI cd.1.length := hl4
    have w2 : sp_in (4 : Int32) 12 = true := by decide
    simp only [X12_changeOf_163, Bool.false_eq_true, if_false, sp_pl]
    rw [if_neg (show ¬ nI 1 = 0 by decide), w2, sp_ckt, w]
    refine wp_bd (wp_mono (rq_work (by decide) hn (qval ct sc b) hl7 (by decide) (hD.1 hl) hv hE1) ?_)
    rintro ⟨τ, x⟩ ⟨g1, g2⟩
    exact key τ x g1 g2
end
