def cBy (x s : Int32) : Int32 := ((x.toUInt32 >>> (s.toUInt32 &&& Int32.toUInt32 31)).toInt32) &&& ((255 : Int32))
def rBy (x s : Int32) : Int32 := (x >>> (s &&& 31)) &&& ((255 : Int32))
theorem by24 (x : Int32) : cBy x 24 = rBy x 24 := Int32.toBitVec_inj.mp (by_eq (x := x.toBitVec) (s := 24) (by omega))
theorem by16 (x : Int32) : cBy x 16 = rBy x 16 := Int32.toBitVec_inj.mp (by_eq (x := x.toBitVec) (s := 16) (by omega))
theorem by08 (x : Int32) : cBy x 8 = rBy x 8 := Int32.toBitVec_inj.mp (by_eq (x := x.toBitVec) (s := 8) (by omega))
theorem by00 (x : Int32) : cBy x 0 = rBy x 0 := Int32.toBitVec_inj.mp (by_eq (x := x.toBitVec) (s := 0) (by omega))
def selA (a1 a2 a3 a4 a5 : Int32) (k : Nat) : Int32 := if 4 ≤ k then if 8 ≤ k then if 12 ≤ k then if 16 ≤ k then a5 else a4 else a3 else a2 else a1
theorem sh_is : ∀ k, k < 20 → (24 : Int32) - 8 * (nI k - nI k / 4 * 4) = nI (24 - 8 * (k % 4)) := by decide +kernel
section
variable {n j : Nat} {σ μ : sp_St}
theorem rq_f1 {f k tp : Nat} {a1 a2 a3 a4 a5 : Int32} (hk : k < 20) (h : μ.1 0 15 = nI tp) (ht : tp < 700) : X12_feed_23 n (f + 1) μ a1 a2 a3 a4 a5 (nI k) = X12_feed_23 n f (apM μ tp (rBy (selA a1 a2 a3 a4 a5 k) (nI (24 - 8 * (k % 4))))) a1 a2 a3 a4 a5 (nI (k + 1)) := by
  have e76 : ∀ z, X12_feed_76 n (X12_feed_23 n f) μ a1 a2 a3 a4 a5 (nI k) z = X12_feed_23 n f (apM μ tp (rBy z (nI (24 - 8 * (k % 4))))) a1 a2 a3 a4 a5 (nI (k + 1)) := fun z => by
    have h' : (sp_sa μ 13 tp (rBy z (nI (24 - 8 * (k % 4))))).1 0 15 = nI tp := h
    rw [X12_feed_76, show (!decide ((4 : Int32) = 0)) = true by decide, sp_ckt, h, qn_in ht (by omega), sp_ckt, nI_clamp (by omega), sh_is k hk, sp_pl, sp_pl]
    show sp_pl (nI k + 1) (fun x7 => X12_feed_23 n f (sp_si (sp_sa μ 13 tp (rBy z (nI (24 - 8 * (k % 4))))) 0 15 ((sp_sa μ 13 tp (rBy z (nI (24 - 8 * (k % 4))))).1 0 15 + 1)) a1 a2 a3 a4 a5 x7) = _
    rw [h', sp_pl, nI_1, nI_1]
    rfl
  have g4 : ((4 : Int32) ≤ nI k) = (4 ≤ k) := qn_le (a := 4) (by omega) (by omega)
  have g8 : ((8 : Int32) ≤ nI k) = (8 ≤ k) := qn_le (a := 8) (by omega) (by omega)
  have g12 : ((12 : Int32) ≤ nI k) = (12 ≤ k) := qn_le (a := 12) (by omega) (by omega)
  have g16 : ((16 : Int32) ≤ nI k) = (16 ≤ k) := qn_le (a := 16) (by omega) (by omega)
  rw [X12_feed_23, if_neg (show ¬ (20 : Int32) ≤ nI k from nI_ge (b := 20) hk (by omega)), e76, e76, e76, e76, e76]
  unfold selA
  simp only [g4, g8, g12, g16]
  by_cases c4 : 4 ≤ k
  · by_cases c8 : 8 ≤ k
    · by_cases c12 : 12 ≤ k
      · by_cases c16 : 16 ≤ k
        · simp only [if_pos c4, if_pos c8, if_pos c12, if_pos c16]
        · simp only [if_pos c4, if_pos c8, if_pos c12, if_neg c16]
      · simp only [if_pos c4, if_pos c8, if_neg c12]
    · simp only [if_pos c4, if_neg c8]
  · simp only [if_neg c4]
theorem sq_f1 {f tp : Nat} {a s : Int32} (hs : ¬ s < 0) (h : σ.1 0 1 = nI tp) (ht : tp < 700) : X11_feedNumber_3 n (f + 1) σ a s = X11_feedNumber_3 n f (apC σ tp (cBy a s)) a (s + (-8)) := by
  have h' : (sp_sa σ 1 tp (cBy a s)).1 0 1 = nI tp := h
  rw [X11_feedNumber_3, if_neg hs, h, if_neg (show ¬ (700 : Int32) ≤ nI tp from nI_ge (b := 700) ht (by omega)), qn_in ht (by omega), sp_ckt, nI_clamp (by omega), sp_pl, sp_pl]
  show X11_feedNumber_43 n (X11_feedNumber_3 n f) (sp_si (sp_sa σ 1 tp (cBy a s)) 0 1 ((sp_sa σ 1 tp (cBy a s)).1 0 1 + 1)) a s = _
  rw [h', nI_1, X11_feedNumber_43, sp_pl]
  rfl
theorem lock_f {σ0 μ0 : sp_St} {g tp f : Nat} {a1 a2 a3 a4 a5 : Int32} (hg : g < 5) (hn : 10 ≤ n) (h : Tp σ0 μ0 σ μ tp) (ht : tp + 4 ≤ 700) : ∃ τ ν, X11_feedNumber n σ (selA a1 a2 a3 a4 a5 (4 * g)) = some τ ∧ X12_feed_23 n (f + 4) μ a1 a2 a3 a4 a5 (nI (4 * g)) = X12_feed_23 n f ν a1 a2 a3 a4 a5 (nI (4 * (g + 1))) ∧ Tp σ0 μ0 τ ν (tp + 4) := by
  have sel : ∀ r, r < 4 → selA a1 a2 a3 a4 a5 (4 * g + r) = selA a1 a2 a3 a4 a5 (4 * g) := fun r hr => by
    rcases (show g = 0 ∨ g = 1 ∨ g = 2 ∨ g = 3 ∨ g = 4 by omega) with rfl | rfl | rfl | rfl | rfl <;> rcases (show r = 0 ∨ r = 1 ∨ r = 2 ∨ r = 3 by omega) with rfl | rfl | rfl | rfl <;> rfl
  have md : ∀ r, r < 4 → (4 * g + r) % 4 = r := fun r hr => by omega
  generalize hA : selA a1 a2 a3 a4 a5 (4 * g) = A at *
  obtain ⟨n', rfl⟩ : ∃ n', n = n' + 5 := ⟨n - 5, by omega⟩
  obtain ⟨b0, k0, e0⟩ := by_is (A >>> ((24 : Int32) &&& 31))
  obtain ⟨b1, k1, e1⟩ := by_is (A >>> ((16 : Int32) &&& 31))
  obtain ⟨b2, k2, e2⟩ := by_is (A >>> ((8 : Int32) &&& 31))
  obtain ⟨b3, k3, e3⟩ := by_is (A >>> ((0 : Int32) &&& 31))
  have r0 : rBy A 24 = nI b0 := e0
  have r1 : rBy A 16 = nI b1 := e1
  have r2 : rBy A 8 = nI b2 := e2
  have r3 : rBy A 0 = nI b3 := e3
  have T0 := Tp_s h (by omega) k0
  have T1 := Tp_s T0 (by omega) k1
  have T2 := Tp_s T1 (by omega) k2
  have T3 := Tp_s T2 (by omega) k3
  refine ⟨_, _, ?_, ?_, T3⟩
  · rw [X11_feedNumber, sp_pl, sq_f1 (f := n' + 4) (by decide) h.2.1 (by omega), by24, r0, show (24 : Int32) + (-8) = 16 by decide, sq_f1 (f := n' + 3) (by decide) T0.2.1 (by omega), by16, r1, show (16 : Int32) + (-8) = 8 by decide, sq_f1 (f := n' + 2) (by decide) T1.2.1 (by omega), by08, r2, show (8 : Int32) + (-8) = 0 by decide, sq_f1 (f := n' + 1) (by decide) T2.2.1 (by omega), by00, r3, X11_feedNumber_3, if_pos (show (0 : Int32) + (-8) < 0 by decide)]
  · have s0 := sel 0 (by omega)
    have m0 := md 0 (by omega)
    rw [show f + 4 = (f + 3) + 1 by omega, show nI (4 * g) = nI (4 * g + 0) from rfl, rq_f1 (by omega) h.2.2.1 (by omega), s0, m0, show nI (24 - 8 * 0) = 24 from rfl, r0]
    rw [show 4 * g + 0 + 1 = 4 * g + 1 by omega, show f + 3 = (f + 2) + 1 by omega, rq_f1 (by omega) T0.2.2.1 (by omega), sel 1 (by omega), md 1 (by omega), show nI (24 - 8 * 1) = 16 from rfl, r1]
    rw [show 4 * g + 1 + 1 = 4 * g + 2 by omega, show f + 2 = (f + 1) + 1 by omega, rq_f1 (by omega) T1.2.2.1 (by omega), sel 2 (by omega), md 2 (by omega), show nI (24 - 8 * 2) = 8 from rfl, r2]
    rw [show 4 * g + 2 + 1 = 4 * g + 3 by omega, rq_f1 (by omega) T2.2.2.1 (by omega), sel 3 (by omega), md 3 (by omega), show nI (24 - 8 * 3) = 0 from rfl, r3, show 4 * g + 3 + 1 = 4 * (g + 1) by omega]
end
