section
variable {n j : Nat} {σ μ : sp_St}
theorem op_feed (hn : 5000 ≤ n) (h : Inv j σ μ) (a1 a2 a3 a4 a5 : Int32) : agi j (X11_feed n σ a1 a2 a3 a4 a5) (X12_feed n μ a1 a2 a3 a4 a5) := by
  have hI := Inv_code (v := 0) h
  rw [X12_feed, sp_pl, X11_feed]
  generalize sp_si μ 0 3 0 = μ1 at *
  have hI' := hI
  obtain ⟨_, _, _, _, _, _, _, _, _, _, _, _, ⟨tp, t1, t2, t3, t4, _⟩, _⟩ := hI'
  have T0 : Tp σ μ1 σ μ1 tp := ⟨t1, t2, t3, t4, rfl, fun _ _ _ => rfl, fun _ _ => rfl, fun _ _ => rfl, fun _ _ => rfl⟩
  rw [t2, t3, show nI tp + (20 : Int32) = nI (tp + 20) from nI_add tp 20]
  by_cases p : tp ≤ 680
  · rw [if_pos (show nI tp ≤ 680 from by show nI tp ≤ nI 680; rw [qn_le (by omega) (by omega)]; exact p), if_pos (show nI (tp + 20) ≤ 700 from by show nI (tp + 20) ≤ nI 700; rw [qn_le (by omega) (by omega)]; omega), sp_pl]
    obtain ⟨f, hf⟩ : ∃ f, n = (f + 1) + 4 + 4 + 4 + 4 + 4 := ⟨n - 21, by omega⟩
    obtain ⟨s1, m1, c1, d1, T1⟩ := lock_f (f := (f + 1) + 4 + 4 + 4 + 4) (a1 := a1) (a2 := a2) (a3 := a3) (a4 := a4) (a5 := a5) (g := 0) (n := n) (by omega) (by omega) T0 (by omega)
    obtain ⟨s2, m2, c2, d2, T2⟩ := lock_f (f := (f + 1) + 4 + 4 + 4) (a1 := a1) (a2 := a2) (a3 := a3) (a4 := a4) (a5 := a5) (g := 1) (n := n) (by omega) (by omega) T1 (by omega)
    obtain ⟨s3, m3, c3, d3, T3⟩ := lock_f (f := (f + 1) + 4 + 4) (a1 := a1) (a2 := a2) (a3 := a3) (a4 := a4) (a5 := a5) (g := 2) (n := n) (by omega) (by omega) T2 (by omega)
    obtain ⟨s4, m4, c4, d4, T4⟩ := lock_f (f := (f + 1) + 4) (a1 := a1) (a2 := a2) (a3 := a3) (a4 := a4) (a5 := a5) (g := 3) (n := n) (by omega) (by omega) T3 (by omega)
    obtain ⟨s5, m5, c5, d5, T5⟩ := lock_f (f := f + 1) (a1 := a1) (a2 := a2) (a3 := a3) (a4 := a4) (a5 := a5) (g := 4) (n := n) (by omega) (by omega) T4 (by omega)
    have E1 : X11_feedNumber n σ a1 = some s1 := c1
    have E2 : X11_feedNumber n s1 a2 = some s2 := c2
    have E3 : X11_feedNumber n s2 a3 = some s3 := c3
    have E4 : X11_feedNumber n s3 a4 = some s4 := c4
    have E5 : X11_feedNumber n s4 a5 = some s5 := c5
    have last : X12_feed_23 n (f + 1) m5 a1 a2 a3 a4 a5 (nI (4 * (4 + 1))) = some (m5, m5.1 0 15) := by rw [X12_feed_23, if_pos (show (20 : Int32) ≤ nI (4 * (4 + 1)) by decide), X12_feed_120]
    have R : X12_feed_23 n ((f + 1) + 4 + 4 + 4 + 4 + 4) μ1 a1 a2 a3 a4 a5 (nI (4 * 0)) = some (m5, m5.1 0 15) := by rw [d1, d2, d3, d4, d5, last]
    rw [E1, sp_bv_s, E2, sp_bv_s, E3, sp_bv_s, E4, sp_bv_s, E5, sp_bv_s]
    refine ⟨s5, m5, s5.1 0 1, rfl, ?_, Inv_Tp hI T5⟩
    rw [T5.2.1, ← T5.2.2.1]
    have : X12_feed_23 n n μ1 a1 a2 a3 a4 a5 (nI (4 * 0)) = some (m5, m5.1 0 15) := by
      rw [← hf] at R
      exact R
    exact this
  · rw [if_neg (show ¬ nI tp ≤ 680 from by show ¬ nI tp ≤ nI 680; rw [qn_le (by omega) (by omega)]; exact p), if_neg (show ¬ nI (tp + 20) ≤ 700 from by show ¬ nI (tp + 20) ≤ nI 700; rw [qn_le (by omega) (by omega)]; omega)]
    exact ⟨σ, μ1, -1, rfl, rfl, hI⟩
end
