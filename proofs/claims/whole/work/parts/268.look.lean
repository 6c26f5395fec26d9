section
variable {n j c s : Nat} {σ μ : sp_St} {ct : Nat → Nat → Nat} {cd : List Nat × List Nat} {sc : Nat → Nat} {stk : Nat → List Nat} {sb sd sa : Nat → Nat}
theorem gd_memL {L : List Nat} {z : Nat} (h : z < L.length) : L.getD z 0 ∈ L := by
  rw [List.getD_eq_getElem?_getD, List.getElem?_eq_getElem h]
  exact List.getElem_mem h
theorem mw_same {ν : sp_St} (h1 : ν.1 = μ.1) {r : Nat} (hr : r = 25 ∨ r = 35) (h2 : ∀ p, p ≠ r → ν.2.2.1 p = μ.2.2.1 p) : mw μ ν := by
  refine ⟨fun x _ => ?_, fun p hp => h2 p (by omega), fun k _ => by rw [h1]⟩
  unfold rowOf
  rw [h1, h2 14 (by omega), h2 15 (by omega), h2 16 (by omega), h2 17 (by omega), h2 18 (by omega), h2 19 (by omega)]
theorem op_look (hn : 5000 ≤ n) (h : Inv j σ μ) (a1 : Int32) : agr j kd1 (X11_look n σ a1) (X12_look n μ a1) := by
  obtain ⟨c, ct, cd, sc, stk, hI, h3, hS, hM, hG, hD, hc⟩ := Inv_now h
  have hK := hS.2.2.2.2.2.1
  have hb10 := hK.1
  rw [X12_look, sp_pl, X11_look]
  generalize sp_si μ 0 3 0 = μ1 at *
  obtain ⟨s, sb, sd, sa, hcs, hms⟩ := Inv_see hI hS hM
  rcases wh_cases (n := n) (σ := σ) a1 (m := 1) (by omega) with ⟨w, hw, rfl⟩ | ⟨e1, e3, e2⟩
  · obtain ⟨τ, b1, b2, b3, b4⟩ := sq_seekNext hcs hS (by omega : 1000 ≤ n) hG.1 hD hG.2.2.2.1
    obtain ⟨ν1, d1, d2, d3, d4⟩ := rq_tellFits hms hM (by omega : 1000 ≤ n) hG.1 hD hG.2.2.2.1
    have hl := fL_len (fQ ct cd s sb sd sa sc) (100 * ct 0 13)
    have hM1 := mSC_w hM d2
    obtain ⟨ν2, p1, p2, p3, p4, p5⟩ := md_start hM1 (by omega : 100 ≤ n) (p := 25) (by omega) (by omega)
    have w12 : mw ν1 ν2 := mw_same p5 (Or.inl rfl) p4
    have hmem : ∀ z, z < (fL (fQ ct cd s sb sd sa sc) (100 * ct 0 13)).length → (fL (fQ ct cd s sb sd sa sc) (100 * ct 0 13)).getD z 0 < 100 * ct 0 13 := fun z hz => (fL_mem _ _ _ (gd_memL hz)).1
    obtain ⟨ν3, q1, q2, q3, q4⟩ := rq_look35 (nI w) hM1 (by omega : 1100 ≤ n) hG.1 hD hG.2.2.2.1 (by omega) hmem n 0 ν2 (by omega) (by omega) w12 p2.1 (by rw [p5]; exact d3) (fun k hk => by rw [p4 33 (by omega)]; exact d4 k hk) (fun z' hz' => by omega)
    have i99 : ∀ i, i < ct 0 13 → ∀ z, z < (fL (fQ ct cd s sb sd sa sc) (100 * ct 0 13)).length → sD ct cd sc ((fL (fQ ct cd s sb sd sa sc) (100 * ct 0 13)).getD z 0) i ≤ 99 := fun i hi z hz => by
      have := hmem z hz
      exact (qdn_I (cd := cd) hK (qI_ang hK hG.1 (b := (fL (fQ ct cd s sb sd sa sc) (100 * ct 0 13)).getD z 0 / 100) (v := (fL (fQ ct cd s sb sd sa sc) (100 * ct 0 13)).getD z 0 % 100) (by omega) (by omega)) 3).1.1 i hi
    obtain ⟨ν4, r1, r2, r3, r4⟩ := rq_best (μ := ν3) (N := ct 0 13) (len := (fL (fQ ct cd s sb sd sa sc) (100 * ct 0 13)).length) (x := fun i z => sD ct cd sc ((fL (fQ ct cd s sb sd sa sc) (100 * ct 0 13)).getD z 0) i) (D := aD (an (fQ ct cd s sb sd sa sc) (sD ct cd sc) (100 * ct 0 13))) (nI w) (by omega : 1100 ≤ n) hb10 (by omega) (mSC_w hM1 q2).1.2.1 q3 (fun z hz i hi => q4 z hz i hi) i99 (fun i hi => by
      rw [aD_100 (fun v hv => by rw [← sA_fL]; exact sA_100 _ (i99 i hi) v hv), ← sA_fL])
    have w34 : mw ν3 ν4 := mw_same r2 (Or.inr rfl) r4
    have wall : mw μ1 ν4 := mw_trans d2 (mw_trans q2 w34)
    have hR : Inv j τ ν4 := Inv_w hI (cD_q b2) wall
    have h3' : ν4.1 0 3 = 0 := by rw [wall.2.2 3 (by omega)]; exact h3
    rw [show X11_needWhat n σ (nI w) 1 = some (σ, none) from wh_ok (m := 1) hw (by omega), sp_bx_n, b1, sp_bv_s, if_neg (nI_pos (by omega)), if_pos (show nI w ≤ 1 from by show nI w ≤ nI 1; rw [qn_le (by omega) (by omega)]; exact hw), d1, sp_bv_s, p1, sp_bv_s, sp_pl, show X12_look_35 n n ν2 (nI w) 0 = X12_look_35 n n ν2 (nI w) (nI 0) from rfl, q1, X12_look_117, sp_pl, sp_pl, sp_pl, show X12_look_124 n n ν3 (nI w) (-1) 0 0 = X12_look_124 n n ν3 (nI w) (-1) (nI 0) (nI 0) from rfl, r1]
    by_cases w0 : nI w = 0
    · rw [if_pos w0, if_pos w0, b3]
      exact agr_ret rfl rfl hR h3'
    · rw [if_neg w0, if_neg w0, b4]
      exact agr_ret rfl rfl hR h3'
  · rw [show X11_needWhat n σ a1 1 = some (σ, some 1) from e1, sp_bx_s]
    have : ∀ (x : Option (sp_St × Int32)), (if a1 < 0 then X12_look_14 n μ1 else if a1 ≤ 1 then x else X12_look_14 n μ1) = X12_look_14 n μ1 := fun x => by
      rcases e3 with e3 | ⟨e3, e4⟩
      · rw [if_pos e3]
      · rw [if_neg e3, if_neg (show ¬ a1 ≤ 1 from e4)]
    rw [this, X12_look_14, rq_failI, sp_bd_s]
    exact agr_thr rfl rfl (Inv_code hI) sp_si_eq rfl (by decide)
end
