theorem thX11_110_1 : Cond.classLink RX11 108 (sp_exn 2) ∈ sp_T := sp_T_in 858 (by decide +kernel) (by decide +kernel)
theorem thX11_110_2 : Cond.initialized (sp_exn 2) ∈ sp_T := sp_T_in 143 (by decide +kernel) (by decide +kernel)
theorem thX11_110_3 : ∀ w ∈ (vx_at0 RX11 110 (sp_exn 2) sp_sup).filter goodWord, w ∈ sp_T := sp_T_sub (by decide +kernel)
theorem thX11_110_4 : ∀ w ∈ (vx_at0 RX11 110 (sp_exn 2) sp_sup).filter (fun w => !goodWord w), w ∈ Cond.castable (sp_exn 2) (sp_exn 2) :: sp_decl := by decide +kernel
theorem thX11_110_5 : ∀ w ∈ Cond.classLink RX11 108 (sp_exn 2) :: Cond.initialized (sp_exn 2) :: vx_at0 RX11 110 (sp_exn 2) sp_sup, vx_ot w = true := by decide +kernel
theorem thX11_110_6 : Bundle.fit (sp_exn 2) = true := by decide +kernel
theorem thX11_160_1 : Cond.classLink RX11 158 (sp_exn 1) ∈ sp_T := sp_T_in 1205 (by decide +kernel) (by decide +kernel)
theorem thX11_160_2 : Cond.initialized (sp_exn 1) ∈ sp_T := sp_T_in 152 (by decide +kernel) (by decide +kernel)
theorem thX11_160_3 : ∀ w ∈ (vx_at0 RX11 160 (sp_exn 1) sp_sup).filter goodWord, w ∈ sp_T := sp_T_sub (by decide +kernel)
theorem thX11_160_4 : ∀ w ∈ (vx_at0 RX11 160 (sp_exn 1) sp_sup).filter (fun w => !goodWord w), w ∈ Cond.castable (sp_exn 1) (sp_exn 1) :: sp_decl := by decide +kernel
theorem thX11_160_5 : ∀ w ∈ Cond.classLink RX11 158 (sp_exn 1) :: Cond.initialized (sp_exn 1) :: vx_at0 RX11 160 (sp_exn 1) sp_sup, vx_ot w = true := by decide +kernel
theorem thX11_160_6 : Bundle.fit (sp_exn 1) = true := by decide +kernel
