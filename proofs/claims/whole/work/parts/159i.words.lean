theorem wc_155 : Cond.instantiable RX11 13 ∈ sp_T := sp_T_in 155 (by decide +kernel) (by decide +kernel)
theorem wc_1586 : Cond.instantiable RX12 64 ∈ sp_T := sp_T_in 1586 (by decide +kernel) (by decide +kernel)
