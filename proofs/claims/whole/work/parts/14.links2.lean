theorem Kc_RX11_397 : Cond.constant RX11 397 (-1000000000) ∈ fh_U := fh_at 1065 (by decide +kernel) rfl
theorem Kc_RX12_354 : Cond.constant RX12 354 (-1000000000) ∈ fh_U := fh_at 1594 (by decide +kernel) rfl
theorem Kc_RX12_440 : Cond.constant RX12 440 (1000000) ∈ fh_U := fh_at 1694 (by decide +kernel) rfl
