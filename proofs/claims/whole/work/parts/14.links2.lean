theorem Kc_RX11_397 : Cond.constant RX11 397 (-1000000000) ∈ fh_U := fh_at 1069 (by decide +kernel) rfl
theorem Kc_RX12_354 : Cond.constant RX12 354 (-1000000000) ∈ fh_U := fh_at 1598 (by decide +kernel) rfl
theorem Kc_RX12_440 : Cond.constant RX12 440 (1000000) ∈ fh_U := fh_at 1698 (by decide +kernel) rfl
