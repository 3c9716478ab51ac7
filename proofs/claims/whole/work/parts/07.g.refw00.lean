theorem iX11 : ∀ q ∈ u_ws RX11 TX11 65, q ∈ zTB := by decide +kernel
