theorem gm_mailOn : GoodIn zTB (wsV RX11 516 RX11 yX11_mailOn (.code yX11_mailOn cX11_mailOn 4 (some .boolean) :: zTB)) := z_goodV (zmT7 169 rfl rfl) (zmT7 171 rfl rfl) (zmT0 140 (by decide +kernel) rfl) (zmT1 6 rfl rfl) cd_mailOn
theorem cd_comesOn : Cond.code yX11_comesOn cX11_comesOn 8 (some .boolean) ∈ zTB := zmT7 164 rfl rfl
theorem gm_comesOn : GoodIn zTB (wsV RX11 519 RX11 yX11_comesOn (.code yX11_comesOn cX11_comesOn 8 (some .boolean) :: zTB)) := z_goodV (zmT7 161 rfl rfl) (zmT7 163 rfl rfl) (zmT0 138 (by decide +kernel) rfl) (zmT1 6 rfl rfl) cd_comesOn
theorem cd_on : Cond.code yX11_on cX11_on 2 (some .boolean) ∈ zTB := zmT7 160 rfl rfl
