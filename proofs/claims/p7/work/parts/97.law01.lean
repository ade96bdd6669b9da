/-! The law's loop, checked by the kernel: 12 .. 23 -/
theorem lw_12 : x_ex x_KL p_GT p_MT m_L_law lwD lwC lwU lwY (some lwT12.2.2.2.2.2.2.2) 20000 true (lwT12.1, x_hd lwT12) = true := by decide +kernel
theorem lw_13 : x_ex x_KL p_GT p_MT m_L_law lwD lwC lwU lwY (some lwT13.2.2.2.2.2.2.2) 20000 true (lwT13.1, x_hd lwT13) = true := by decide +kernel
theorem lw_14 : x_ex x_KL p_GT p_MT m_L_law lwD lwC lwU lwY (some lwT14.2.2.2.2.2.2.2) 20000 true (lwT14.1, x_hd lwT14) = true := by decide +kernel
theorem lw_15 : x_ex x_KL p_GT p_MT m_L_law lwD lwC lwU lwY (some lwT15.2.2.2.2.2.2.2) 20000 true (lwT15.1, x_hd lwT15) = true := by decide +kernel
theorem lw_16 : x_ex x_KL p_GT p_MT m_L_law lwD lwC lwU lwY (some lwT16.2.2.2.2.2.2.2) 20000 true (lwT16.1, x_hd lwT16) = true := by decide +kernel
theorem lw_17 : x_ex x_KL p_GT p_MT m_L_law lwD lwC lwU lwY (some lwT17.2.2.2.2.2.2.2) 20000 true (lwT17.1, x_hd lwT17) = true := by decide +kernel
theorem lw_18 : x_ex x_KL p_GT p_MT m_L_law lwD lwC lwU lwY (some lwT18.2.2.2.2.2.2.2) 20000 true (lwT18.1, x_hd lwT18) = true := by decide +kernel
theorem lw_19 : x_ex x_KL p_GT p_MT m_L_law lwD lwC lwU lwY (some lwT19.2.2.2.2.2.2.2) 20000 true (lwT19.1, x_hd lwT19) = true := by decide +kernel
theorem lw_20 : x_ex x_KL p_GT p_MT m_L_law lwD lwC lwU lwY (some lwT20.2.2.2.2.2.2.2) 20000 true (lwT20.1, x_hd lwT20) = true := by decide +kernel
theorem lw_21 : x_ex x_KL p_GT p_MT m_L_law lwD lwC lwU lwY (some lwT21.2.2.2.2.2.2.2) 20000 true (lwT21.1, x_hd lwT21) = true := by decide +kernel
theorem lw_22 : x_ex x_KL p_GT p_MT m_L_law lwD lwC lwU lwY (some lwT22.2.2.2.2.2.2.2) 20000 true (lwT22.1, x_hd lwT22) = true := by decide +kernel
theorem lw_23 : x_ex x_KL p_GT p_MT m_L_law lwD lwC lwU lwY (some lwT23.2.2.2.2.2.2.2) 20000 true (lwT23.1, x_hd lwT23) = true := by decide +kernel
