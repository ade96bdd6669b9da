/-! The law's loop, checked by the kernel: 24 .. 35 -/
theorem lw_24 : x_ex x_KL p_GT p_MT m_L_law lwD lwC lwU lwY (some lwT24.2.2.2.2.2.2.2) 20000 true (lwT24.1, x_hd lwT24) = true := by decide +kernel
theorem lw_25 : x_ex x_KL p_GT p_MT m_L_law lwD lwC lwU lwY (some lwT25.2.2.2.2.2.2.2) 20000 true (lwT25.1, x_hd lwT25) = true := by decide +kernel
theorem lw_26 : x_ex x_KL p_GT p_MT m_L_law lwD lwC lwU lwY (some lwT26.2.2.2.2.2.2.2) 20000 true (lwT26.1, x_hd lwT26) = true := by decide +kernel
theorem lw_27 : x_ex x_KL p_GT p_MT m_L_law lwD lwC lwU lwY (some lwT27.2.2.2.2.2.2.2) 20000 true (lwT27.1, x_hd lwT27) = true := by decide +kernel
theorem lw_28 : x_ex x_KL p_GT p_MT m_L_law lwD lwC lwU lwY (some lwT28.2.2.2.2.2.2.2) 20000 true (lwT28.1, x_hd lwT28) = true := by decide +kernel
theorem lw_29 : x_ex x_KL p_GT p_MT m_L_law lwD lwC lwU lwY (some lwT29.2.2.2.2.2.2.2) 20000 true (lwT29.1, x_hd lwT29) = true := by decide +kernel
theorem lw_30 : x_ex x_KL p_GT p_MT m_L_law lwD lwC lwU lwY (some lwT30.2.2.2.2.2.2.2) 20000 true (lwT30.1, x_hd lwT30) = true := by decide +kernel
theorem lw_31 : x_ex x_KL p_GT p_MT m_L_law lwD lwC lwU lwY (some lwT31.2.2.2.2.2.2.2) 20000 true (lwT31.1, x_hd lwT31) = true := by decide +kernel
theorem lw_32 : x_ex x_KL p_GT p_MT m_L_law lwD lwC lwU lwY (some lwT32.2.2.2.2.2.2.2) 20000 true (lwT32.1, x_hd lwT32) = true := by decide +kernel
theorem lw_33 : x_ex x_KL p_GT p_MT m_L_law lwD lwC lwU lwY (some lwT33.2.2.2.2.2.2.2) 20000 true (lwT33.1, x_hd lwT33) = true := by decide +kernel
theorem lw_34 : x_ex x_KL p_GT p_MT m_L_law lwD lwC lwU lwY (some lwT34.2.2.2.2.2.2.2) 20000 true (lwT34.1, x_hd lwT34) = true := by decide +kernel
theorem lw_35 : x_ex x_KL p_GT p_MT m_L_law lwD lwC lwU lwY (some lwT35.2.2.2.2.2.2.2) 20000 true (lwT35.1, x_hd lwT35) = true := by decide +kernel
