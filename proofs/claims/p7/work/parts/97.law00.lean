/-! The law's loop, checked by the kernel: 0 .. 11 -/
theorem lw_0 : x_ex x_KL p_GT p_MT m_L_law lwD lwC lwU lwY (some lwT0.2.2.2.2.2.2.2) 20000 true (lwT0.1, x_hd lwT0) = true := by decide +kernel
theorem lw_1 : x_ex x_KL p_GT p_MT m_L_law lwD lwC lwU lwY (some lwT1.2.2.2.2.2.2.2) 20000 true (lwT1.1, x_hd lwT1) = true := by decide +kernel
theorem lw_2 : x_ex x_KL p_GT p_MT m_L_law lwD lwC lwU lwY (some lwT2.2.2.2.2.2.2.2) 20000 true (lwT2.1, x_hd lwT2) = true := by decide +kernel
theorem lw_3 : x_ex x_KL p_GT p_MT m_L_law lwD lwC lwU lwY (some lwT3.2.2.2.2.2.2.2) 20000 true (lwT3.1, x_hd lwT3) = true := by decide +kernel
theorem lw_4 : x_ex x_KL p_GT p_MT m_L_law lwD lwC lwU lwY (some lwT4.2.2.2.2.2.2.2) 20000 true (lwT4.1, x_hd lwT4) = true := by decide +kernel
theorem lw_5 : x_ex x_KL p_GT p_MT m_L_law lwD lwC lwU lwY (some lwT5.2.2.2.2.2.2.2) 20000 true (lwT5.1, x_hd lwT5) = true := by decide +kernel
theorem lw_6 : x_ex x_KL p_GT p_MT m_L_law lwD lwC lwU lwY (some lwT6.2.2.2.2.2.2.2) 20000 true (lwT6.1, x_hd lwT6) = true := by decide +kernel
theorem lw_7 : x_ex x_KL p_GT p_MT m_L_law lwD lwC lwU lwY (some lwT7.2.2.2.2.2.2.2) 20000 true (lwT7.1, x_hd lwT7) = true := by decide +kernel
theorem lw_8 : x_ex x_KL p_GT p_MT m_L_law lwD lwC lwU lwY (some lwT8.2.2.2.2.2.2.2) 20000 true (lwT8.1, x_hd lwT8) = true := by decide +kernel
theorem lw_9 : x_ex x_KL p_GT p_MT m_L_law lwD lwC lwU lwY (some lwT9.2.2.2.2.2.2.2) 20000 true (lwT9.1, x_hd lwT9) = true := by decide +kernel
theorem lw_10 : x_ex x_KL p_GT p_MT m_L_law lwD lwC lwU lwY (some lwT10.2.2.2.2.2.2.2) 20000 true (lwT10.1, x_hd lwT10) = true := by decide +kernel
theorem lw_11 : x_ex x_KL p_GT p_MT m_L_law lwD lwC lwU lwY (some lwT11.2.2.2.2.2.2.2) 20000 true (lwT11.1, x_hd lwT11) = true := by decide +kernel
