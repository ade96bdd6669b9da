/-! The law's loop, checked by the kernel: 36 .. 47 -/
theorem lw_36 : x_ex x_KL p_GT p_MT m_L_law lwD lwC lwU lwY (some lwT36.2.2.2.2.2.2.2) 20000 true (lwT36.1, x_hd lwT36) = true := by decide +kernel
theorem lw_37 : x_ex x_KL p_GT p_MT m_L_law lwD lwC lwU lwY (some lwT37.2.2.2.2.2.2.2) 20000 true (lwT37.1, x_hd lwT37) = true := by decide +kernel
theorem lw_38 : x_ex x_KL p_GT p_MT m_L_law lwD lwC lwU lwY (some lwT38.2.2.2.2.2.2.2) 20000 true (lwT38.1, x_hd lwT38) = true := by decide +kernel
theorem lw_39 : x_ex x_KL p_GT p_MT m_L_law lwD lwC lwU lwY (some lwT39.2.2.2.2.2.2.2) 20000 true (lwT39.1, x_hd lwT39) = true := by decide +kernel
theorem lw_40 : x_ex x_KL p_GT p_MT m_L_law lwD lwC lwU lwY (some lwT40.2.2.2.2.2.2.2) 20000 true (lwT40.1, x_hd lwT40) = true := by decide +kernel
theorem lw_41 : x_ex x_KL p_GT p_MT m_L_law lwD lwC lwU lwY (some lwT41.2.2.2.2.2.2.2) 20000 true (lwT41.1, x_hd lwT41) = true := by decide +kernel
theorem lw_42 : x_ex x_KL p_GT p_MT m_L_law lwD lwC lwU lwY (some lwT42.2.2.2.2.2.2.2) 20000 true (lwT42.1, x_hd lwT42) = true := by decide +kernel
theorem lw_43 : x_ex x_KL p_GT p_MT m_L_law lwD lwC lwU lwY (some lwT43.2.2.2.2.2.2.2) 20000 true (lwT43.1, x_hd lwT43) = true := by decide +kernel
theorem lw_44 : x_ex x_KL p_GT p_MT m_L_law lwD lwC lwU lwY (some lwT44.2.2.2.2.2.2.2) 20000 true (lwT44.1, x_hd lwT44) = true := by decide +kernel
theorem lw_45 : x_ex x_KL p_GT p_MT m_L_law lwD lwC lwU lwY (some lwT45.2.2.2.2.2.2.2) 20000 true (lwT45.1, x_hd lwT45) = true := by decide +kernel
theorem lw_46 : x_ex x_KL p_GT p_MT m_L_law lwD lwC lwU lwY (some lwT46.2.2.2.2.2.2.2) 20000 true (lwT46.1, x_hd lwT46) = true := by decide +kernel
theorem lw_47 : x_ex x_KL p_GT p_MT m_L_law lwD lwC lwU lwY (some lwT47.2.2.2.2.2.2.2) 20000 true (lwT47.1, x_hd lwT47) = true := by decide +kernel
