/-! The law at a fresh object, longer calls (the kernel runs them) -/
set_option maxRecDepth 100000 in
theorem q_c8 : s_run s_X0 100000 99999 s_never 100 m_L_law q_R 18 [(.branch 4 (.branch 0 (.leaf (.ofNat 0)) (.leaf (.ofNat 0))) (.leaf (.ofNat 63)), .ofNat 8, .ofNat 8)] (q_H0 q_g0) q_L0 [] = true := by decide +kernel
set_option maxRecDepth 100000 in
theorem q_c22 : s_run s_X0 100000 99999 s_never 100 m_L_law q_R 18 [(.branch 4 (.branch 0 (.leaf (.ofNat 0)) (.leaf (.ofNat 0))) (.leaf (.ofNat 63)), .ofNat 22, .ofNat 22)] (q_H0 q_g0) q_L0 [] = true := by decide +kernel
set_option maxRecDepth 100000 in
theorem q_c44 : s_run s_X0 100000 99999 s_never 100 m_L_law q_R 18 [(.branch 4 (.branch 0 (.leaf (.ofNat 0)) (.leaf (.ofNat 0))) (.leaf (.ofNat 63)), .ofNat 44, .ofNat 44)] (q_H0 q_g0) q_L0 [] = true := by decide +kernel
set_option maxRecDepth 100000 in
theorem q_c45 : s_run s_X0 100000 99999 s_never 100 m_L_law q_R 18 [(.branch 4 (.branch 0 (.leaf (.ofNat 0)) (.leaf (.ofNat 0))) (.leaf (.ofNat 63)), .ofNat 45, .ofNat 45)] (q_H0 q_g0) q_L0 [] = true := by decide +kernel
