/-! The law at a fresh object, call by call (the kernel runs them) -/
set_option maxRecDepth 100000 in
theorem q_c0 : s_run s_X0 100000 99999 s_never 100 m_L_law q_R 18 [(.branch 4 (.branch 0 (.leaf (.ofNat 0)) (.leaf (.ofNat 0))) (.leaf (.ofNat 63)), .ofNat 0, .ofNat 0)] (q_H0 q_g0) q_L0 [] = true := by decide +kernel
set_option maxRecDepth 100000 in
theorem q_c1 : s_run s_X0 100000 99999 s_never 100 m_L_law q_R 18 [(.branch 4 (.branch 0 (.leaf (.ofNat 0)) (.leaf (.ofNat 0))) (.leaf (.ofNat 63)), .ofNat 1, .ofNat 1)] (q_H0 q_g0) q_L0 [] = true := by decide +kernel
set_option maxRecDepth 100000 in
theorem q_c2 : s_run s_X0 100000 99999 s_never 100 m_L_law q_R 18 [(.branch 4 (.branch 0 (.leaf (.ofNat 0)) (.leaf (.ofNat 0))) (.leaf (.ofNat 63)), .ofNat 2, .ofNat 2)] (q_H0 q_g0) q_L0 [] = true := by decide +kernel
set_option maxRecDepth 100000 in
theorem q_c3 : s_run s_X0 100000 99999 s_never 100 m_L_law q_R 18 [(.branch 4 (.branch 0 (.leaf (.ofNat 0)) (.leaf (.ofNat 0))) (.leaf (.ofNat 63)), .ofNat 3, .ofNat 3)] (q_H0 q_g0) q_L0 [] = true := by decide +kernel
set_option maxRecDepth 100000 in
theorem q_c4 : s_run s_X0 100000 99999 s_never 100 m_L_law q_R 18 [(.branch 4 (.branch 0 (.leaf (.ofNat 0)) (.leaf (.ofNat 0))) (.leaf (.ofNat 63)), .ofNat 4, .ofNat 4)] (q_H0 q_g0) q_L0 [] = true := by decide +kernel
set_option maxRecDepth 100000 in
theorem q_c5 : s_run s_X0 100000 99999 s_never 100 m_L_law q_R 18 [(.branch 4 (.branch 0 (.leaf (.ofNat 0)) (.leaf (.ofNat 0))) (.leaf (.ofNat 63)), .ofNat 5, .ofNat 5)] (q_H0 q_g0) q_L0 [] = true := by decide +kernel
set_option maxRecDepth 100000 in
theorem q_c6 : s_run s_X0 100000 99999 s_never 100 m_L_law q_R 18 [(.branch 4 (.branch 0 (.leaf (.ofNat 0)) (.leaf (.ofNat 0))) (.leaf (.ofNat 63)), .ofNat 6, .ofNat 6)] (q_H0 q_g0) q_L0 [] = true := by decide +kernel
set_option maxRecDepth 100000 in
theorem q_c7 : s_run s_X0 100000 99999 s_never 100 m_L_law q_R 18 [(.branch 4 (.branch 0 (.leaf (.ofNat 0)) (.leaf (.ofNat 0))) (.leaf (.ofNat 63)), .ofNat 7, .ofNat 7)] (q_H0 q_g0) q_L0 [] = true := by decide +kernel
set_option maxRecDepth 100000 in
theorem q_c10 : s_run s_X0 100000 99999 s_never 100 m_L_law q_R 18 [(.branch 4 (.branch 0 (.leaf (.ofNat 0)) (.leaf (.ofNat 0))) (.leaf (.ofNat 63)), .ofNat 10, .ofNat 10)] (q_H0 q_g0) q_L0 [] = true := by decide +kernel
set_option maxRecDepth 100000 in
theorem q_c11 : s_run s_X0 100000 99999 s_never 100 m_L_law q_R 18 [(.branch 4 (.branch 0 (.leaf (.ofNat 0)) (.leaf (.ofNat 0))) (.leaf (.ofNat 63)), .ofNat 11, .ofNat 11)] (q_H0 q_g0) q_L0 [] = true := by decide +kernel
set_option maxRecDepth 100000 in
theorem q_c13 : s_run s_X0 100000 99999 s_never 100 m_L_law q_R 18 [(.branch 4 (.branch 0 (.leaf (.ofNat 0)) (.leaf (.ofNat 0))) (.leaf (.ofNat 63)), .ofNat 13, .ofNat 13)] (q_H0 q_g0) q_L0 [] = true := by decide +kernel
set_option maxRecDepth 100000 in
theorem q_c14 : s_run s_X0 100000 99999 s_never 100 m_L_law q_R 18 [(.branch 4 (.branch 0 (.leaf (.ofNat 0)) (.leaf (.ofNat 0))) (.leaf (.ofNat 63)), .ofNat 14, .ofNat 14)] (q_H0 q_g0) q_L0 [] = true := by decide +kernel
set_option maxRecDepth 100000 in
theorem q_c15 : s_run s_X0 100000 99999 s_never 100 m_L_law q_R 18 [(.branch 4 (.branch 0 (.leaf (.ofNat 0)) (.leaf (.ofNat 0))) (.leaf (.ofNat 63)), .ofNat 15, .ofNat 15)] (q_H0 q_g0) q_L0 [] = true := by decide +kernel
set_option maxRecDepth 100000 in
theorem q_c16 : s_run s_X0 100000 99999 s_never 100 m_L_law q_R 18 [(.branch 4 (.branch 0 (.leaf (.ofNat 0)) (.leaf (.ofNat 0))) (.leaf (.ofNat 63)), .ofNat 16, .ofNat 16)] (q_H0 q_g0) q_L0 [] = true := by decide +kernel
set_option maxRecDepth 100000 in
theorem q_c17 : s_run s_X0 100000 99999 s_never 100 m_L_law q_R 18 [(.branch 4 (.branch 0 (.leaf (.ofNat 0)) (.leaf (.ofNat 0))) (.leaf (.ofNat 63)), .ofNat 17, .ofNat 17)] (q_H0 q_g0) q_L0 [] = true := by decide +kernel
set_option maxRecDepth 100000 in
theorem q_c18 : s_run s_X0 100000 99999 s_never 100 m_L_law q_R 18 [(.branch 4 (.branch 0 (.leaf (.ofNat 0)) (.leaf (.ofNat 0))) (.leaf (.ofNat 63)), .ofNat 18, .ofNat 18)] (q_H0 q_g0) q_L0 [] = true := by decide +kernel
set_option maxRecDepth 100000 in
theorem q_c21 : s_run s_X0 100000 99999 s_never 100 m_L_law q_R 18 [(.branch 4 (.branch 0 (.leaf (.ofNat 0)) (.leaf (.ofNat 0))) (.leaf (.ofNat 63)), .ofNat 21, .ofNat 21)] (q_H0 q_g0) q_L0 [] = true := by decide +kernel
set_option maxRecDepth 100000 in
theorem q_c23 : s_run s_X0 100000 99999 s_never 100 m_L_law q_R 18 [(.branch 4 (.branch 0 (.leaf (.ofNat 0)) (.leaf (.ofNat 0))) (.leaf (.ofNat 63)), .ofNat 23, .ofNat 23)] (q_H0 q_g0) q_L0 [] = true := by decide +kernel
set_option maxRecDepth 100000 in
theorem q_c24 : s_run s_X0 100000 99999 s_never 100 m_L_law q_R 18 [(.branch 4 (.branch 0 (.leaf (.ofNat 0)) (.leaf (.ofNat 0))) (.leaf (.ofNat 63)), .ofNat 24, .ofNat 24)] (q_H0 q_g0) q_L0 [] = true := by decide +kernel
set_option maxRecDepth 100000 in
theorem q_c25 : s_run s_X0 100000 99999 s_never 100 m_L_law q_R 18 [(.branch 4 (.branch 0 (.leaf (.ofNat 0)) (.leaf (.ofNat 0))) (.leaf (.ofNat 63)), .ofNat 25, .ofNat 25)] (q_H0 q_g0) q_L0 [] = true := by decide +kernel
set_option maxRecDepth 100000 in
theorem q_c26 : s_run s_X0 100000 99999 s_never 100 m_L_law q_R 18 [(.branch 4 (.branch 0 (.leaf (.ofNat 0)) (.leaf (.ofNat 0))) (.leaf (.ofNat 63)), .ofNat 26, .ofNat 26)] (q_H0 q_g0) q_L0 [] = true := by decide +kernel
set_option maxRecDepth 100000 in
theorem q_c29 : s_run s_X0 100000 99999 s_never 100 m_L_law q_R 18 [(.branch 4 (.branch 0 (.leaf (.ofNat 0)) (.leaf (.ofNat 0))) (.leaf (.ofNat 63)), .ofNat 29, .ofNat 29)] (q_H0 q_g0) q_L0 [] = true := by decide +kernel
set_option maxRecDepth 100000 in
theorem q_c31 : s_run s_X0 100000 99999 s_never 100 m_L_law q_R 18 [(.branch 4 (.branch 0 (.leaf (.ofNat 0)) (.leaf (.ofNat 0))) (.leaf (.ofNat 63)), .ofNat 31, .ofNat 31)] (q_H0 q_g0) q_L0 [] = true := by decide +kernel
set_option maxRecDepth 100000 in
theorem q_c32 : s_run s_X0 100000 99999 s_never 100 m_L_law q_R 18 [(.branch 4 (.branch 0 (.leaf (.ofNat 0)) (.leaf (.ofNat 0))) (.leaf (.ofNat 63)), .ofNat 32, .ofNat 32)] (q_H0 q_g0) q_L0 [] = true := by decide +kernel
set_option maxRecDepth 100000 in
theorem q_c33 : s_run s_X0 100000 99999 s_never 100 m_L_law q_R 18 [(.branch 4 (.branch 0 (.leaf (.ofNat 0)) (.leaf (.ofNat 0))) (.leaf (.ofNat 63)), .ofNat 33, .ofNat 33)] (q_H0 q_g0) q_L0 [] = true := by decide +kernel
set_option maxRecDepth 100000 in
theorem q_c34 : s_run s_X0 100000 99999 s_never 100 m_L_law q_R 18 [(.branch 4 (.branch 0 (.leaf (.ofNat 0)) (.leaf (.ofNat 0))) (.leaf (.ofNat 63)), .ofNat 34, .ofNat 34)] (q_H0 q_g0) q_L0 [] = true := by decide +kernel
set_option maxRecDepth 100000 in
theorem q_c35 : s_run s_X0 100000 99999 s_never 100 m_L_law q_R 18 [(.branch 4 (.branch 0 (.leaf (.ofNat 0)) (.leaf (.ofNat 0))) (.leaf (.ofNat 63)), .ofNat 35, .ofNat 35)] (q_H0 q_g0) q_L0 [] = true := by decide +kernel
set_option maxRecDepth 100000 in
theorem q_c36 : s_run s_X0 100000 99999 s_never 100 m_L_law q_R 18 [(.branch 4 (.branch 0 (.leaf (.ofNat 0)) (.leaf (.ofNat 0))) (.leaf (.ofNat 63)), .ofNat 36, .ofNat 36)] (q_H0 q_g0) q_L0 [] = true := by decide +kernel
set_option maxRecDepth 100000 in
theorem q_c37 : s_run s_X0 100000 99999 s_never 100 m_L_law q_R 18 [(.branch 4 (.branch 0 (.leaf (.ofNat 0)) (.leaf (.ofNat 0))) (.leaf (.ofNat 63)), .ofNat 37, .ofNat 37)] (q_H0 q_g0) q_L0 [] = true := by decide +kernel
set_option maxRecDepth 100000 in
theorem q_c38 : s_run s_X0 100000 99999 s_never 100 m_L_law q_R 18 [(.branch 4 (.branch 0 (.leaf (.ofNat 0)) (.leaf (.ofNat 0))) (.leaf (.ofNat 63)), .ofNat 38, .ofNat 38)] (q_H0 q_g0) q_L0 [] = true := by decide +kernel
set_option maxRecDepth 100000 in
theorem q_c39 : s_run s_X0 100000 99999 s_never 100 m_L_law q_R 18 [(.branch 4 (.branch 0 (.leaf (.ofNat 0)) (.leaf (.ofNat 0))) (.leaf (.ofNat 63)), .ofNat 39, .ofNat 39)] (q_H0 q_g0) q_L0 [] = true := by decide +kernel
set_option maxRecDepth 100000 in
theorem q_c40 : s_run s_X0 100000 99999 s_never 100 m_L_law q_R 18 [(.branch 4 (.branch 0 (.leaf (.ofNat 0)) (.leaf (.ofNat 0))) (.leaf (.ofNat 63)), .ofNat 40, .ofNat 40)] (q_H0 q_g0) q_L0 [] = true := by decide +kernel
set_option maxRecDepth 100000 in
theorem q_c42 : s_run s_X0 100000 99999 s_never 100 m_L_law q_R 18 [(.branch 4 (.branch 0 (.leaf (.ofNat 0)) (.leaf (.ofNat 0))) (.leaf (.ofNat 63)), .ofNat 42, .ofNat 42)] (q_H0 q_g0) q_L0 [] = true := by decide +kernel
set_option maxRecDepth 100000 in
theorem q_c43 : s_run s_X0 100000 99999 s_never 100 m_L_law q_R 18 [(.branch 4 (.branch 0 (.leaf (.ofNat 0)) (.leaf (.ofNat 0))) (.leaf (.ofNat 63)), .ofNat 43, .ofNat 43)] (q_H0 q_g0) q_L0 [] = true := by decide +kernel
set_option maxRecDepth 100000 in
theorem q_c46 : s_run s_X0 100000 99999 s_never 100 m_L_law q_R 18 [(.branch 4 (.branch 0 (.leaf (.ofNat 0)) (.leaf (.ofNat 0))) (.leaf (.ofNat 63)), .ofNat 46, .ofNat 46)] (q_H0 q_g0) q_L0 [] = true := by decide +kernel
set_option maxRecDepth 100000 in
theorem q_c47 : s_run s_X0 100000 99999 s_never 100 m_L_law q_R 18 [(.branch 4 (.branch 0 (.leaf (.ofNat 0)) (.leaf (.ofNat 0))) (.leaf (.ofNat 63)), .ofNat 47, .ofNat 63)] (q_H0 q_g0) q_L0 [] = true := by decide +kernel
