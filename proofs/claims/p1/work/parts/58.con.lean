/-! The constructors (the kernel runs them) -/
noncomputable def q_KS0 : s_T := fun F H L S => s_mat [] F H L S [] (q_H0 q_g0) q_L0 []
set_option maxRecDepth 100000 in
theorem q_con : s_go s_X0 100000 18 q_KS0 100 m_L_law (fun _ _ _ => false) 0 [] (q_Hs q_g0) [.inr (16, .leaf 0)] [] = true := by decide +kernel
set_option maxRecDepth 100000 in
theorem q_con0 : s_run s_X0 100000 99999 s_never 100 m_L_law q_R 0 [] (q_Hs []) [.inr (16, .leaf 0)] [] = true := by decide +kernel
set_option maxRecDepth 100000 in
theorem q_con1 : s_run s_X0 100000 99999 s_never 100 m_L_law q_R 0 [] (q_Hs [0]) [.inr (16, .leaf 0)] [] = true := by decide +kernel
set_option maxRecDepth 100000 in
theorem q_con2 : s_run s_X0 100000 99999 s_never 100 m_L_law q_R 0 [] (q_Hs [0, 1]) [.inr (16, .leaf 0)] [] = true := by decide +kernel
set_option maxRecDepth 100000 in
theorem q_con3 : s_run s_X0 100000 99999 s_never 100 m_L_law q_R 0 [] (q_Hs [0, 1, 2]) [.inr (16, .leaf 0)] [] = true := by decide +kernel
set_option maxRecDepth 100000 in
theorem q_con4 : s_run s_X0 100000 99999 s_never 100 m_L_law q_R 0 [] (q_Hs [0, 1, 2, 3]) [.inr (16, .leaf 0)] [] = true := by decide +kernel
set_option maxRecDepth 100000 in
theorem q_con5 : s_run s_X0 100000 99999 s_never 100 m_L_law q_R 0 [] (q_Hs [0, 1, 2, 3, 4]) [.inr (16, .leaf 0)] [] = true := by decide +kernel
set_option maxRecDepth 100000 in
theorem q_con6 : s_run s_X0 100000 99999 s_never 100 m_L_law q_R 0 [] (q_Hs [0, 1, 2, 3, 4, 5]) [.inr (16, .leaf 0)] [] = true := by decide +kernel
