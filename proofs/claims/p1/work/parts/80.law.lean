/-! The law at every script of at most 7 ints -/
theorem q_simp {k : Int} {xs : List Int32} (hl : xs.length = 7) (hk : (xs.getD 0 0 &&& 63).toInt = k) (hm : s_mat q_σ8 [(q_E0, k, k)] (q_H0 q_g0) q_L0 [] [(q_E0, k, k)] (q_H0 q_g0) q_L0 [] = true) (hg : s_run s_X0 100000 99999 s_never 100 m_L_law q_R 18 [(q_E0, k, k)] (q_H0 q_g0) q_L0 [] = true) : p_wp p_GT p_MT 100 m_L_law 0 [(0, .ref 0)] [] (p_h0 xs) q_Q :=
  q_caseX hl hk s_X0_ok (Fx := []) (fun f hf => by cases hf) hm hg
set_option maxRecDepth 100000 in
theorem q_m0 : s_mat q_σ8 [(q_E0, .ofNat 0, .ofNat 0)] (q_H0 q_g0) q_L0 [] [(q_E0, .ofNat 0, .ofNat 0)] (q_H0 q_g0) q_L0 [] = true := by decide +kernel
set_option maxRecDepth 100000 in
theorem q_m1 : s_mat q_σ8 [(q_E0, .ofNat 1, .ofNat 1)] (q_H0 q_g0) q_L0 [] [(q_E0, .ofNat 1, .ofNat 1)] (q_H0 q_g0) q_L0 [] = true := by decide +kernel
set_option maxRecDepth 100000 in
theorem q_m2 : s_mat q_σ8 [(q_E0, .ofNat 2, .ofNat 2)] (q_H0 q_g0) q_L0 [] [(q_E0, .ofNat 2, .ofNat 2)] (q_H0 q_g0) q_L0 [] = true := by decide +kernel
set_option maxRecDepth 100000 in
theorem q_m3 : s_mat q_σ8 [(q_E0, .ofNat 3, .ofNat 3)] (q_H0 q_g0) q_L0 [] [(q_E0, .ofNat 3, .ofNat 3)] (q_H0 q_g0) q_L0 [] = true := by decide +kernel
set_option maxRecDepth 100000 in
theorem q_m4 : s_mat q_σ8 [(q_E0, .ofNat 4, .ofNat 4)] (q_H0 q_g0) q_L0 [] [(q_E0, .ofNat 4, .ofNat 4)] (q_H0 q_g0) q_L0 [] = true := by decide +kernel
set_option maxRecDepth 100000 in
theorem q_m5 : s_mat q_σ8 [(q_E0, .ofNat 5, .ofNat 5)] (q_H0 q_g0) q_L0 [] [(q_E0, .ofNat 5, .ofNat 5)] (q_H0 q_g0) q_L0 [] = true := by decide +kernel
set_option maxRecDepth 100000 in
theorem q_m6 : s_mat q_σ8 [(q_E0, .ofNat 6, .ofNat 6)] (q_H0 q_g0) q_L0 [] [(q_E0, .ofNat 6, .ofNat 6)] (q_H0 q_g0) q_L0 [] = true := by decide +kernel
set_option maxRecDepth 100000 in
theorem q_m7 : s_mat q_σ8 [(q_E0, .ofNat 7, .ofNat 7)] (q_H0 q_g0) q_L0 [] [(q_E0, .ofNat 7, .ofNat 7)] (q_H0 q_g0) q_L0 [] = true := by decide +kernel
set_option maxRecDepth 100000 in
theorem q_m8 : s_mat q_σ8 [(q_E0, .ofNat 8, .ofNat 8)] (q_H0 q_g0) q_L0 [] [(q_E0, .ofNat 8, .ofNat 8)] (q_H0 q_g0) q_L0 [] = true := by decide +kernel
set_option maxRecDepth 100000 in
theorem q_m10 : s_mat q_σ8 [(q_E0, .ofNat 10, .ofNat 10)] (q_H0 q_g0) q_L0 [] [(q_E0, .ofNat 10, .ofNat 10)] (q_H0 q_g0) q_L0 [] = true := by decide +kernel
set_option maxRecDepth 100000 in
theorem q_m11 : s_mat q_σ8 [(q_E0, .ofNat 11, .ofNat 11)] (q_H0 q_g0) q_L0 [] [(q_E0, .ofNat 11, .ofNat 11)] (q_H0 q_g0) q_L0 [] = true := by decide +kernel
set_option maxRecDepth 100000 in
theorem q_m13 : s_mat q_σ8 [(q_E0, .ofNat 13, .ofNat 13)] (q_H0 q_g0) q_L0 [] [(q_E0, .ofNat 13, .ofNat 13)] (q_H0 q_g0) q_L0 [] = true := by decide +kernel
set_option maxRecDepth 100000 in
theorem q_m14 : s_mat q_σ8 [(q_E0, .ofNat 14, .ofNat 14)] (q_H0 q_g0) q_L0 [] [(q_E0, .ofNat 14, .ofNat 14)] (q_H0 q_g0) q_L0 [] = true := by decide +kernel
set_option maxRecDepth 100000 in
theorem q_m15 : s_mat q_σ8 [(q_E0, .ofNat 15, .ofNat 15)] (q_H0 q_g0) q_L0 [] [(q_E0, .ofNat 15, .ofNat 15)] (q_H0 q_g0) q_L0 [] = true := by decide +kernel
set_option maxRecDepth 100000 in
theorem q_m16 : s_mat q_σ8 [(q_E0, .ofNat 16, .ofNat 16)] (q_H0 q_g0) q_L0 [] [(q_E0, .ofNat 16, .ofNat 16)] (q_H0 q_g0) q_L0 [] = true := by decide +kernel
set_option maxRecDepth 100000 in
theorem q_m17 : s_mat q_σ8 [(q_E0, .ofNat 17, .ofNat 17)] (q_H0 q_g0) q_L0 [] [(q_E0, .ofNat 17, .ofNat 17)] (q_H0 q_g0) q_L0 [] = true := by decide +kernel
set_option maxRecDepth 100000 in
theorem q_m18 : s_mat q_σ8 [(q_E0, .ofNat 18, .ofNat 18)] (q_H0 q_g0) q_L0 [] [(q_E0, .ofNat 18, .ofNat 18)] (q_H0 q_g0) q_L0 [] = true := by decide +kernel
set_option maxRecDepth 100000 in
theorem q_m21 : s_mat q_σ8 [(q_E0, .ofNat 21, .ofNat 21)] (q_H0 q_g0) q_L0 [] [(q_E0, .ofNat 21, .ofNat 21)] (q_H0 q_g0) q_L0 [] = true := by decide +kernel
set_option maxRecDepth 100000 in
theorem q_m22 : s_mat q_σ8 [(q_E0, .ofNat 22, .ofNat 22)] (q_H0 q_g0) q_L0 [] [(q_E0, .ofNat 22, .ofNat 22)] (q_H0 q_g0) q_L0 [] = true := by decide +kernel
set_option maxRecDepth 100000 in
theorem q_m23 : s_mat q_σ8 [(q_E0, .ofNat 23, .ofNat 23)] (q_H0 q_g0) q_L0 [] [(q_E0, .ofNat 23, .ofNat 23)] (q_H0 q_g0) q_L0 [] = true := by decide +kernel
set_option maxRecDepth 100000 in
theorem q_m24 : s_mat q_σ8 [(q_E0, .ofNat 24, .ofNat 24)] (q_H0 q_g0) q_L0 [] [(q_E0, .ofNat 24, .ofNat 24)] (q_H0 q_g0) q_L0 [] = true := by decide +kernel
set_option maxRecDepth 100000 in
theorem q_m25 : s_mat q_σ8 [(q_E0, .ofNat 25, .ofNat 25)] (q_H0 q_g0) q_L0 [] [(q_E0, .ofNat 25, .ofNat 25)] (q_H0 q_g0) q_L0 [] = true := by decide +kernel
set_option maxRecDepth 100000 in
theorem q_m26 : s_mat q_σ8 [(q_E0, .ofNat 26, .ofNat 26)] (q_H0 q_g0) q_L0 [] [(q_E0, .ofNat 26, .ofNat 26)] (q_H0 q_g0) q_L0 [] = true := by decide +kernel
set_option maxRecDepth 100000 in
theorem q_m29 : s_mat q_σ8 [(q_E0, .ofNat 29, .ofNat 29)] (q_H0 q_g0) q_L0 [] [(q_E0, .ofNat 29, .ofNat 29)] (q_H0 q_g0) q_L0 [] = true := by decide +kernel
set_option maxRecDepth 100000 in
theorem q_m31 : s_mat q_σ8 [(q_E0, .ofNat 31, .ofNat 31)] (q_H0 q_g0) q_L0 [] [(q_E0, .ofNat 31, .ofNat 31)] (q_H0 q_g0) q_L0 [] = true := by decide +kernel
set_option maxRecDepth 100000 in
theorem q_m32 : s_mat q_σ8 [(q_E0, .ofNat 32, .ofNat 32)] (q_H0 q_g0) q_L0 [] [(q_E0, .ofNat 32, .ofNat 32)] (q_H0 q_g0) q_L0 [] = true := by decide +kernel
set_option maxRecDepth 100000 in
theorem q_m33 : s_mat q_σ8 [(q_E0, .ofNat 33, .ofNat 33)] (q_H0 q_g0) q_L0 [] [(q_E0, .ofNat 33, .ofNat 33)] (q_H0 q_g0) q_L0 [] = true := by decide +kernel
set_option maxRecDepth 100000 in
theorem q_m34 : s_mat q_σ8 [(q_E0, .ofNat 34, .ofNat 34)] (q_H0 q_g0) q_L0 [] [(q_E0, .ofNat 34, .ofNat 34)] (q_H0 q_g0) q_L0 [] = true := by decide +kernel
set_option maxRecDepth 100000 in
theorem q_m35 : s_mat q_σ8 [(q_E0, .ofNat 35, .ofNat 35)] (q_H0 q_g0) q_L0 [] [(q_E0, .ofNat 35, .ofNat 35)] (q_H0 q_g0) q_L0 [] = true := by decide +kernel
set_option maxRecDepth 100000 in
theorem q_m36 : s_mat q_σ8 [(q_E0, .ofNat 36, .ofNat 36)] (q_H0 q_g0) q_L0 [] [(q_E0, .ofNat 36, .ofNat 36)] (q_H0 q_g0) q_L0 [] = true := by decide +kernel
set_option maxRecDepth 100000 in
theorem q_m37 : s_mat q_σ8 [(q_E0, .ofNat 37, .ofNat 37)] (q_H0 q_g0) q_L0 [] [(q_E0, .ofNat 37, .ofNat 37)] (q_H0 q_g0) q_L0 [] = true := by decide +kernel
set_option maxRecDepth 100000 in
theorem q_m38 : s_mat q_σ8 [(q_E0, .ofNat 38, .ofNat 38)] (q_H0 q_g0) q_L0 [] [(q_E0, .ofNat 38, .ofNat 38)] (q_H0 q_g0) q_L0 [] = true := by decide +kernel
set_option maxRecDepth 100000 in
theorem q_m39 : s_mat q_σ8 [(q_E0, .ofNat 39, .ofNat 39)] (q_H0 q_g0) q_L0 [] [(q_E0, .ofNat 39, .ofNat 39)] (q_H0 q_g0) q_L0 [] = true := by decide +kernel
set_option maxRecDepth 100000 in
theorem q_m40 : s_mat q_σ8 [(q_E0, .ofNat 40, .ofNat 40)] (q_H0 q_g0) q_L0 [] [(q_E0, .ofNat 40, .ofNat 40)] (q_H0 q_g0) q_L0 [] = true := by decide +kernel
set_option maxRecDepth 100000 in
theorem q_m42 : s_mat q_σ8 [(q_E0, .ofNat 42, .ofNat 42)] (q_H0 q_g0) q_L0 [] [(q_E0, .ofNat 42, .ofNat 42)] (q_H0 q_g0) q_L0 [] = true := by decide +kernel
set_option maxRecDepth 100000 in
theorem q_m43 : s_mat q_σ8 [(q_E0, .ofNat 43, .ofNat 43)] (q_H0 q_g0) q_L0 [] [(q_E0, .ofNat 43, .ofNat 43)] (q_H0 q_g0) q_L0 [] = true := by decide +kernel
set_option maxRecDepth 100000 in
theorem q_m44 : s_mat q_σ8 [(q_E0, .ofNat 44, .ofNat 44)] (q_H0 q_g0) q_L0 [] [(q_E0, .ofNat 44, .ofNat 44)] (q_H0 q_g0) q_L0 [] = true := by decide +kernel
set_option maxRecDepth 100000 in
theorem q_m45 : s_mat q_σ8 [(q_E0, .ofNat 45, .ofNat 45)] (q_H0 q_g0) q_L0 [] [(q_E0, .ofNat 45, .ofNat 45)] (q_H0 q_g0) q_L0 [] = true := by decide +kernel
set_option maxRecDepth 100000 in
theorem q_m46 : s_mat q_σ8 [(q_E0, .ofNat 46, .ofNat 46)] (q_H0 q_g0) q_L0 [] [(q_E0, .ofNat 46, .ofNat 46)] (q_H0 q_g0) q_L0 [] = true := by decide +kernel
def q_g19 : List Nat := [0, 1, 10, 11, 4, 5, 6]
def q_g19b : List Nat := [0, 1, 2, 11, 4, 5, 6]
set_option maxRecDepth 100000 in
theorem q_c19a_m : s_mat q_σ8 ((q_E0, .ofNat 19, .ofNat 19) :: [(.branch 0 (.leaf (.ofNat 2)) (.leaf (.ofNat 0)), .ofNat 9, .ofNat 2147483647)]) (q_H0 q_g0) q_L0 [] [(.branch 4 (.branch 0 (.leaf (.ofNat 0)) (.leaf (.ofNat 0))) (.leaf (.ofNat 63)), .ofNat 19, .ofNat 19), (.branch 0 (.leaf (.ofNat 10)) (.leaf (.ofNat 0)), .ofNat 9, .ofNat 2147483647)] (q_H0 q_g19) q_L0 [] = true := by decide +kernel
set_option maxRecDepth 100000 in
theorem q_c19a_g : s_run s_X0 100000 99999 s_never 100 m_L_law q_R 18 [(.branch 4 (.branch 0 (.leaf (.ofNat 0)) (.leaf (.ofNat 0))) (.leaf (.ofNat 63)), .ofNat 19, .ofNat 19), (.branch 0 (.leaf (.ofNat 10)) (.leaf (.ofNat 0)), .ofNat 9, .ofNat 2147483647)] (q_H0 q_g19) q_L0 [] = true := by decide +kernel
set_option maxRecDepth 100000 in
theorem q_c19b_m : s_mat q_σ8 ((q_E0, .ofNat 19, .ofNat 19) :: [(.branch 0 (.leaf (.ofNat 2)) (.leaf (.ofNat 0)), .negSucc 2147483647, .ofNat 8)]) (q_H0 q_g0) q_L0 [] [(.branch 4 (.branch 0 (.leaf (.ofNat 0)) (.leaf (.ofNat 0))) (.leaf (.ofNat 63)), .ofNat 19, .ofNat 19), (.branch 0 (.leaf (.ofNat 2)) (.leaf (.ofNat 0)), .negSucc 2147483647, .ofNat 8)] (q_H0 q_g19b) q_L0 [] = true := by decide +kernel
set_option maxRecDepth 100000 in
theorem q_c19b_g : s_run s_X0 100000 99999 s_never 100 m_L_law q_R 18 [(.branch 4 (.branch 0 (.leaf (.ofNat 0)) (.leaf (.ofNat 0))) (.leaf (.ofNat 63)), .ofNat 19, .ofNat 19), (.branch 0 (.leaf (.ofNat 2)) (.leaf (.ofNat 0)), .negSucc 2147483647, .ofNat 8)] (q_H0 q_g19b) q_L0 [] = true := by decide +kernel
theorem q_ok19 : q_Ok 19 := by
  intro xs hl hk
  have b := x_I32 (q_th xs 2)
  by_cases h : (q_th xs 2).toInt < 9
  · exact q_caseX hl hk s_X0_ok (q_F1 (by show (-2147483648 : Int) ≤ _; omega) (by show _ ≤ (8 : Int); omega)) q_c19b_m q_c19b_g
  · exact q_caseX hl hk s_X0_ok (q_F1 (by show (9 : Int) ≤ _; omega) (by show _ ≤ (2147483647 : Int); omega)) q_c19a_m q_c19a_g
set_option maxRecDepth 100000 in
theorem q_m47 : s_mat q_σ8 [(q_E0, .ofNat 47, .ofNat 63)] (q_H0 q_g0) q_L0 [] [(q_E0, .ofNat 47, .ofNat 63)] (q_H0 q_g0) q_L0 [] = true := by decide +kernel
theorem q_ok47 {xs : List Int32} (hl : xs.length = 7) (h1 : 47 ≤ (xs.getD 0 0 &&& 63).toInt) (h2 : (xs.getD 0 0 &&& 63).toInt ≤ 63) : p_wp p_GT p_MT 100 m_L_law 0 [(0, .ref 0)] [] (p_h0 xs) q_Q := by
  refine q_use hl q_Θ_th s_X0_ok (F := [(q_E0, .ofNat 47, .ofNat 63)]) q_σ8_ok (fun f hf => ?_) q_m47 q_c47
  rw [List.mem_singleton] at hf
  subst hf
  show (47 : Int) ≤ (s_ev _ q_E0).toInt ∧ (s_ev _ q_E0).toInt ≤ 63
  rw [q_F0 q_Θ_th]
  exact ⟨h1, h2⟩
theorem q_seven {xs : List Int32} (hl : xs.length = 7) : p_wp p_GT p_MT 100 m_L_law 0 [(0, .ref 0)] [] (p_h0 xs) q_Q := by
  have hb := x_and (x := xs.getD 0 0) (y := 63) (by decide)
  have hb2 : (xs.getD 0 0 &&& 63).toInt ≤ 63 := hb.2
  have hb1 := hb.1
  by_cases h47 : 47 ≤ (xs.getD 0 0 &&& 63).toInt
  · exact q_ok47 hl h47 hb2
  have hd : (xs.getD 0 0 &&& 63).toInt = 0 ∨ (xs.getD 0 0 &&& 63).toInt = 1 ∨ (xs.getD 0 0 &&& 63).toInt = 2 ∨ (xs.getD 0 0 &&& 63).toInt = 3 ∨ (xs.getD 0 0 &&& 63).toInt = 4 ∨ (xs.getD 0 0 &&& 63).toInt = 5 ∨ (xs.getD 0 0 &&& 63).toInt = 6 ∨ (xs.getD 0 0 &&& 63).toInt = 7 ∨ (xs.getD 0 0 &&& 63).toInt = 8 ∨ (xs.getD 0 0 &&& 63).toInt = 9 ∨ (xs.getD 0 0 &&& 63).toInt = 10 ∨ (xs.getD 0 0 &&& 63).toInt = 11 ∨ (xs.getD 0 0 &&& 63).toInt = 12 ∨ (xs.getD 0 0 &&& 63).toInt = 13 ∨ (xs.getD 0 0 &&& 63).toInt = 14 ∨ (xs.getD 0 0 &&& 63).toInt = 15 ∨ (xs.getD 0 0 &&& 63).toInt = 16 ∨ (xs.getD 0 0 &&& 63).toInt = 17 ∨ (xs.getD 0 0 &&& 63).toInt = 18 ∨ (xs.getD 0 0 &&& 63).toInt = 19 ∨ (xs.getD 0 0 &&& 63).toInt = 20 ∨ (xs.getD 0 0 &&& 63).toInt = 21 ∨ (xs.getD 0 0 &&& 63).toInt = 22 ∨ (xs.getD 0 0 &&& 63).toInt = 23 ∨ (xs.getD 0 0 &&& 63).toInt = 24 ∨ (xs.getD 0 0 &&& 63).toInt = 25 ∨ (xs.getD 0 0 &&& 63).toInt = 26 ∨ (xs.getD 0 0 &&& 63).toInt = 27 ∨ (xs.getD 0 0 &&& 63).toInt = 28 ∨ (xs.getD 0 0 &&& 63).toInt = 29 ∨ (xs.getD 0 0 &&& 63).toInt = 30 ∨ (xs.getD 0 0 &&& 63).toInt = 31 ∨ (xs.getD 0 0 &&& 63).toInt = 32 ∨ (xs.getD 0 0 &&& 63).toInt = 33 ∨ (xs.getD 0 0 &&& 63).toInt = 34 ∨ (xs.getD 0 0 &&& 63).toInt = 35 ∨ (xs.getD 0 0 &&& 63).toInt = 36 ∨ (xs.getD 0 0 &&& 63).toInt = 37 ∨ (xs.getD 0 0 &&& 63).toInt = 38 ∨ (xs.getD 0 0 &&& 63).toInt = 39 ∨ (xs.getD 0 0 &&& 63).toInt = 40 ∨ (xs.getD 0 0 &&& 63).toInt = 41 ∨ (xs.getD 0 0 &&& 63).toInt = 42 ∨ (xs.getD 0 0 &&& 63).toInt = 43 ∨ (xs.getD 0 0 &&& 63).toInt = 44 ∨ (xs.getD 0 0 &&& 63).toInt = 45 ∨ (xs.getD 0 0 &&& 63).toInt = 46 := by omega
  rcases hd with e | e | e | e | e | e | e | e | e | e | e | e | e | e | e | e | e | e | e | e | e | e | e | e | e | e | e | e | e | e | e | e | e | e | e | e | e | e | e | e | e | e | e | e | e | e | e
  · exact q_simp hl e q_m0 q_c0
  · exact q_simp hl e q_m1 q_c1
  · exact q_simp hl e q_m2 q_c2
  · exact q_simp hl e q_m3 q_c3
  · exact q_simp hl e q_m4 q_c4
  · exact q_simp hl e q_m5 q_c5
  · exact q_simp hl e q_m6 q_c6
  · exact q_simp hl e q_m7 q_c7
  · exact q_simp hl e q_m8 q_c8
  · exact q_ok9 xs hl e
  · exact q_simp hl e q_m10 q_c10
  · exact q_simp hl e q_m11 q_c11
  · exact q_ok12 xs hl e
  · exact q_simp hl e q_m13 q_c13
  · exact q_simp hl e q_m14 q_c14
  · exact q_simp hl e q_m15 q_c15
  · exact q_simp hl e q_m16 q_c16
  · exact q_simp hl e q_m17 q_c17
  · exact q_simp hl e q_m18 q_c18
  · exact q_ok19 xs hl e
  · exact q_ok20 xs hl e
  · exact q_simp hl e q_m21 q_c21
  · exact q_simp hl e q_m22 q_c22
  · exact q_simp hl e q_m23 q_c23
  · exact q_simp hl e q_m24 q_c24
  · exact q_simp hl e q_m25 q_c25
  · exact q_simp hl e q_m26 q_c26
  · exact q_ok27 xs hl e
  · exact q_ok28 xs hl e
  · exact q_simp hl e q_m29 q_c29
  · exact q_ok30 xs hl e
  · exact q_simp hl e q_m31 q_c31
  · exact q_simp hl e q_m32 q_c32
  · exact q_simp hl e q_m33 q_c33
  · exact q_simp hl e q_m34 q_c34
  · exact q_simp hl e q_m35 q_c35
  · exact q_simp hl e q_m36 q_c36
  · exact q_simp hl e q_m37 q_c37
  · exact q_simp hl e q_m38 q_c38
  · exact q_simp hl e q_m39 q_c39
  · exact q_simp hl e q_m40 q_c40
  · exact q_ok41 xs hl e
  · exact q_simp hl e q_m42 q_c42
  · exact q_simp hl e q_m43 q_c43
  · exact q_simp hl e q_m44 q_c44
  · exact q_simp hl e q_m45 q_c45
  · exact q_simp hl e q_m46 q_c46
theorem q_short {l : Nat} {xs : List Int32} (hl : xs.length = l) (h7 : l ≤ 7) {g : List Nat} (hg : g = List.range l) (hrun : s_run s_X0 100000 99999 s_never 100 m_L_law q_R 0 [] (q_Hs g) [.inr (16, .leaf 0)] [] = true) : p_wp p_GT p_MT 100 m_L_law 0 [(0, .ref 0)] [] (p_h0 xs) q_Q := by
  have hH : s_hr (q_th xs) (q_Hs g) (p_h0 xs) := q_start2 q_Θ_th (by rw [hl, hg, List.length_range]) (by omega) (fun j k e => by
    rw [hg] at e
    have hj : j < l := by
      have := (List.getElem?_eq_some_iff.mp e).1
      rwa [List.length_range] at this
    rw [List.getElem?_range hj] at e
    cases e
    omega)
  refine q_end s_X0_ok hrun (θ := q_th xs) ⟨(fun f hf => by cases hf), hH, (fun i a h h0 => ?_), trivial⟩
  match i, h with
  | 0, h => cases h; exact ⟨.ref 0, rfl, rfl⟩
  | i + 1, h => simp at h
theorem q_law : p_Law := by
  intro xs hx
  have key : p_wp p_GT p_MT 100 m_L_law 0 [(0, .ref 0)] [] (p_h0 xs) q_Q := by
    have h8 : xs.length = 0 ∨ xs.length = 1 ∨ xs.length = 2 ∨ xs.length = 3 ∨ xs.length = 4 ∨ xs.length = 5 ∨ xs.length = 6 ∨ xs.length = 7 := by omega
    rcases h8 with e | e | e | e | e | e | e | e
    · exact q_short e (by decide) rfl q_con0
    · exact q_short e (by decide) rfl q_con1
    · exact q_short e (by decide) rfl q_con2
    · exact q_short e (by decide) rfl q_con3
    · exact q_short e (by decide) rfl q_con4
    · exact q_short e (by decide) rfl q_con5
    · exact q_short e (by decide) rfl q_con6
    · exact q_seven e
  obtain ⟨n, v, h2, h3, h4, h5, h6⟩ := key
  subst h4
  exact ⟨n, 100, h2, by decide, h3, h5, by omega⟩
