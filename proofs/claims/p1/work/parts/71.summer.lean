/-! summer: both bodies from one state (written by program) -/
def q_pE : s_E := .branch 0 (.leaf (.ofNat 26)) (.leaf (.ofNat 0))
def q_SX : s_E := .branch 4 q_pE (.leaf (.ofNat 15))
def q_MX : s_E := .branch 4 (.branch 8 q_pE (.leaf (.ofNat 4))) (.leaf (.ofNat 127))
def q_BX : s_E := .branch 8 q_pE (.leaf (.ofNat 11))
def q_tU (g : List Nat) : s_H := (.branch 80 (.branch 38 (.branch 11 (.branch 5 (.branch 2 (.branch 1 (.leaf (q_scr g)) (.leaf (q_wc))) (.branch 3 (.leaf (0, 11, 10, .branch 10 (.branch 5 (.branch 2 (.branch 1 (.leaf (.inr (19, .leaf 0))) (.leaf (.inr (36, .leaf 0)))) (.branch 3 (.leaf (.inr (53, .leaf 0))) (.branch 4 (.leaf (.inr (59, .leaf 0))) (.leaf (.inr (63, .leaf 0)))))) (.branch 7 (.branch 6 (.leaf (.inr (67, .leaf 0))) (.leaf (.inr (72, .leaf 0)))) (.branch 8 (.leaf (.inr (77, .leaf 0))) (.branch 9 (.leaf (.inr (78, .leaf 0))) (.leaf (.inr (79, .leaf 0))))))) (.leaf s_u))) (.branch 4 (.leaf (0, 9, 15, .branch 15 (.branch 8 (.branch 5 (.branch 2 (.leaf (.inl (.ofNat 1))) (.branch 4 (.leaf (.inl (.ofNat 0))) (.leaf (.inr (20, .leaf 0))))) (.branch 6 (.leaf (.inl (.ofNat 0))) (.branch 7 (.leaf (.inl (.negSucc 0))) (.leaf (.inr (21, .leaf 0)))))) (.branch 11 (.branch 9 (.leaf (.inr (22, .leaf 0))) (.branch 10 (.leaf (.inr (24, .leaf 0))) (.leaf (.inr (26, .leaf 0))))) (.branch 13 (.branch 12 (.leaf (.inr (28, .leaf 0))) (.leaf (.inr (30, .leaf 0)))) (.branch 14 (.leaf (.inr (32, .leaf 0))) (.leaf (.inr (34, .leaf 0))))))) (.leaf s_u))) (.leaf (1, 0, 72, .branch 72 (.leaf (.inl (.ofNat 0))) (.leaf s_u)))))) (.branch 8 (.branch 6 (.leaf (1, 4, 4, .branch 4 (.leaf (.inr (4, .leaf 0))) (.leaf s_u))) (.branch 7 (.leaf (0, 10, 8, .branch 8 (.branch 4 (.branch 2 (.leaf (.inl (.ofNat 0))) (.branch 3 (.leaf (.inr (1, (.branch 0 (.leaf (.ofNat 28)) (.leaf (.ofNat 0)))))) (.leaf (.inr (1, (.branch 0 (.leaf (.ofNat 22)) (.leaf (.ofNat 0)))))))) (.branch 6 (.branch 5 (.leaf (.inr (1, (.branch 0 (.leaf (.ofNat 23)) (.leaf (.ofNat 0)))))) (.leaf (.inr (1, (.branch 0 (.leaf (.ofNat 27)) (.leaf (.ofNat 0))))))) (.branch 7 (.leaf (.inr (1, (.branch 0 (.leaf (.ofNat 24)) (.leaf (.ofNat 0)))))) (.leaf (.inr (23, .leaf 0)))))) (.leaf s_u))) (.leaf (1, 0, 64, .branch 64 (.branch 1 (.leaf (.inr (1, (.branch 0 (.leaf (.ofNat 26)) (.leaf (.ofNat 0)))))) (.leaf (.inl (.ofNat 0)))) (.leaf s_u))))) (.branch 9 (.leaf (0, 6, 3, .branch 3 (.branch 1 (.leaf (.inr (25, .leaf 0))) (.leaf (.inl (.ofNat 1)))) (.leaf s_u))) (.branch 10 (.leaf (1, 0, 2130, .branch 2130 (.leaf (.inr (7, .leaf 0))) (.leaf s_u))) (.leaf (0, 8, 3, .branch 3 (.branch 1 (.leaf (.inl (.ofNat 5))) (.branch 2 (.leaf (.inr (27, .leaf 0))) (.leaf (.inl (.ofNat 0))))) (.leaf s_u))))))) (.branch 16 (.branch 13 (.branch 12 (.leaf (1, 0, 32, .branch 32 (.leaf (.inl (.ofNat 0))) (.leaf s_u))) (.leaf (0, 8, 3, .branch 3 (.branch 1 (.leaf (.inl (.ofNat 8))) (.branch 2 (.leaf (.inr (29, .leaf 0))) (.leaf (.inl (.ofNat 0))))) (.leaf s_u)))) (.branch 14 (.leaf (1, 0, 32, .branch 32 (.leaf (.inl (.ofNat 0))) (.leaf s_u))) (.branch 15 (.leaf (0, 8, 3, .branch 3 (.branch 1 (.leaf (.inl (.ofNat 8))) (.branch 2 (.leaf (.inr (31, .leaf 0))) (.leaf (.inl (.ofNat 0))))) (.leaf s_u))) (.leaf (1, 0, 32, .branch 32 (.leaf (.inl (.ofNat 0))) (.leaf s_u)))))) (.branch 19 (.branch 17 (.leaf (0, 8, 3, .branch 3 (.branch 1 (.leaf (.inl (.ofNat 8))) (.branch 2 (.leaf (.inr (33, .leaf 0))) (.leaf (.inl (.ofNat 0))))) (.leaf s_u))) (.branch 18 (.leaf (1, 0, 32, .branch 32 (.leaf (.inl (.ofNat 0))) (.leaf s_u))) (.leaf (0, 8, 3, .branch 3 (.branch 1 (.leaf (.inl (.ofNat 8))) (.branch 2 (.leaf (.inr (35, .leaf 0))) (.leaf (.inl (.ofNat 0))))) (.leaf s_u))))) (.branch 20 (.leaf (1, 0, 32, .branch 32 (.leaf (.inl (.ofNat 0))) (.leaf s_u))) (.branch 37 (.leaf (9, 0, 0, .leaf s_u)) (.leaf (0, 4, 6, .branch 6 (.branch 3 (.branch 1 (.leaf (.inr (54, .leaf 0))) (.branch 2 (.leaf (.inr (55, .leaf 0))) (.leaf (.inr (56, .leaf 0))))) (.branch 4 (.leaf (.inr (57, .leaf 0))) (.branch 5 (.leaf (.inr (58, .leaf 0))) (.leaf (.inl (.ofNat 1)))))) (.leaf s_u)))))))) (.branch 65 (.branch 43 (.branch 40 (.branch 39 (.leaf (1, 0, 64, .branch 64 (.leaf (.inl (.ofNat 0))) (.leaf s_u))) (.leaf (1, 0, 64, .branch 64 (.leaf (.inl (.ofNat 0))) (.leaf s_u)))) (.branch 41 (.leaf (1, 0, 64, .branch 64 (.branch 1 (.leaf (.inl (.ofNat 1))) (.leaf (.inl (.ofNat 0)))) (.leaf s_u))) (.branch 42 (.leaf (1, 0, 64, .branch 64 (.branch 1 (.leaf (.inl (.ofNat 1))) (.leaf (.inl (.ofNat 0)))) (.leaf s_u))) (.leaf (1, 0, 64, .branch 64 (.branch 1 (.leaf (.inl (.ofNat 4))) (.leaf (.inl (.ofNat 0)))) (.leaf s_u)))))) (.branch 49 (.branch 47 (.leaf (9, 0, 0, .leaf s_u)) (.branch 48 (.leaf (0, 0, 11, .branch 11 (.branch 2 (.branch 1 (.leaf (.inr (19, .leaf 0))) (.leaf (.inr (53, .leaf 0)))) (.branch 3 (.leaf (.inr (64, .leaf 0))) (.branch 4 (.leaf (.inr (4, .leaf 0))) (.leaf (.inr (7, .leaf 0)))))) (.leaf s_u))) (.leaf (0, 1, 2, .branch 2 (.branch 1 (.leaf (.inr (65, .leaf 0))) (.leaf (.inr (66, .leaf 0)))) (.leaf s_u))))) (.branch 50 (.leaf (1, 0, 8, .branch 8 (.leaf (.inr (7, .leaf 0))) (.leaf s_u))) (.branch 64 (.leaf (9, 0, 0, .leaf s_u)) (.leaf (0, 12, 31, .branch 31 (.branch 16 (.branch 5 (.branch 2 (.branch 1 (.leaf (.inr (81, .leaf 0))) (.leaf (.inr (82, .leaf 0)))) (.branch 3 (.leaf (.inr (83, .leaf 0))) (.branch 4 (.leaf (.inr (84, .leaf 0))) (.leaf (.inl (.ofNat 0)))))) (.branch 11 (.branch 7 (.leaf (.inl (.negSucc 0))) (.leaf (.inl (.ofNat 0)))) (.branch 12 (.leaf (.inr (2, .leaf (.ofNat 0)))) (.branch 15 (.leaf (.inl (.ofNat 0))) (.leaf (.inr (85, .leaf 0))))))) (.branch 25 (.branch 22 (.branch 17 (.leaf (.inr (86, .leaf 0))) (.leaf (.inl (.ofNat 0)))) (.branch 23 (.leaf (.inr (87, .leaf 0))) (.branch 24 (.leaf (.inr (88, .leaf 0))) (.leaf (.inr (89, .leaf 0)))))) (.branch 28 (.branch 26 (.leaf (.inr (90, .leaf 0))) (.branch 27 (.leaf (.inr (91, .leaf 0))) (.leaf (.inr (92, .leaf 0))))) (.branch 29 (.leaf (.inr (93, .leaf 0))) (.branch 30 (.leaf (.inr (94, .leaf 0))) (.leaf (.inr (95, .leaf 0)))))))) (.leaf s_u))))))) (.branch 74 (.branch 71 (.branch 66 (.leaf (1, 0, 2517, .branch 2517 (.branch 13 (.branch 3 (.branch 2 (.leaf (.inl (.ofNat 0))) (.leaf (.inl (.negSucc 0)))) (.branch 12 (.leaf (.inl (.ofNat 0))) (.leaf (.inl (.ofNat 20))))) (.branch 16 (.branch 14 (.leaf (.inl (.ofNat 73))) (.leaf (.inl (.ofNat 0)))) (.branch 18 (.leaf (.inl (.ofNat 1))) (.branch 387 (.leaf (.inl (.ofNat 0))) (.leaf (.inr (7, .leaf 0))))))) (.leaf s_u))) (.leaf (9, 0, 0, .leaf s_u))) (.branch 72 (.leaf (1, 0, 8, .branch 8 (.leaf (.inr (7, .leaf 0))) (.leaf s_u))) (.branch 73 (.leaf (9, 0, 0, .leaf s_u)) (.leaf (1, 0, 212, .branch 212 (.leaf (.inr (7, .leaf 0))) (.leaf s_u)))))) (.branch 77 (.branch 75 (.leaf (1, 3, 64, .branch 64 (.leaf (.inl (.ofNat 0))) (.leaf s_u))) (.branch 76 (.leaf (1, 3, 320, .branch 320 (.leaf (.inl (.ofNat 0))) (.leaf s_u))) (.leaf (1, 0, 32, .branch 32 (.leaf (.inl (.ofNat 0))) (.leaf s_u))))) (.branch 78 (.leaf (1, 0, 5, .branch 5 (.leaf (.inl (.ofNat 0))) (.leaf s_u))) (.branch 79 (.leaf (1, 0, 16, .branch 16 (.leaf (.inl (.ofNat 0))) (.leaf s_u))) (.leaf (1, 0, 272, .branch 272 (.leaf (.inl (.ofNat 0))) (.leaf s_u))))))))) (.leaf (9, 0, 0, .leaf s_u)), 80, 17789)
def q_tV (g : List Nat) : s_H := (.branch 80 (.branch 72 (.branch 64 (.branch 1 (.leaf (q_scr g)) (.branch 2 (.leaf (q_wc)) (.leaf (9, 0, 0, .leaf s_u)))) (.branch 66 (.branch 65 (.leaf (0, 12, 31, .branch 31 (.branch 16 (.branch 5 (.branch 2 (.branch 1 (.leaf (.inr (81, .leaf 0))) (.leaf (.inr (82, .leaf 0)))) (.branch 3 (.leaf (.inr (83, .leaf 0))) (.branch 4 (.leaf (.inr (84, .leaf 0))) (.leaf (.inl (.ofNat 0)))))) (.branch 11 (.branch 7 (.leaf (.inl (.negSucc 0))) (.leaf (.inl (.ofNat 0)))) (.branch 12 (.leaf (.inr (2, .leaf (.ofNat 0)))) (.branch 15 (.leaf (.inl (.ofNat 0))) (.leaf (.inr (85, .leaf 0))))))) (.branch 25 (.branch 22 (.branch 17 (.leaf (.inr (86, .leaf 0))) (.leaf (.inl (.ofNat 0)))) (.branch 23 (.leaf (.inr (87, .leaf 0))) (.branch 24 (.leaf (.inr (88, .leaf 0))) (.leaf (.inr (89, .leaf 0)))))) (.branch 28 (.branch 26 (.leaf (.inr (90, .leaf 0))) (.branch 27 (.leaf (.inr (91, .leaf 0))) (.leaf (.inr (92, .leaf 0))))) (.branch 29 (.leaf (.inr (93, .leaf 0))) (.branch 30 (.leaf (.inr (94, .leaf 0))) (.leaf (.inr (95, .leaf 0)))))))) (.leaf s_u))) (.leaf (1, 0, 2517, .branch 2517 (.branch 13 (.branch 9 (.branch 3 (.branch 2 (.leaf (.inl (.ofNat 0))) (.leaf (.inl (.negSucc 0)))) (.branch 4 (.leaf (.inl (.ofNat 1))) (.leaf (.inl (.ofNat 0))))) (.branch 11 (.branch 10 (.leaf (.inr (1, (.branch 0 (.leaf (.ofNat 22)) (.leaf (.ofNat 0)))))) (.leaf (.inr (1, (.branch 0 (.leaf (.ofNat 23)) (.leaf (.ofNat 0))))))) (.branch 12 (.leaf (.inr (1, (.branch 0 (.leaf (.ofNat 27)) (.leaf (.ofNat 0)))))) (.leaf (.inr (1, (.branch 0 (.leaf (.ofNat 28)) (.leaf (.ofNat 0))))))))) (.branch 20 (.branch 16 (.branch 14 (.leaf (.inr (1, (.branch 0 (.leaf (.ofNat 24)) (.leaf (.ofNat 0)))))) (.leaf (.inl (.ofNat 0)))) (.branch 18 (.leaf (.inl (.ofNat 1))) (.leaf (.inl (.ofNat 0))))) (.branch 22 (.branch 21 (.leaf (.inr (1, (.branch 4 (.branch 0 (.leaf (.ofNat 26)) (.leaf (.ofNat 0))) (.leaf (.ofNat 15)))))) (.leaf (.inr (1, (.branch 4 (.branch 8 (.branch 0 (.leaf (.ofNat 26)) (.leaf (.ofNat 0))) (.leaf (.ofNat 4))) (.leaf (.ofNat 127))))))) (.branch 23 (.leaf (.inr (1, (.branch 8 (.branch 0 (.leaf (.ofNat 26)) (.leaf (.ofNat 0))) (.leaf (.ofNat 11)))))) (.branch 387 (.leaf (.inl (.ofNat 0))) (.leaf (.inr (7, .leaf 0)))))))) (.leaf s_u)))) (.branch 71 (.leaf (9, 0, 0, .leaf s_u)) (.leaf (1, 0, 8, .branch 8 (.leaf (.inr (7, .leaf 0))) (.leaf s_u)))))) (.branch 76 (.branch 74 (.branch 73 (.leaf (9, 0, 0, .leaf s_u)) (.leaf (1, 0, 212, .branch 212 (.leaf (.inr (7, .leaf 0))) (.leaf s_u)))) (.branch 75 (.leaf (1, 3, 64, .branch 64 (.leaf (.inl (.ofNat 0))) (.leaf s_u))) (.leaf (1, 3, 320, .branch 320 (.leaf (.inl (.ofNat 0))) (.leaf s_u))))) (.branch 78 (.branch 77 (.leaf (1, 0, 32, .branch 32 (.leaf (.inl (.ofNat 0))) (.leaf s_u))) (.leaf (1, 0, 5, .branch 5 (.leaf (.inl (.ofNat 0))) (.leaf s_u)))) (.branch 79 (.leaf (1, 0, 16, .branch 16 (.leaf (.inl (.ofNat 0))) (.leaf s_u))) (.leaf (1, 0, 272, .branch 272 (.leaf (.inl (.ofNat 0))) (.leaf s_u))))))) (.leaf (9, 0, 0, .leaf s_u)), 80, 17789)
def q_tV1 (g : List Nat) : s_H := (.branch 80 (.branch 72 (.branch 64 (.branch 1 (.leaf (q_scr g)) (.branch 2 (.leaf (q_wc)) (.leaf (9, 0, 0, .leaf s_u)))) (.branch 66 (.branch 65 (.leaf (0, 12, 31, .branch 31 (.branch 16 (.branch 5 (.branch 2 (.branch 1 (.leaf (.inr (81, .leaf 0))) (.leaf (.inr (82, .leaf 0)))) (.branch 3 (.leaf (.inr (83, .leaf 0))) (.branch 4 (.leaf (.inr (84, .leaf 0))) (.leaf (.inl (.ofNat 0)))))) (.branch 11 (.branch 7 (.leaf (.inl (.negSucc 0))) (.leaf (.inl (.ofNat 0)))) (.branch 12 (.leaf (.inr (2, .leaf (.ofNat 0)))) (.branch 15 (.leaf (.inl (.ofNat 0))) (.leaf (.inr (85, .leaf 0))))))) (.branch 25 (.branch 22 (.branch 17 (.leaf (.inr (86, .leaf 0))) (.leaf (.inl (.ofNat 0)))) (.branch 23 (.leaf (.inr (87, .leaf 0))) (.branch 24 (.leaf (.inr (88, .leaf 0))) (.leaf (.inr (89, .leaf 0)))))) (.branch 28 (.branch 26 (.leaf (.inr (90, .leaf 0))) (.branch 27 (.leaf (.inr (91, .leaf 0))) (.leaf (.inr (92, .leaf 0))))) (.branch 29 (.leaf (.inr (93, .leaf 0))) (.branch 30 (.leaf (.inr (94, .leaf 0))) (.leaf (.inr (95, .leaf 0)))))))) (.leaf s_u))) (.leaf (1, 0, 2517, .branch 2517 (.branch 13 (.branch 9 (.branch 3 (.branch 2 (.leaf (.inl (.ofNat 0))) (.leaf (.inl (.negSucc 0)))) (.branch 4 (.leaf (.inl (.ofNat 1))) (.leaf (.inl (.ofNat 0))))) (.branch 11 (.branch 10 (.leaf (.inr (1, (.branch 0 (.leaf (.ofNat 22)) (.leaf (.ofNat 0)))))) (.leaf (.inr (1, (.branch 0 (.leaf (.ofNat 23)) (.leaf (.ofNat 0))))))) (.branch 12 (.leaf (.inr (1, (.branch 0 (.leaf (.ofNat 27)) (.leaf (.ofNat 0)))))) (.leaf (.inr (1, (.branch 0 (.leaf (.ofNat 28)) (.leaf (.ofNat 0))))))))) (.branch 20 (.branch 16 (.branch 14 (.leaf (.inr (1, (.branch 0 (.leaf (.ofNat 24)) (.leaf (.ofNat 0)))))) (.leaf (.inl (.ofNat 0)))) (.branch 18 (.leaf (.inl (.ofNat 1))) (.leaf (.inl (.ofNat 0))))) (.branch 22 (.branch 21 (.leaf (.inr (1, (.branch 0 (.leaf (.ofNat 30)) (.leaf (.ofNat 0)))))) (.leaf (.inr (1, (.branch 0 (.leaf (.ofNat 31)) (.leaf (.ofNat 0))))))) (.branch 23 (.leaf (.inr (1, (.branch 0 (.leaf (.ofNat 32)) (.leaf (.ofNat 0)))))) (.branch 387 (.leaf (.inl (.ofNat 0))) (.leaf (.inr (7, .leaf 0)))))))) (.leaf s_u)))) (.branch 71 (.leaf (9, 0, 0, .leaf s_u)) (.leaf (1, 0, 8, .branch 8 (.leaf (.inr (7, .leaf 0))) (.leaf s_u)))))) (.branch 76 (.branch 74 (.branch 73 (.leaf (9, 0, 0, .leaf s_u)) (.leaf (1, 0, 212, .branch 212 (.leaf (.inr (7, .leaf 0))) (.leaf s_u)))) (.branch 75 (.leaf (1, 3, 64, .branch 64 (.leaf (.inl (.ofNat 0))) (.leaf s_u))) (.leaf (1, 3, 320, .branch 320 (.leaf (.inl (.ofNat 0))) (.leaf s_u))))) (.branch 78 (.branch 77 (.leaf (1, 0, 32, .branch 32 (.leaf (.inl (.ofNat 0))) (.leaf s_u))) (.leaf (1, 0, 5, .branch 5 (.leaf (.inl (.ofNat 0))) (.leaf s_u)))) (.branch 79 (.leaf (1, 0, 16, .branch 16 (.leaf (.inl (.ofNat 0))) (.leaf s_u))) (.leaf (1, 0, 272, .branch 272 (.leaf (.inl (.ofNat 0))) (.leaf s_u))))))) (.leaf (9, 0, 0, .leaf s_u)), 80, 17789)
def q_tB (g : List Nat) : s_H := (.branch 80 (.branch 72 (.branch 64 (.branch 1 (.leaf (q_scr g)) (.branch 2 (.leaf (q_wc)) (.leaf (9, 0, 0, .leaf s_u)))) (.branch 66 (.branch 65 (.leaf (0, 12, 31, .branch 31 (.branch 16 (.branch 5 (.branch 2 (.branch 1 (.leaf (.inr (81, .leaf 0))) (.leaf (.inr (82, .leaf 0)))) (.branch 3 (.leaf (.inr (83, .leaf 0))) (.branch 4 (.leaf (.inr (84, .leaf 0))) (.leaf (.inl (.ofNat 0)))))) (.branch 11 (.branch 7 (.leaf (.inl (.negSucc 0))) (.leaf (.inl (.ofNat 0)))) (.branch 12 (.leaf (.inr (2, .leaf (.ofNat 0)))) (.branch 15 (.leaf (.inl (.ofNat 0))) (.leaf (.inr (85, .leaf 0))))))) (.branch 25 (.branch 22 (.branch 17 (.leaf (.inr (86, .leaf 0))) (.leaf (.inl (.ofNat 0)))) (.branch 23 (.leaf (.inr (87, .leaf 0))) (.branch 24 (.leaf (.inr (88, .leaf 0))) (.leaf (.inr (89, .leaf 0)))))) (.branch 28 (.branch 26 (.leaf (.inr (90, .leaf 0))) (.branch 27 (.leaf (.inr (91, .leaf 0))) (.leaf (.inr (92, .leaf 0))))) (.branch 29 (.leaf (.inr (93, .leaf 0))) (.branch 30 (.leaf (.inr (94, .leaf 0))) (.leaf (.inr (95, .leaf 0)))))))) (.leaf s_u))) (.leaf (1, 0, 2517, .branch 2517 (.branch 14 (.branch 3 (.branch 2 (.leaf (.inl (.ofNat 0))) (.leaf (.inl (.negSucc 0)))) (.branch 4 (.leaf (.inl (.ofNat 1))) (.branch 9 (.leaf (.inl (.ofNat 0))) (.leaf (.inr (7, .leaf 0)))))) (.branch 20 (.branch 16 (.leaf (.inl (.ofNat 0))) (.branch 18 (.leaf (.inl (.ofNat 1))) (.leaf (.inl (.ofNat 0))))) (.branch 23 (.leaf (.inr (7, .leaf 0))) (.branch 387 (.leaf (.inl (.ofNat 0))) (.leaf (.inr (7, .leaf 0))))))) (.leaf s_u)))) (.branch 71 (.leaf (9, 0, 0, .leaf s_u)) (.leaf (1, 0, 8, .branch 8 (.leaf (.inr (7, .leaf 0))) (.leaf s_u)))))) (.branch 76 (.branch 74 (.branch 73 (.leaf (9, 0, 0, .leaf s_u)) (.leaf (1, 0, 212, .branch 212 (.leaf (.inr (7, .leaf 0))) (.leaf s_u)))) (.branch 75 (.leaf (1, 3, 64, .branch 64 (.leaf (.inl (.ofNat 0))) (.leaf s_u))) (.leaf (1, 3, 320, .branch 320 (.leaf (.inl (.ofNat 0))) (.leaf s_u))))) (.branch 78 (.branch 77 (.leaf (1, 0, 32, .branch 32 (.leaf (.inl (.ofNat 0))) (.leaf s_u))) (.leaf (1, 0, 5, .branch 5 (.leaf (.inl (.ofNat 0))) (.leaf s_u)))) (.branch 79 (.leaf (1, 0, 16, .branch 16 (.leaf (.inl (.ofNat 0))) (.leaf s_u))) (.leaf (1, 0, 272, .branch 272 (.leaf (.inl (.ofNat 0))) (.leaf s_u))))))) (.leaf (9, 0, 0, .leaf s_u)), 80, 17789)
def q_FP : s_F := [(q_SX, .ofNat 0, .ofNat 9), (q_MX, .ofNat 0, .ofNat 100), (q_BX, .ofNat 0, .ofNat 1)]
def q_FB : s_F := [(.branch 0 (.leaf (.ofNat 22)) (.leaf (.ofNat 0)), .ofNat 0, .ofNat 999), (.branch 0 (.leaf (.ofNat 23)) (.leaf (.ofNat 0)), .ofNat 0, .ofNat 9), (.branch 0 (.leaf (.ofNat 24)) (.leaf (.ofNat 0)), .ofNat 0, .ofNat 30292), (.branch 0 (.leaf (.ofNat 28)) (.leaf (.ofNat 0)), .ofNat 0, .ofNat 99), (.branch 0 (.leaf (.ofNat 20)) (.leaf (.ofNat 0)), .ofNat 0, .ofNat 39), (.branch 0 (.leaf (.ofNat 10)) (.leaf (.ofNat 0)), .ofNat 1, .ofNat 40)]
def q_FX : s_F := [(.branch 0 (.leaf (.ofNat 22)) (.leaf (.ofNat 0)), .ofNat 0, .ofNat 999), (.branch 0 (.leaf (.ofNat 23)) (.leaf (.ofNat 0)), .ofNat 0, .ofNat 9), (.branch 0 (.leaf (.ofNat 24)) (.leaf (.ofNat 0)), .ofNat 0, .ofNat 30292), (.branch 0 (.leaf (.ofNat 28)) (.leaf (.ofNat 0)), .ofNat 0, .ofNat 99), (.branch 0 (.leaf (.ofNat 20)) (.leaf (.ofNat 0)), .ofNat 0, .ofNat 40), (.branch 0 (.leaf (.ofNat 10)) (.leaf (.ofNat 0)), .ofNat 1, .ofNat 40)]
def q_LC : s_L := [.inr (18, .leaf 0), .inr (1, (.branch 0 (.leaf (.ofNat 9)) (.leaf (.ofNat 0)))), .inr (1, (.branch 0 (.leaf (.ofNat 10)) (.leaf (.ofNat 0)))), .inr (22, .leaf 0), .inr (1, (.branch 0 (.leaf (.ofNat 20)) (.leaf (.ofNat 0))))]
def q_LR : s_L := [.inr (80, .leaf 0), .inr (1, (.branch 0 (.leaf (.ofNat 9)) (.leaf (.ofNat 0)))), .inr (1, (.branch 0 (.leaf (.ofNat 10)) (.leaf (.ofNat 0)))), .inr (1, (.branch 0 (.leaf (.ofNat 20)) (.leaf (.ofNat 0))))]
/-! marks: straw, melted, sold in one number -/
def q_enc (S M B : Int32) : Int32 := (S ||| (M <<< (Int32.ofInt 4 &&& 31))) ||| (B <<< (Int32.ofInt 11 &&& 31))
set_option maxRecDepth 100000 in
theorem q_dec0 : ∀ s, s < 16 → ∀ m, m < 128 → ∀ b, b < 2 → s_ov 4 (q_enc (Int32.ofNat s) (Int32.ofNat m) (Int32.ofNat b)) (Int32.ofInt 15) = Int32.ofNat s ∧ s_ov 4 (s_ov 8 (q_enc (Int32.ofNat s) (Int32.ofNat m) (Int32.ofNat b)) (Int32.ofInt 4)) (Int32.ofInt 127) = Int32.ofNat m ∧ s_ov 8 (q_enc (Int32.ofNat s) (Int32.ofNat m) (Int32.ofNat b)) (Int32.ofInt 11) = Int32.ofNat b := by decide +kernel
theorem q_ofn {x : Int32} {n : Nat} (h0 : 0 ≤ x.toInt) (h1 : x.toInt < n) : ∃ k, k < n ∧ x = Int32.ofNat k := by
  refine ⟨x.toInt.toNat, by omega, ?_⟩
  have e1 : x = Int32.ofInt x.toInt := (Int32.ofInt_toInt x).symm
  have e2 : x.toInt = Int.ofNat x.toInt.toNat := by simp only [Int.ofNat_eq_natCast]; omega
  exact e1.trans ((congrArg Int32.ofInt e2).trans s_on)
theorem q_dec {S M B : Int32} (s0 : 0 ≤ S.toInt) (s1 : S.toInt < 16) (m0 : 0 ≤ M.toInt) (m1 : M.toInt < 128) (b0 : 0 ≤ B.toInt) (b1 : B.toInt < 2) : s_ov 4 (q_enc S M B) (Int32.ofInt 15) = S ∧ s_ov 4 (s_ov 8 (q_enc S M B) (Int32.ofInt 4)) (Int32.ofInt 127) = M ∧ s_ov 8 (q_enc S M B) (Int32.ofInt 11) = B := by
  obtain ⟨s, hs, rfl⟩ := q_ofn s0 s1
  obtain ⟨m, hm, rfl⟩ := q_ofn m0 m1
  obtain ⟨b, hb, rfl⟩ := q_ofn b0 b1
  exact q_dec0 s hs m hm b hb
def q_unR (R : s_E) : Option s_E := match R with
  | .branch 7 m (.leaf z) => if z = 4 then some m else none
  | .leaf z => if 0 ≤ z ∧ z < 2048 ∧ z % 16 = 0 then some (.leaf (z / 16)) else none
  | _ => none
def q_unQ (Q : s_E) : Option (s_E × s_E) := match Q with
  | .branch 5 s R => (match q_unR R with
    | some m => some (s, m)
    | none => none)
  | .branch 7 m (.leaf z) => if z = 4 then some (.leaf 0, m) else none
  | .leaf z => if 0 ≤ z ∧ z < 2048 then some (.leaf (z % 16), .leaf (z / 16)) else none
  | _ => none
def q_un1 (b : Int) (o : Option (s_E × s_E)) : Option (s_E × s_E × Int) := match o with
  | some (s, m) => some (s, m, b)
  | none => none
def q_is48 (P : s_E) : Bool := match P with
  | .branch 5 _ (.leaf z) => decide (z = 2048)
  | _ => false
def q_low5 (P : s_E) : s_E := match P with
  | .branch 5 Q _ => Q
  | _ => P
def q_unP (P : s_E) : Option (s_E × s_E × Int) := if q_is48 P then q_un1 1 (q_unQ (q_low5 P)) else (match P with
  | .leaf z => if 2048 ≤ z ∧ z < 4096 then some (.leaf ((z - 2048) % 16), .leaf ((z - 2048) / 16), 1) else q_un1 0 (q_unQ (.leaf z))
  | P => q_un1 0 (q_unQ P))
set_option maxRecDepth 100000 in
theorem q_tab1 : ∀ n, n < 2048 → n % 16 = 0 → Int32.ofNat n = Int32.ofNat (n / 16) <<< (Int32.ofInt 4 &&& 31) := by decide +kernel
set_option maxRecDepth 100000 in
theorem q_tab2 : ∀ n, n < 2048 → Int32.ofNat n = Int32.ofNat (n % 16) ||| (Int32.ofNat (n / 16) <<< (Int32.ofInt 4 &&& 31)) := by decide +kernel
set_option maxRecDepth 100000 in
theorem q_tab3 : ∀ n, n < 2048 → Int32.ofNat (n + 2048) = q_enc (Int32.ofNat (n % 16)) (Int32.ofNat (n / 16)) 1 := by decide +kernel
theorem q_nat {z : Int} (h : 0 ≤ z) : ∃ n : Nat, z = n := ⟨z.toNat, by omega⟩
theorem q_oi {n : Nat} : Int32.ofInt (n : Int) = Int32.ofNat n := s_on
section QU
variable {θ : Nat → Int32}
theorem q_unR_ok {R m : s_E} (h : q_unR R = some m) : s_ev θ R = s_ev θ m <<< (Int32.ofInt 4 &&& 31) := by
  unfold q_unR at h
  split at h
  · next m' z =>
    split at h
    · next hz => cases h; subst hz; rfl
    · cases h
  · next z =>
    split at h
    · next hz =>
      cases h
      obtain ⟨n, rfl⟩ := q_nat hz.1
      show Int32.ofInt (n : Int) = Int32.ofInt ((n : Int) / 16) <<< (Int32.ofInt 4 &&& 31)
      rw [show (n : Int) / 16 = ((n / 16 : Nat) : Int) by omega, q_oi, q_oi]
      exact q_tab1 n (by omega) (by omega)
    · cases h
  · cases h
theorem q_unQ_ok {Q s m : s_E} (h : q_unQ Q = some (s, m)) : s_ev θ Q = s_ev θ s ||| (s_ev θ m <<< (Int32.ofInt 4 &&& 31)) := by
  unfold q_unQ at h
  split at h
  · next s' R =>
    split at h
    · next m' hm =>
      cases h
      show s_ev θ s ||| s_ev θ R = _
      rw [q_unR_ok hm]
    · cases h
  · next m' z =>
    split at h
    · next hz =>
      cases h; subst hz
      show s_ev θ m <<< (Int32.ofInt 4 &&& 31) = Int32.ofInt 0 ||| _
      rw [show Int32.ofInt 0 = 0 from rfl, Int32.zero_or]
    · cases h
  · next z =>
    split at h
    · next hz =>
      cases h
      obtain ⟨n, rfl⟩ := q_nat hz.1
      show Int32.ofInt (n : Int) = Int32.ofInt ((n : Int) % 16) ||| (Int32.ofInt ((n : Int) / 16) <<< (Int32.ofInt 4 &&& 31))
      rw [show (n : Int) / 16 = ((n / 16 : Nat) : Int) by omega, show (n : Int) % 16 = ((n % 16 : Nat) : Int) by omega, q_oi, q_oi, q_oi]
      exact q_tab2 n (by omega)
    · cases h
  · cases h
theorem q_un1_ok {b c : Int} {o : Option (s_E × s_E)} {s m : s_E} (h : q_un1 b o = some (s, m, c)) : o = some (s, m) ∧ c = b := by
  unfold q_un1 at h
  split at h
  · cases h; exact ⟨rfl, rfl⟩
  · cases h
theorem q_b0 (x : Int32) : x ||| (Int32.ofInt 0 <<< (Int32.ofInt 11 &&& 31)) = x := by
  rw [show Int32.ofInt 0 <<< (Int32.ofInt 11 &&& 31) = 0 by decide, Int32.or_zero]
theorem q_unP_ok {P s m : s_E} {b : Int} (h : q_unP P = some (s, m, b)) : s_ev θ P = q_enc (s_ev θ s) (s_ev θ m) (Int32.ofInt b) ∧ (b = 0 ∨ b = 1) := by
  unfold q_unP at h
  split at h
  · next h48 =>
    obtain ⟨h1, rfl⟩ := q_un1_ok h
    unfold q_is48 at h48
    split at h48
    · next Q z =>
      have hz := of_decide_eq_true h48
      subst hz
      have h1 : q_unQ Q = some (s, m) := h1
      refine ⟨?_, Or.inr rfl⟩
      show s_ev θ Q ||| Int32.ofInt 2048 = q_enc (s_ev θ s) (s_ev θ m) (Int32.ofInt 1)
      rw [q_unQ_ok h1]
      unfold q_enc
      rw [show Int32.ofInt 1 <<< (Int32.ofInt 11 &&& 31) = Int32.ofInt 2048 by decide]
    · cases h48
  · split at h
    · next z _ =>
      split at h
      · next hz =>
        cases h
        refine ⟨?_, Or.inr rfl⟩
        obtain ⟨n, hn⟩ := q_nat (z := z - 2048) (by omega)
        show Int32.ofInt z = q_enc (Int32.ofInt ((z - 2048) % 16)) (Int32.ofInt ((z - 2048) / 16)) (Int32.ofInt 1)
        rw [hn, show z = ((n + 2048 : Nat) : Int) by omega, show (n : Int) / 16 = ((n / 16 : Nat) : Int) by omega, show (n : Int) % 16 = ((n % 16 : Nat) : Int) by omega, q_oi, q_oi, q_oi]
        exact q_tab3 n (by omega)
      · obtain ⟨h1, rfl⟩ := q_un1_ok h
        exact ⟨by rw [q_unQ_ok h1]; exact (q_b0 _).symm, Or.inl rfl⟩
    · obtain ⟨h1, rfl⟩ := q_un1_ok h
      exact ⟨by rw [q_unQ_ok h1]; exact (q_b0 _).symm, Or.inl rfl⟩
end QU
/-- bounds of an expression -/
noncomputable def q_bd (F : s_F) (e : s_E) (lo hi : Int) : Bool := s_and (s_lez lo (s_iv F e).1) (s_lez (s_iv F e).2 hi)
noncomputable def q_unk (F : s_F) (P : s_E) : Bool := s_if (s_eqE P q_pE) true (match q_unP P with
  | some (s, m, _) => s_and (q_bd F s 0 9) (q_bd F m 0 100)
  | none => false)
noncomputable def q_unv (P : s_E) : s_E × s_E × s_E := Bool.rec (motive := fun _ => s_E × s_E × s_E) (match q_unP P with
  | some (s, m, b) => (s, m, .leaf b)
  | none => (.leaf 0, .leaf 0, .leaf 0)) (q_SX, q_MX, q_BX) (s_eqE P q_pE)
def q_dS (P : s_E) : s_E := .branch 4 P (.leaf (.ofNat 15))
def q_dM (P : s_E) : s_E := .branch 4 (.branch 8 P (.leaf (.ofNat 4))) (.leaf (.ofNat 127))
def q_dB (P : s_E) : s_E := .branch 8 P (.leaf (.ofNat 11))
theorem q_bd_ok {θ : Nat → Int32} {F : s_F} {e : s_E} {lo hi : Int} (hF : s_FO θ F) (h : q_bd F e lo hi = true) : lo ≤ (s_ev θ e).toInt ∧ (s_ev θ e).toInt ≤ hi := by
  unfold q_bd at h
  rw [s_and_iff] at h
  have h1 := s_iv_ok (e := e) hF
  have hz : ∀ {x y : Int}, s_lez x y = true → x ≤ y := fun {x y} h => by
    have := (s_b_f (s_ltz_iff (x := y) (y := x))).mp h
    omega
  have h2 := hz h.1
  have h3 := hz h.2
  exact ⟨by omega, by omega⟩
theorem q_unv_ok {θ : Nat → Int32} {F : s_F} {P : s_E} (hF : s_FO θ F) (hP : s_FO θ q_FP) (hg : q_unk F P = true) : (s_ev θ (q_dS P) = s_ev θ (q_unv P).1 ∧ s_ev θ (q_dM P) = s_ev θ (q_unv P).2.1 ∧ s_ev θ (q_dB P) = s_ev θ (q_unv P).2.2) ∧ (0 ≤ (s_ev θ (q_dS P)).toInt ∧ (s_ev θ (q_dS P)).toInt ≤ 9) ∧ (0 ≤ (s_ev θ (q_dM P)).toInt ∧ (s_ev θ (q_dM P)).toInt ≤ 100) ∧ (0 ≤ (s_ev θ (q_dB P)).toInt ∧ (s_ev θ (q_dB P)).toInt ≤ 1) := by
  unfold q_unk at hg
  unfold q_unv
  cases hb : s_eqE P q_pE with
  | true =>
    have e := s_eqE_ok hb
    subst e
    refine ⟨⟨rfl, rfl, rfl⟩, ?_, ?_, ?_⟩
    · exact hP (q_SX, .ofNat 0, .ofNat 9) (by simp [q_FP])
    · exact hP (q_MX, .ofNat 0, .ofNat 100) (by simp [q_FP])
    · exact hP (q_BX, .ofNat 0, .ofNat 1) (by simp [q_FP])
  | false =>
    rw [hb] at hg
    cases hu : q_unP P with
    | none => rw [hu] at hg; cases hg
    | some t =>
      obtain ⟨s, m, b⟩ := t
      rw [hu] at hg
      have hg : s_and (q_bd F s 0 9) (q_bd F m 0 100) = true := hg
      rw [s_and_iff] at hg
      have h1 := q_bd_ok hF hg.1
      have h2 := q_bd_ok hF hg.2
      obtain ⟨e, hb2⟩ := q_unP_ok (θ := θ) hu
      have h3 : 0 ≤ (Int32.ofInt b).toInt ∧ (Int32.ofInt b).toInt ≤ 1 := by
        rcases hb2 with rfl | rfl <;> decide
      obtain ⟨d1, d2, d3⟩ := q_dec (S := s_ev θ s) (M := s_ev θ m) (B := Int32.ofInt b) h1.1 (by omega) h2.1 (by omega) h3.1 (by omega)
      rw [← e] at d1 d2 d3
      have d1 : s_ev θ (q_dS P) = s_ev θ s := d1
      have d2 : s_ev θ (q_dM P) = s_ev θ m := d2
      have d3 : s_ev θ (q_dB P) = Int32.ofInt b := d3
      exact ⟨⟨d1, d2, d3⟩, by rw [d1]; exact h1, by rw [d2]; exact h2, by rw [d3]; exact h3⟩
/-! the two bodies -/
noncomputable def q_at (H : s_H) (a i : Nat) : s_E := s_x ((H.1.get a).2.2.2.get i)
noncomputable def q_vr (L : s_L) (i : Nat) : s_E := s_x ((L[i]?).getD s_u)
noncomputable def q_P (H : s_H) : s_E := q_at H 7 0
/-- class and reference, unknown by unknown -/
noncomputable def q_ks (Hc : s_H) (Lc : s_L) (H : s_H) (L : s_L) : List (Nat × s_E × s_E) := [(20, q_vr Lc 4, q_vr L 3), (22, q_at Hc 6 3, q_at H 65 9), (23, q_at Hc 6 4, q_at H 65 10), (24, q_at Hc 6 6, q_at H 65 13), (26, q_P Hc, q_P Hc), (27, q_at Hc 6 5, q_at H 65 11), (28, q_at Hc 6 2, q_at H 65 12), (30, q_dS (q_P Hc), q_at H 65 20), (31, q_dM (q_P Hc), q_at H 65 21), (32, q_dB (q_P Hc), q_at H 65 22)]
noncomputable def q_σc (Hc : s_H) (Lc : s_L) : List (Nat × s_E) := [(20, q_vr Lc 4), (22, q_at Hc 6 3), (23, q_at Hc 6 4), (24, q_at Hc 6 6), (26, q_P Hc), (27, q_at Hc 6 5), (28, q_at Hc 6 2), (30, q_dS (q_P Hc)), (31, q_dM (q_P Hc)), (32, q_dB (q_P Hc))]
noncomputable def q_σr (Hc : s_H) (H : s_H) (L : s_L) : List (Nat × s_E) := [(20, q_vr L 3), (22, q_at H 65 9), (23, q_at H 65 10), (24, q_at H 65 13), (26, q_P Hc), (27, q_at H 65 11), (28, q_at H 65 12), (30, q_at H 65 20), (31, q_at H 65 21), (32, q_at H 65 22)]
noncomputable def s_eqx (F : s_F) (e f : s_E) : Bool := s_if (s_eqE e f) true (s_and (s_eqz (s_iv F e).1 (s_iv F e).2) (s_and (s_eqz (s_iv F f).1 (s_iv F f).2) (s_eqz (s_iv F e).1 (s_iv F f).1)))
/-- like expressions; of marks what they are put together of -/
noncomputable def q_prs (Hc : s_H) (Lc : s_L) (H : s_H) (L : s_L) : List (s_E × s_E) := [(q_vr Lc 4, q_vr L 3), (q_at Hc 6 3, q_at H 65 9), (q_at Hc 6 4, q_at H 65 10), (q_at Hc 6 6, q_at H 65 13), (q_at Hc 6 5, q_at H 65 11), (q_at Hc 6 2, q_at H 65 12), ((q_unv (q_P Hc)).1, q_at H 65 20), ((q_unv (q_P Hc)).2.1, q_at H 65 21), ((q_unv (q_P Hc)).2.2, q_at H 65 22)]
noncomputable def q_alle (F : s_F) (l : List (s_E × s_E)) : Bool := List.rec (motive := fun _ => Bool) true (fun p _ ih => s_and (s_eqx F p.1 p.2) ih) l
noncomputable def q_KSR (Hc : s_H) (Lc : s_L) : s_T := fun F H L S => s_and (s_mat (q_σr Hc H L) F H L S [] (q_tV1 q_g8) q_LR []) (q_alle F (q_prs Hc Lc H L))
noncomputable def q_B (F : s_F) (Hc : s_H) (Lc : s_L) : Bool := s_run s_X0 100000 42 (q_KSR Hc Lc) 50 m_X12_summer (fun _ _ _ => false) 47 F (q_tV q_g8) q_LR []
noncomputable def q_KSC : s_T := fun F H L S => s_and (q_cnt (q_σc H L)) (s_and (q_unk F (q_P H)) (s_and (s_mat (q_σc H L) F H L S q_FX (q_tU q_g8) q_LC []) (q_B F H L)))
def q_ρ : List (Nat × s_E) := [(30, q_SX), (31, q_MX), (32, q_BX)]
def q_E4 : s_E := .branch 11 (.branch 0 (.leaf (.ofNat 24)) (.leaf (.ofNat 0))) (.leaf (.ofNat 4))
def q_Gr (r a1 a2 b1 b2 c1 c2 : Int) : s_F := (q_E4, r, r) :: (q_SX, a1, a2) :: (q_MX, b1, b2) :: (q_BX, c1, c2) :: q_FB

set_option maxRecDepth 100000 in
theorem q_su0 : s_run s_X0 100000 55 q_KSC 50 m_X11_summer (fun _ _ _ => false) 61 (q_Gr (.ofNat 0) (.ofNat 0) (.ofNat 9) (.ofNat 0) (.ofNat 100) (.ofNat 0) (.ofNat 1)) (q_tU q_g8) q_LC [] = true := by decide +kernel
set_option maxRecDepth 100000 in
theorem q_su1 : s_run s_X0 100000 55 q_KSC 50 m_X11_summer (fun _ _ _ => false) 61 (q_Gr (.ofNat 1) (.ofNat 0) (.ofNat 9) (.ofNat 0) (.ofNat 100) (.ofNat 0) (.ofNat 1)) (q_tU q_g8) q_LC [] = true := by decide +kernel
set_option maxRecDepth 100000 in
theorem q_su2 : s_run s_X0 100000 55 q_KSC 50 m_X11_summer (fun _ _ _ => false) 61 (q_Gr (.ofNat 2) (.ofNat 0) (.ofNat 0) (.ofNat 0) (.ofNat 99) (.ofNat 0) (.ofNat 0)) (q_tU q_g8) q_LC [] = true := by decide +kernel
set_option maxRecDepth 100000 in
theorem q_su3 : s_run s_X0 100000 55 q_KSC 50 m_X11_summer (fun _ _ _ => false) 61 (q_Gr (.ofNat 2) (.ofNat 0) (.ofNat 0) (.ofNat 0) (.ofNat 99) (.ofNat 1) (.ofNat 1)) (q_tU q_g8) q_LC [] = true := by decide +kernel
set_option maxRecDepth 100000 in
theorem q_su4 : s_run s_X0 100000 55 q_KSC 50 m_X11_summer (fun _ _ _ => false) 61 (q_Gr (.ofNat 2) (.ofNat 0) (.ofNat 0) (.ofNat 100) (.ofNat 100) (.ofNat 0) (.ofNat 0)) (q_tU q_g8) q_LC [] = true := by decide +kernel
set_option maxRecDepth 100000 in
theorem q_su5 : s_run s_X0 100000 55 q_KSC 50 m_X11_summer (fun _ _ _ => false) 61 (q_Gr (.ofNat 2) (.ofNat 0) (.ofNat 0) (.ofNat 100) (.ofNat 100) (.ofNat 1) (.ofNat 1)) (q_tU q_g8) q_LC [] = true := by decide +kernel
set_option maxRecDepth 100000 in
theorem q_su6 : s_run s_X0 100000 55 q_KSC 50 m_X11_summer (fun _ _ _ => false) 61 (q_Gr (.ofNat 2) (.ofNat 1) (.ofNat 9) (.ofNat 0) (.ofNat 99) (.ofNat 0) (.ofNat 0)) (q_tU q_g8) q_LC [] = true := by decide +kernel
set_option maxRecDepth 100000 in
theorem q_su7 : s_run s_X0 100000 55 q_KSC 50 m_X11_summer (fun _ _ _ => false) 61 (q_Gr (.ofNat 2) (.ofNat 1) (.ofNat 9) (.ofNat 0) (.ofNat 99) (.ofNat 1) (.ofNat 1)) (q_tU q_g8) q_LC [] = true := by decide +kernel
set_option maxRecDepth 100000 in
theorem q_su8 : s_run s_X0 100000 55 q_KSC 50 m_X11_summer (fun _ _ _ => false) 61 (q_Gr (.ofNat 2) (.ofNat 1) (.ofNat 9) (.ofNat 100) (.ofNat 100) (.ofNat 0) (.ofNat 0)) (q_tU q_g8) q_LC [] = true := by decide +kernel
set_option maxRecDepth 100000 in
theorem q_su9 : s_run s_X0 100000 55 q_KSC 50 m_X11_summer (fun _ _ _ => false) 61 (q_Gr (.ofNat 2) (.ofNat 1) (.ofNat 9) (.ofNat 100) (.ofNat 100) (.ofNat 1) (.ofNat 1)) (q_tU q_g8) q_LC [] = true := by decide +kernel
set_option maxRecDepth 100000 in
theorem q_su10 : s_run s_X0 100000 55 q_KSC 50 m_X11_summer (fun _ _ _ => false) 61 (q_Gr (.ofNat 3) (.ofNat 0) (.ofNat 0) (.ofNat 0) (.ofNat 99) (.ofNat 0) (.ofNat 0)) (q_tU q_g8) q_LC [] = true := by decide +kernel
set_option maxRecDepth 100000 in
theorem q_su11 : s_run s_X0 100000 55 q_KSC 50 m_X11_summer (fun _ _ _ => false) 61 (q_Gr (.ofNat 3) (.ofNat 0) (.ofNat 0) (.ofNat 0) (.ofNat 99) (.ofNat 1) (.ofNat 1)) (q_tU q_g8) q_LC [] = true := by decide +kernel
set_option maxRecDepth 100000 in
theorem q_su12 : s_run s_X0 100000 55 q_KSC 50 m_X11_summer (fun _ _ _ => false) 61 (q_Gr (.ofNat 3) (.ofNat 0) (.ofNat 0) (.ofNat 100) (.ofNat 100) (.ofNat 0) (.ofNat 0)) (q_tU q_g8) q_LC [] = true := by decide +kernel
set_option maxRecDepth 100000 in
theorem q_su13 : s_run s_X0 100000 55 q_KSC 50 m_X11_summer (fun _ _ _ => false) 61 (q_Gr (.ofNat 3) (.ofNat 0) (.ofNat 0) (.ofNat 100) (.ofNat 100) (.ofNat 1) (.ofNat 1)) (q_tU q_g8) q_LC [] = true := by decide +kernel
set_option maxRecDepth 100000 in
theorem q_su14 : s_run s_X0 100000 55 q_KSC 50 m_X11_summer (fun _ _ _ => false) 61 (q_Gr (.ofNat 3) (.ofNat 1) (.ofNat 9) (.ofNat 0) (.ofNat 99) (.ofNat 0) (.ofNat 0)) (q_tU q_g8) q_LC [] = true := by decide +kernel
set_option maxRecDepth 100000 in
theorem q_su15 : s_run s_X0 100000 55 q_KSC 50 m_X11_summer (fun _ _ _ => false) 61 (q_Gr (.ofNat 3) (.ofNat 1) (.ofNat 9) (.ofNat 0) (.ofNat 99) (.ofNat 1) (.ofNat 1)) (q_tU q_g8) q_LC [] = true := by decide +kernel
set_option maxRecDepth 100000 in
theorem q_su16 : s_run s_X0 100000 55 q_KSC 50 m_X11_summer (fun _ _ _ => false) 61 (q_Gr (.ofNat 3) (.ofNat 1) (.ofNat 9) (.ofNat 100) (.ofNat 100) (.ofNat 0) (.ofNat 0)) (q_tU q_g8) q_LC [] = true := by decide +kernel
set_option maxRecDepth 100000 in
theorem q_su17 : s_run s_X0 100000 55 q_KSC 50 m_X11_summer (fun _ _ _ => false) 61 (q_Gr (.ofNat 3) (.ofNat 1) (.ofNat 9) (.ofNat 100) (.ofNat 100) (.ofNat 1) (.ofNat 1)) (q_tU q_g8) q_LC [] = true := by decide +kernel
theorem q_su_all {r s m b : Int} (hr : 0 ≤ r ∧ r ≤ 3) (hs : 0 ≤ s ∧ s ≤ 9) (hm : 0 ≤ m ∧ m ≤ 100) (hb : 0 ≤ b ∧ b ≤ 1) : ∃ a1 a2 b1 b2 c1 c2 : Int, a1 ≤ s ∧ s ≤ a2 ∧ b1 ≤ m ∧ m ≤ b2 ∧ c1 ≤ b ∧ b ≤ c2 ∧ s_run s_X0 100000 55 q_KSC 50 m_X11_summer (fun _ _ _ => false) 61 (q_Gr r a1 a2 b1 b2 c1 c2) (q_tU q_g8) q_LC [] = true := by
  have h4 : r = 0 ∨ r = 1 ∨ r = 2 ∨ r = 3 := by omega
  have hs2 : s = 0 ∨ (1 ≤ s ∧ s ≤ 9) := by omega
  have hm2 : (0 ≤ m ∧ m ≤ 99) ∨ m = 100 := by omega
  have hb2 : b = 0 ∨ b = 1 := by omega
  rcases h4 with rfl | rfl | rfl | rfl
  · exact ⟨0, 9, 0, 100, 0, 1, by omega, by omega, by omega, by omega, by omega, by omega, q_su0⟩
  · exact ⟨0, 9, 0, 100, 0, 1, by omega, by omega, by omega, by omega, by omega, by omega, q_su1⟩
  · rcases hs2 with hs2 | hs2
    · rcases hm2 with hm2 | hm2
      · rcases hb2 with hb2 | hb2
        · exact ⟨0, 0, 0, 99, 0, 0, by omega, by omega, by omega, by omega, by omega, by omega, q_su2⟩
        · exact ⟨0, 0, 0, 99, 1, 1, by omega, by omega, by omega, by omega, by omega, by omega, q_su3⟩
      · rcases hb2 with hb2 | hb2
        · exact ⟨0, 0, 100, 100, 0, 0, by omega, by omega, by omega, by omega, by omega, by omega, q_su4⟩
        · exact ⟨0, 0, 100, 100, 1, 1, by omega, by omega, by omega, by omega, by omega, by omega, q_su5⟩
    · rcases hm2 with hm2 | hm2
      · rcases hb2 with hb2 | hb2
        · exact ⟨1, 9, 0, 99, 0, 0, by omega, by omega, by omega, by omega, by omega, by omega, q_su6⟩
        · exact ⟨1, 9, 0, 99, 1, 1, by omega, by omega, by omega, by omega, by omega, by omega, q_su7⟩
      · rcases hb2 with hb2 | hb2
        · exact ⟨1, 9, 100, 100, 0, 0, by omega, by omega, by omega, by omega, by omega, by omega, q_su8⟩
        · exact ⟨1, 9, 100, 100, 1, 1, by omega, by omega, by omega, by omega, by omega, by omega, q_su9⟩
  · rcases hs2 with hs2 | hs2
    · rcases hm2 with hm2 | hm2
      · rcases hb2 with hb2 | hb2
        · exact ⟨0, 0, 0, 99, 0, 0, by omega, by omega, by omega, by omega, by omega, by omega, q_su10⟩
        · exact ⟨0, 0, 0, 99, 1, 1, by omega, by omega, by omega, by omega, by omega, by omega, q_su11⟩
      · rcases hb2 with hb2 | hb2
        · exact ⟨0, 0, 100, 100, 0, 0, by omega, by omega, by omega, by omega, by omega, by omega, q_su12⟩
        · exact ⟨0, 0, 100, 100, 1, 1, by omega, by omega, by omega, by omega, by omega, by omega, q_su13⟩
    · rcases hm2 with hm2 | hm2
      · rcases hb2 with hb2 | hb2
        · exact ⟨1, 9, 0, 99, 0, 0, by omega, by omega, by omega, by omega, by omega, by omega, q_su14⟩
        · exact ⟨1, 9, 0, 99, 1, 1, by omega, by omega, by omega, by omega, by omega, by omega, q_su15⟩
      · rcases hb2 with hb2 | hb2
        · exact ⟨1, 9, 100, 100, 0, 0, by omega, by omega, by omega, by omega, by omega, by omega, q_su16⟩
        · exact ⟨1, 9, 100, 100, 1, 1, by omega, by omega, by omega, by omega, by omega, by omega, q_su17⟩
set_option maxRecDepth 100000 in
theorem q_suxC : s_run s_X0 100000 99999 s_never 50 m_X11_summer (q_Ro [([], q_tA q_g8, .inr (1, (.branch 0 (.leaf (.ofNat 27)) (.leaf (.ofNat 0)))))]) 175 [] (q_tU q_g8) q_LC [] = true := by decide +kernel
set_option maxRecDepth 100000 in
theorem q_suxR : s_run s_X0 100000 99999 s_never 50 m_X12_summer (q_Ro [([], q_tB q_g8, .inr (1, (.branch 0 (.leaf (.ofNat 27)) (.leaf (.ofNat 0)))))]) 72 [] (q_tV q_g8) q_LR [] = true := by decide +kernel
def q_σ0 : List (Nat × s_E) := [(20, .leaf (.ofNat 0)), (22, .leaf (.ofNat 0)), (23, .leaf (.ofNat 0)), (24, (.branch 1 (.branch 3 (.branch 0 (.leaf (.ofNat 9)) (.leaf (.ofNat 0))) (.leaf (.ofNat 3))) (.leaf (.ofNat 73)))), (26, .leaf (.ofNat 0)), (27, .leaf (.ofNat 0)), (28, .leaf (.ofNat 20)), (30, .leaf (.ofNat 0)), (31, .leaf (.ofNat 0)), (32, .leaf (.ofNat 0))]
def q_F0s : s_F := [(.branch 0 (.leaf (.ofNat 9)) (.leaf (.ofNat 0)), .ofNat 0, .ofNat 9999), (.branch 0 (.leaf (.ofNat 10)) (.leaf (.ofNat 0)), .ofNat 1, .ofNat 40)]
def q_AC : s_L := [.inr (18, .leaf 0), .inr (1, (.branch 0 (.leaf (.ofNat 9)) (.leaf (.ofNat 0)))), .inr (1, (.branch 0 (.leaf (.ofNat 10)) (.leaf (.ofNat 0))))]
def q_AR : s_L := [.inr (80, .leaf 0), .inr (1, (.branch 0 (.leaf (.ofNat 9)) (.leaf (.ofNat 0)))), .inr (1, (.branch 0 (.leaf (.ofNat 10)) (.leaf (.ofNat 0))))]
set_option maxRecDepth 100000 in
theorem q_supC : s_top s_X0 100000 100000 55 (fun F H L S => s_mat q_σ0 F H L S q_FX (q_tU q_g8) q_LC []) 50 m_X11_summer (fun _ _ _ => false) 0 q_F0s (q_H0 q_g8) q_AC [] = true := by decide +kernel
set_option maxRecDepth 100000 in
theorem q_supR : s_top s_X0 100000 100000 42 (fun F H L S => s_mat q_σ0 F H L S [] (q_tV1 q_g8) q_LR []) 50 m_X12_summer (fun _ _ _ => false) 0 q_F0s (q_tA q_g8) q_AR [] = true := by decide +kernel
set_option maxRecDepth 100000 in
theorem q_conv : s_subHk q_ρ (q_tV1 q_g8) (fun H => s_hle [] [] H (q_tV q_g8)) = true := by decide +kernel
