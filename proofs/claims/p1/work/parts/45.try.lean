set_option maxRecDepth 100000 in
theorem s_try1 : s_run s_X0 50000 99999 s_never 5 m_X12_lengthOf (fun _ _ v => Nat.beq (s_t v) 1 && s_is 1000 (s_x v)) 0 [] (.leaf (9, 0, 0, .leaf s_u), 0, 0) [.inl 0, .inl 0, .inl 1000] [] = true := by decide +kernel
