/-! THE CLASS READS A CLAUSE, further -/
section RS13
variable {h : p_H} {dd n p u m : Nat} {la : Int32} {sv : Bool} {ml se ro fa pl : Value} {b : Nat → Nat}
theorem c_clause (hS : c_S h b n p u m la false ml se ro fa pl) (hn : n ≤ 300) (hp : p ≤ n) (hm : m ≤ 24) {x y z : Bool} (hx : c_nv ml x) (hy : c_nv se y) (hz : c_nv ro z) : p_wp p_GT p_MT (dd + 40) m_X3_readClause 0 (lv_args 0 [.ref 43]) [] h (fun v h2 => v = some (.int (l_b (Nat.beq (t_cl b n m (c_b3 x y z) p).1 0))) ∧ ((t_cl b n m (c_b3 x y z) p).1 = 0 → ∃ (u2 : Nat) (la2 : Int32) (ml2 se2 ro2 : Value) (x2 y2 z2 : Bool), c_S h2 b n (t_cl b n m (c_b3 x y z) p).2 u2 (m + 1) la2 false ml2 se2 ro2 fa pl ∧ c_nv ml2 x2 ∧ c_nv se2 y2 ∧ c_nv ro2 z2 ∧ c_b3 x2 y2 z2 = (if t_cw b n p < 3 then c_b3 x y z + 2 ^ t_cw b n p else c_b3 x y z) ∧ p < (t_cl b n m (c_b3 x y z) p).2 ∧ (t_cl b n m (c_b3 x y z) p).2 ≤ n ∧ m < 24) ∧ ((t_cl b n m (c_b3 x y z) p).1 ≠ 0 → ∃ (u2 m2 : Nat) (la2 : Int32) (sv2 : Bool) (ml2 se2 ro2 : Value), c_S h2 b n (t_cl b n m (c_b3 x y z) p).2 u2 m2 la2 sv2 ml2 se2 ro2 (.int (Int32.ofNat (t_cl b n m (c_b3 x y z) p).1)) (.int (Int32.ofNat (t_cl b n m (c_b3 x y z) p).2)))) := by
  have hc := t_cw_le (b := b) (n := n) (p := p)
  have : t_cw b n p = 0 ∨ t_cw b n p = 1 ∨ t_cw b n p = 2 ∨ t_cw b n p = 3 ∨ t_cw b n p = 4 ∨ t_cw b n p = 5 ∨ t_cw b n p = 6 ∨ t_cw b n p = 7 ∨ t_cw b n p = 8 ∨ t_cw b n p = 9 ∨ t_cw b n p = 10 := by omega
  rcases this with q | q | q | q | q | q | q | q | q | q | q
  · exact c_cl0 hS hn hp hm hx hy hz q
  · exact c_cl1 hS hn hp hm hx hy hz q
  · exact c_cl2 hS hn hp hm hx hy hz q
  · exact c_cl3 hS hn hp hm hx hy hz q
  · exact c_cl4 hS hn hp hm hx hy hz q
  · exact c_cl5 hS hn hp hm hx hy hz q
  · exact c_cl6 hS hn hp hm hx hy hz q
  · exact c_cl7 hS hn hp hm hx hy hz q
  · exact c_cl8 hS hn hp hm hx hy hz q
  · exact c_cl9 hS hn hp hm hx hy hz q
  · exact c_clno hS hn hp hm hx hy hz q
end RS13
