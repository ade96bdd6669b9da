/-! a loop over an array, by the kernel -/
def c_ek : List x_K := [(1, 0, [x_any], [], [], [], 0, 5000)]
def c_fill : x_C := (341, 2, [(3, 0, q_v 0), (1, 0, q_v 1)], ([(1, -2147483648, 2147483647)], [], []), [], [(0, 0, 4999)], 0, 0, 0, [(2, ([], [], []), none, [])])
def u_fill : x_U := (5, 4, ([(1, -2147483648, 2147483647), (2, 0, 5000), (3, 0, 5000)], [q_sub (q_v 3) (q_v 2)], []), [(3, 0, q_v 0), (1, 0, q_v 1), (1, 0, q_v 2), (1, 0, q_v 3)], [(q_v 0, 0, x_len, (1, 0, q_v 3))], q_c 0, q_c 0, q_sub (q_v 3) (q_v 2))
theorem c_try2 : x_chk c_ek p_GT p_MT [] 100 c_fill [u_fill] = true := by decide +kernel
