/-! first contracts, by the kernel -/
def c_lo : Int := -2147483648
def c_hi : Int := 2147483647
def c_int (k : Nat) : List (Nat × Int × Int) := (List.range k).map (fun j => (j, -2147483648, 2147483647))
def c_arg (k : Nat) : List x_V := (List.range k).map (fun j => (1, 0, q_v j))
def c_min : x_C := (339, 2, c_arg 2, (c_int 2, [], []), [], [], 0, 0, 0, [(3, ([(2, -2147483648, 2147483647)], [q_sub (q_v 0) (q_v 2), q_sub (q_v 1) (q_v 2)], []), some (1, 0, q_v 2), [])])
def c_max : x_C := (337, 2, c_arg 2, (c_int 2, [], []), [], [], 0, 0, 0, [(3, ([(2, -2147483648, 2147483647)], [q_sub (q_v 2) (q_v 0), q_sub (q_v 2) (q_v 1)], []), some (1, 0, q_v 2), [])])
def c_within : x_C := (179, 3, c_arg 3, (c_int 3, [], []), [], [], 0, 0, 0, [(3, ([], [q_sub (q_v 0) (q_v 1), q_sub (q_v 2) (q_v 0)], []), some (1, 0, q_c 1), []), (3, ([], [], []), some (1, 0, q_c 0), [])])
def c_isIn : x_C := (184, 3, c_arg 3, (c_int 3, [], []), [], [], 0, 0, 0, [(3, ([], [q_sub (q_v 0) (q_v 1), q_sub (q_v 2) (q_v 0)], []), some (1, 0, q_c 1), []), (3, ([], [], []), some (1, 0, q_c 0), [])])
theorem c_try1 : x_all [] p_GT p_MT 100 [] [(c_min, []), (c_max, []), (c_within, []), (c_isIn, [])] = true := by decide +kernel
