def p_wds : List Value := [.long 469853041779, .long 495622843507, .long 1919906931, .long 1886350948, .long 495689623668, .long 7561591, .long 427121668979, .long 1936026732, .long 495874892151, .long 6578553, .long 1751474548, .long 1936292453, .long 120282378691940, .long 1701078885, .long 126896543659123, .long 461330343027, .long 25209, .long 24948, .long 1684366704, .long 29807, .long 7238760, .long 28518]
def p_h0 (xs : List Int32) : p_H := [(2, 0, xs.map Value.int), (2, 2, p_wds)]
theorem p_cpy_len {vs ws : List Value} {sp dp k : Nat} (h1 : sp + k ≤ vs.length) (h2 : dp + k ≤ ws.length) : (p_cpy vs ws sp dp k).length = ws.length := by
  simp only [p_cpy, List.length_append, List.length_take, List.length_drop]
  omega
