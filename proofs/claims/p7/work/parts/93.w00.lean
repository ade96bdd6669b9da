/-! truth values as ints -/
def l_b (b : Bool) : Int32 := match b with
  | true => Int32.ofInt 1
  | false => Int32.ofInt 0
section LCX
variable {G : p_G} {MT : List p_M} {d : Nat} {M : p_M} {pc l : Nat} {ls : p_Ls} {st : List Value} {h : p_H} {Q : Option Value → p_H → Prop} {x y : Int32} {k : Nat}
theorem w_ixor (hat : p_at pc M.2.2.2.2.1 = some (.ixor, l)) (hk : p_wp G MT d M (pc + 1) ls (.int (x ^^^ y) :: st) h Q) : p_wp G MT d M pc ls (.int y :: .int x :: st) h Q := p_wp.step hat rfl hk
theorem w_ior (hat : p_at pc M.2.2.2.2.1 = some (.ior, l)) (hk : p_wp G MT d M (pc + 1) ls (.int (x ||| y) :: st) h Q) : p_wp G MT d M pc ls (.int y :: .int x :: st) h Q := p_wp.step hat rfl hk
end LCX
