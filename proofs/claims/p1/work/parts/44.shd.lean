/-- what each instruction does -/
noncomputable def s_hd (i : Instr) : s_D := Jvm.ClassFile.Instr.rec (motive := fun _ => s_D) (s_al 4 4) (s_aas) (s_vpush (.inr (4, .leaf 0))) (fun k => s_lda k) (fun k => s_lda k.val) (fun x => s_anew x) (s_re s_isr) (s_alen) (fun k => s_sta k) (fun k => s_sta k.val) s_no (s_al 1 3) (s_asb) (fun b => s_bpush 128 b) s_no s_no (fun x => s_cc x) s_no s_no s_no s_no s_no s_no (fun _ => s_no) (fun _ => s_no) s_no (fun _ => s_no) (fun _ => s_no) s_no s_no s_no s_no (fun _ => s_no) (fun _ => s_no) s_no (s_dup) s_no s_no (s_dup2) s_no s_no s_no s_no s_no s_no s_no s_no (fun _ => s_no) (fun _ => s_no) s_no (fun _ => s_no) (fun _ => s_no) s_no s_no s_no s_no (fun _ => s_no) (fun _ => s_no) s_no (fun x => s_getf x) (fun x => s_gets x) (fun off => s_goto off) (fun _ => s_no) (s_iu 12 s_ci2b) s_no s_no s_no (s_i2l) s_no (s_ib 1 s_cadd) (s_al 0 0) (s_ib 4 s_cand) (s_as 0 s_isi) (fun i => s_ipush i) (s_id 10 s_cdiv) (fun _ _ => s_no) (fun c off => s_br2 c off) (fun c off => s_br1 c off) (fun off => s_brn false off) (fun off => s_brn true off) (fun k d => s_inc k d) (fun k => s_ldi k) (fun k => s_ldi k.val) (s_ib 3 s_cmul) (s_iu 13 s_cneg) (fun _ => s_no) (fun _ => s_no) (fun _ _ => s_no) (fun x => s_invi x) (fun x => s_invs x) (fun x => s_invv p_MT x) (s_ib 5 s_cor) (s_id 11 s_crem) (s_re s_isi) (s_ib 7 s_cshl) (s_ib 8 s_cshr) (fun k => s_sti k) (fun k => s_sti k.val) (s_ib 2 s_csub) (s_ib 9 s_cushr) (s_ib 6 s_cxor) (fun _ => s_no) (fun _ => s_no) s_no s_no (s_l2i) (s_l2 (fun x y => x + y)) (s_al 2 2) s_no (s_as 2 s_long) (s_lcmp) (fun l => s_vpush (.inr (2, .leaf (Int.ofNat l.val)))) (fun x => s_cst x) (fun x => s_cst x) (fun x => s_cstl x) (s_ldv (fun x y => x / y)) (fun k => s_ldl k) (fun k => s_ldl k.val) (s_l2 (fun x y => x * y)) (s_lng) (fun d ps => s_lsw d ps) (s_l2 (fun x y => x ||| y)) (s_ldv (fun x y => x - x / y * y)) (s_re s_long) (s_lsh (fun x y => x <<< (y.toInt64 &&& 63))) (s_lsh (fun x y => x >>> (y.toInt64 &&& 63))) (fun k => s_stl k) (fun k => s_stl k.val) (s_l2 (fun x y => x - y)) s_no s_no s_no s_no (fun _ _ => s_no) (fun x => s_new p_GT x) (fun ty => s_newa ty) s_no (s_pop) (s_pop2) (fun x => s_putf p_GT x) (fun _ => s_no) (fun _ => s_no) (s_r0) s_no s_no (fun b => s_bpush 32768 b) s_no (fun d lo hi offs => s_tsw d lo hi offs) i
/-- the code from a point on -/
noncomputable def s_sfx (pc : Nat) (l : List p_I) : List p_I := List.rec (motive := fun _ => List p_I) [] (fun q r ih => Bool.rec (motive := fun _ => List p_I) ih (q :: r) (Nat.beq q.1 pc)) l
noncomputable def s_blk (M : p_M) (J : s_J) (C : s_CC) (R : s_K) (l : List p_I) : s_T := List.rec (motive := fun _ => s_T) (fun _ _ _ _ => false) (fun q _ ih => s_hd q.2.1 M q.1 ih J C R) l
/-- each instruction behind the one ahead of it -/
def s_adj : List p_I → Bool
  | [] => true
  | q :: r => (match r with
    | [] => true
    | p :: _ => Nat.blt q.1 p.1 && (Nat.beq (p_ln q.2.1) 0 || Nat.beq (q.1 + p_ln q.2.1) p.1)) && s_adj r
/-- calls that are known: depth, method, variables, their room, .. ; else the last -/
abbrev s_X : Type := Nat → Nat → s_L → Nat → s_F → s_H → s_K → Bool → Bool
/-- the run: summaries, where it stops with what, depth, method, returns -/
abbrev s_R : Type := Nat → s_T → Nat → p_M → s_K → Nat → s_T
def s_never : s_T := fun _ _ _ _ => false
noncomputable def s_call2 (ih : s_R) (A : s_L) (c : Nat) (F : s_F) (H : s_H) (K : s_K) (d : Nat) (M : p_M) : Bool := s_and (Nat.ble c M.2.2.1) (ih 99999 s_never d M K 0 F H A [])
noncomputable def s_call1 (X : s_X) (MT : List p_M) (ih : s_R) (m : Nat) (A : s_L) (c : Nat) (F : s_F) (H : s_H) (K : s_K) (d : Nat) : Bool := X d m A c F H K (Option.rec (motive := fun _ => Bool) false (s_call2 ih A c F H K d) (MT[m]?))
noncomputable def s_call (X : s_X) (MT : List p_M) (ih : s_R) (d : Nat) : s_CC := fun m A c F H K => Nat.rec (motive := fun _ => Bool) false (fun d _ => s_call1 X MT ih m A c F H K d) d
noncomputable def s_jmp (ih : s_R) (hd : Nat) (KS : s_T) (d : Nat) (M : p_M) (R : s_K) : s_J := fun t F H L S => s_if (Nat.beq t hd) (KS F H L S) (ih hd KS d M R t F H L S)
noncomputable def s_run1 (X : s_X) (ih : s_R) : s_R := fun hd KS d M R pc F H L S => s_and (s_adj M.2.2.2.2.1) (s_blk M (s_jmp ih hd KS d M R) (s_call X p_MT ih d) R (s_sfx pc M.2.2.2.2.1) F H L S)
noncomputable def s_run (X : s_X) (n : Nat) : s_R := Nat.rec (motive := fun _ => s_R) (fun _ _ _ _ _ _ _ _ _ _ => false) (fun _ ih => s_run1 X ih) n
def s_X0 : s_X := fun _ _ _ _ _ _ _ E => E
