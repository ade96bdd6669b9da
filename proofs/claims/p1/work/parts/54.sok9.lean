/-! every instruction; the run -/
section SK9
variable {θ : Nat → Int32} {R : s_K} {KS : s_T} {hd d : Nat} {M : p_M} {pc : Nat} {ls : p_Ls} {st : List Value} {h : p_H} {i : Instr} {len : Nat} {nx : s_T} {J : s_J} {C : s_CC} {F : s_F} {H : s_H} {L S : s_L} {n : Nat}
theorem s_pld {k pc : Nat} {x : Int32} {ls : p_Ls} {st : List Value} {h : p_H} (e : p_lk k ls = some (.int x)) : p_ld k 0 pc ls st h = some (.inl (pc, ls, .int x :: st, h)) := by simp only [p_ld, e]; rfl
theorem s_pldl {k pc : Nat} {x : Int64} {ls : p_Ls} {st : List Value} {h : p_H} (e : p_lk k ls = some (.long x)) : p_ld k 1 pc ls st h = some (.inl (pc, ls, .long x :: st, h)) := by simp only [p_ld, e]; rfl
theorem s_plda {k pc : Nat} {x : Value} {ls : p_Ls} {st : List Value} {h : p_H} (e : p_lk k ls = some x) (hx : x = .null ∨ ∃ a, x = .ref a) : p_ld k 2 pc ls st h = some (.inl (pc, ls, x :: st, h)) := by
  rcases hx with rfl | ⟨a, rfl⟩ <;> simp only [p_ld, e] <;> rfl
set_option maxHeartbeats 4000000 in
set_option maxRecDepth 100000 in
theorem s_hd_ok (hn : p_ln i ≠ 0 → s_OK θ R KS hd d M nx (pc + p_ln i)) (hJ : ∀ t, s_OK θ R KS hd d M (J t) t) (hC : s_CO θ d C) (hat : p_at pc M.2.2.2.2.1 = some (i, len)) (hr : s_Rl θ F H L S ls st h) (hg : s_hd i M pc nx J C R F H L S = true) : s_Out θ R KS hd d M pc ls st h := by
  cases i with
  | iconst v => exact s_k_w (hn (fun e => by cases e)) hat hr rfl hg
  | bipush v =>
    have hg : s_and (decide (-(128 : Int) ≤ v ∧ v < 128)) (nx F H L (.inl v :: S)) = true := hg
    rw [s_and_iff] at hg
    have hv := of_decide_eq_true hg.1
    exact s_k_push (n := 2) (hn (fun e => by cases e)) hat hr (a := .inl v) (v := .int (Int32.ofInt v)) (by rw [← s_8 hv.1 hv.2]; rfl) ⟨by show (1 : Nat) ≠ 0; decide, ⟨by omega, by omega⟩, rfl⟩ hg.2
  | sipush v =>
    have hg : s_and (decide (-(32768 : Int) ≤ v ∧ v < 32768)) (nx F H L (.inl v :: S)) = true := hg
    rw [s_and_iff] at hg
    have hv := of_decide_eq_true hg.1
    exact s_k_push (n := 3) (hn (fun e => by cases e)) hat hr (a := .inl v) (v := .int (Int32.ofInt v)) (by rw [← s_16 hv.1 hv.2]; rfl) ⟨by show (1 : Nat) ≠ 0; decide, ⟨by omega, by omega⟩, rfl⟩ hg.2
  | lconst k => exact s_k_push (n := 1) (hn (fun e => by cases e)) hat hr (a := .inr (2, .leaf (Int.ofNat k.val))) (v := .long (Int64.ofNat k.val)) rfl ⟨by show (2 : Nat) ≠ 0; decide, Int.ofNat k.val, rfl, by rw [show Int64.ofInt (Int.ofNat k.val) = Int64.ofNat k.val from Int64.ofInt_eq_ofNat]⟩ hg
  | aconst_null => exact s_k_push (n := 1) (hn (fun e => by cases e)) hat hr (a := .inr (4, .leaf 0)) (v := .null) rfl ⟨by show (4 : Nat) ≠ 0; decide, rfl⟩ hg
  | ldc x =>
    have hg : s_pk x 3 M.2.2.2.2.2.1 (fun _ b => s_w b (s_nz nx F H L S)) = true := hg
    obtain ⟨q, hp, hg⟩ := s_pk_ok hg
    exact s_k_w (n := 2) (hn (fun e => by cases e)) hat hr (by simp only [p_step, p_cst, hp]; rfl) hg
  | ldc_w x =>
    have hg : s_pk x 3 M.2.2.2.2.2.1 (fun _ b => s_w b (s_nz nx F H L S)) = true := hg
    obtain ⟨q, hp, hg⟩ := s_pk_ok hg
    exact s_k_w (n := 3) (hn (fun e => by cases e)) hat hr (by simp only [p_step, p_cst, hp]; rfl) hg
  | ldc2_w x =>
    have hg : s_pk x 4 M.2.2.2.2.2.1 (fun _ b => s_fz (Int64.ofInt b).toInt (fun z => nx F H L (.inr (2, .leaf z) :: S))) = true := hg
    obtain ⟨q, hp, hg⟩ := s_pk_ok hg
    rw [s_fz_eq] at hg
    exact s_k_push (n := 3) (hn (fun e => by cases e)) hat hr (v := .long (Int64.ofInt q.2)) (by simp only [p_step, p_cst, hp]; rfl) s_l_ok hg
  | iload_n k => exact s_k_ldi (n := 1) (hn (fun e => by cases e)) hat hr (fun x e => s_pld e) hg
  | iload k => exact s_k_ldi (n := 2) (hn (fun e => by cases e)) hat hr (fun x e => s_pld e) hg
  | lload_n k => exact s_k_ldl (n := 1) (hn (fun e => by cases e)) hat hr (fun x e => s_pldl e) hg
  | lload k => exact s_k_ldl (n := 2) (hn (fun e => by cases e)) hat hr (fun x e => s_pldl e) hg
  | aload_n k => exact s_k_lda (n := 1) (hn (fun e => by cases e)) hat hr (fun x e hx => s_plda e hx) hg
  | aload k => exact s_k_lda (n := 2) (hn (fun e => by cases e)) hat hr (fun x e hx => s_plda e hx) hg
  | istore_n k => exact s_k_sti (nx := nx) (J := J) (C := C) (n := 1) (hn (fun e => by cases e)) hat hr (fun x V hk e => by subst e; simp only [p_step, p_sv]; rw [if_pos hk]; rfl) hg
  | istore k => exact s_k_sti (nx := nx) (J := J) (C := C) (n := 2) (hn (fun e => by cases e)) hat hr (fun x V hk e => by subst e; simp only [p_step, p_sv]; rw [if_pos hk]; rfl) hg
  | lstore_n k => exact s_k_stl (nx := nx) (J := J) (C := C) (n := 1) (hn (fun e => by cases e)) hat hr (fun x V hk e => by subst e; simp only [p_step, p_sv]; rw [if_pos hk]; rfl) hg
  | lstore k => exact s_k_stl (nx := nx) (J := J) (C := C) (n := 2) (hn (fun e => by cases e)) hat hr (fun x V hk e => by subst e; simp only [p_step, p_sv]; rw [if_pos hk]; rfl) hg
  | astore_n k => exact s_k_sta (nx := nx) (J := J) (C := C) (n := 1) (hn (fun e => by cases e)) hat hr (fun v V hk e hv => by subst e; rcases hv with rfl | ⟨x, rfl⟩ <;> simp only [p_step, p_sv] <;> rw [if_pos hk] <;> rfl) hg
  | astore k => exact s_k_sta (nx := nx) (J := J) (C := C) (n := 2) (hn (fun e => by cases e)) hat hr (fun v V hk e hv => by subst e; rcases hv with rfl | ⟨x, rfl⟩ <;> simp only [p_step, p_sv] <;> rw [if_pos hk] <;> rfl) hg
  | iinc k z => exact s_k_inc (nx := nx) (J := J) (C := C) (hn (fun e => by cases e)) hat hr hg
  | iadd => exact s_k_ib (nx := nx) (J := J) (C := C) (by decide) s_ok_add (by decide) (by decide) (hn (fun e => by cases e)) hat hr (fun x y V e => by subst e; rfl) hg
  | isub => exact s_k_ib (nx := nx) (J := J) (C := C) (by decide) s_ok_sub (by decide) (by decide) (hn (fun e => by cases e)) hat hr (fun x y V e => by subst e; rfl) hg
  | imul => exact s_k_ib (nx := nx) (J := J) (C := C) (by decide) s_ok_mul (by decide) (by decide) (hn (fun e => by cases e)) hat hr (fun x y V e => by subst e; rfl) hg
  | iand => exact s_k_ib (nx := nx) (J := J) (C := C) (by decide) s_ok_and (by decide) (by decide) (hn (fun e => by cases e)) hat hr (fun x y V e => by subst e; rfl) hg
  | ior => exact s_k_ib (nx := nx) (J := J) (C := C) (by decide) s_ok_or (by decide) (by decide) (hn (fun e => by cases e)) hat hr (fun x y V e => by subst e; rfl) hg
  | ixor => exact s_k_ib (nx := nx) (J := J) (C := C) (by decide) s_ok_xor (by decide) (by decide) (hn (fun e => by cases e)) hat hr (fun x y V e => by subst e; rfl) hg
  | ishl => exact s_k_ib (nx := nx) (J := J) (C := C) (by decide) s_ok_shl (by decide) (by decide) (hn (fun e => by cases e)) hat hr (fun x y V e => by subst e; rfl) hg
  | ishr => exact s_k_ib (nx := nx) (J := J) (C := C) (by decide) s_ok_shr (by decide) (by decide) (hn (fun e => by cases e)) hat hr (fun x y V e => by subst e; rfl) hg
  | iushr => exact s_k_ib (nx := nx) (J := J) (C := C) (by decide) s_ok_ushr (by decide) (by decide) (hn (fun e => by cases e)) hat hr (fun x y V e => by subst e; rfl) hg
  | idiv => exact s_k_id (nx := nx) (J := J) (C := C) (by decide) s_ok_div (hn (fun e => by cases e)) hat hr (fun x y V e hy => by subst e; simp only [p_step]; rw [if_neg hy]; rfl) hg
  | irem => exact s_k_id (nx := nx) (J := J) (C := C) (by decide) s_ok_rem (hn (fun e => by cases e)) hat hr (fun x y V e hy => by subst e; simp only [p_step]; rw [if_neg hy]; rfl) hg
  | ineg => exact s_k_iu (nx := nx) (J := J) (C := C) (by decide) s_ok_neg (by decide) (by decide) (hn (fun e => by cases e)) hat hr (fun x V e => by subst e; rfl) hg
  | i2b => exact s_k_iu (nx := nx) (J := J) (C := C) (by decide) s_ok_i2b (by decide) (by decide) (hn (fun e => by cases e)) hat hr (fun x V e => by subst e; rfl) hg
  | ladd => exact s_k_l2 (nx := nx) (J := J) (C := C) (hn (fun e => by cases e)) hat hr (fun x y V e => by subst e; rfl) hg
  | lsub => exact s_k_l2 (nx := nx) (J := J) (C := C) (hn (fun e => by cases e)) hat hr (fun x y V e => by subst e; rfl) hg
  | lmul => exact s_k_l2 (nx := nx) (J := J) (C := C) (hn (fun e => by cases e)) hat hr (fun x y V e => by subst e; rfl) hg
  | lor => exact s_k_l2 (nx := nx) (J := J) (C := C) (hn (fun e => by cases e)) hat hr (fun x y V e => by subst e; rfl) hg
  | ldiv => exact s_k_ldv (nx := nx) (J := J) (C := C) (f := fun x y => x / y) (hn (fun e => by cases e)) hat hr (fun x y V e hy => by subst e; simp only [p_step]; rw [if_neg hy]; rfl) hg
  | lrem => exact s_k_ldv (nx := nx) (J := J) (C := C) (f := fun x y => x - x / y * y) (hn (fun e => by cases e)) hat hr (fun x y V e hy => by subst e; simp only [p_step]; rw [if_neg hy]; rfl) hg
  | lneg => exact s_k_lng (nx := nx) (J := J) (C := C) (hn (fun e => by cases e)) hat hr hg
  | lshl => exact s_k_lsh (nx := nx) (J := J) (C := C) (f := fun x y => x <<< (y.toInt64 &&& 63)) (hn (fun e => by cases e)) hat hr (fun x y V e => by subst e; rfl) hg
  | lshr => exact s_k_lsh (nx := nx) (J := J) (C := C) (f := fun x y => x >>> (y.toInt64 &&& 63)) (hn (fun e => by cases e)) hat hr (fun x y V e => by subst e; rfl) hg
  | lcmp => exact s_k_lcmp (nx := nx) (J := J) (C := C) (hn (fun e => by cases e)) hat hr hg
  | i2l => exact s_k_i2l (nx := nx) (J := J) (C := C) (hn (fun e => by cases e)) hat hr hg
  | l2i => exact s_k_l2i (nx := nx) (J := J) (C := C) (hn (fun e => by cases e)) hat hr hg
  | dup => exact s_k_dup (nx := nx) (J := J) (C := C) (hn (fun e => by cases e)) hat hr hg
  | pop => exact s_k_pop (nx := nx) (J := J) (C := C) (hn (fun e => by cases e)) hat hr hg
  | dup2 => exact s_k_dup2 (nx := nx) (J := J) (C := C) (hn (fun e => by cases e)) hat hr hg
  | pop2 => exact s_k_pop2 (nx := nx) (J := J) (C := C) (hn (fun e => by cases e)) hat hr hg
  | ifCond c off => exact s_k_br1 (nx := nx) (J := J) (C := C) (hn (fun e => by cases e)) hJ hat hr hg
  | if_icmp c off => exact s_k_br2 (nx := nx) (J := J) (C := C) (hn (fun e => by cases e)) hJ hat hr hg
  | ifnull off => exact s_k_null (nx := nx) (J := J) (C := C) (hn (fun e => by cases e)) hJ hat hr hg
  | ifnonnull off => exact s_k_nonnull (nx := nx) (J := J) (C := C) (hn (fun e => by cases e)) hJ hat hr hg
  | goto off => exact s_k_goto (nx := nx) (J := J) (C := C) hJ hat hr hg
  | tableswitch a b c e => exact s_k_tsw (nx := nx) (J := J) (C := C) hJ hat hr hg
  | lookupswitch a b => exact s_k_lsw (nx := nx) (J := J) (C := C) hJ hat hr hg
  | iaload => exact s_k_al (nx := nx) (J := J) (C := C) (hn (fun e => by cases e)) hat hr (fun j a V e => by subst e; rfl) hg
  | laload => exact s_k_al (nx := nx) (J := J) (C := C) (hn (fun e => by cases e)) hat hr (fun j a V e => by subst e; rfl) hg
  | baload => exact s_k_al (nx := nx) (J := J) (C := C) (hn (fun e => by cases e)) hat hr (fun j a V e => by subst e; rfl) hg
  | aaload => exact s_k_al (nx := nx) (J := J) (C := C) (hn (fun e => by cases e)) hat hr (fun j a V e => by subst e; rfl) hg
  | iastore => exact s_k_as (nx := nx) (J := J) (C := C) (hn (fun e => by cases e)) hat hr (fun x v j a V e hw hv => by subst e; obtain ⟨y, rfl⟩ := s_v_i hw hv; rfl) hg
  | lastore => exact s_k_as (nx := nx) (J := J) (C := C) (hn (fun e => by cases e)) hat hr (fun x v j a V e hw hv => by subst e; obtain ⟨y, rfl⟩ := s_v_l hw hv; rfl) hg
  | bastore => exact s_k_asb (nx := nx) (J := J) (C := C) (hn (fun e => by cases e)) hat hr hg
  | aastore => exact s_k_aas (nx := nx) (J := J) (C := C) (hn (fun e => by cases e)) hat hr hg
  | arraylength => exact s_k_alen (nx := nx) (J := J) (C := C) (hn (fun e => by cases e)) hat hr hg
  | newarray ty => exact s_k_newa (nx := nx) (J := J) (C := C) (hn (fun e => by cases e)) hat hr hg
  | anewarray x => exact s_k_anew (nx := nx) (J := J) (C := C) (hn (fun e => by cases e)) hat hr hg
  | new x => exact s_k_new (nx := nx) (J := J) (C := C) (hn (fun e => by cases e)) hat hr hg
  | getfield x => exact s_k_getf (nx := nx) (J := J) (C := C) (hn (fun e => by cases e)) hat hr hg
  | putfield x => exact s_k_putf (nx := nx) (J := J) (C := C) (hn (fun e => by cases e)) hat hr hg
  | getstatic x => exact s_k_gets (nx := nx) (J := J) (C := C) (hn (fun e => by cases e)) hat hr hg
  | invokestatic x => exact s_k_invs (nx := nx) (J := J) (C := C) (hn (fun e => by cases e)) hC hat hr hg
  | invokevirtual x => exact s_k_invv (nx := nx) (J := J) (C := C) (hn (fun e => by cases e)) hC hat hr hg
  | invokespecial x => exact s_k_invi (nx := nx) (J := J) (C := C) (hn (fun e => by cases e)) hC hat hr hg
  | checkcast x => exact s_k_cc (nx := nx) (J := J) (C := C) (hn (fun e => by cases e)) hat hr hg
  | return_ => exact s_k_r0 (nx := nx) (J := J) (C := C) hat hr hg
  | ireturn => exact s_k_re (nx := nx) (J := J) (C := C) hat hr (fun a v e hw hv => by subst e; obtain ⟨y, rfl⟩ := s_v_i hw hv; rfl) hg
  | lreturn => exact s_k_re (nx := nx) (J := J) (C := C) hat hr (fun a v e hw hv => by subst e; obtain ⟨y, rfl⟩ := s_v_l hw hv; rfl) hg
  | areturn => exact s_k_re (nx := nx) (J := J) (C := C) hat hr (fun a v e hw hv => by subst e; rcases s_v_r hw hv with rfl | ⟨y, rfl⟩ <;> rfl) hg
  | _ => cases hg
end SK9
