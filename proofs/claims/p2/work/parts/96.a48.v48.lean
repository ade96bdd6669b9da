section V48
variable {s s1 s2 : d_S} {t : Nat → Option p_C} {L : v_LR} {u v W H b N n : Nat} {st me so : Nat → Nat} {sg : Nat → Nat → Nat} {day heat x : Int} {e : Option Nat}
theorem v_pr1_0 : 0 ≤ v_pr1 L sg u v W H N day heat st me b := v_sel_b.1
theorem v_ah_p61 {c b : Nat} (hb : v_csb u v so me b) : v_ah (v_p61 L sg u v W H N day heat st me so) c b ↔ v_csb u v so me c ∧ v_ah (v_pr1 L sg u v W H N day heat st me) c b := by
  have h0 := v_pr1_0 (L := L) (sg := sg) (u := u) (v := v) (W := W) (H := H) (N := N) (day := day) (heat := heat) (st := st) (me := me) (b := b)
  unfold v_ah v_p61
  rw [if_pos hb]
  by_cases q : v_csb u v so me c
  · rw [if_pos q]; exact ⟨fun h => ⟨q, h⟩, fun h => h.2⟩
  · rw [if_neg q]
    exact ⟨fun h => by omega, fun h => absurd h.1 q⟩
theorem v_rnds {y : Int} (hy : 0 ≤ y) : ∀ (j r m : Nat), r + j = 66 → j < m → (r : Int) ≤ y + 1 → ∀ (s : d_S) (z : Int), v_rdr s L u v W H st me so N sg day heat → v_ct (fun c => v_csb u v so me c ∧ ¬ s.1 74 c = 0) (v_bl u v) = r → (∀ c, c < v_bl u v → s.1 74 c = 0 → v_csb u v so me c) → (∀ c d, c < v_bl u v → d < v_bl u v → v_csb u v so me c → ¬ s.1 74 c = 0 → s.1 74 d = 0 → v_ah (v_pr1 L sg u v W H N day heat st me) c d) → ((r : Int) = y + 1 → v_dr (v_csb u v so me) (v_p61 L sg u v W H N day heat st me so) (v_bl u v) y z) → ∃ (z' : Int) (s' : d_S), F_X12_dearest_l43 m y z (r : Int) s = some (z', s') ∧ v_74 s s' ∧ v_Nm (s'.1 71) ∧ v_dr (v_csb u v so me) (v_p61 L sg u v W H N day heat st me so) (v_bl u v) y z' := by
  intro j
  induction j with
  | zero =>
    intro r m hr hm hy1 s z h hc h1 h2 h3
    have := v_ct_b (Q := fun c => v_csb u v so me c ∧ ¬ s.1 74 c = 0) (v_bl u v)
    have := h.1.ac.2.2.1
    omega
  | succ j ih =>
    intro r m hr hm hy1 s z h hc h1 h2 h3
    obtain ⟨m, rfl⟩ : ∃ q, m = q + 1 := ⟨m - 1, by omega⟩
    have h64 := h.1.ac.2.2.1
    show ∃ (z' : Int) (s' : d_S), F_X12_dearest_l43_b (F_X12_dearest_l43 m) _ _ _ s = _ ∧ _
    unfold F_X12_dearest_l43_b
    by_cases q : y < (r : Int)
    · rw [if_pos q]
      exact ⟨z, s, rfl, ⟨fun _ _ _ => rfl, rfl⟩, h.2.2.2.2.1, h3 (by omega)⟩
    rw [if_neg q]
    obtain ⟨z1, s1, r1, r2, r3, r4⟩ := v_de53R (L := L) (N := N) (sg := sg) (st := st) (me := me) (so := so) (day := day) (heat := heat) (K := fun x1_u13 x2_u13 x3_u13 s_u13 => if x2_u13 = (-1) then some ((-1), s_u13) else d_g (0 ≤ x2_u13 ∧ x2_u13 < 64) (d_l (d_si s_u13 74 ((x2_u13).toNat) 1) (fun s15 => F_X12_dearest_l43 m x1_u13 x2_u13 (d_w (x3_u13 + 1)) s15))) (y := y) (i := (r : Int)) (T := s.1 74) (v_bl u v) 0 d_N (by omega) (by rw [d_N_is]; omega) s (-1) h rfl (Or.inl ⟨rfl, fun d hd => absurd hd (Nat.not_lt_zero d)⟩)
    have e74 : s1.1 74 = s.1 74 := r3.1 74 (by decide)
    rcases r4 with ⟨g1, g2⟩ | ⟨b, g1, g2, g3, g4⟩
    · 
      subst g1
      refine ⟨-1, s1, ?_, ⟨fun a h1 _ => r3.1 a h1, r3.2.1⟩, r2.2.2.2.2.1, Or.inr ⟨rfl, fun b hb hs => ?_⟩⟩
      · refine (show F_X12_dearest_l53 _ d_N y (-1) (r : Int) 0 s = _ from r1).trans ?_
        show (if (-1 : Int) = -1 then _ else _) = _
        rw [if_pos rfl]
      · have := v_ct_lt (Q := fun c => v_ah (v_p61 L sg u v W H N day heat st me so) c b) (R := fun c => v_csb u v so me c ∧ ¬ s.1 74 c = 0) (v_bl u v) (fun c hc hh => ⟨((v_ah_p61 hs).1 hh).1, g2 c hc⟩) ⟨b, hb, ⟨hs, g2 b hb⟩, v_ah_i⟩
        omega
    subst g1
    have hsb : v_csb u v so me b := h1 b g2 g3
    
    have hrk : v_ct (fun c => v_ah (v_p61 L sg u v W H N day heat st me so) c b) (v_bl u v) = r := by
      rw [← hc]
      refine v_ct_cg (fun c hc => ⟨fun hh => ?_, fun hh => (v_ah_p61 hsb).2 ⟨hh.1, h2 c b hc g2 hh.1 hh.2 g3⟩⟩)
      obtain ⟨f1, f2⟩ := (v_ah_p61 hsb).1 hh
      refine ⟨f1, fun hu => ?_⟩
      by_cases e : c = b
      · rw [e] at f2; exact v_ah_i f2
      · exact v_ah_i (v_ah_t f2 (g4 c hc hu e))
    obtain ⟨s2, hs2⟩ : ∃ q, q = d_si s1 74 b 1 := ⟨_, rfl⟩
    have f74 : ∀ c, s2.1 74 c = d_u (s.1 74) b 1 c := fun c => by rw [hs2, d_si_i, e74]
    have f0 : ∀ c, s2.1 74 c = 0 → s.1 74 c = 0 ∧ ¬ c = b := fun c hh => by
      rw [f74] at hh
      by_cases e : c = b
      · rw [e, d_u_t] at hh; omega
      · rw [d_u_n e] at hh; exact ⟨hh, e⟩
    obtain ⟨z', s', c1, c2, c3, c4⟩ := ih (r + 1) m (by omega) (by omega) (by omega) s2 (b : Int) (r2.fr (by rw [hs2, d_si_n (by decide)]) (by rw [hs2, d_si_n (by decide)]) (by rw [hs2, d_si_n (by decide)]; exact r2.2.2.2.2.1)) (by
      rw [← hc]
      refine v_ct_add (b := b) (fun hh => hh.2 g3) (v_bl u v) g2 (fun c => ?_)
      rw [f74]
      by_cases e : c = b
      · rw [e, d_u_t]; exact ⟨fun _ => Or.inr rfl, fun _ => ⟨hsb, by decide⟩⟩
      · rw [d_u_n e]; exact ⟨Or.inl, fun hh => hh.elim id (fun hh => absurd hh e)⟩) (fun c hc hh => h1 c hc (f0 c hh).1) (fun c d hc hd hs hh hu => by
      obtain ⟨u1, u2⟩ := f0 d hu
      by_cases e : c = b
      · rw [e]; exact g4 d hd u1 u2
      · rw [f74, d_u_n e] at hh
        exact h2 c d hc hd hs hh u1) (fun hh => Or.inl ⟨b, rfl, g2, hsb, by rw [hrk]; omega⟩)
    refine ⟨z', s', ?_, ⟨fun a h1 h2 => by rw [c2.1 a h1 h2, hs2, d_si_n h2]; exact r3.1 a h1, by rw [c2.2, hs2]; exact r3.2.1⟩, c3, c4⟩
    refine (show F_X12_dearest_l53 _ d_N y (-1) (r : Int) 0 s = _ from r1).trans ?_
    show (if (b : Int) = -1 then _ else _) = _
    rw [if_neg (by omega), d_g_t (by omega), Int.toNat_natCast, d_l_t, ← hs2, d_w_id (by omega) (by omega)]
    exact c1
theorem v_R.rdy (h : v_R t s) : ∃ (L : v_LR) (u v W H : Nat) (st me so : Nat → Nat) (N : Nat) (sg : Nat → Nat → Nat) (day heat x : Int), v_rdy t s L u v W H st me so N sg day heat x ∧ v_rdr s L u v W H st me so N sg day heat := by
  obtain ⟨e, L, u, v, W, H, st, me, so, N, sg, day, heat, x, hG, hQ, hB, hM, hZ, hS, hE, hCT, hY, hN1, hgo, hC, hBd⟩ := h.come
  obtain ⟨g1, g2, g3, g4, ⟨g5, g6, g7⟩, g8, g9, g10⟩ := hgo
  exact ⟨L, u, v, W, H, st, me, so, N, sg, day, heat, x, ⟨hM, hQ, hS, hY, hN1, e, hE, hCT⟩, ⟨hG, hZ, hB, g2, g3, ⟨g5, g6⟩, g8, g9⟩⟩
theorem R_dearest (h : v_R t s) {y : Int} : v_AA t (F_X11_dearest t s y) (fun s1 => F_X12_dearest s1 y) := by
  obtain ⟨L, u, v, W, H, st, me, so, N, sg, day, heat, x, hC, hR⟩ := h.rdy
  have h64 := hC.2.1.2.2.1
  obtain ⟨s1, a1, a2, a3, a4, a5⟩ := v_deal (L := L) (N := N) (sg := sg) (K := fun x1_u6 s_u6 => F_X11_dearest_l53 t d_N x1_u6 0 s_u6) (y := y) (v_bl u v) 0 d_N (by omega) (by rw [d_N_is]; omega) s hC (fun b hb => absurd hb (Nat.not_lt_zero b))
  obtain ⟨r, b1, b2⟩ := v_de53 (s := s1) (t := t) (S := v_csb u v so me) a2.2.1 (fun b hb => by
    rw [a3 b hb]
    have h0 := v_pr1_0 (L := L) (sg := sg) (u := u) (v := v) (W := W) (H := H) (N := N) (day := day) (heat := heat) (st := st) (me := me) (b := b)
    unfold v_p61
    by_cases q : v_csb u v so me b
    · rw [if_pos q]; exact ⟨fun _ => by omega, fun _ => q⟩
    · rw [if_neg q]; exact ⟨fun e => absurd e q, fun e => absurd rfl e⟩) (y := y) (v_bl u v) 0 d_N (by omega) (by rw [d_N_is]; omega) (fun b hb => absurd hb (Nat.not_lt_zero b))
  have hdr : v_dr (v_csb u v so me) (v_p61 L sg u v W H N day heat st me so) (v_bl u v) y r := by
    have cg : ∀ b, b < v_bl u v → v_ct (fun c => v_ah (s1.1 61) c b) (v_bl u v) = v_ct (fun c => v_ah (v_p61 L sg u v W H N day heat st me so) c b) (v_bl u v) := fun b hb => v_ct_cg (fun c hc => by unfold v_ah; rw [a3 b hb, a3 c hc])
    rcases b2 with ⟨b, g1, g2, g3, g4⟩ | ⟨g1, g2⟩
    · exact Or.inl ⟨b, g1, g2, g3, by rw [← cg b g2]; exact g4⟩
    · exact Or.inr ⟨g1, fun b hb hs => by rw [← cg b hb]; exact g2 b hb hs⟩
  have hcl : F_X11_dearest t s y = some (r, s1) := (show F_X11_dearest_l2 t _ d_N y 0 s = _ from a1).trans b1
  have hR1 : v_rdr s1 L u v W H st me so N sg day heat := hR.fr (a4 65 (by decide) (by decide) (by decide) (by decide)) (a4 67 (by decide) (by decide) (by decide) (by decide)) (by rw [a4 71 (by decide) (by decide) (by decide) (by decide)]; exact hR.2.2.2.2.1)
  have done : ∀ s2, v_74 s1 s2 → v_Nm (s2.1 71) → v_R t s2 := fun s2 h1 h2 => h.scr (fun a ha => by
    unfold v_cl at ha
    rw [h1.1 a (by omega) (by omega), a4 a (by omega) (by omega) (by omega) (by omega)]) (fun a ha => by rw [h1.2]; exact a5 a ha) ⟨by rw [h1.1 49 (by decide) (by decide)]; exact a2.2.2.2.2.1, h2⟩
  by_cases q : y < 0
  · have hr : r = -1 := by
      rcases hdr with ⟨b, g1, g2, g3, g4⟩ | ⟨g1, -⟩
      · omega
      · exact g1
    subst hr
    refine ⟨-1, s1, s1, hcl, ?_, done s1 ⟨fun _ _ _ => rfl, rfl⟩ hR1.2.2.2.2.1⟩
    show F_X12_dearest s1 y = _
    unfold F_X12_dearest
    rw [if_pos q]
  obtain ⟨s2, c1, c2, c3, c4⟩ := v_de8 (L := L) (N := N) (sg := sg) (day := day) (heat := heat) (u := u) (v := v) (W := W) (H := H) (st := st) (me := me) (so := so) (K := fun x1_u6 s_u6 => F_X12_dearest_l43 d_N x1_u6 (-1) 0 s_u6) (y := y) 64 0 d_N rfl (by rw [d_N_is]; decide) s1 hR1 (fun b hb => absurd hb (Nat.not_lt_zero b))
  have c0 : ∀ c, c < v_bl u v → (s2.1 74 c = 0 ↔ v_csb u v so me c) := fun c hc => by
    rw [c3 c (by omega)]
    by_cases q : v_csb u v so me c
    · rw [if_pos q]; exact ⟨fun _ => q, fun _ => rfl⟩
    · rw [if_neg q]; exact ⟨fun e => by omega, fun e => absurd e q⟩
  obtain ⟨z', s3, d1, d2, d3, d4⟩ := v_rnds (y := y) (by omega) 66 0 d_N rfl (by rw [d_N_is]; decide) (by omega) s2 (-1) c2 (v_ct_0 (fun c hc hh => hh.2 ((c0 c hc).2 hh.1))) (fun c hc hh => (c0 c hc).1 hh) (fun c d hc hd hs hh hu => absurd ((c0 c hc).2 hs) hh) (fun hh => by omega)
  have e := v_dr_u hdr d4
  subst e
  refine ⟨r, s1, s3, hcl, ?_, done s3 ⟨fun a h1 h2 => (d2.1 a h1 h2).trans (c4.1 a h1 h2), d2.2.trans c4.2⟩ d3⟩
  show F_X12_dearest s1 y = _
  unfold F_X12_dearest
  rw [if_neg q]
  refine (show F_X12_dearest_l8 _ d_N y 0 s1 = _ from c1).trans ?_
  exact d1
end V48
