section V15
variable {A A' : Nat → Int} {f f' : Nat → Nat → Int} {o W H W' H' n c p j : Nat} {s s2 : d_S} {t : Nat → Option p_C} {R : Nat → Int}
theorem v_Wp.fr (h : v_Wp f o A) (h12 : A 0 ≤ 12) (e3 : f' (3 + o) = f (3 + o)) (e4 : f' (4 + o) = f (4 + o)) (hA : ∀ j, (j < 3 ∨ 16 ≤ j ∧ j ≤ 18 ∨ 212 ≤ j ∧ j < 284) → A' j = A j) : v_Wp f' o A' := by
  obtain ⟨⟨a, b, c, d, e, g⟩, h2⟩ := h
  unfold v_Wp
  rw [e3, e4, hA 16 (by decide), hA 17 (by decide), hA 18 (by decide), hA 0 (by decide), hA 1 (by decide), hA 2 (by decide)]
  refine ⟨⟨a, b, c, d, e, g⟩, fun n k hn hk => ?_⟩
  rw [hA _ (by omega)]
  exact h2 n k hn hk
theorem v_Wy.fr (h : v_Wy f o A) (e6 : f' (6 + o) = f (6 + o)) (e7 : f' (7 + o) = f (7 + o)) (hA : ∀ j, (9 ≤ j ∧ j ≤ 15 ∨ 20 ≤ j ∧ j < 212) → A' j = A j) : v_Wy f' o A' := by
  obtain ⟨h1, h2⟩ := h
  unfold v_Wy
  rw [e6, e7]
  refine ⟨fun i hi => ?_, fun b hb => ?_⟩
  · rw [hA _ (by have := v_mu7 i hi; omega)]; exact h1 i hi
  · rw [hA _ (by omega), hA _ (by omega), hA _ (by omega)]; exact h2 b hb
theorem v_yb.mono {g : Nat → Int} (h : v_yb g W H) (hW : W ≤ W') (hH : H ≤ H') : v_yb g W' H' := by
  obtain ⟨a, b, c, d, u, v, e1, e2, hu, hv, hu2, hv2⟩ := h
  exact ⟨a, b, c, d, u, v, e1, e2, hu, hv, Nat.lt_of_lt_of_le hu2 (Nat.pow_le_pow_right (by decide) (by omega)), Nat.lt_of_lt_of_le hv2 (Nat.pow_le_pow_right (by decide) (by omega))⟩
theorem v_Sx.mono (h : v_Sx R n c A W H) (hW : W ≤ W') (hH : H ≤ H') : v_Sx R n c A W' H' := by
  obtain ⟨a, b, d, e⟩ := h
  refine ⟨a, b, d, fun j hj => ?_⟩
  obtain ⟨e1, e2, e3⟩ := e j hj
  exact ⟨e1, e2.mono hW hH, e3⟩
theorem v_Ws.fr (h : v_Ws f o A) (e8 : f' (8 + o) = f (8 + o)) (e9 : f' (9 + o) = f (9 + o)) (h3 : A' 3 = A 3) (h16 : A' 16 = A 16) (h17 : A' 17 = A 17) (hA : ∀ j, 387 ≤ j → j < 2517 → A' j = A j) : v_Ws f' o A' := by
  obtain ⟨n, c, a, b, d⟩ := h
  unfold v_Ws
  rw [e8, e9]
  refine ⟨n, c, a, b, ?_⟩
  have : v_wi A' = v_wi A ∧ v_hi A' = v_hi A := by unfold v_wi v_hi; rw [h16, h17]; exact ⟨rfl, rfl⟩
  rw [this.1, this.2]
  exact d.fr h3 hA
theorem v_Wt.fr (h : v_Wt f o A) (hI : v_It A) (hf : ∀ a, 10 + o ≤ a → a ≤ 19 + o → f' a = f a) (hA : ∀ j, (4 ≤ j ∧ j ≤ 8 ∨ 284 ≤ j ∧ j < 387) → A' j = A j) : v_Wt f' o A' := by
  obtain ⟨a, ⟨b1, b2⟩, ⟨c1, c2⟩, ⟨d1, d2⟩, ⟨e1, e2⟩, g1, g2⟩ := h
  obtain ⟨-, -, i4, i5, i6, i7, i8, -⟩ := hI
  unfold v_Wt
  rw [hf _ (by omega) (by omega), hf (11 + o) (by omega) (by omega), hf (12 + o) (by omega) (by omega), hf (13 + o) (by omega) (by omega), hf (14 + o) (by omega) (by omega), hf (15 + o) (by omega) (by omega), hf (16 + o) (by omega) (by omega), hf (17 + o) (by omega) (by omega), hf (18 + o) (by omega) (by omega), hf (19 + o) (by omega) (by omega), hA 4 (by decide), hA 5 (by decide), hA 6 (by decide), hA 7 (by decide), hA 8 (by decide)]
  refine ⟨a, ⟨b1, fun j i hj hi => ?_⟩, ⟨c1, fun j i hj hi => ?_⟩, ⟨d1, fun j hj => ?_⟩, ⟨e1, fun j i hj hi => ?_⟩, g1, fun j i hj hi => ?_⟩
  · rw [hA _ (by omega)]; exact b2 j i hj hi
  · rw [hA _ (by omega)]; exact c2 j i hj hi
  · rw [hA _ (by omega)]; exact d2 j hj
  · rw [hA _ (by omega)]; exact e2 j i hj hi
  · rw [hA _ (by omega)]; exact g2 j i hj hi
theorem v_Ip.fr (h : v_Ip A) (hA : ∀ j, (j = 0 ∨ 16 ≤ j ∧ j ≤ 18 ∨ 212 ≤ j ∧ j < 284) → A' j = A j) : v_Ip A' := by
  obtain ⟨a, b, c, d, e, g⟩ := h
  unfold v_Ip
  rw [hA 0 (by decide), hA 16 (by decide), hA 17 (by decide), hA 18 (by decide)]
  refine ⟨a, b, c, d, e, fun n hn => ?_⟩
  have hA2 : ∀ k, k < 6 → A' (212 + 6 * n + k) = A (212 + 6 * n + k) := fun k hk => hA _ (by omega)
  rw [hA2 1 (by decide), hA2 2 (by decide), hA2 3 (by decide), hA2 4 (by decide)]
  obtain ⟨g1, g2⟩ := g n hn
  exact ⟨fun k hk => by rw [hA2 k hk]; exact g1 k hk, g2⟩
theorem v_Ib.fr (h : v_Ib A) (hA : ∀ j, 20 ≤ j → j < 212 → A' j = A j) : v_Ib A' := by
  intro b hb
  rw [hA _ (by omega) (by omega), hA _ (by omega) (by omega), hA _ (by omega) (by omega)]
  exact h b hb
theorem v_It.fr (h : v_It A) (hA : ∀ j, (j = 1 ∨ j = 2 ∨ 4 ≤ j ∧ j ≤ 8 ∨ 284 ≤ j ∧ j < 387) → A' j = A j) : v_It A' := by
  obtain ⟨a, b, i4, i5, i6, i7, i8, k4, k5, k6, k7, k8⟩ := h
  unfold v_It
  rw [hA 1 (by decide), hA 2 (by decide), hA 4 (by decide), hA 5 (by decide), hA 6 (by decide), hA 7 (by decide), hA 8 (by decide)]
  refine ⟨a, b, i4, i5, i6, i7, i8, fun j hj => ?_, fun j hj => ?_, fun j hj => ?_, fun j hj => ?_, fun j hj => ?_⟩
  · rw [hA _ (by omega), hA _ (by omega), hA _ (by omega)]; exact k4 j hj
  · rw [hA _ (by omega), hA _ (by omega), hA _ (by omega), hA _ (by omega)]; exact k5 j hj
  · rw [hA _ (by omega)]; exact k6 j hj
  · rw [hA _ (by omega), hA _ (by omega)]; exact k7 j hj
  · rw [hA _ (by omega), hA _ (by omega), hA _ (by omega), hA _ (by omega)]; exact k8 j hj
theorem v_W.fr (h : v_W f o A) (hf : ∀ a, 3 + o ≤ a → a ≤ 19 + o → f' a = f a) (hI : v_I A) : v_W f' o A := by
  obtain ⟨h1, h2, h3, h4⟩ := h
  exact ⟨h1.fr hI.1.2.2.2.2.1.2 (hf _ (by omega) (by omega)) (hf _ (by omega) (by omega)) (fun _ _ => rfl), h2.fr (hf _ (by omega) (by omega)) (hf _ (by omega) (by omega)) (fun _ _ => rfl), h3.fr (hf _ (by omega) (by omega)) (hf _ (by omega) (by omega)) rfl rfl rfl (fun _ _ _ => rfl), h4.fr hI.2.2.1 (fun a h1 h2 => hf a (by omega) (by omega)) (fun _ _ => rfl)⟩
theorem v_Xt.fr (h : v_Xt t s) (h1 : s2.1 65 1 = s.1 65 1) (h2 : s2.1 66 = s.1 66) (h3 : s2.1 67 = s.1 67) (h4 : s2.2.1 5 = s.2.1 5) (h5 : s2.2.1 22 = s.2.1 22) : v_Xt t s2 := by
  obtain ⟨r, a, b⟩ := h
  refine ⟨r, fun k hk => ?_, fun k hk => ?_⟩
  · rw [h1] at hk; rw [h3, h4]; exact a k hk
  · rw [h2] at hk; rw [h5]; exact b k hk
theorem v_Xr.fr (h : v_Xr s) (h43 : s2.1 43 = s.1 43) (h44 : s2.1 44 = s.1 44) (h64 : s2.1 64 = s.1 64) (h68 : s2.1 68 = s.1 68) : v_Xr s2 := by
  unfold v_Xr
  rw [h43, h44, h64, h68]; exact h
def v_cl (a : Nat) : Prop := (3 ≤ a ∧ a ≤ 5) ∨ (10 ≤ a ∧ a ≤ 36) ∨ a = 43 ∨ a = 44 ∨ a = 64 ∨ a = 66 ∨ a = 67 ∨ a = 68
theorem v_R.yard (h : v_R t s) (fc : ∀ a, v_cl a → s2.1 a = s.1 a) (fp : ∀ a, a ≠ 47 → s2.2.1 a = s.2.1 a) (fA : ∀ j, (j < 3 ∨ 4 ≤ j ∧ j ≤ 8 ∨ 16 ≤ j ∧ j ≤ 18 ∨ 212 ≤ j ∧ j < 387) → s2.1 65 j = s.1 65 j) (hWy : v_Wy s2.1 0 (s2.1 65)) (hWs : v_Ws s2.1 0 (s2.1 65)) (hIb : v_Ib (s2.1 65)) (hyb : v_yb (fun k => s2.1 65 (9 + k)) (v_wi (s.1 65)) (v_hi (s.1 65))) (hQ : v_Q s2 (v_u (s2.1 65)) (v_v (s2.1 65)) (v_wi (s2.1 65)) (v_hi (s2.1 65))) (hN : v_Nm (s2.1 49) ∧ v_Nm (s2.1 71)) : v_R t s2 := by
  obtain ⟨hW, hI, hW2, hI2, h1, -, hX, -, hr⟩ := h
  have e66 : s2.1 66 = s.1 66 := fc 66 (by unfold v_cl; omega)
  have ew : v_wi (s2.1 65) = v_wi (s.1 65) := by unfold v_wi; rw [fA 16 (by decide)]
  have eh : v_hi (s2.1 65) = v_hi (s.1 65) := by unfold v_hi; rw [fA 17 (by decide)]
  refine ⟨⟨hW.1.fr hI.1.2.2.2.2.1.2 (fc 3 (by unfold v_cl; omega)) (fc 4 (by unfold v_cl; omega)) (fun j hj => fA j (by omega)), hWy, hWs, hW.2.2.2.fr hI.2.2.1 (fun a h1 h2 => fc a (by unfold v_cl; omega)) (fun j hj => fA j (by omega))⟩, ⟨hI.1.fr (fun j hj => fA j (by omega)), hIb, hI.2.2.1.fr (fun j hj => fA j (by omega)), by rw [ew, eh]; exact hyb⟩, ?_, by rw [e66]; exact hI2, by rw [e66, fA 1 (by decide)]; exact h1, hQ, hX.fr (fA 1 (by decide)) e66 (fc 67 (by unfold v_cl; omega)) (fp 5 (by decide)) (fp 22 (by decide)), hN, hr.fr (fc 43 (by unfold v_cl; omega)) (fc 44 (by unfold v_cl; omega)) (fc 64 (by unfold v_cl; omega)) (fc 68 (by unfold v_cl; omega))⟩
  rw [e66]
  exact hW2.fr (fun a h1 h2 => fc a (by unfold v_cl; omega)) hI2
theorem v_R.scr (h : v_R t s) (fc : ∀ a, v_cl a ∨ 6 ≤ a ∧ a ≤ 9 ∨ 37 ≤ a ∧ a ≤ 42 ∨ a = 65 → s2.1 a = s.1 a) (fp : ∀ a, a ≠ 47 → s2.2.1 a = s.2.1 a) (hN : v_Nm (s2.1 49) ∧ v_Nm (s2.1 71)) : v_R t s2 := by
  have e65 : s2.1 65 = s.1 65 := fc 65 (by omega)
  have h' := h
  obtain ⟨hW, hI, -, -, -, hQ, -⟩ := h'
  refine h.yard (fun a ha => fc a (Or.inl ha)) fp (fun j _ => by rw [e65]) ?_ ?_ ?_ ?_ ?_ hN
  · rw [e65]; exact hW.2.1.fr (fc 6 (by omega)) (fc 7 (by omega)) (fun _ _ => rfl)
  · rw [e65]; exact hW.2.2.1.fr (fc 8 (by omega)) (fc 9 (by omega)) rfl rfl rfl (fun _ _ _ => rfl)
  · rw [e65]; exact hI.2.1
  · rw [e65]; exact hI.2.2.2
  · rw [e65]; exact hQ.fr (fun a h1 h2 => fc a (by omega))
end V15
