def t_it {α : Type} (n : Nat) (g : Nat → Bool) (s : Nat → α → α) : Nat → Nat → α → Nat × α
  | 0, q, a => (q, a)
  | f + 1, q, a => if q < n ∧ g q = true then t_it n g s f (q + 1) (s q a) else (q, a)
def t_lp {α : Type} (n : Nat) (g : Nat → Bool) (s : Nat → α → α) (q : Nat) (a : α) : Nat × α := t_it n g s (n - q) q a
theorem t_lp_go {α : Type} {n : Nat} {g : Nat → Bool} {s : Nat → α → α} {q : Nat} {a : α} (h : q < n) (hg : g q = true) : t_lp n g s q a = t_lp n g s (q + 1) (s q a) := by
  unfold t_lp
  rw [show n - q = (n - (q + 1)) + 1 by omega]
  simp only [t_it]
  rw [if_pos ⟨h, hg⟩]
theorem t_lp_no {α : Type} {n : Nat} {g : Nat → Bool} {s : Nat → α → α} {q : Nat} {a : α} (h : ¬ (q < n ∧ g q = true)) : t_lp n g s q a = (q, a) := by
  unfold t_lp
  cases n - q with
  | zero => rfl
  | succ f => simp only [t_it]; rw [if_neg h]
theorem t_lp_le {α : Type} {n : Nat} {g : Nat → Bool} {s : Nat → α → α} : ∀ (j q : Nat) (a : α), q + j = n → q ≤ (t_lp n g s q a).1 ∧ (t_lp n g s q a).1 ≤ n := by
  intro j
  induction j with
  | zero => intro q a h; rw [t_lp_no (fun e => absurd e.1 (by omega))]; simp only; omega
  | succ j ih =>
    intro q a h
    by_cases e : q < n ∧ g q = true
    · rw [t_lp_go e.1 e.2]
      have := ih (q + 1) (s q a) (by omega)
      omega
    · rw [t_lp_no e]; simp only; omega
theorem t_lp_fst {α β : Type} {n : Nat} {g : Nat → Bool} {s : Nat → α → α} {s' : Nat → β → β} : ∀ (j q : Nat) (a : α) (c : β), q + j = n → (t_lp n g s q a).1 = (t_lp n g s' q c).1 := by
  intro j
  induction j with
  | zero => intro q a c h; rw [t_lp_no (fun e => absurd e.1 (by omega)), t_lp_no (fun e => absurd e.1 (by omega))]
  | succ j ih =>
    intro q a c h
    by_cases e : q < n ∧ g q = true
    · rw [t_lp_go e.1 e.2, t_lp_go e.1 e.2]; exact ih _ _ _ (by omega)
    · rw [t_lp_no e, t_lp_no e]
def t_al (c : Nat) : Bool := (Nat.ble 97 c && Nat.ble c 122) || (Nat.ble 65 c && Nat.ble c 90)
def t_fi (c : Nat) : Bool := Nat.ble 48 c && Nat.ble c 57
def t_bl (c : Nat) : Bool := Nat.beq c 32 || Nat.beq c 10
def t_sk (b : Nat → Nat) (n q : Nat) : Nat := (t_lp n (fun q => t_bl (b q)) (fun _ (_ : Unit) => ()) q ()).1
def t_k (b : Nat → Nat) (n p : Nat) : Nat := if p < n then (if t_al (b p) then 1 else if t_fi (b p) then 2 else 3) else 0
def t_ns (b : Nat → Nat) (q v : Nat) : Nat := if 99999 < v then v else 10 * v + b q - 48
def t_wst (b : Nat → Nat) (q v : Nat) : Nat := if 2 ^ 48 ≤ v then 2 ^ 60 else 256 * v + b q
def t_nl (b : Nat → Nat) (n p : Nat) : Nat × Nat := t_lp n (fun q => t_fi (b q)) (t_ns b) p 0
def t_wl (b : Nat → Nat) (n p : Nat) : Nat × Nat := t_lp n (fun q => t_al (b q)) (t_wst b) p 0
def t_n (b : Nat → Nat) (n p : Nat) : Nat := (t_nl b n p).2
def t_w (b : Nat → Nat) (n p : Nat) : Nat := (t_wl b n p).2
def t_e (b : Nat → Nat) (n p : Nat) : Nat := match t_k b n p with
  | 0 => p
  | 1 => (t_wl b n p).1
  | 2 => (t_nl b n p).1
  | _ => p + 1
def t_x (b : Nat → Nat) (n p : Nat) : Nat := t_sk b n (t_e b n p)
theorem t_sk_le {b : Nat → Nat} {n q : Nat} (h : q ≤ n) : q ≤ t_sk b n q ∧ t_sk b n q ≤ n := t_lp_le (n - q) q () (by omega)
theorem t_k_end {b : Nat → Nat} {n p : Nat} (h : ¬ p < n) : t_k b n p = 0 := by unfold t_k; rw [if_neg h]
theorem t_k_w {b : Nat → Nat} {n p : Nat} (h : p < n) (h1 : t_al (b p) = true) : t_k b n p = 1 := by unfold t_k; rw [if_pos h, if_pos h1]
theorem t_k_n {b : Nat → Nat} {n p : Nat} (h : p < n) (h1 : t_al (b p) = false) (h2 : t_fi (b p) = true) : t_k b n p = 2 := by unfold t_k; rw [if_pos h, if_neg (by rw [h1]; decide), if_pos h2]
theorem t_k_s {b : Nat → Nat} {n p : Nat} (h : p < n) (h1 : t_al (b p) = false) (h2 : t_fi (b p) = false) : t_k b n p = 3 := by unfold t_k; rw [if_pos h, if_neg (by rw [h1]; decide), if_neg (by rw [h2]; decide)]
theorem t_al_fi {c : Nat} (h : t_fi c = true) : t_al c = false := by
  unfold t_fi at h; unfold t_al
  rw [Bool.and_eq_true] at h
  have h1 := Nat.le_of_ble_eq_true h.1
  have h2 := Nat.le_of_ble_eq_true h.2
  rw [show Nat.ble 97 c = false from Bool.eq_false_iff.mpr (fun q => by have := Nat.le_of_ble_eq_true q; omega), show Nat.ble 65 c = false from Bool.eq_false_iff.mpr (fun q => by have := Nat.le_of_ble_eq_true q; omega)]
  rfl
theorem t_e_lt {b : Nat → Nat} {n p : Nat} (h : p < n) : p < t_e b n p ∧ t_e b n p ≤ n := by
  unfold t_e
  cases h1 : t_al (b p) with
  | true =>
    rw [t_k_w h h1]
    simp only
    unfold t_wl
    rw [t_lp_go h h1]
    have := t_lp_le (n := n) (g := fun q => t_al (b q)) (s := t_wst b) (n - (p + 1)) (p + 1) (t_wst b p 0) (by omega)
    omega
  | false => cases h2 : t_fi (b p) with
    | true =>
      rw [t_k_n h h1 h2]
      simp only
      unfold t_nl
      rw [t_lp_go h h2]
      have := t_lp_le (n := n) (g := fun q => t_fi (b q)) (s := t_ns b) (n - (p + 1)) (p + 1) (t_ns b p 0) (by omega)
      omega
    | false => rw [t_k_s h h1 h2]; simp only; omega
theorem t_x_lt {b : Nat → Nat} {n p : Nat} (h : p < n) : p < t_x b n p ∧ t_x b n p ≤ n := by
  have h1 := t_e_lt (b := b) h
  have h2 := t_sk_le (b := b) h1.2
  unfold t_x
  omega
def t_Wn : List Nat := [469853041779, 495622843507, 1919906931, 1886350948, 495689623668, 7561591, 427121668979, 1936026732, 495874892151, 6578553, 1751474548, 1936292453, 120282378691940, 1701078885, 126896543659123, 461330343027, 25209, 24948, 1684366704, 29807, 7238760, 28518]
def t_wd (b : Nat → Nat) (n p k : Nat) : Bool := Nat.beq (t_k b n p) 1 && Nat.beq (t_w b n p) (t_Wn.getD k 0)
def t_is (b : Nat → Nat) (n p c : Nat) : Bool := Nat.beq (t_k b n p) 3 && Nat.beq (b p) c
def t_nm6 (b : Nat → Nat) (n p : Nat) : Bool := t_wd b n p 9 || (t_wd b n p 10 || (t_wd b n p 11 || (t_wd b n p 8 || (t_wd b n p 12 || t_wd b n p 13))))
def t_nm2 (b : Nat → Nat) (n p : Nat) : Bool := t_wd b n p 14 || t_wd b n p 15
def t_op (b : Nat → Nat) (n p : Nat) : Bool := t_is b n p 40 || (t_is b n p 45 || t_wd b n p 20)
def t_F (b : Nat → Nat) (n : Nat) (S : Bool) (d p : Nat) : Nat :=
  if t_k b n p = 2 then (if 9999 < t_n b n p then 2 else 0)
  else if t_nm6 b n p = true then 0
  else if t_nm2 b n p = true then (if S = true then 0 else 5)
  else if t_op b n p = true then (if 8 ≤ d then 3 else 0) else 1
def t_P (b : Nat → Nat) (n : Nat) (S : Bool) : Nat → Nat → Nat → Nat → Nat → Nat × Nat
  | 0, _, _, _, _ => (99, 0)
  | f + 1, mode, d, k, p =>
    let r := t_P b n S f
    let x := t_x b n p
    if mode = 0 then
      (if t_F b n S d p ≠ 0 then (t_F b n S d p, p)
       else if k = 7 then (7, p)
       else if t_op b n p = false then (0, x)
       else if t_wd b n p 20 = true then
         (let s := r 0 (d + 1) 0 x
          if s.1 ≠ 0 then s
          else if t_wd b n s.2 21 = false then (1, s.2)
          else if t_is b n (t_x b n s.2) 40 = false then (1, t_x b n s.2)
          else r 6 (d + 1) 1 (t_x b n (t_x b n s.2)))
       else if t_is b n p 45 = true then r 0 (d + 1) 0 x
       else (let s := r 2 (d + 1) 0 x
             if s.1 ≠ 0 then s else if t_is b n s.2 41 = true then (0, t_x b n s.2) else (1, s.2)))
    else if mode = 1 then (let s := r 0 d k p
      if s.1 ≠ 0 then s else r 4 d 0 s.2)
    else if mode = 2 then (let s := r 1 d k p
      if s.1 ≠ 0 then s else r 5 d 0 s.2)
    else if mode = 4 then (if t_is b n p 42 = true ∨ t_is b n p 47 = true then (let s := r 0 d 0 x
      if s.1 ≠ 0 then s else r 4 d 0 s.2) else (0, p))
    else if mode = 5 then (if t_is b n p 43 = true ∨ t_is b n p 45 = true then (let s := r 1 d 0 x
      if s.1 ≠ 0 then s else r 5 d 0 s.2) else (0, p))
    else (let s := r 2 d k p
      if s.1 ≠ 0 then s else if t_is b n s.2 44 = true then r 6 d (k + 1) (t_x b n s.2) else if t_is b n s.2 41 = true then (0, t_x b n s.2) else (1, s.2))
def t_D (b : Nat → Nat) (n : Nat) : List (Nat × Nat × Nat) → Nat → Nat × Nat
  | [], p => (0, p)
  | s :: R, p => if s.1 = 0 then (if t_k b n p ≠ 2 then (1, p) else if t_n b n p < s.2.1 ∨ s.2.2 < t_n b n p then (2, p) else t_D b n R (t_x b n p))
    else if s.1 = 1 then (if t_wd b n p s.2.1 = true then t_D b n R (t_x b n p) else (1, p))
    else (if t_is b n p s.2.1 = true then t_D b n R (t_x b n p) else (1, p))
def t_dd (w : Nat) : List (Nat × Nat × Nat) := match w with
  | 3 => [(0, 2, 8), (1, 16, 0), (0, 2, 8)]
  | 4 => [(0, 0, 9), (1, 17, 0), (0, 0, 7), (2, 44, 0), (0, 0, 7), (2, 58, 0), (0, 1, 3), (2, 44, 0), (0, 1, 3), (1, 18, 0), (0, 0, 9)]
  | 8 => [(0, 1, 9), (1, 19, 0), (0, 0, 63)]
  | 9 => [(0, 1, 60)]
  | 7 => [(0, 0, 63)]
  | _ => [(0, 0, 6)]
def t_cw (b : Nat → Nat) (n p : Nat) : Nat := if t_wd b n p 0 then 0 else if t_wd b n p 1 then 1 else if t_wd b n p 2 then 2 else if t_wd b n p 3 then 3 else if t_wd b n p 4 then 4 else if t_wd b n p 5 then 5 else if t_wd b n p 6 then 6 else if t_wd b n p 8 then 8 else if t_wd b n p 9 then 9 else if t_wd b n p 7 then 7 else 10
def t_cl (b : Nat → Nat) (n m o p : Nat) : Nat × Nat :=
  let w := t_cw b n p
  if w = 10 then (1, p)
  else if w < 3 ∧ o / 2 ^ w % 2 = 1 then (4, p)
  else if m = 24 then (6, p)
  else
    let s := if w < 3 then t_P b n (Nat.beq w 1) 4000 2 0 0 (t_x b n p) else t_D b n (t_dd w) (t_x b n p)
    if s.1 ≠ 0 then s else if t_is b n s.2 59 = true then (0, t_x b n s.2) else (1, s.2)
def t_tx (b : Nat → Nat) (n : Nat) : Nat → Nat → Nat → Nat → Nat × Nat
  | 0, _, _, p => (99, p)
  | f + 1, m, o, p => if t_k b n p = 0 then (0, p) else
    let s := t_cl b n m o p
    if s.1 ≠ 0 then s else t_tx b n f (m + 1) (if t_cw b n p < 3 then o + 2 ^ t_cw b n p else o) s.2
def t_text (b : Nat → Nat) (n : Nat) : Nat × Nat := t_tx b n 26 0 0 (t_sk b n 0)
section RTK
variable {h : p_H} {d n : Nat} {fs tp : List Value} {b : Nat → Nat} {Q : Option Value → p_H → Prop}
theorem t_sk_go {q : Nat} (h1 : q < n) (h2 : t_bl (b q) = true) : t_sk b n q = t_sk b n (q + 1) := by unfold t_sk; rw [t_lp_go h1 h2]
theorem t_sk_no {q : Nat} (h1 : ¬ (q < n ∧ t_bl (b q) = true)) : t_sk b n q = q := by unfold t_sk; rw [t_lp_no h1]
end RTK
theorem t_shr {v : Nat} (hv : v < 2 ^ 62) : lg_cmp (Int64.ofNat v >>> ((Int32.ofNat 48).toInt64 &&& 63)) (Int64.ofNat 0) = 0 ↔ v < 2 ^ 48 := by
  have e : (Int64.ofNat v >>> ((Int32.ofNat 48).toInt64 &&& 63)).toInt = ((v / 2 ^ 48 : Nat) : Int) := by
    show (BitVec.sshiftRight' (Int64.ofNat v).toBitVec ((((Int32.ofNat 48).toInt64 &&& 63)).toBitVec.smod 64)).toInt = _
    rw [BitVec.toInt_sshiftRight', show ((((Int32.ofNat 48).toInt64 &&& 63)).toBitVec.smod 64).toNat = 48 by decide]
    show (Int64.ofNat v).toInt >>> 48 = _
    rw [Int64.toInt_ofNat_of_lt (by omega), Int.shiftRight_eq_div_pow]
    rfl
  rw [lg_cmp_eq, ← Int64.toInt_inj, e, Int64.toInt_ofNat_of_lt (by decide)]
  constructor
  · intro q
    have : v / 2 ^ 48 = 0 := by omega
    exact (Nat.div_eq_zero_iff_lt (by decide)).mp this
  · intro q
    rw [Nat.div_eq_of_lt q]
theorem t_shl {v c : Nat} (hv : v < 2 ^ 48) (hc : c < 256) : ((Int64.ofNat v <<< ((Int32.ofNat 8).toInt64 &&& 63)) ||| (Int32.ofNat c).toInt64) = Int64.ofNat (256 * v + c) := by
  have ec : (Int32.ofNat c).toInt64 = Int64.ofNat c := Int32.toInt64_ofNat' (by rw [show Int32.maxValue.toInt = 2147483647 by decide]; omega)
  rw [ec]
  apply Int64.toBitVec_inj.mp
  apply BitVec.eq_of_toNat_eq
  show ((BitVec.ofNat 64 v <<< ((((Int32.ofNat 8).toInt64 &&& 63)).toBitVec.smod 64)) ||| BitVec.ofNat 64 c).toNat = (BitVec.ofNat 64 (256 * v + c)).toNat
  rw [BitVec.toNat_or, BitVec.shiftLeft_eq', show ((((Int32.ofNat 8).toInt64 &&& 63)).toBitVec.smod 64).toNat = 8 by decide, BitVec.toNat_shiftLeft, BitVec.toNat_ofNat, BitVec.toNat_ofNat, BitVec.toNat_ofNat, Nat.mod_eq_of_lt (show v < 2 ^ 64 by omega), Nat.mod_eq_of_lt (show c < 2 ^ 64 by omega), Nat.mod_eq_of_lt (show 256 * v + c < 2 ^ 64 by omega), Nat.mod_eq_of_lt (show v <<< 8 < 2 ^ 64 by rw [Nat.shiftLeft_eq]; omega), ← Nat.shiftLeft_add_eq_or_of_lt (show c < 2 ^ 8 by omega), Nat.shiftLeft_eq]
  omega
def t_sg (c : Nat) : Bool := Nat.beq c 35 || ((Nat.ble 40 c && Nat.ble c 45) || (Nat.beq c 47 || (Nat.ble 58 c && Nat.ble c 62)))
theorem t_sg_out : ∀ c, c < 256 → (c < 35 ∨ 62 < c) → t_sg c = false := by decide +kernel
section RT2
variable {h : p_H} {d n : Nat} {fs tp : List Value} {b : Nat → Nat} {Q : Option Value → p_H → Prop}
theorem t_sg_in : ∀ c, (c = 40 ∨ c = 41 ∨ c = 42 ∨ c = 43 ∨ c = 44 ∨ c = 45 ∨ c = 47 ∨ c = 58 ∨ c = 59) → t_sg c = true := by
  intro c hc
  rcases hc with rfl | rfl | rfl | rfl | rfl | rfl | rfl | rfl | rfl <;> decide
end RT2
def t_so (c : Nat) : Nat := if t_al c then 1 else if t_fi c then 2 else 3
def t_zs (b : Nat → Nat) (q : Nat) (z : Int64) : Int64 := (z <<< ((Int32.ofNat 8).toInt64 &&& 63)) ||| (Int32.ofNat (b q)).toInt64
def t_zl (b : Nat → Nat) (n p : Nat) : Nat × Int64 := t_lp n (fun q => t_al (b q)) (t_zs b) p (Int64.ofNat 0)
def t_ms (b : Nat → Nat) (q v : Nat) : Nat := min 10000 (v * 10 + b q - 48)
def t_ml (b : Nat → Nat) (n p : Nat) : Nat × Nat := t_lp n (fun q => t_fi (b q)) (t_ms b) p 0
def t_ix (W : List Int64) (z : Int64) : Nat → Int32
  | 0 => Int32.ofInt (-1)
  | k + 1 => if (W.drop (W.length - (k + 1))).head? = some z then Int32.ofNat (W.length - (k + 1)) else t_ix W z k
section CTK
variable {h : p_H} {d n : Nat} {fs tp : List Value} {b : Nat → Nat} {Q : Option Value → p_H → Prop}
def t_W : List Int64 := [469853041779, 495622843507, 1919906931, 1886350948, 495689623668, 7561591, 427121668979, 1936026732, 495874892151, 6578553, 1751474548, 1936292453, 120282378691940, 1701078885, 126896543659123, 461330343027, 25209, 24948, 1684366704, 29807, 7238760, 28518]
def t_IX (z : Int64) (v : Int32) : Prop := (∃ k, k < 22 ∧ t_W[k]? = some z ∧ v = Int32.ofNat k) ∨ ((∀ k, k < 22 → t_W[k]? ≠ some z) ∧ v = Int32.ofInt (-1))
theorem t_k_so {p : Nat} (h : p < n) : t_k b n p = t_so (b p) := by unfold t_k t_so; rw [if_pos h]
end CTK
section TBR
variable {b : Nat → Nat} {n : Nat}
theorem t_lp_two {α β : Type} {g : Nat → Bool} {s : Nat → α → α} {s' : Nat → β → β} {R : α → β → Prop} (hs : ∀ q x y, q < n → g q = true → R x y → R (s q x) (s' q y)) : ∀ (j q : Nat) (x : α) (y : β), q + j = n → R x y → R (t_lp n g s q x).2 (t_lp n g s' q y).2 := by
  intro j
  induction j with
  | zero => intro q x y h hr; rw [t_lp_no (fun e => absurd e.1 (by omega)), t_lp_no (fun e => absurd e.1 (by omega))]; exact hr
  | succ j ih =>
    intro q x y h hr
    by_cases e : q < n ∧ g q = true
    · rw [t_lp_go e.1 e.2, t_lp_go e.1 e.2]; exact ih _ _ _ (by omega) (hs q x y e.1 e.2 hr)
    · rw [t_lp_no e, t_lp_no e]; exact hr
theorem t_ml_n {p : Nat} (hp : p ≤ n) : (t_ml b n p).2 = min 10000 (t_n b n p) := by
  unfold t_ml t_n t_nl
  refine t_lp_two (R := fun (x y : Nat) => x = min 10000 y) (fun q x y h hg hr => ?_) (n - p) p 0 0 (by omega) (by rfl)
  have hg : t_fi (b q) = true := hg
  have e48 : 48 ≤ b q ∧ b q ≤ 57 := by
    unfold t_fi at hg
    rw [Bool.and_eq_true] at hg
    exact ⟨Nat.le_of_ble_eq_true hg.1, Nat.le_of_ble_eq_true hg.2⟩
  have hr : x = min 10000 y := hr
  show t_ms b q x = min 10000 (t_ns b q y)
  unfold t_ms t_ns
  by_cases c1 : 99999 < y
  · rw [if_pos c1]; omega
  · rw [if_neg c1]; omega
def t_Lt (z : Int64) (v : Nat) : Prop := ∃ (m x : Nat), m ≤ 8 ∧ x < 2 ^ 64 ∧ z = Int64.ofNat x ∧ (∀ i, i < m → 65 ≤ x / 256 ^ i % 256) ∧ (m ≤ 7 → v = x ∧ x < 256 ^ m) ∧ (m = 8 → v = 2 ^ 60)
theorem t_shl2 {v c : Nat} (hv : v < 2 ^ 64) (hc : c < 256) : ((Int64.ofNat v <<< ((Int32.ofNat 8).toInt64 &&& 63)) ||| (Int32.ofNat c).toInt64) = Int64.ofNat (256 * (v % 2 ^ 56) + c) := by
  have ec : (Int32.ofNat c).toInt64 = Int64.ofNat c := Int32.toInt64_ofNat' (by rw [show Int32.maxValue.toInt = 2147483647 by decide]; omega)
  rw [ec]
  apply Int64.toBitVec_inj.mp
  apply BitVec.eq_of_toNat_eq
  show ((BitVec.ofNat 64 v <<< ((((Int32.ofNat 8).toInt64 &&& 63)).toBitVec.smod 64)) ||| BitVec.ofNat 64 c).toNat = (BitVec.ofNat 64 (256 * (v % 2 ^ 56) + c)).toNat
  have e1 : v <<< 8 % 2 ^ 64 = (v % 2 ^ 56) <<< 8 := by rw [Nat.shiftLeft_eq, Nat.shiftLeft_eq]; omega
  rw [BitVec.toNat_or, BitVec.shiftLeft_eq', show ((((Int32.ofNat 8).toInt64 &&& 63)).toBitVec.smod 64).toNat = 8 by decide, BitVec.toNat_shiftLeft, BitVec.toNat_ofNat, BitVec.toNat_ofNat, BitVec.toNat_ofNat, Nat.mod_eq_of_lt (show v < 2 ^ 64 by omega), Nat.mod_eq_of_lt (show c < 2 ^ 64 by omega), Nat.mod_eq_of_lt (show 256 * (v % 2 ^ 56) + c < 2 ^ 64 by omega), e1, ← Nat.shiftLeft_add_eq_or_of_lt (show c < 2 ^ 8 by omega), Nat.shiftLeft_eq]
  omega
theorem t_byte {x c : Nat} (hc : c < 256) (i : Nat) : (256 * x + c) / 256 ^ (i + 1) % 256 = x / 256 ^ i % 256 := by
  have : (256 * x + c) / 256 ^ (i + 1) = x / 256 ^ i := by
    have e : 256 ^ (i + 1) = 256 * 256 ^ i := by rw [Nat.pow_succ, Nat.mul_comm]
    rw [e, ← Nat.div_div_eq_div_mul, show (256 * x + c) / 256 = x by omega]
  rw [this]
theorem t_zl_w {p : Nat} (hp : p ≤ n) (hb : ∀ k, k < n → b k < 256) : t_Lt (t_zl b n p).2 (t_w b n p) := by
  unfold t_zl t_w t_wl
  refine t_lp_two (R := t_Lt) (fun q z v h hg hr => ?_) (n - p) p _ _ (by omega) ⟨0, 0, by omega, by omega, rfl, fun i hi => absurd hi (Nat.not_lt_zero i), fun _ => ⟨rfl, by decide⟩, fun e => absurd e (by decide)⟩
  have hg : t_al (b q) = true := hg
  have e65 : 65 ≤ b q := by
    unfold t_al at hg
    rw [Bool.or_eq_true, Bool.and_eq_true, Bool.and_eq_true] at hg
    rcases hg with g | g
    · have := Nat.le_of_ble_eq_true g.1; omega
    · exact Nat.le_of_ble_eq_true g.1
  have c256 := hb q h
  obtain ⟨m, x, hm, hx, rfl, h1, h2, h3⟩ := hr
  show t_Lt (t_zs b q (Int64.ofNat x)) (t_wst b q v)
  unfold t_zs
  rw [t_shl2 hx c256]
  have bytes : ∀ y, (∀ i, i < m → i < 7 → 65 ≤ y / 256 ^ i % 256) → ∀ i, i < min 8 (m + 1) → 65 ≤ (256 * y + b q) / 256 ^ i % 256 := by
    intro y hy i hi
    cases i with
    | zero => rw [Nat.pow_zero, Nat.div_one]; omega
    | succ i => rw [t_byte c256]; exact hy i (by omega) (by omega)
  by_cases m6 : m ≤ 6
  · obtain ⟨ev, hl⟩ := h2 (by omega)
    subst ev
    have hl6 : v < 256 ^ 6 := Nat.lt_of_lt_of_le hl (Nat.pow_le_pow_right (by decide) m6)
    have hl6 : v < 281474976710656 := by simpa using hl6
    rw [Nat.mod_eq_of_lt (show v < 2 ^ 56 by omega)]
    refine ⟨m + 1, 256 * v + b q, by omega, by omega, rfl, fun i hi => bytes v (fun i hi _ => h1 i hi) i (by omega), fun _ => ⟨?_, ?_⟩, fun e => by omega⟩
    · unfold t_wst; rw [if_neg (by omega)]
    · rw [Nat.pow_succ]; omega
  · refine ⟨8, 256 * (x % 2 ^ 56) + b q, by omega, by omega, rfl, fun i hi => bytes (x % 2 ^ 56) (fun i hi i7 => ?_) i (by omega), fun e => by omega, fun _ => ?_⟩
    · have h65 := h1 i hi
      have : x % 2 ^ 56 / 256 ^ i % 256 = x / 256 ^ i % 256 := by
        have e : i = 0 ∨ i = 1 ∨ i = 2 ∨ i = 3 ∨ i = 4 ∨ i = 5 ∨ i = 6 := by omega
        rcases e with rfl | rfl | rfl | rfl | rfl | rfl | rfl <;> simp only [Nat.reducePow] <;> omega
      rw [this]; exact h65
    · unfold t_wst
      by_cases m7 : m = 7
      · obtain ⟨ev, hl⟩ := h2 (by omega)
        subst ev
        have := h1 6 (by omega)
        rw [if_pos]
        have h6 : 65 ≤ v / 281474976710656 % 256 := by simpa using this
        omega
      · rw [h3 (by omega), if_pos (by decide)]
theorem t_Wn_b : ∀ k, k < 22 → t_Wn.getD k 0 < 281474976710656 := by decide
theorem t_W_n : ∀ k, k < 22 → t_W[k]? = some (Int64.ofNat (t_Wn.getD k 0)) := by decide
theorem t_o64 {x y : Nat} (hx : x < 2 ^ 64) (hy : y < 2 ^ 64) : Int64.ofNat x = Int64.ofNat y ↔ x = y := by
  constructor
  · intro e
    have e := congrArg (fun z : Int64 => z.toBitVec.toNat) e
    have e : (BitVec.ofNat 64 x).toNat = (BitVec.ofNat 64 y).toNat := e
    rw [BitVec.toNat_ofNat, BitVec.toNat_ofNat] at e
    omega
  · intro e; rw [e]
theorem t_Lt_k {z : Int64} {v : Nat} (h : t_Lt z v) {k : Nat} (hk : k < 22) : t_W[k]? = some z ↔ v = t_Wn.getD k 0 := by
  have hw := t_Wn_b k hk
  rw [t_W_n k hk]
  obtain ⟨m, x, hm, hx, rfl, h1, h2, h3⟩ := h
  rw [Option.some.injEq, t_o64 (by omega) hx]
  by_cases m7 : m ≤ 7
  · obtain ⟨ev, -⟩ := h2 m7
    omega
  · have e3 := h3 (by omega)
    have h65 := h1 7 (by omega)
    have h65 : 65 ≤ x / 72057594037927936 % 256 := by simpa using h65
    omega
theorem t_Wn_i : ∀ k, k < 22 → ∀ j, j < 22 → t_Wn.getD k 0 = t_Wn.getD j 0 → k = j := by decide
end TBR
def s_rk (x : Nat) : Nat := if 40 ≤ x then 0 else if x = 3 then 3 else if 6 ≤ x then 2 else 1
def s_opn : List Nat → Nat
  | [] => 0
  | x :: σ => s_opn σ + (if x = 3 ∨ 40 ≤ x then 1 else 0)
def s_nt : List Nat → Nat
  | [] => 0
  | x :: σ => s_nt σ + (if x = 42 then 1 else 0)
section RSS
variable {h : p_H} {dd n p w so d t0 m on : Nat} {σ κ : List Nat} {wh : Bool} {b : Nat → Nat}
def s_se (l : Nat) : List Nat → List Nat
  | [] => []
  | x :: σ => if l ≤ s_rk x then s_se l σ else x :: σ
theorem s_se_len (l : Nat) : ∀ σ, (s_se l σ).length ≤ σ.length := by
  intro σ
  induction σ with
  | nil => exact Nat.le_refl _
  | cons x σ ih =>
    simp only [s_se]
    split
    · exact Nat.le_succ_of_le ih
    · exact Nat.le_refl _
theorem t_wd_iff {k : Nat} : t_wd b n p k = true ↔ t_k b n p = 1 ∧ t_w b n p = t_Wn.getD k 0 := by
  unfold t_wd
  rw [Bool.and_eq_true]
  exact ⟨fun e => ⟨Nat.eq_of_beq_eq_true e.1, Nat.eq_of_beq_eq_true e.2⟩, fun e => ⟨by rw [e.1]; rfl, by rw [e.2, Nat.beq_refl]⟩⟩
theorem t_is_iff {c : Nat} : t_is b n p c = true ↔ t_k b n p = 3 ∧ b p = c := by
  unfold t_is
  rw [Bool.and_eq_true]
  exact ⟨fun e => ⟨Nat.eq_of_beq_eq_true e.1, Nat.eq_of_beq_eq_true e.2⟩, fun e => ⟨by rw [e.1]; rfl, by rw [e.2, Nat.beq_refl]⟩⟩
theorem t_w_le : t_w b n p ≤ 2 ^ 60 := by
  have : ∀ (j q v : Nat), q + j = n → v ≤ 2 ^ 60 → (t_lp n (fun q => t_al (b q)) (t_wst b) q v).2 ≤ 2 ^ 60 := by
    intro j
    induction j with
    | zero => intro q v hq hv; rw [t_lp_no (fun e => absurd e.1 (by omega))]; exact hv
    | succ j ih =>
      intro q v hq hv
      by_cases e : q < n ∧ t_al (b q) = true
      · rw [t_lp_go e.1 e.2]
        have e97 : b q < 256 := by
          have e2 := e.2
          unfold t_al at e2
          rw [Bool.or_eq_true, Bool.and_eq_true, Bool.and_eq_true] at e2
          rcases e2 with g | g
          · have := Nat.le_of_ble_eq_true g.2; omega
          · have := Nat.le_of_ble_eq_true g.2; omega
        refine ih _ _ (by omega) ?_
        unfold t_wst
        split <;> omega
      · rw [t_lp_no e]; exact hv
  unfold t_w t_wl
  by_cases q : p ≤ n
  · exact this (n - p) p 0 (by omega) (by decide)
  · rw [t_lp_no (fun e => absurd e.1 (by omega))]; exact Nat.zero_le _
end RSS
section RS5
variable {h : p_H} {dd n p w so d t0 m on : Nat} {σ κ : List Nat} {wh : Bool} {b : Nat → Nat}
theorem s_nm_k (h6 : t_nm6 b n p = true ∨ t_nm2 b n p = true) : t_k b n p = 1 := by
  unfold t_nm6 t_nm2 at h6
  simp only [Bool.or_eq_true] at h6
  rcases h6 with (e | e | e | e | e | e) | (e | e) <;> exact (t_wd_iff.mp e).1
theorem s_op_k (h : t_op b n p = true) : t_k b n p = 3 ∨ t_k b n p = 1 := by
  unfold t_op at h
  simp only [Bool.or_eq_true] at h
  rcases h with e | e | e
  · exact Or.inl (t_is_iff.mp e).1
  · exact Or.inl (t_is_iff.mp e).1
  · exact Or.inr (t_wd_iff.mp e).1
theorem t_n_le : t_n b n p ≤ 1000000 := by
  have : ∀ (j q v : Nat), q + j = n → v ≤ 1000000 → (t_lp n (fun q => t_fi (b q)) (t_ns b) q v).2 ≤ 1000000 := by
    intro j
    induction j with
    | zero => intro q v hq hv; rw [t_lp_no (fun e => absurd e.1 (by omega))]; exact hv
    | succ j ih =>
      intro q v hq hv
      by_cases e : q < n ∧ t_fi (b q) = true
      · rw [t_lp_go e.1 e.2]
        have e2 := e.2
        unfold t_fi at e2
        rw [Bool.and_eq_true] at e2
        have := Nat.le_of_ble_eq_true e2.2
        refine ih _ _ (by omega) ?_
        unfold t_ns
        split <;> omega
      · rw [t_lp_no e]; exact hv
  unfold t_n t_nl
  by_cases q : p ≤ n
  · exact this (n - p) p 0 (by omega) (by decide)
  · rw [t_lp_no (fun e => absurd e.1 (by omega))]; exact Nat.zero_le _
def s_onw : List Nat → Int32
  | [] => Int32.ofInt (-1)
  | x :: σ => if 40 ≤ x then Int32.ofNat x else s_onw σ
end RS5
section RS6
variable {h : p_H} {dd n p w so d t0 m on : Nat} {σ κ : List Nat} {wh : Bool} {b : Nat → Nat}
theorem t_nb (hk : t_k b n p ≠ 3) : t_k b n p = 3 → b p ≠ 60 ∧ b p ≠ 62 := fun e => absurd e hk
theorem t_nb2 {c : Nat} (hc : t_is b n p c = true) (h1 : c ≠ 60) (h2 : c ≠ 62) : t_k b n p = 3 → b p ≠ 60 ∧ b p ≠ 62 := fun _ => by
  have := (t_is_iff.mp hc).2
  omega
end RS6
section RS7
variable {h : p_H} {dd n p w so d t0 m on x : Nat} {σ κ : List Nat} {wh : Bool} {b : Nat → Nat}
theorem s_se1 {x : Nat} (hx : 4 ≤ x ∧ x ≤ 7) : s_se 1 (x :: σ) = s_se 1 σ := by
  simp only [s_se]
  rw [if_pos]
  unfold s_rk
  rw [if_neg (by omega), if_neg (by omega)]
  split <;> omega
theorem s_se_on {l : Nat} (hl : 1 ≤ l) : ∀ {σ ρ : List Nat} {x : Nat}, s_se l σ = x :: ρ → 40 ≤ x → s_onw σ = Int32.ofNat x := by
  intro σ
  induction σ with
  | nil => intro ρ x e; cases e
  | cons y σ ih =>
    intro ρ x e hx
    simp only [s_se] at e
    simp only [s_onw]
    by_cases q : 40 ≤ y
    · rw [if_pos q]
      rw [if_neg (by unfold s_rk; rw [if_pos q]; omega)] at e
      injection e with e1 _
      rw [e1]
    · rw [if_neg q]
      by_cases q2 : l ≤ s_rk y
      · rw [if_pos q2] at e; exact ih e hx
      · rw [if_neg q2] at e
        injection e with e1 _
        omega
theorem s_se_on0 : ∀ {σ : List Nat}, s_se 1 σ = [] → s_onw σ = Int32.ofInt (-1) := by
  intro σ
  induction σ with
  | nil => intro _; rfl
  | cons y σ ih =>
    intro e
    simp only [s_se] at e
    simp only [s_onw]
    by_cases q : 1 ≤ s_rk y
    · rw [if_pos q] at e
      rw [if_neg (fun q3 => by unfold s_rk at q; rw [if_pos q3] at q; omega)]
      exact ih e
    · rw [if_neg q] at e; cases e
end RS7
section RS8
theorem s_nt_se {l : Nat} (hl : 1 ≤ l) : ∀ σ : List Nat, s_nt (s_se l σ) = s_nt σ := by
  intro σ
  induction σ with
  | nil => rfl
  | cons x σ ih =>
    simp only [s_se]
    by_cases q : l ≤ s_rk x
    · rw [if_pos q, ih]
      simp only [s_nt]
      rw [if_neg (fun e => by rw [e] at q; exact absurd (Nat.le_trans hl q) (by decide))]
      rfl
    · rw [if_neg q]
theorem s_nt_op : ∀ σ : List Nat, s_nt σ ≤ s_opn σ := by
  intro σ
  induction σ with
  | nil => exact Nat.le_refl _
  | cons x σ ih =>
    simp only [s_nt, s_opn]
    by_cases q : x = 42
    · rw [if_pos q, if_pos (by omega)]; omega
    · rw [if_neg q]; split <;> omega
theorem s_se_ge {l l2 : Nat} (hl : l ≤ l2) : ∀ {σ : List Nat}, s_se l σ = σ → s_se l2 σ = σ := by
  intro σ
  cases σ with
  | nil => intro _; rfl
  | cons x σ =>
    intro e
    simp only [s_se] at e ⊢
    by_cases q : l ≤ s_rk x
    · rw [if_pos q] at e
      have := s_se_len l σ
      rw [e, List.length_cons] at this
      omega
    · rw [if_neg (by omega)]
theorem s_se_id {l : Nat} : ∀ σ : List Nat, s_se l (s_se l σ) = s_se l σ := by
  intro σ
  induction σ with
  | nil => rfl
  | cons x σ ih =>
    by_cases q : l ≤ s_rk x
    · simp only [s_se]; rw [if_pos q]; exact ih
    · have : s_se l (x :: σ) = x :: σ := by simp only [s_se]; rw [if_neg q]
      rw [this, this]
theorem s_se_se {l l2 : Nat} (hl : l ≤ l2) : ∀ σ : List Nat, s_se l (s_se l2 σ) = s_se l σ := by
  intro σ
  induction σ with
  | nil => rfl
  | cons x σ ih =>
    by_cases q : l2 ≤ s_rk x
    · have e1 : s_se l2 (x :: σ) = s_se l2 σ := by simp only [s_se]; rw [if_pos q]
      have e2 : s_se l (x :: σ) = s_se l σ := by simp only [s_se]; rw [if_pos (by omega)]
      rw [e1, e2]; exact ih
    · have : s_se l2 (x :: σ) = x :: σ := by simp only [s_se]; rw [if_neg q]
      rw [this]
theorem t_k_lt {b : Nat → Nat} {n p : Nat} (h : t_k b n p ≠ 0) : p < n := by
  by_cases q : p < n
  · exact q
  · exact absurd (t_k_end q) h
theorem t_is_lt {b : Nat → Nat} {n p c : Nat} (h : t_is b n p c = true) : p < n := t_k_lt (by rw [(t_is_iff.mp h).1]; decide)
theorem t_wd_lt {b : Nat → Nat} {n p k : Nat} (h : t_wd b n p k = true) : p < n := t_k_lt (by rw [(t_wd_iff.mp h).1]; decide)
theorem t_F_lt {b : Nat → Nat} {n p d : Nat} {S : Bool} (h : t_F b n S d p = 0) : p < n := by
  unfold t_F at h
  by_cases q : t_k b n p = 2
  · exact t_k_lt (by rw [q]; decide)
  · rw [if_neg q] at h
    by_cases q1 : t_nm6 b n p = true
    · exact t_k_lt (by rw [s_nm_k (Or.inl q1)]; decide)
    · rw [if_neg q1] at h
      by_cases q2 : t_nm2 b n p = true
      · exact t_k_lt (by rw [s_nm_k (Or.inr q2)]; decide)
      · rw [if_neg q2] at h
        by_cases q3 : t_op b n p = true
        · exact t_k_lt (by rcases s_op_k q3 with e | e <;> rw [e] <;> decide)
        · rw [if_neg q3] at h; cases h
theorem t_F_100 {b : Nat → Nat} {n p d : Nat} {S : Bool} : t_F b n S d p < 100 := by unfold t_F; (repeat' split) <;> omega
theorem t_nm_op {b : Nat → Nat} {n p : Nat} (h : t_nm6 b n p = true ∨ t_nm2 b n p = true) : ¬ t_op b n p = true := by
  intro ho
  have hk := s_nm_k h
  unfold t_op at ho
  simp only [Bool.or_eq_true] at ho
  have h20 : t_wd b n p 20 = true := by
    rcases ho with e | e | e
    · have := (t_is_iff.mp e).1; omega
    · have := (t_is_iff.mp e).1; omega
    · exact e
  have w20 := (t_wd_iff.mp h20).2
  have no : ∀ k, k < 20 → ¬ t_wd b n p k = true := fun k hk e => by
    have := (t_wd_iff.mp e).2
    rw [w20] at this
    have := t_Wn_i 20 (by decide) k (by omega) this
    omega
  unfold t_nm6 t_nm2 at h
  simp only [Bool.or_eq_true] at h
  rcases h with (e | e | e | e | e | e) | (e | e)
  · exact no 9 (by decide) e
  · exact no 10 (by decide) e
  · exact no 11 (by decide) e
  · exact no 8 (by decide) e
  · exact no 12 (by decide) e
  · exact no 13 (by decide) e
  · exact no 14 (by decide) e
  · exact no 15 (by decide) e
theorem t_F_op {b : Nat → Nat} {n p d : Nat} {S : Bool} (h : t_F b n S d p = 0) (ho : t_op b n p = true) : d < 8 := by
  unfold t_F at h
  have k := s_op_k ho
  by_cases q1 : t_nm6 b n p = true
  · 
    exact absurd ho (t_nm_op (Or.inl q1))
  · by_cases q2 : t_nm2 b n p = true
    · exact absurd ho (t_nm_op (Or.inr q2))
    · rw [if_neg (by omega), if_neg q1, if_neg q2, if_pos ho] at h
      by_cases q : 8 ≤ d
      · rw [if_pos q] at h; cases h
      · omega
theorem t_P0 {b : Nat → Nat} {n f d k p : Nat} {S : Bool} : t_P b n S (f + 1) 0 d k p = (if t_F b n S d p ≠ 0 then (t_F b n S d p, p) else if k = 7 then (7, p) else if t_op b n p = false then (0, t_x b n p) else if t_wd b n p 20 = true then (if (t_P b n S f 0 (d + 1) 0 (t_x b n p)).1 ≠ 0 then t_P b n S f 0 (d + 1) 0 (t_x b n p) else if t_wd b n (t_P b n S f 0 (d + 1) 0 (t_x b n p)).2 21 = false then (1, (t_P b n S f 0 (d + 1) 0 (t_x b n p)).2) else if t_is b n (t_x b n (t_P b n S f 0 (d + 1) 0 (t_x b n p)).2) 40 = false then (1, t_x b n (t_P b n S f 0 (d + 1) 0 (t_x b n p)).2) else t_P b n S f 6 (d + 1) 1 (t_x b n (t_x b n (t_P b n S f 0 (d + 1) 0 (t_x b n p)).2))) else if t_is b n p 45 = true then t_P b n S f 0 (d + 1) 0 (t_x b n p) else (if (t_P b n S f 2 (d + 1) 0 (t_x b n p)).1 ≠ 0 then t_P b n S f 2 (d + 1) 0 (t_x b n p) else if t_is b n (t_P b n S f 2 (d + 1) 0 (t_x b n p)).2 41 = true then (0, t_x b n (t_P b n S f 2 (d + 1) 0 (t_x b n p)).2) else (1, (t_P b n S f 2 (d + 1) 0 (t_x b n p)).2))) := rfl
theorem t_P1 {b : Nat → Nat} {n f d k p : Nat} {S : Bool} : t_P b n S (f + 1) 1 d k p = ((if (t_P b n S f 0 d k p).1 ≠ 0 then t_P b n S f 0 d k p else t_P b n S f 4 d 0 (t_P b n S f 0 d k p).2)) := rfl
theorem t_P2 {b : Nat → Nat} {n f d k p : Nat} {S : Bool} : t_P b n S (f + 1) 2 d k p = ((if (t_P b n S f 1 d k p).1 ≠ 0 then t_P b n S f 1 d k p else t_P b n S f 5 d 0 (t_P b n S f 1 d k p).2)) := rfl
theorem t_P4 {b : Nat → Nat} {n f d k p : Nat} {S : Bool} : t_P b n S (f + 1) 4 d k p = (if t_is b n p 42 = true ∨ t_is b n p 47 = true then (if (t_P b n S f 0 d 0 (t_x b n p)).1 ≠ 0 then t_P b n S f 0 d 0 (t_x b n p) else t_P b n S f 4 d 0 (t_P b n S f 0 d 0 (t_x b n p)).2) else (0, p)) := rfl
theorem t_P5 {b : Nat → Nat} {n f d k p : Nat} {S : Bool} : t_P b n S (f + 1) 5 d k p = (if t_is b n p 43 = true ∨ t_is b n p 45 = true then (if (t_P b n S f 1 d 0 (t_x b n p)).1 ≠ 0 then t_P b n S f 1 d 0 (t_x b n p) else t_P b n S f 5 d 0 (t_P b n S f 1 d 0 (t_x b n p)).2) else (0, p)) := rfl
theorem t_P6 {b : Nat → Nat} {n f d k p : Nat} {S : Bool} : t_P b n S (f + 1) 6 d k p = ((if (t_P b n S f 2 d k p).1 ≠ 0 then t_P b n S f 2 d k p else if t_is b n (t_P b n S f 2 d k p).2 44 = true then t_P b n S f 6 d (k + 1) (t_x b n (t_P b n S f 2 d k p).2) else if t_is b n (t_P b n S f 2 d k p).2 41 = true then (0, t_x b n (t_P b n S f 2 d k p).2) else (1, (t_P b n S f 2 d k p).2))) := rfl
theorem t_P7 {b : Nat → Nat} {n f d p : Nat} {S : Bool} : t_P b n S (f + 4) 6 d 7 p = (if t_F b n S d p ≠ 0 then t_F b n S d p else 7, p) := by
  have e0 : t_P b n S (f + 1) 0 d 7 p = (if t_F b n S d p ≠ 0 then t_F b n S d p else 7, p) := by
    rw [t_P0]
    by_cases q : t_F b n S d p ≠ 0
    · rw [if_pos q, if_pos q]
    · rw [if_neg q, if_pos rfl, if_neg q]
  have e : (if t_F b n S d p ≠ 0 then t_F b n S d p else 7, p).1 ≠ 0 := by
    simp only
    by_cases q : t_F b n S d p ≠ 0
    · rw [if_pos q]; exact q
    · rw [if_neg q]; decide
  have e1 : t_P b n S (f + 2) 1 d 7 p = (if t_F b n S d p ≠ 0 then t_F b n S d p else 7, p) := by rw [t_P1, e0, if_pos e]
  have e2 : t_P b n S (f + 3) 2 d 7 p = (if t_F b n S d p ≠ 0 then t_F b n S d p else 7, p) := by rw [t_P2, e1, if_pos e]
  rw [t_P6, e2, if_pos e]
variable {h : p_H} {dd n p w so d t0 m on : Nat} {σ κ : List Nat} {wh : Bool} {b : Nat → Nat} {ls : p_Ls} {Q : Option Value → p_H → Prop} {R : p_H → Prop}
end RS8
section RS9
variable {h : p_H} {dd n p u m : Nat} {la : Int32} {sv : Bool} {ml se ro fa pl : Value} {b : Nat → Nat}
theorem t_kk_lt (h : t_k b n p ≠ 0) : p < n := by
  by_cases q : p < n
  · exact q
  · exact absurd (t_k_end q) h
def c_nm (b : Nat → Nat) (n p : Nat) : Bool := t_nm6 b n p || t_nm2 b n p
theorem t_no_w (hk : t_k b n p ≠ 1) (k : Nat) : t_wd b n p k = false := Bool.eq_false_iff.mpr (fun e => hk (t_wd_iff.mp e).1)
theorem c_nm_w (hk : t_k b n p ≠ 1) : t_nm6 b n p = false ∧ t_nm2 b n p = false := by
  unfold t_nm6 t_nm2
  refine ⟨?_, ?_⟩ <;> simp [t_no_w hk]
theorem c_nm_k : ∀ k, k < 22 → (decide (9 = k) || (decide (10 = k) || (decide (11 = k) || (decide (8 = k) || (decide (12 = k) || decide (13 = k)))))) = (Nat.ble 8 k && Nat.ble k 13) ∧ (decide (14 = k) || decide (15 = k)) = (Nat.ble 14 k && Nat.ble k 15) := by decide
theorem c_nm6k {k : Nat} (hk : k < 22) (H : ∀ j, j < 22 → t_wd b n p j = decide (j = k)) : t_nm6 b n p = (Nat.ble 8 k && Nat.ble k 13) ∧ t_nm2 b n p = (Nat.ble 14 k && Nat.ble k 15) := by
  unfold t_nm6 t_nm2
  rw [H 9 (by decide), H 10 (by decide), H 11 (by decide), H 8 (by decide), H 12 (by decide), H 13 (by decide), H 14 (by decide), H 15 (by decide)]
  exact c_nm_k k hk
theorem c_nm_0 (H : ∀ j, j < 22 → t_wd b n p j = false) : t_nm6 b n p = false ∧ t_nm2 b n p = false := by
  unfold t_nm6 t_nm2
  rw [H 9 (by decide), H 10 (by decide), H 11 (by decide), H 8 (by decide), H 12 (by decide), H 13 (by decide), H 14 (by decide), H 15 (by decide)]
  exact ⟨rfl, rfl⟩
end RS9
def c_up (C : Nat → Nat × Nat) (u : Nat) (e : Nat × Nat) (k : Nat) : Nat × Nat := if k = u then e else C k
theorem c_up_at {C : Nat → Nat × Nat} {u : Nat} {e : Nat × Nat} : c_up C u e u = e := if_pos rfl
theorem c_up_ne {C : Nat → Nat × Nat} {u k : Nat} {e : Nat × Nat} (h : k ≠ u) : c_up C u e k = C k := if_neg h
section RS9
variable {h : p_H} {dd n p u m : Nat} {la : Int32} {sv : Bool} {ml se ro fa pl : Value} {b : Nat → Nat} {R : List Value × Int32} {C : Nat → Nat × Nat}
def c_ch (C : Nat → Nat × Nat) (u : Nat) : Nat → List Nat → Prop
  | o, [] => o = 0
  | o, j :: L => o = j + 1 ∧ j < u ∧ (C j).1 = 3 ∧ (∀ k, k ∈ L → k < j) ∧ c_ch C u (C j).2 L
def c_to (C : Nat → Nat × Nat) (L : List Nat) (y k : Nat) : Nat × Nat := if k ∈ L then (3, y) else C k
theorem c_to_nil {C : Nat → Nat × Nat} {y : Nat} : c_to C [] y = C := by funext k; simp [c_to]
theorem c_to_cons {C : Nat → Nat × Nat} {L : List Nat} {y j : Nat} (h : (C j).1 = 3) (hj : ∀ k, k ∈ L → k < j) : c_to (c_up C j ((C j).1, y)) L y = c_to C (j :: L) y := by
  funext k
  unfold c_to c_up
  by_cases q : k = j
  · subst q
    have : ¬ k ∈ L := fun e => by have := hj k e; omega
    rw [if_neg this, if_pos rfl, if_pos List.mem_cons_self, h]
  · by_cases q2 : k ∈ L
    · rw [if_pos q2, if_pos (List.mem_cons_of_mem _ q2)]
    · rw [if_neg q2, if_neg q, if_neg (by simp [q, q2])]
theorem c_ch_lt {C : Nat → Nat × Nat} {u : Nat} : ∀ {L : List Nat} {o : Nat}, c_ch C u o L → ∀ k, k ∈ L → k < u := by
  intro L
  induction L with
  | nil => intro o _ k hk; cases hk
  | cons j L ih =>
    intro o h k hk
    obtain ⟨-, h2, -, h4, h5⟩ := h
    rcases List.mem_cons.mp hk with rfl | hk
    · exact h2
    · have := h4 k hk; omega
theorem c_ch_cong {C C' : Nat → Nat × Nat} {u u' : Nat} (hu : u ≤ u') : ∀ {L : List Nat} {o : Nat}, c_ch C u o L → (∀ k, k ∈ L → C' k = C k) → c_ch C' u' o L := by
  intro L
  induction L with
  | nil => intro o h _; exact h
  | cons j L ih =>
    intro o h hc
    obtain ⟨h1, h2, h3, h4, h5⟩ := h
    have e := hc j List.mem_cons_self
    refine ⟨h1, by omega, by rw [e]; exact h3, h4, ?_⟩
    rw [e]
    exact ih h5 (fun k hk => hc k (List.mem_cons_of_mem _ hk))
end RS9
section RS10
variable {dd n so m f : Nat} {b : Nat → Nat} {ml se ro fa pl : Value}
theorem t_beq0 {x : Nat} (h : x ≠ 0) : Nat.beq x 0 = false := Bool.eq_false_iff.mpr (fun e => h (Nat.eq_of_beq_eq_true e))
theorem t_is_one {p c e : Nat} (h : t_is b n p c = true) (hne : c ≠ e) : t_is b n p e = false := Bool.eq_false_iff.mpr (fun q => hne ((t_is_iff.mp h).2.symm.trans (t_is_iff.mp q).2))
end RS10
section RDD
variable {b : Nat → Nat} {n : Nat}
theorem t_D_app (A B : List (Nat × Nat × Nat)) : ∀ p, t_D b n (A ++ B) p = if (t_D b n A p).1 ≠ 0 then t_D b n A p else t_D b n B (t_D b n A p).2 := by
  induction A with
  | nil => intro p; try rfl
  | cons s A ih =>
    intro p
    simp only [List.cons_append, t_D]
    by_cases q0 : s.1 = 0
    · simp only [if_pos q0]
      by_cases q1 : t_k b n p ≠ 2
      · simp only [if_pos q1]; try rfl
      · simp only [if_neg q1]
        by_cases q2 : t_n b n p < s.2.1 ∨ s.2.2 < t_n b n p
        · simp only [if_pos q2]; try rfl
        · simp only [if_neg q2]; exact ih _
    · simp only [if_neg q0]
      by_cases q1 : s.1 = 1
      · simp only [if_pos q1]
        by_cases q2 : t_wd b n p s.2.1 = true
        · simp only [if_pos q2]; exact ih _
        · simp only [if_neg q2]; try rfl
      · simp only [if_neg q1]
        by_cases q2 : t_is b n p s.2.1 = true
        · simp only [if_pos q2]; exact ih _
        · simp only [if_neg q2]; try rfl
theorem t_D_le (A : List (Nat × Nat × Nat)) : ∀ p, p ≤ n → p ≤ (t_D b n A p).2 ∧ (t_D b n A p).2 ≤ n := by
  induction A with
  | nil => intro p h; exact ⟨Nat.le_refl _, h⟩
  | cons s A ih =>
    intro p h
    simp only [t_D]
    have nx : p < n → p ≤ (t_D b n A (t_x b n p)).2 ∧ (t_D b n A (t_x b n p)).2 ≤ n := fun hp => by
      have hx := t_x_lt (b := b) hp
      have := ih _ hx.2
      omega
    by_cases q0 : s.1 = 0
    · rw [if_pos q0]
      by_cases q1 : t_k b n p ≠ 2
      · rw [if_pos q1]; exact ⟨Nat.le_refl _, h⟩
      · rw [if_neg q1]
        by_cases q2 : t_n b n p < s.2.1 ∨ s.2.2 < t_n b n p
        · rw [if_pos q2]; exact ⟨Nat.le_refl _, h⟩
        · rw [if_neg q2]; exact nx (t_k_lt (b := b) (by omega))
    · rw [if_neg q0]
      by_cases q1 : s.1 = 1
      · rw [if_pos q1]
        by_cases q2 : t_wd b n p s.2.1 = true
        · rw [if_pos q2]; exact nx (t_wd_lt q2)
        · rw [if_neg q2]; exact ⟨Nat.le_refl _, h⟩
      · rw [if_neg q1]
        by_cases q2 : t_is b n p s.2.1 = true
        · rw [if_pos q2]; exact nx (t_is_lt q2)
        · rw [if_neg q2]; exact ⟨Nat.le_refl _, h⟩
end RDD
section RS11
variable {h : p_H} {dd n p w so t0 m on at_ lo hi : Nat} {b : Nat → Nat}
theorem t_D_100 {b : Nat → Nat} {n : Nat} {A : List (Nat × Nat × Nat)} : ∀ {p : Nat}, (t_D b n A p).1 < 100000 := by
  induction A with
  | nil => intro p; exact (by decide : (0 : Nat) < 100000)
  | cons s A ih =>
    intro p
    simp only [t_D]
    (repeat' split) <;> first | exact ih | decide | simp
end RS11
section RS12
variable {h : p_H} {dd n p w so t0 m on at_ : Nat} {b : Nat → Nat}
theorem t_P_100 {S : Bool} : ∀ {f mode d k p : Nat}, (t_P b n S f mode d k p).1 < 100 := by
  intro f
  induction f with
  | zero => intro mode d k p; exact (by decide : 99 < 100)
  | succ f ih =>
    intro mode d k p
    simp only [t_P]
    have h1 := t_F_100 (b := b) (n := n) (p := p) (d := d) (S := S)
    (repeat' split) <;> first | exact ih | exact h1 | decide | simp
def s_cs (x : Nat) : Int32 := if x ≤ 6 then Int32.ofNat x else if x = 8 then Int32.ofNat 7 else if x = 9 then Int32.ofNat 8 else if x = 7 then Int32.ofNat 9 else Int32.ofInt (-1)
end RS12
section RS12
variable {h : p_H} {dd n p w so t0 m on at_ : Nat} {b : Nat → Nat}
theorem t_cl_100 : (t_cl b n m on p).1 < 100000 := by
  have h1 : ∀ (S : Bool) (q : Nat), (t_P b n S 4000 2 0 0 q).1 < 100000 := fun S q => Nat.lt_trans t_P_100 (by decide)
  have h2 : ∀ (A : List (Nat × Nat × Nat)) (q : Nat), (t_D b n A q).1 < 100000 := fun A q => t_D_100
  unfold t_cl
  simp only
  (repeat' split) <;> first | exact h1 _ _ | exact h2 _ _ | decide | simp
end RS12
section RS15
variable {dd n c : Nat} {b : Nat → Nat}
theorem t_tx_100 : ∀ f m on p, (t_tx b n f m on p).1 < 100000 := by
  intro f
  induction f with
  | zero => intro m on p; exact (by decide : 99 < 100000)
  | succ f ih =>
    intro m on p
    simp only [t_tx]
    by_cases q0 : t_k b n p = 0
    · rw [if_pos q0]; simp
    · rw [if_neg q0]
      by_cases q1 : (t_cl b n m on p).1 ≠ 0
      · rw [if_pos q1]; exact t_cl_100
      · rw [if_neg q1]; exact ih _ _ _
end RS15
section RS17
variable {b : Nat → Nat} {n : Nat}
theorem t_x_le {p : Nat} (h : p ≤ n) : t_x b n p ≤ n := by
  by_cases q : p < n
  · exact (t_x_lt q).2
  · have e : t_k b n p = 0 := t_k_end q
    have e2 : t_e b n p = p := by unfold t_e; rw [e]; rfl
    unfold t_x
    rw [e2]
    exact (t_sk_le h).2
theorem t_P_le {S : Bool} : ∀ {f mode d k p : Nat}, p ≤ n → (t_P b n S f mode d k p).2 ≤ n := by
  intro f
  induction f with
  | zero => intro mode d k p _; exact Nat.zero_le _
  | succ f ih =>
    intro mode d k p hp
    have hx := t_x_le (b := b) hp
    simp only [t_P]
    (repeat' split) <;> first | exact hp | exact hx | exact ih hp | exact ih hx | exact t_x_le (ih hp) | exact t_x_le (ih hx) | exact ih (ih hp) | exact ih (ih hx) | exact ih (t_x_le (ih hp)) | exact ih (t_x_le (ih hx)) | exact ih (t_x_le (t_x_le (ih hx)))
theorem t_cl_le {m o p : Nat} (h : p ≤ n) : (t_cl b n m o p).2 ≤ n := by
  have h1 : ∀ (S : Bool) (q : Nat), q ≤ n → (t_P b n S 4000 2 0 0 q).2 ≤ n := fun S q hq => t_P_le hq
  have h2 : ∀ (A : List (Nat × Nat × Nat)) (q : Nat), q ≤ n → (t_D b n A q).2 ≤ n := fun A q hq => (t_D_le A q hq).2
  have hx := t_x_le (b := b) h
  unfold t_cl
  simp only
  (repeat' split) <;> first | exact h | exact h1 _ _ hx | exact h2 _ _ hx | exact t_x_le (h1 _ _ hx) | exact t_x_le (h2 _ _ hx)
theorem t_tx_le : ∀ f m o p, p ≤ n → (t_tx b n f m o p).2 ≤ n := by
  intro f
  induction f with
  | zero => intro m o p h; exact h
  | succ f ih =>
    intro m o p h
    simp only [t_tx]
    by_cases q0 : t_k b n p = 0
    · rw [if_pos q0]; exact h
    · rw [if_neg q0]
      by_cases q1 : (t_cl b n m o p).1 ≠ 0
      · rw [if_pos q1]; exact t_cl_le h
      · rw [if_neg q1]; exact ih _ _ _ (t_cl_le h)
theorem t_text_le : (t_text b n).2 ≤ n := t_tx_le _ _ _ _ (t_sk_le (Nat.zero_le n)).2
theorem t_D_99 {A : List (Nat × Nat × Nat)} : ∀ {p : Nat}, (t_D b n A p).1 ≤ 99 := by
  induction A with
  | nil => intro p; exact Nat.zero_le _
  | cons s A ih =>
    intro p
    simp only [t_D]
    (repeat' split) <;> first | exact ih | decide | simp
theorem t_cl_99 {m o p : Nat} : (t_cl b n m o p).1 ≤ 99 := by
  have h1 : ∀ (S : Bool) (q : Nat), (t_P b n S 4000 2 0 0 q).1 ≤ 99 := fun S q => Nat.le_of_lt_succ t_P_100
  have h2 : ∀ (A : List (Nat × Nat × Nat)) (q : Nat), (t_D b n A q).1 ≤ 99 := fun A q => t_D_99
  unfold t_cl
  simp only
  (repeat' split) <;> first | exact h1 _ _ | exact h2 _ _ | decide | simp
theorem t_tx_99 : ∀ f m o p, (t_tx b n f m o p).1 ≤ 99 := by
  intro f
  induction f with
  | zero => intro m o p; exact Nat.le_refl _
  | succ f ih =>
    intro m o p
    simp only [t_tx]
    by_cases q0 : t_k b n p = 0
    · rw [if_pos q0]; first | decide | simp
    · rw [if_neg q0]
      by_cases q1 : (t_cl b n m o p).1 ≠ 0
      · rw [if_pos q1]; exact t_cl_99
      · rw [if_neg q1]; exact ih _ _ _
theorem t_text_99 : (t_text b n).1 ≤ 99 := t_tx_99 _ _ _ _
end RS17
def t_hl (x : Int) : Int := max (-1000000) (min 1000000 x)
def t_op2 (d : Nat) (x y : Int) : Int := t_hl (if d = 5 then x + y else if d = 6 then x - y else if d = 7 then x * y else Int.tdiv x y)
def t_nu (b : Nat → Nat) (n p : Nat) : Nat := if t_wd b n p 8 = true then 0 else if t_wd b n p 9 = true then 1 else if t_wd b n p 10 = true then 2 else if t_wd b n p 11 = true then 3 else if t_wd b n p 12 = true then 4 else if t_wd b n p 13 = true then 5 else if t_wd b n p 14 = true then 6 else 7
def t_V (b : Nat → Nat) (n : Nat) (S : Bool) (ν : Nat → Int) : Nat → Nat → Nat → Nat → Nat → Int → Int
  | 0, _, _, _, _, _ => 0
  | f + 1, mode, d, k, p, a =>
    if mode = 0 then
      (if t_op b n p = false then (if t_k b n p = 2 then (t_n b n p : Int) else ν (t_nu b n p))
       else if t_wd b n p 20 = true then t_V b n S ν f 6 (d + 1) 1 (t_x b n (t_x b n (t_P b n S f 0 (d + 1) 0 (t_x b n p)).2)) (t_V b n S ν f 0 (d + 1) 0 (t_x b n p) 0)
       else if t_is b n p 45 = true then -(t_V b n S ν f 0 (d + 1) 0 (t_x b n p) 0)
       else t_V b n S ν f 2 (d + 1) 0 (t_x b n p) 0)
    else if mode = 1 then t_V b n S ν f 4 d 0 (t_P b n S f 0 d k p).2 (t_V b n S ν f 0 d k p 0)
    else if mode = 2 then t_V b n S ν f 5 d 0 (t_P b n S f 1 d k p).2 (t_V b n S ν f 1 d k p 0)
    else if mode = 4 then (if t_is b n p 42 = true then t_V b n S ν f 4 d 0 (t_P b n S f 0 d 0 (t_x b n p)).2 (t_op2 7 a (t_V b n S ν f 0 d 0 (t_x b n p) 0))
       else if t_is b n p 47 = true then t_V b n S ν f 4 d 0 (t_P b n S f 0 d 0 (t_x b n p)).2 (t_op2 8 a (t_V b n S ν f 0 d 0 (t_x b n p) 0)) else a)
    else if mode = 5 then (if t_is b n p 43 = true then t_V b n S ν f 5 d 0 (t_P b n S f 1 d 0 (t_x b n p)).2 (t_op2 5 a (t_V b n S ν f 1 d 0 (t_x b n p) 0))
       else if t_is b n p 45 = true then t_V b n S ν f 5 d 0 (t_P b n S f 1 d 0 (t_x b n p)).2 (t_op2 6 a (t_V b n S ν f 1 d 0 (t_x b n p) 0)) else a)
    else (if t_is b n (t_P b n S f 2 d k p).2 44 = true then (if a ≤ 1 then t_V b n S ν f 2 d k p 0 else t_V b n S ν f 6 d (k + 1) (t_x b n (t_P b n S f 2 d k p).2) (a - 1)) else t_V b n S ν f 2 d k p 0)
section TVE
variable {b : Nat → Nat} {n : Nat} {S : Bool} {ν : Nat → Int} {f d k p : Nat} {a : Int}
theorem t_V0 : t_V b n S ν (f + 1) 0 d k p a = (if t_op b n p = false then (if t_k b n p = 2 then (t_n b n p : Int) else ν (t_nu b n p)) else if t_wd b n p 20 = true then t_V b n S ν f 6 (d + 1) 1 (t_x b n (t_x b n (t_P b n S f 0 (d + 1) 0 (t_x b n p)).2)) (t_V b n S ν f 0 (d + 1) 0 (t_x b n p) 0) else if t_is b n p 45 = true then -(t_V b n S ν f 0 (d + 1) 0 (t_x b n p) 0) else t_V b n S ν f 2 (d + 1) 0 (t_x b n p) 0) := rfl
theorem t_V1 : t_V b n S ν (f + 1) 1 d k p a = t_V b n S ν f 4 d 0 (t_P b n S f 0 d k p).2 (t_V b n S ν f 0 d k p 0) := rfl
theorem t_V2 : t_V b n S ν (f + 1) 2 d k p a = t_V b n S ν f 5 d 0 (t_P b n S f 1 d k p).2 (t_V b n S ν f 1 d k p 0) := rfl
theorem t_V4 : t_V b n S ν (f + 1) 4 d k p a = (if t_is b n p 42 = true then t_V b n S ν f 4 d 0 (t_P b n S f 0 d 0 (t_x b n p)).2 (t_op2 7 a (t_V b n S ν f 0 d 0 (t_x b n p) 0)) else if t_is b n p 47 = true then t_V b n S ν f 4 d 0 (t_P b n S f 0 d 0 (t_x b n p)).2 (t_op2 8 a (t_V b n S ν f 0 d 0 (t_x b n p) 0)) else a) := rfl
theorem t_V5 : t_V b n S ν (f + 1) 5 d k p a = (if t_is b n p 43 = true then t_V b n S ν f 5 d 0 (t_P b n S f 1 d 0 (t_x b n p)).2 (t_op2 5 a (t_V b n S ν f 1 d 0 (t_x b n p) 0)) else if t_is b n p 45 = true then t_V b n S ν f 5 d 0 (t_P b n S f 1 d 0 (t_x b n p)).2 (t_op2 6 a (t_V b n S ν f 1 d 0 (t_x b n p) 0)) else a) := rfl
theorem t_V6 : t_V b n S ν (f + 1) 6 d k p a = (if t_is b n (t_P b n S f 2 d k p).2 44 = true then (if a ≤ 1 then t_V b n S ν f 2 d k p 0 else t_V b n S ν f 6 d (k + 1) (t_x b n (t_P b n S f 2 d k p).2) (a - 1)) else t_V b n S ν f 2 d k p 0) := rfl
end TVE
def c_st (ν : Nat → Int) (C : Nat → Nat × Nat) (q : Nat × List Int) : Nat × List Int :=
  if (C q.1).1 = 3 then ((C q.1).2, q.2)
  else if (C q.1).1 = 0 then (q.1 + 1, if q.2.length < 32 then ((C q.1).2 : Int) :: q.2 else q.2)
  else if (C q.1).1 = 1 then (q.1 + 1, if q.2.length < 32 ∧ (C q.1).2 < 8 then ν (C q.1).2 :: q.2 else q.2)
  else if (C q.1).1 = 2 then (q.1 + 1, match q.2 with | x :: s => -x :: s | [] => [])
  else if (C q.1).1 = 4 then (match q.2 with | x :: s => if (C q.1).2 = 0 ∨ x ≤ 1 then (q.1 + 1, s) else ((C q.1).2, (x - 1) :: s) | [] => (q.1 + 1, []))
  else (q.1 + 1, match q.2 with | y :: x :: s => t_op2 (C q.1).1 x y :: s | s => s)
def c_it (ν : Nat → Int) (C : Nat → Nat × Nat) : Nat → Nat × List Int → Nat × List Int
  | 0, q => q
  | k + 1, q => c_it ν C k (c_st ν C q)
def c_Sg (ν : Nat → Int) (C : Nat → Nat × Nat) (i j : Nat) (z : Int) (D : Nat) : Prop := ∀ s : List Int, s.length + D ≤ 32 → ∃ k, i + k ≤ j ∧ c_it ν C k (i, s) = (j, z :: s) ∧ ∀ m, m < k → i ≤ (c_it ν C m (i, s)).1 ∧ (c_it ν C m (i, s)).1 < j
def c_Al (ν : Nat → Int) (C : Nat → Nat × Nat) (h e : Nat) (z v : Int) (D : Nat) : Prop := ∀ s : List Int, s.length + D ≤ 32 → ∃ k, h + k ≤ e ∧ c_it ν C k (h, z :: s) = (e, v :: s) ∧ ∀ m, m < k → h ≤ (c_it ν C m (h, z :: s)).1 ∧ (c_it ν C m (h, z :: s)).1 < e
section CSG
variable {ν : Nat → Int} {C C' : Nat → Nat × Nat} {i j l h e : Nat} {x y z v : Int} {D D1 D2 : Nat}
theorem c_it_add : ∀ (k l : Nat) (q : Nat × List Int), c_it ν C (k + l) q = c_it ν C l (c_it ν C k q) := by
  intro k
  induction k with
  | zero => intro l q; rw [Nat.zero_add]; rfl
  | succ k ih => intro l q; rw [Nat.succ_add]; exact ih l _
theorem c_it_then {q r t : Nat × List Int} {k1 k2 : Nat} (hij : i ≤ j) (hjl : j ≤ l) (h1 : i + k1 ≤ j) (e1 : c_it ν C k1 q = r) (m1 : ∀ m, m < k1 → i ≤ (c_it ν C m q).1 ∧ (c_it ν C m q).1 < j) (h2 : j + k2 ≤ l) (e2 : c_it ν C k2 r = t) (m2 : ∀ m, m < k2 → j ≤ (c_it ν C m r).1 ∧ (c_it ν C m r).1 < l) : ∃ k, i + k ≤ l ∧ c_it ν C k q = t ∧ ∀ m, m < k → i ≤ (c_it ν C m q).1 ∧ (c_it ν C m q).1 < l := by
  refine ⟨k1 + k2, by omega, by rw [c_it_add, e1, e2], fun m hm => ?_⟩
  by_cases q1 : m < k1
  · have := m1 m q1; omega
  · rw [show m = k1 + (m - k1) by omega, c_it_add, e1]
    have := m2 (m - k1) (by omega)
    omega
theorem c_it_one {q t : Nat × List Int} (hq : q.1 = i) (hi : i < j) (e1 : c_st ν C q = t) : ∃ k, i + k ≤ j ∧ c_it ν C k q = t ∧ ∀ m, m < k → i ≤ (c_it ν C m q).1 ∧ (c_it ν C m q).1 < j :=
  ⟨1, by omega, e1, fun m hm => by
    have : m = 0 := by omega
    subst this
    exact ⟨Nat.le_of_eq hq.symm, by show q.1 < j; omega⟩⟩
theorem c_Sg.mono (h : c_Sg ν C i j z D1) (hD : D1 ≤ D2) : c_Sg ν C i j z D2 := fun s hs => h s (by omega)
theorem c_it_cong (hc : ∀ k, i ≤ k → k < j → C' k = C k) : ∀ (k : Nat) (q : Nat × List Int), (∀ m, m < k → i ≤ (c_it ν C m q).1 ∧ (c_it ν C m q).1 < j) → ∀ m, m ≤ k → c_it ν C' m q = c_it ν C m q := by
  intro k
  induction k with
  | zero => intro q _ m hm; rw [show m = 0 by omega]; rfl
  | succ k ih =>
    intro q hq m hm
    cases m with
    | zero => rfl
    | succ m =>
      have h0 := hq 0 (by omega)
      have e0 : c_st ν C' q = c_st ν C q := by unfold c_st; rw [hc q.1 h0.1 h0.2]
      show c_it ν C' m (c_st ν C' q) = c_it ν C m (c_st ν C q)
      rw [e0]
      exact ih (c_st ν C q) (fun m hm => hq (m + 1) (by omega)) m (by omega)
theorem c_Sg.cong (h : c_Sg ν C i j z D) (hc : ∀ k, i ≤ k → k < j → C' k = C k) : c_Sg ν C' i j z D := by
  intro s hs
  obtain ⟨k, h1, h2, h3⟩ := h s hs
  have e := c_it_cong (ν := ν) hc k (i, s) h3
  exact ⟨k, h1, by rw [e k (Nat.le_refl _)]; exact h2, fun m hm => by rw [e m (by omega)]; exact h3 m hm⟩
theorem c_Al.cong (h : c_Al ν C i j z v D) (hc : ∀ k, i ≤ k → k < j → C' k = C k) : c_Al ν C' i j z v D := by
  intro s hs
  obtain ⟨k, h1, h2, h3⟩ := h s hs
  have e := c_it_cong (ν := ν) hc k (i, z :: s) h3
  exact ⟨k, h1, by rw [e k (Nat.le_refl _)]; exact h2, fun m hm => by rw [e m (by omega)]; exact h3 m hm⟩
theorem c_Sg.push {w : Nat} (hC : C i = (0, w)) (hD : 1 ≤ D) : c_Sg ν C i (i + 1) (w : Int) D := by
  intro s hs
  exact c_it_one rfl (Nat.lt_succ_self _) (by simp [c_st, hC, show s.length < 32 by omega])
theorem c_Sg.name {w : Nat} (hC : C i = (1, w)) (hw : w < 8) (hD : 1 ≤ D) : c_Sg ν C i (i + 1) (ν w) D := by
  intro s hs
  exact c_it_one rfl (Nat.lt_succ_self _) (by simp [c_st, hC, show s.length < 32 by omega, hw])
theorem c_Sg.le (h : c_Sg ν C i j z D) (hD : D ≤ 32) : i ≤ j := by
  obtain ⟨k, h1, -⟩ := h [] (by simpa using hD)
  omega
theorem c_Sg.neg {w : Nat} (h : c_Sg ν C i j z D) (hij : i ≤ j) (hC : C j = (2, w)) : c_Sg ν C i (j + 1) (-z) D := by
  intro s hs
  obtain ⟨k, h1, h2, h3⟩ := h s hs
  obtain ⟨k2, g1, g2, g3⟩ := c_it_one (ν := ν) (C := C) (q := (j, z :: s)) (t := (j + 1, -z :: s)) rfl (Nat.lt_succ_self j) (by simp [c_st, hC])
  exact c_it_then hij (Nat.le_succ _) h1 h2 h3 g1 g2 g3
theorem c_Sg.bin {o w : Nat} (h : c_Sg ν C i j x D) (g : c_Sg ν C j l y D1) (hij : i ≤ j) (hjl : j ≤ l) (hD : D1 + 1 ≤ D) (hC : C l = (o, w)) (ho : 5 ≤ o) : c_Sg ν C i (l + 1) (t_op2 o x y) D := by
  intro s hs
  obtain ⟨k1, a1, a2, a3⟩ := h s hs
  obtain ⟨k2, b1, b2, b3⟩ := g (x :: s) (by rw [List.length_cons]; omega)
  obtain ⟨k3, d1, d2, d3⟩ := c_it_one (ν := ν) (C := C) (q := (l, y :: x :: s)) (t := (l + 1, t_op2 o x y :: s)) rfl (Nat.lt_succ_self l) (by simp [c_st, hC, show o ≠ 3 by omega, show o ≠ 0 by omega, show o ≠ 1 by omega, show o ≠ 2 by omega, show o ≠ 4 by omega])
  obtain ⟨k4, e1, e2, e3⟩ := c_it_then hij hjl a1 a2 a3 b1 b2 b3
  exact c_it_then (Nat.le_trans hij hjl) (Nat.le_succ _) e1 e2 e3 d1 d2 d3
theorem c_Al.last (hC : C h = (4, 0)) (g : c_Sg ν C (h + 1) e v D) (he : h + 1 ≤ e) : c_Al ν C h e z v D := by
  intro s hs
  obtain ⟨k1, a1, a2, a3⟩ := c_it_one (ν := ν) (C := C) (q := (h, z :: s)) (t := (h + 1, s)) rfl (Nat.lt_succ_self h) (by simp [c_st, hC])
  obtain ⟨k2, b1, b2, b3⟩ := g s hs
  exact c_it_then (Nat.le_succ _) he a1 a2 a3 b1 b2 b3
theorem c_Al.more {h2 : Nat} (hC : C h = (4, h2)) (h0 : h2 ≠ 0) (g : c_Sg ν C (h + 1) j x D) (hj : h + 1 ≤ j) (hJ : C j = (3, e)) (h2j : j < h2) (h2e : h2 ≤ e) (hD : 1 ≤ D) (a : 1 < z → c_Al ν C h2 e (z - 1) v D) : c_Al ν C h e z (if z ≤ 1 then x else v) D := by
  intro s hs
  by_cases q : z ≤ 1
  · rw [if_pos q]
    obtain ⟨k1, a1, a2, a3⟩ := c_it_one (ν := ν) (C := C) (q := (h, z :: s)) (t := (h + 1, s)) rfl (Nat.lt_succ_self h) (by simp [c_st, hC, q])
    obtain ⟨k2, b1, b2, b3⟩ := g s hs
    obtain ⟨k3, d1, d2, d3⟩ := c_it_then (Nat.le_succ _) hj a1 a2 a3 b1 b2 b3
    obtain ⟨k4, e1, e2, e3⟩ := c_it_one (ν := ν) (C := C) (q := (j, x :: s)) (t := (e, x :: s)) (j := e) rfl (by omega) (by simp [c_st, hJ])
    exact c_it_then (by omega) (by omega) d1 d2 d3 e1 e2 e3
  · rw [if_neg q]
    obtain ⟨k1, a1, a2, a3⟩ := c_it_one (ν := ν) (C := C) (q := (h, z :: s)) (t := (h2, (z - 1) :: s)) (j := h2) rfl (by omega) (by simp [c_st, hC, h0, q])
    obtain ⟨k2, b1, b2, b3⟩ := a (by omega) s hs
    exact c_it_then (by omega) h2e a1 a2 a3 b1 b2 b3
theorem c_Al.sel (g : c_Sg ν C i h z D1) (a : c_Al ν C h e z v D2) (hih : i ≤ h) (hhe : h ≤ e) (h1 : D1 ≤ D) (h2 : D2 ≤ D) : c_Sg ν C i e v D := by
  intro s hs
  obtain ⟨k1, a1, a2, a3⟩ := g s (by omega)
  obtain ⟨k2, b1, b2, b3⟩ := a s (by omega)
  exact c_it_then hih hhe a1 a2 a3 b1 b2 b3
def c_go (ν : Nat → Int) (C : Nat → Nat × Nat) (len : Nat) : Nat → Nat × List Int → List Int
  | 0, q => q.2
  | f + 1, q => if q.1 < len then c_go ν C len f (c_st ν C q) else q.2
theorem c_go_it {len : Nat} : ∀ (k f : Nat) (q : Nat × List Int), k ≤ f → (∀ m, m < k → (c_it ν C m q).1 < len) → (c_it ν C k q).1 = len → c_go ν C len f q = (c_it ν C k q).2 := by
  intro k
  induction k with
  | zero =>
    intro f q _ _ h
    cases f with
    | zero => rfl
    | succ f =>
      have h : q.1 = len := h
      simp only [c_go]
      rw [if_neg (by omega)]
      rfl
  | succ k ih =>
    intro f q hf hm h
    cases f with
    | zero => omega
    | succ f =>
      have h0 : q.1 < len := hm 0 (by omega)
      simp only [c_go]
      rw [if_pos h0]
      exact ih f _ (by omega) (fun m h => hm (m + 1) (by omega)) h
theorem c_Sg.go {len : Nat} (g : c_Sg ν C 0 len z D) (hD : D ≤ 32) : c_go ν C len len (0, []) = [z] := by
  obtain ⟨k, h1, h2, h3⟩ := g [] (by simpa using hD)
  rw [c_go_it k len (0, []) (by omega) (fun m hm => (h3 m hm).2) (by rw [h2]), h2]
end CSG
def r_pk (vs : List Int) (z : Int) : Int := vs.getD (if z < 1 then 0 else if (vs.length : Int) < z then vs.length - 1 else z.toNat - 1) 0
def c_in (x : Int) : Prop := -1000000 ≤ x ∧ x ≤ 1000000
theorem c_in_hl (x : Int) : c_in (t_hl x) := by
  unfold c_in t_hl
  omega
theorem c_in_op (d : Nat) (x y : Int) : c_in (t_op2 d x y) := c_in_hl _
def t_bn (ν : Nat → Int) : Prop := ∀ k, k < 8 → c_in (ν k)
def t_rn (k : Nat) : Nat := if k = 0 then 1 else if k = 1 then 2 else if k = 2 then 3 else if k = 3 then 0 else k
def r_sto (ν : Nat → Int) (s : List Int) (e : Nat × Nat) : Option (List Int) :=
  if e.1 = 0 then some ((e.2 : Int) :: s)
  else if e.1 = 1 then (if e.2 < 8 then some (ν (t_rn e.2) :: s) else none)
  else if e.1 = 2 then (if 1 ≤ e.2 then (match s.drop e.2 with | z :: r => some (r_pk (s.take e.2).reverse z :: r) | [] => none) else none)
  else if e.1 = 3 then (match s with | x :: r => some (-x :: r) | [] => none)
  else (match s with | y :: x :: r => some (t_op2 (e.1 + 1) x y :: r) | _ => none)
def r_evo (ν : Nat → Int) : List (Nat × Nat) → List Int → Option (List Int)
  | [], s => some s
  | e :: E, s => match r_sto ν s e with
    | some s' => r_evo ν E s'
    | none => none
theorem r_evo_app {ν : Nat → Int} {F : List (Nat × Nat)} : ∀ {E : List (Nat × Nat)} {s : List Int}, r_evo ν (E ++ F) s = (match r_evo ν E s with | some s' => r_evo ν F s' | none => none) := by
  intro E
  induction E with
  | nil => intro s; rfl
  | cons e E ih =>
    intro s
    simp only [List.cons_append, r_evo]
    cases r_sto ν s e with
    | none => rfl
    | some s' => exact ih
theorem r_evo_one {ν : Nat → Int} {E : List (Nat × Nat)} {e : Nat × Nat} {s s' s2 : List Int} (h : r_evo ν E s = some s') (h2 : r_sto ν s' e = some s2) : r_evo ν (E ++ [e]) s = some s2 := by
  rw [r_evo_app, h]
  simp only [r_evo, h2]
theorem r_sto_len {ν : Nat → Int} {s s' : List Int} {e : Nat × Nat} (h : r_sto ν s e = some s') : s'.length ≤ s.length + 1 := by
  unfold r_sto at h
  split at h
  · cases h; simp
  · split at h
    · split at h
      · cases h; simp
      · cases h
    · split at h
      · split at h
        · split at h
          · next z r e1 =>
            cases h
            have := congrArg List.length e1
            simp only [List.length_drop, List.length_cons] at this ⊢
            omega
          · cases h
        · cases h
      · split at h
        · split at h
          · cases h; simp
          · cases h
        · split at h
          · cases h; simp; try omega
          · cases h
theorem r_evo_len {ν : Nat → Int} : ∀ {E : List (Nat × Nat)} {s s' : List Int}, r_evo ν E s = some s' → s'.length ≤ s.length + E.length := by
  intro E
  induction E with
  | nil => intro s s' h; cases h; simp
  | cons e E ih =>
    intro s s' h
    simp only [r_evo] at h
    split at h
    · next t e1 =>
      have a := r_sto_len e1
      have b := ih h
      rw [List.length_cons]
      omega
    · cases h
theorem r_sto_nth {ν : Nat → Int} {vs r : List Int} {z : Int} (h : 1 ≤ vs.length) : r_sto ν (vs.reverse ++ z :: r) (2, vs.length) = some (r_pk vs z :: r) := by
  have hd : (vs.reverse ++ z :: r).drop vs.length = z :: r := List.drop_left' (by simp)
  have ht : (vs.reverse ++ z :: r).take vs.length = vs.reverse := List.take_left' (by simp)
  unfold r_sto
  simp only [hd, ht, List.reverse_reverse]
  simp [h]
theorem r_sto_bin {ν : Nat → Int} {s : List Int} {x y : Int} {o : Nat} (h4 : 4 ≤ o) : r_sto ν (y :: x :: s) (o, 0) = some (t_op2 (o + 1) x y :: s) := by
  unfold r_sto
  rw [if_neg (show ¬ o = 0 by omega), if_neg (show ¬ o = 1 by omega), if_neg (show ¬ o = 2 by omega), if_neg (show ¬ o = 3 by omega)]
def t_sl (z : Int) (vs : List Int) (v : Int) : Int := if 1 ≤ vs.length ∧ z ≤ vs.length then r_pk vs z else v
theorem t_sl_nil {z v : Int} : t_sl z [] v = v := by unfold t_sl; rw [if_neg (by simp)]
theorem r_pk_app {vs ws : List Int} {z : Int} (h1 : 1 ≤ vs.length) (h2 : z ≤ vs.length) : r_pk (vs ++ ws) z = r_pk vs z := by
  unfold r_pk
  have hl : (vs ++ ws).length = vs.length + ws.length := List.length_append
  by_cases q : z < 1
  · rw [if_pos q, if_pos q, List.getD_eq_getElem?_getD, List.getD_eq_getElem?_getD, List.getElem?_append_left (by omega)]
  · rw [if_neg q, if_neg q, if_neg (by rw [hl]; omega), if_neg (by omega), List.getD_eq_getElem?_getD, List.getD_eq_getElem?_getD, List.getElem?_append_left (by omega)]
theorem r_pk_last {vs : List Int} {v z : Int} (h : (vs.length : Int) < z ∨ vs.length = 0) : r_pk (vs ++ [v]) z = v := by
  unfold r_pk
  have hl : (vs ++ [v]).length = vs.length + 1 := by simp
  have hv : (vs ++ [v])[vs.length]? = some v := by simp
  have e : (if z < 1 then 0 else if ((vs ++ [v]).length : Int) < z then (vs ++ [v]).length - 1 else z.toNat - 1) = vs.length := by
    rw [hl]
    split
    · omega
    · split <;> omega
  rw [e, List.getD_eq_getElem?_getD, hv]; rfl
theorem t_sl_more {z v w : Int} {vs : List Int} : t_sl z (vs ++ [v]) w = t_sl z vs (if z - vs.length ≤ 1 then v else w) := by
  unfold t_sl
  have hl : (vs ++ [v]).length = vs.length + 1 := by simp
  by_cases q : 1 ≤ vs.length ∧ z ≤ vs.length
  · rw [if_pos q, if_pos (by rw [hl]; omega)]
    exact r_pk_app q.1 q.2
  · rw [if_neg q]
    by_cases q2 : z - vs.length ≤ 1
    · rw [if_pos q2, if_pos (by rw [hl]; omega)]
      exact r_pk_last (by omega)
    · rw [if_neg q2, if_neg (by rw [hl]; omega)]
theorem t_sl_last {z v : Int} {vs : List Int} : r_pk (vs ++ [v]) z = t_sl z vs v := by
  unfold t_sl
  by_cases q : 1 ≤ vs.length ∧ z ≤ vs.length
  · rw [if_pos q]; exact r_pk_app q.1 q.2
  · rw [if_neg q]; exact r_pk_last (by omega)
def c_D (d : Nat) : Nat := 1 + 2 * (8 - d)
def c_V (b : Nat → Nat) (n so f mode d k p D u : Nat) (C : Nat → Nat × Nat) (u2 : Nat) (C2 : Nat → Nat × Nat) : Prop := u ≤ u2 ∧ (∀ j, j < u → C2 j = C j) ∧ ∀ ν, c_Sg ν C2 u u2 (t_V b n (Nat.beq so 1) ν f mode d k p 0) D
def c_VL (b : Nat → Nat) (n so f mode d p D u : Nat) (C : Nat → Nat × Nat) (u2 : Nat) (C2 : Nat → Nat × Nat) : Prop := u ≤ u2 ∧ (∀ j, j < u → C2 j = C j) ∧ ∀ ν i a E, i ≤ u → c_Sg ν C i u a E → D + 1 ≤ E → c_Sg ν C2 i u2 (t_V b n (Nat.beq so 1) ν f mode d 0 p a) E
def c_VA (b : Nat → Nat) (n so f d k p D u : Nat) (C : Nat → Nat × Nat) (L : List Nat) (u2 : Nat) (C2 : Nat → Nat × Nat) : Prop := u < u2 ∧ (∀ j, j < u → C2 j = if j ∈ L then (3, u2) else C j) ∧ ∀ ν z, c_Al ν C2 u u2 z (t_V b n (Nat.beq so 1) ν f 6 d k p z) D
section RV9
variable {b : Nat → Nat} {n so f d k p D u u2 u3 u5 : Nat} {C C2 C3 C5 : Nat → Nat × Nat}
theorem c_VL_nil {mode : Nat} (hev : ∀ (ν : Nat → Int) (a : Int), t_V b n (Nat.beq so 1) ν f mode d 0 p a = a) : c_VL b n so f mode d p D u C u C := ⟨Nat.le_refl _, fun _ _ => rfl, fun ν i a E _ h _ => by rw [hev]; exact h⟩
theorem c_VL_op {mode sm x p2 e g D' : Nat} (V3 : c_V b n so f sm d 0 x D u C u3 C3) (V5 : c_VL b n so f mode d p2 D' (u3 + 1) (c_up C3 u3 (e, 0)) u5 C5) (he : 5 ≤ e) (hD : D ≤ D') (hg : g = f + 1) (hev : ∀ (ν : Nat → Int) (a : Int), t_V b n (Nat.beq so 1) ν g mode d 0 p a = t_V b n (Nat.beq so 1) ν f mode d 0 p2 (t_op2 e a (t_V b n (Nat.beq so 1) ν f sm d 0 x 0))) : c_VL b n so g mode d p D' u C u5 C5 := by
  subst hg
  obtain ⟨a1, a2, a3⟩ := V3
  obtain ⟨b1, b2, b3⟩ := V5
  refine ⟨by omega, fun j hj => by rw [b2 j (by omega), c_up_ne (by omega), a2 j hj], fun ν i a E hi hs hE => ?_⟩
  rw [hev]
  have h1 : c_Sg ν (c_up C3 u3 (e, 0)) i u a E := hs.cong (fun j h1 h2 => by rw [c_up_ne (by omega), a2 j h2])
  have h2 : c_Sg ν (c_up C3 u3 (e, 0)) u u3 (t_V b n (Nat.beq so 1) ν f sm d 0 x 0) D := (a3 ν).cong (fun j h1 h2 => c_up_ne (by omega))
  exact b3 ν i _ E (by omega) (h1.bin h2 hi a1 (by omega) c_up_at he) hE
theorem c_V_loop {m1 m2 m3 p2 g D' : Nat} (V3 : c_V b n so f m1 d k p D u C u3 C3) (V5 : c_VL b n so f m2 d p2 D u3 C3 u5 C5) (hD : D + 1 ≤ D') (hg : g = f + 1) (hev : ∀ ν : Nat → Int, t_V b n (Nat.beq so 1) ν g m3 d k p 0 = t_V b n (Nat.beq so 1) ν f m2 d 0 p2 (t_V b n (Nat.beq so 1) ν f m1 d k p 0)) : c_V b n so g m3 d k p D' u C u5 C5 := by
  subst hg
  obtain ⟨a1, a2, a3⟩ := V3
  obtain ⟨b1, b2, b3⟩ := V5
  refine ⟨by omega, fun j hj => by rw [b2 j (by omega), a2 j hj], fun ν => ?_⟩
  rw [hev]
  exact b3 ν u _ D' a1 ((a3 ν).mono (by omega)) hD
theorem c_V_one {e w g : Nat} (h : e = 0 ∨ (e = 1 ∧ w < 8)) (hD : 1 ≤ D) (hev : ∀ ν : Nat → Int, t_V b n (Nat.beq so 1) ν g 0 d k p 0 = if e = 0 then (w : Int) else ν w) : c_V b n so g 0 d k p D u C (u + 1) (c_up C u (e, w)) := by
  refine ⟨Nat.le_succ _, fun j hj => c_up_ne (by omega), fun ν => ?_⟩
  rw [hev]
  rcases h with rfl | ⟨rfl, hw⟩
  · exact c_Sg.push c_up_at hD
  · exact c_Sg.name c_up_at hw hD
theorem c_V_neg {x g d2 D' : Nat} (V : c_V b n so f 0 d2 0 x D u C u3 C3) (hD : D ≤ D') (hev : ∀ ν : Nat → Int, t_V b n (Nat.beq so 1) ν g 0 d k p 0 = -(t_V b n (Nat.beq so 1) ν f 0 d2 0 x 0)) : c_V b n so g 0 d k p D' u C (u3 + 1) (c_up C3 u3 (2, 0)) := by
  obtain ⟨a1, a2, a3⟩ := V
  refine ⟨by omega, fun j hj => by rw [c_up_ne (by omega), a2 j hj], fun ν => ?_⟩
  rw [hev]
  exact (((a3 ν).cong (fun j h1 h2 => c_up_ne (by omega))).mono hD).neg a1 c_up_at
theorem c_V_same {x g d2 k2 m m2 D' : Nat} (V : c_V b n so f m d2 k2 x D u C u3 C3) (hD : D ≤ D') (hev : ∀ ν : Nat → Int, t_V b n (Nat.beq so 1) ν g m2 d k p 0 = t_V b n (Nat.beq so 1) ν f m d2 k2 x 0) : c_V b n so g m2 d k p D' u C u3 C3 := by
  obtain ⟨a1, a2, a3⟩ := V
  exact ⟨a1, a2, fun ν => by rw [hev]; exact (a3 ν).mono hD⟩
theorem c_V_sel {x y g d2 D1 D2 D' : Nat} (V : c_V b n so f 0 d2 0 x D1 u C u3 C3) (W : c_VA b n so f d2 1 y D2 u3 C3 [] u5 C5) (h1 : D1 ≤ D') (h2 : D2 ≤ D') (hev : ∀ ν : Nat → Int, t_V b n (Nat.beq so 1) ν g 0 d k p 0 = t_V b n (Nat.beq so 1) ν f 6 d2 1 y (t_V b n (Nat.beq so 1) ν f 0 d2 0 x 0)) : c_V b n so g 0 d k p D' u C u5 C5 := by
  obtain ⟨a1, a2, a3⟩ := V
  obtain ⟨b1, b2, b3⟩ := W
  have b2' : ∀ j, j < u3 → C5 j = C3 j := fun j hj => by rw [b2 j hj]; simp
  refine ⟨by omega, fun j hj => by rw [b2' j (by omega), a2 j hj], fun ν => ?_⟩
  rw [hev]
  exact c_Al.sel ((a3 ν).cong (fun j h1 h2 => b2' j h2)) (b3 ν _) a1 (by omega) h1 h2
theorem c_VA_last {g : Nat} {L : List Nat} (V : c_V b n so f 2 d k p D (u + 1) (c_up C u (4, 0)) u3 C3) (hL : ∀ j, j ∈ L → j < u) (hev : ∀ (ν : Nat → Int) (z : Int), t_V b n (Nat.beq so 1) ν g 6 d k p z = t_V b n (Nat.beq so 1) ν f 2 d k p 0) : c_VA b n so g d k p D u C L u3 (c_to C3 L u3) := by
  obtain ⟨a1, a2, a3⟩ := V
  have hn : ∀ j, u ≤ j → ¬ j ∈ L := fun j hj e => by have := hL j e; omega
  refine ⟨by omega, fun j hj => ?_, fun ν z => ?_⟩
  · unfold c_to
    by_cases q : j ∈ L
    · rw [if_pos q, if_pos q]
    · rw [if_neg q, if_neg q, a2 j (by omega), c_up_ne (by omega)]
  · rw [hev]
    refine c_Al.last ?_ ((a3 ν).cong (fun j h1 h2 => ?_)) a1
    · unfold c_to
      rw [if_neg (hn u (Nat.le_refl _)), a2 u (Nat.lt_succ_self _), c_up_at]
    · unfold c_to
      rw [if_neg (hn j (by omega))]
theorem c_VA_more {g o p2 u7 : Nat} {C7 : Nat → Nat × Nat} {L : List Nat} (V : c_V b n so f 2 d k p D (u + 1) (c_up C u (4, 0)) u3 C3) (hL : ∀ j, j ∈ L → j < u) (W : c_VA b n so f d (k + 1) p2 D (u3 + 1) (c_up (c_up C3 u3 (3, o)) u (4, u3 + 1)) (u3 :: L) u7 C7) (hD : 1 ≤ D) (hev : ∀ (ν : Nat → Int) (z : Int), t_V b n (Nat.beq so 1) ν g 6 d k p z = if z ≤ 1 then t_V b n (Nat.beq so 1) ν f 2 d k p 0 else t_V b n (Nat.beq so 1) ν f 6 d (k + 1) p2 (z - 1)) : c_VA b n so g d k p D u C L u7 C7 := by
  obtain ⟨a1, a2, a3⟩ := V
  obtain ⟨b1, b2, b3⟩ := W
  have hn : ∀ j, u ≤ j → ¬ j ∈ L := fun j hj e => by have := hL j e; omega
  have e7 : ∀ j, u < j → j < u3 → C7 j = C3 j := fun j h1 h2 => by
    rw [b2 j (by omega), if_neg (by simp only [List.mem_cons, not_or]; exact ⟨by omega, hn j (by omega)⟩), c_up_ne (by omega), c_up_ne (by omega)]
  have eu : C7 u = (4, u3 + 1) := by
    rw [b2 u (by omega), if_neg (by simp only [List.mem_cons, not_or]; exact ⟨by omega, hn u (Nat.le_refl _)⟩), c_up_at]
  have e3 : C7 u3 = (3, u7) := by rw [b2 u3 (Nat.lt_succ_self _), if_pos List.mem_cons_self]
  refine ⟨by omega, fun j hj => ?_, fun ν z => ?_⟩
  · rw [b2 j (by omega)]
    by_cases q : j ∈ L
    · rw [if_pos q, if_pos (List.mem_cons_of_mem _ q)]
    · rw [if_neg q, if_neg (by simp only [List.mem_cons, not_or]; exact ⟨by omega, q⟩), c_up_ne (by omega), c_up_ne (by omega), a2 j (by omega), c_up_ne (by omega)]
  · rw [hev]
    exact c_Al.more eu (by omega) ((a3 ν).cong (fun j h1 h2 => e7 j (by omega) h2)) a1 e3 (by omega) (by omega) hD (fun _ => b3 ν (z - 1))
end RV9
set_option maxRecDepth 100000 in
theorem c_in_i {x : Int} (h : c_in x) : (Int32.ofInt x).toInt = x := by
  unfold c_in at h
  exact Int32.toInt_ofInt_of_le (by omega) (by omega)
section EV1
variable {h h0 : p_H} {a len d w dd at_ tn top : Nat} {C : Nat → Nat × Nat} {ν : Nat → Int} {s : List Int} {ls : p_Ls} {Q : Option Value → p_H → Prop} {cv : List Value}
set_option maxRecDepth 100000 in
theorem t_lmul {x y : Int} (hx : c_in x) (hy : c_in y) : -1000000000000 ≤ x * y ∧ x * y ≤ 1000000000000 := by
  unfold c_in at hx hy
  have h : (x * y).natAbs ≤ 1000000 * 1000000 := by
    rw [Int.natAbs_mul]
    exact Nat.mul_le_mul (by omega) (by omega)
  omega
end EV1
