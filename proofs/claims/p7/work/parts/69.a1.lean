/-! THE GRAMMAR: what a text's tokens can be, and the first fault; an answer: the fault (0 without) and where the token stands -/
def t_Wn : List Nat := [469853041779, 495622843507, 1919906931, 1886350948, 495689623668, 7561591, 427121668979, 1936026732, 495874892151, 6578553, 1751474548, 1936292453, 120282378691940, 1701078885, 126896543659123, 461330343027, 25209, 24948, 1684366704, 29807, 7238760, 28518]
/-- the token at p is word k; a sign c -/
def t_wd (b : Nat → Nat) (n p k : Nat) : Bool := Nat.beq (t_k b n p) 1 && Nat.beq (t_w b n p) (t_Wn.getD k 0)
def t_is (b : Nat → Nat) (n p c : Nat) : Bool := Nat.beq (t_k b n p) 3 && Nat.beq (b p) c
/-- a name: day, heat, size, straw, melted, edge; sights, kinds -/
def t_nm6 (b : Nat → Nat) (n p : Nat) : Bool := t_wd b n p 9 || (t_wd b n p 10 || (t_wd b n p 11 || (t_wd b n p 8 || (t_wd b n p 12 || t_wd b n p 13))))
def t_nm2 (b : Nat → Nat) (n p : Nat) : Bool := t_wd b n p 14 || t_wd b n p 15
def t_op (b : Nat → Nat) (n p : Nat) : Bool := t_is b n p 40 || (t_is b n p 45 || t_wd b n p 20)
/-- the fault of the first token of a ONE that d things are open around -/
def t_F (b : Nat → Nat) (n : Nat) (S : Bool) (d p : Nat) : Nat :=
  if t_k b n p = 2 then (if 9999 < t_n b n p then 2 else 0)
  else if t_nm6 b n p = true then 0
  else if t_nm2 b n p = true then (if S = true then 0 else 5)
  else if t_op b n p = true then (if 8 ≤ d then 3 else 0) else 1
/-- modes: 0 ONE, 1 PRODUCT, 2 SUM, 4 behind a ONE of a PRODUCT, 5 behind a PRODUCT of a SUM, 6 the k-th SUM of an nth -/
def t_P (b : Nat → Nat) (n : Nat) (S : Bool) : Nat → Nat → Nat → Nat → Nat → Nat × Nat
  | 0, _, _, _, _ => (99, 0)
  | f + 1, mode, d, k, p =>
    let r := t_P b n S f
    let x := t_x b n p
    if mode = 0 then
      (if t_F b n S d p ≠ 0 then (t_F b n S d p, p)
       else if k = 7 then (7, p)
       else if t_op b n p = false then (0, x)
       else if t_wd b n p 20 = true then
         (let s := r 0 (d + 1) 0 x
          if s.1 ≠ 0 then s
          else if t_wd b n s.2 21 = false then (1, s.2)
          else if t_is b n (t_x b n s.2) 40 = false then (1, t_x b n s.2)
          else r 6 (d + 1) 1 (t_x b n (t_x b n s.2)))
       else if t_is b n p 45 = true then r 0 (d + 1) 0 x
       else (let s := r 2 (d + 1) 0 x
             if s.1 ≠ 0 then s else if t_is b n s.2 41 = true then (0, t_x b n s.2) else (1, s.2)))
    else if mode = 1 then (let s := r 0 d k p
      if s.1 ≠ 0 then s else r 4 d 0 s.2)
    else if mode = 2 then (let s := r 1 d k p
      if s.1 ≠ 0 then s else r 5 d 0 s.2)
    else if mode = 4 then (if t_is b n p 42 = true ∨ t_is b n p 47 = true then (let s := r 0 d 0 x
      if s.1 ≠ 0 then s else r 4 d 0 s.2) else (0, p))
    else if mode = 5 then (if t_is b n p 43 = true ∨ t_is b n p 45 = true then (let s := r 1 d 0 x
      if s.1 ≠ 0 then s else r 5 d 0 s.2) else (0, p))
    else (let s := r 2 d k p
      if s.1 ≠ 0 then s else if t_is b n s.2 44 = true then r 6 d (k + 1) (t_x b n s.2) else if t_is b n s.2 41 = true then (0, t_x b n s.2) else (1, s.2))
/-- clauses: a step is (0, least, most) a number, (1, k, 0) a word, (2, c, 0) a sign -/
def t_D (b : Nat → Nat) (n : Nat) : List (Nat × Nat × Nat) → Nat → Nat × Nat
  | [], p => (0, p)
  | s :: R, p => if s.1 = 0 then (if t_k b n p ≠ 2 then (1, p) else if t_n b n p < s.2.1 ∨ s.2.2 < t_n b n p then (2, p) else t_D b n R (t_x b n p))
    else if s.1 = 1 then (if t_wd b n p s.2.1 = true then t_D b n R (t_x b n p) else (1, p))
    else (if t_is b n p s.2.1 = true then t_D b n R (t_x b n p) else (1, p))
/-- what stands behind the word of a clause (class's numbers of words) -/
def t_dd (w : Nat) : List (Nat × Nat × Nat) := match w with
  | 3 => [(0, 2, 8), (1, 16, 0), (0, 2, 8)]
  | 4 => [(0, 0, 9), (1, 17, 0), (0, 0, 7), (2, 44, 0), (0, 0, 7), (2, 58, 0), (0, 1, 3), (2, 44, 0), (0, 1, 3), (1, 18, 0), (0, 0, 9)]
  | 8 => [(0, 1, 9), (1, 19, 0), (0, 0, 63)]
  | 9 => [(0, 1, 60)]
  | 7 => [(0, 0, 63)]
  | _ => [(0, 0, 6)]
/-- the word of a clause at p, 10 if it is none -/
def t_cw (b : Nat → Nat) (n p : Nat) : Nat := if t_wd b n p 0 then 0 else if t_wd b n p 1 then 1 else if t_wd b n p 2 then 2 else if t_wd b n p 3 then 3 else if t_wd b n p 4 then 4 else if t_wd b n p 5 then 5 else if t_wd b n p 6 then 6 else if t_wd b n p 8 then 8 else if t_wd b n p 9 then 9 else if t_wd b n p 7 then 7 else 10
/-- one clause, m are there already; which of melts, sells, rots are told: bits of o -/
def t_cl (b : Nat → Nat) (n m o p : Nat) : Nat × Nat :=
  let w := t_cw b n p
  if w = 10 then (1, p)
  else if w < 3 ∧ o / 2 ^ w % 2 = 1 then (4, p)
  else if m = 24 then (6, p)
  else
    let s := if w < 3 then t_P b n (Nat.beq w 1) 4000 2 0 0 (t_x b n p) else t_D b n (t_dd w) (t_x b n p)
    if s.1 ≠ 0 then s else if t_is b n s.2 59 = true then (0, t_x b n s.2) else (1, s.2)
/-- the whole text from the token at p on -/
def t_tx (b : Nat → Nat) (n : Nat) : Nat → Nat → Nat → Nat → Nat × Nat
  | 0, _, _, p => (99, p)
  | f + 1, m, o, p => if t_k b n p = 0 then (0, p) else
    let s := t_cl b n m o p
    if s.1 ≠ 0 then s else t_tx b n f (m + 1) (if t_cw b n p < 3 then o + 2 ^ t_cw b n p else o) s.2
def t_text (b : Nat → Nat) (n : Nat) : Nat × Nat := t_tx b n 26 0 0 (t_sk b n 0)
