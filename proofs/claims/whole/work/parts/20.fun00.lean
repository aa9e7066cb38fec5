/-! printed by a program: the methods as functions of a pure state -/
def F_X0_init (n : Nat) (st : xS) (a0 : Option Nat) (a1 : Int32) : Option (xS) :=
  (a0).bind fun b1 =>
  (pF st a0 0 0 (.int a1)).bind fun s2 =>
  some s2
def F_X0_below (n : Nat) (st : xS) (a0 : Option Nat) (a1 : Int32) : Option (Int32 × xS) :=
  (gI st a0 0 0).bind fun v1 =>
  (pF st a0 0 0 (.int ((v1 * (1103515245 : Int32)) + (12345 : Int32)))).bind fun s2 =>
  ((if a1 ≤ (0 : Int32) then
      some (0 : Int32)
    else
      (gI s2 a0 0 0).bind fun v3 =>
      (dR (ush v3 (16 : Int32)) a1).bind fun v4 =>
      some v4) : Option (Int32)).bind fun q5 =>
  some (q5, s2)
def F_X0_shots_L4 (n : Nat) : Nat → xS → Option Nat → Int32 → Int32 → Int32 → Option ((Int32 × xS))
  | 0 => fun _ _ _ _ _ => none
  | k + 1 => fun st a0 a1 a2 a3 =>
    if (3 : Int32) ≤ a3 then
      some (a2, st)
    else
      (isO st a0 0).bind fun q2 =>
      (F_X0_below n st a0 (100 : Int32)).bind fun p1 =>
      ((if a1 ≤ p1.1 then
          some a2
        else
          (some (a2 + (1 : Int32))).bind fun v3 =>
          some v3) : Option (Int32)).bind fun q4 =>
      (some (a3 + (1 : Int32))).bind fun v5 =>
      F_X0_shots_L4 n k p1.2 a0 a1 q4 v5
def F_X0_shots (n : Nat) (st : xS) (a0 : Option Nat) (a1 : Int32) : Option (Int32 × xS) :=
  (F_X0_shots_L4 n n st a0 a1 (0 : Int32) (0 : Int32)).bind fun q6 =>
  some (q6.1, q6.2)
def F_X1_init (n : Nat) (st : xS) (a0 : Option Nat) : Option (xS) :=
  (a0).bind fun b1 =>
  (some (xnew st 8 (.inl (0, 8, .inl fun _ => 0)))).bind fun s2 =>
  (pF s2 a0 1 0 (va_rf (some (64 + st.1)))).bind fun s3 =>
  (some (s3.1 + 7, s3.2.1 + 48, fun q => if q = 64 + s3.1 then .inl (8, 6, .inr (.inr (.inr (.inr fun i => if i < 6 then some (64 + s3.1 + 1 + i) else none)))) else if 64 + s3.1 < q ∧ q ≤ 64 + s3.1 + 6 then .inl (1, 7, .inr (.inl fun _ => 0)) else s3.2.2 q)).bind fun s4 =>
  (pF s4 a0 1 1 (va_rf (some (64 + s3.1)))).bind fun s5 =>
  (pF s5 a0 1 2 (.int 0)).bind fun s6 =>
  some s6
def F_X1_clear_L2 (n : Nat) : Nat → xS → Option Nat → Int32 → Option ((xS))
  | 0 => fun _ _ _ => none
  | k + 1 => fun st a0 a1 =>
    if (8 : Int32) ≤ a1 then
      some st
    else
      (gR st a0 1 0).bind fun v1 =>
      (sS 0 st v1 a1 (-1 : Int32)).bind fun s2 =>
      (some (a1 + (1 : Int32))).bind fun v3 =>
      F_X1_clear_L2 n k s2 a0 v3
def F_X1_clear (n : Nat) (st : xS) (a0 : Option Nat) : Option (xS) :=
  (F_X1_clear_L2 n n st a0 (0 : Int32)).bind fun q4 =>
  some q4
def F_X10_setAt (n : Nat) (st : xS) (a0 : Option Nat) (a1 : Int32) (a2 : Int32) : Option (xS) :=
  ((if a1 < (0 : Int32) then
      some st
    else
      (aN st a0).bind fun v1 =>
      if v1 ≤ a1 then
        some st
      else
        (sS 0 st a0 a1 a2).bind fun s2 =>
        some s2) : Option (xS)).bind fun q3 =>
  some q3
def F_X1_see (n : Nat) (st : xS) (a0 : Option Nat) (a1 : Int32) (a2 : Int32) : Option (xS) :=
  (gR st a0 1 0).bind fun v1 =>
  (F_X10_setAt n st v1 a1 (0 : Int32)).bind fun s2 =>
  (gR s2 a0 1 0).bind fun v3 =>
  (F_X10_setAt n s2 v3 a2 (0 : Int32)).bind fun s4 =>
  some s4
def F_X1_arrange_L7 (n : Nat) : Nat → xS → Option Nat → Int32 → Option ((xS))
  | 0 => fun _ _ _ => none
  | k + 1 => fun st a0 a1 =>
    if (8 : Int32) ≤ a1 then
      some st
    else
      (gR st a0 1 0).bind fun v2 =>
      (aI st v2 a1).bind fun v3 =>
      ((if v3 = (-1 : Int32) then
          some st
        else
          (gR st a0 1 0).bind fun v4 =>
          (gI st a0 1 2).bind fun v5 =>
          (sS 0 st v4 a1 v5).bind fun s6 =>
          (gI s6 a0 1 2).bind fun v7 =>
          (pF s6 a0 1 2 (.int (v7 + (1 : Int32)))).bind fun s8 =>
          some s8) : Option (xS)).bind fun q9 =>
      (some (a1 + (1 : Int32))).bind fun v10 =>
      F_X1_arrange_L7 n k q9 a0 v10
def F_X1_arrange_L59 (n : Nat) : Nat → xS → Option Nat → Int32 → Int32 → Option ((xS))
  | 0 => fun _ _ _ _ => none
  | k + 1 => fun st a0 a1 a2 =>
    if (6 : Int32) < a2 then
      some st
    else
      (gR st a0 1 1).bind fun v12 =>
      (aR st v12 a1).bind fun v13 =>
      (sL st v13 a2 (0 : Int64)).bind fun s14 =>
      (some (a2 + (1 : Int32))).bind fun v15 =>
      F_X1_arrange_L59 n k s14 a0 a1 v15
def F_X1_arrange_L51 (n : Nat) : Nat → xS → Option Nat → Int32 → Option ((xS))
  | 0 => fun _ _ _ => none
  | k + 1 => fun st a0 a1 =>
    if (6 : Int32) ≤ a1 then
      some st
    else
      (F_X1_arrange_L59 n n st a0 a1 (0 : Int32)).bind fun q16 =>
      (some (a1 + (1 : Int32))).bind fun v17 =>
      F_X1_arrange_L51 n k q16 a0 v17
def F_X1_arrange (n : Nat) (st : xS) (a0 : Option Nat) : Option (Int32 × xS) :=
  (pF st a0 1 2 (.int (0 : Int32))).bind fun s1 =>
  (F_X1_arrange_L7 n n s1 a0 (0 : Int32)).bind fun q11 =>
  (F_X1_arrange_L51 n n q11 a0 (0 : Int32)).bind fun q18 =>
  (gI q18 a0 1 2).bind fun v19 =>
  ((if v19 ≤ (0 : Int32) then
      some (0 : Int32)
    else
      (gI q18 a0 1 2).bind fun v20 =>
      if (6 : Int32) < v20 then
        some (0 : Int32)
      else
        some (1 : Int32)) : Option (Int32)).bind fun q21 =>
  (rz q21).bind fun v22 =>
  some (v22, q18)
def F_X10_valueAt (n : Nat) (st : xS) (a0 : Option Nat) (a1 : Int32) : Option (Int32) :=
  ((if a1 < (0 : Int32) then
      some (0 : Int32)
    else
      (aN st a0).bind fun v1 =>
      if v1 ≤ a1 then
        some (0 : Int32)
      else
        (aI st a0 a1).bind fun v2 =>
        some v2) : Option (Int32)).bind fun q3 =>
  some q3
def F_X1_factor (n : Nat) (st : xS) (a0 : Option Nat) (a1 : Int32) (a2 : Int32) (a3 : Int32) : Option (Int32) :=
  if a1 = (0 : Int32) then
    some (1 : Int32)
  else
    (gR st a0 1 0).bind fun v1 =>
    (F_X10_valueAt n st v1 a2).bind fun v2 =>
    if a1 = v2 then
      some (1 : Int32)
    else
      (gR st a0 1 0).bind fun v3 =>
      (F_X10_valueAt n st v3 a3).bind fun v4 =>
      ((if a1 = v4 then
          some (-1 : Int32)
        else
          some (0 : Int32)) : Option (Int32)).bind fun q5 =>
      some q5
def F_X1_add_L32 (n : Nat) : Nat → xS → Option Nat → Int32 → Int32 → Int32 → Int32 → Int32 → Int32 → Option ((xS))
  | 0 => fun _ _ _ _ _ _ _ _ => none
  | k + 1 => fun st a0 a1 a2 a3 a4 a5 a6 =>
    (gI st a0 1 2).bind fun v4 =>
    if v4 ≤ a6 then
      some st
    else
      if (6 : Int32) ≤ a6 then
        some st
      else
        (gR st a0 1 1).bind fun v5 =>
        (aR st v5 a4).bind fun v6 =>
        (aL st v6 a6).bind fun v7 =>
        (isO st a0 1).bind fun q9 =>
        (F_X1_factor n st a0 a6 a1 a2).bind fun v8 =>
        (sL st v6 a6 (v7 + ((a5 * v8).toInt64))).bind fun s10 =>
        (some (a6 + (1 : Int32))).bind fun v11 =>
        F_X1_add_L32 n k s10 a0 a1 a2 a3 a4 a5 v11
def F_X1_add_L3 (n : Nat) : Nat → xS → Option Nat → Int32 → Int32 → Int32 → Int32 → Option ((xS))
  | 0 => fun _ _ _ _ _ _ => none
  | k + 1 => fun st a0 a1 a2 a3 a4 =>
    (gI st a0 1 2).bind fun v1 =>
    if v1 ≤ a4 then
      some st
    else
      if (6 : Int32) ≤ a4 then
        some st
      else
        (isO st a0 1).bind fun q3 =>
        (F_X1_factor n st a0 a4 a1 a2).bind fun v2 =>
        (F_X1_add_L32 n n st a0 a1 a2 a3 a4 v2 (0 : Int32)).bind fun q12 =>
        (gR q12 a0 1 1).bind fun v13 =>
        (aR q12 v13 a4).bind fun v14 =>
        (aL q12 v14 (6 : Int32)).bind fun v15 =>
        (sL q12 v14 (6 : Int32) (v15 + ((v2 * a3).toInt64))).bind fun s16 =>
        (some (a4 + (1 : Int32))).bind fun v17 =>
        F_X1_add_L3 n k s16 a0 a1 a2 a3 v17
def F_X1_add (n : Nat) (st : xS) (a0 : Option Nat) (a1 : Int32) (a2 : Int32) (a3 : Int32) : Option (xS) :=
  (F_X1_add_L3 n n st a0 a1 a2 a3 (0 : Int32)).bind fun q18 =>
  some q18
def F_X1_takeOut_L21 (n : Nat) : Nat → xS → Option Nat → Int32 → Int32 → Int64 → Int64 → Int64 → Int32 → Option ((xS))
  | 0 => fun _ _ _ _ _ _ _ _ => none
  | k + 1 => fun st a0 a1 a2 a3 a5 a7 a9 =>
    if (6 : Int32) < a9 then
      some st
    else
      (gR st a0 1 1).bind fun v4 =>
      (aR st v4 a1).bind fun v5 =>
      (gR st a0 1 1).bind fun v6 =>
      (aR st v6 a1).bind fun v7 =>
      (aL st v7 a9).bind fun v8 =>
      (gR st a0 1 1).bind fun v9 =>
      (aR st v9 a2).bind fun v10 =>
      (aL st v10 a9).bind fun v11 =>
      (dL ((a3 * v8) - (a7 * v11)) a5).bind fun v12 =>
      (sL st v5 a9 v12).bind fun s13 =>
      (some (a9 + (1 : Int32))).bind fun v14 =>
      F_X1_takeOut_L21 n k s13 a0 a1 a2 a3 a5 a7 v14
def F_X1_takeOut (n : Nat) (st : xS) (a0 : Option Nat) (a1 : Int32) (a2 : Int32) (a3 : Int64) (a5 : Int64) : Option (xS) :=
  if (lg_cmp a5 (0 : Int64)) = (0 : Int32) then
    some st
  else
    (gR st a0 1 1).bind fun v1 =>
    (aR st v1 a1).bind fun v2 =>
    (aL st v2 a2).bind fun v3 =>
    (F_X1_takeOut_L21 n n st a0 a1 a2 a3 a5 v3 (0 : Int32)).bind fun q15 =>
    some q15
def F_X1_solve_L40 (n : Nat) : Nat → xS → Option Nat → Int64 → Int32 → Int64 → Int32 → Option ((xS))
  | 0 => fun _ _ _ _ _ _ => none
  | k + 1 => fun st a0 a1 a3 a4 a6 =>
    (gI st a0 1 2).bind fun v8 =>
    if v8 ≤ a6 then
      some st
    else
      if (6 : Int32) ≤ a6 then
        some st
      else
        ((if a6 = a3 then
            some st
          else
            (isO st a0 1).bind fun q10 =>
            (F_X1_takeOut n st a0 a6 a3 a4 a1).bind fun s9 =>
            some s9) : Option (xS)).bind fun q11 =>
        (some (a6 + (1 : Int32))).bind fun v12 =>
        F_X1_solve_L40 n k q11 a0 a1 a3 a4 v12
def F_X1_solve_L4 (n : Nat) : Nat → xS → Option Nat → Int64 → Int32 → Option (Int32 × xS)
  | 0 => fun _ _ _ _ => none
  | k + 1 => fun st a0 a1 a3 =>
    (gI st a0 1 2).bind fun v1 =>
    if v1 ≤ a3 then
      (rz (1 : Int32)).bind fun v2 =>
      some (v2, st)
    else
      if (6 : Int32) ≤ a3 then
        (rz (1 : Int32)).bind fun v3 =>
        some (v3, st)
      else
        (gR st a0 1 1).bind fun v4 =>
        (aR st v4 a3).bind fun v5 =>
        (aL st v5 a3).bind fun v6 =>
        if (lg_cmp v6 (0 : Int64)) = (0 : Int32) then
          (rz (0 : Int32)).bind fun v7 =>
          some (v7, st)
        else
          (F_X1_solve_L40 n n st a0 a1 a3 v6 (0 : Int32)).bind fun q13 =>
          (some (a3 + (1 : Int32))).bind fun v14 =>
          F_X1_solve_L4 n k q13 a0 v6 v14
def F_X1_solve (n : Nat) (st : xS) (a0 : Option Nat) : Option (Int32 × xS) :=
  F_X1_solve_L4 n n st a0 (1 : Int64) (0 : Int32)
def F_X1_played (n : Nat) (st : xS) (a0 : Option Nat) (a1 : Int32) : Option (Int32) :=
  ((if a1 < (0 : Int32) then
      some (0 : Int32)
    else
      if (8 : Int32) ≤ a1 then
        some (0 : Int32)
      else
        (gR st a0 1 0).bind fun v1 =>
        (aI st v1 a1).bind fun v2 =>
        if v2 = (-1 : Int32) then
          some (0 : Int32)
        else
          some (1 : Int32)) : Option (Int32)).bind fun q3 =>
  (rz q3).bind fun v4 =>
  some v4
def F_X1_under (n : Nat) (st : xS) (a0 : Option Nat) : Option (Int64) :=
  (gR st a0 1 1).bind fun v1 =>
  (aR st v1 (0 : Int32)).bind fun v2 =>
  (aL st v2 (0 : Int32)).bind fun v3 =>
  some v3
def F_X1_home (n : Nat) (st : xS) (a0 : Option Nat) : Option (Int64) :=
  (gR st a0 1 1).bind fun v1 =>
  (aR st v1 (0 : Int32)).bind fun v2 =>
  (aL st v2 (6 : Int32)).bind fun v3 =>
  some v3
def F_X1_strength (n : Nat) (st : xS) (a0 : Option Nat) (a1 : Int32) : Option (Int64) :=
  (gR st a0 1 0).bind fun v1 =>
  (F_X10_valueAt n st v1 a1).bind fun v2 =>
  ((if v2 ≤ (0 : Int32) then
      some (0 : Int64)
    else
      if (6 : Int32) ≤ v2 then
        some (0 : Int64)
      else
        (gR st a0 1 1).bind fun v3 =>
        (aR st v3 v2).bind fun v4 =>
        (aL st v4 (6 : Int32)).bind fun v5 =>
        some v5) : Option (Int64)).bind fun q6 =>
  some q6
def F_X2_init (n : Nat) (st : xS) (a0 : Option Nat) : Option (Unit) :=
  (a0).bind fun b1 =>
  some ()
def F_X3_init_L22 (n : Nat) : Nat → xS → Option Nat → Int32 → Option ((xS))
  | 0 => fun _ _ _ => none
  | k + 1 => fun st a0 a1 =>
    if (6 : Int32) ≤ a1 then
      some st
    else
      (gR st a0 3 0).bind fun v8 =>
      (sS 0 st v8 ((20 : Int32) + a1) (1 : Int32)).bind fun s9 =>
      (some (a1 + (1 : Int32))).bind fun v10 =>
      F_X3_init_L22 n k s9 a0 v10
def F_X3_init (n : Nat) (st : xS) (a0 : Option Nat) : Option (xS) :=
  (a0).bind fun b1 =>
  (F_X2_init n st a0 ).bind fun u2 =>
  (some (xnew st 26 (.inl (0, 26, .inl fun _ => 0)))).bind fun s3 =>
  (some (some (64 + st.1))).bind fun o4 =>
  (pF s3 a0 3 0 (va_rf o4)).bind fun s5 =>
  (gR s5 a0 3 0).bind fun v6 =>
  (sS 0 s5 v6 (0 : Int32) (30 : Int32)).bind fun s7 =>
  (F_X3_init_L22 n n s7 a0 (1 : Int32)).bind fun q11 =>
  some q11
def F_X3_isFull (n : Nat) (st : xS) (a0 : Option Nat) (a1 : Int32) : Option (Int32) :=
  (rz (0 : Int32)).bind fun v1 =>
  some v1
def F_X3_leastOf (n : Nat) (st : xS) (a0 : Option Nat) (a1 : Int32) (a2 : Int32) : Option (Int32) :=
  ((if a2 = (0 : Int32) then
      some (0 : Int32)
    else
      some (1 : Int32)) : Option (Int32)).bind fun q1 =>
  some q1
def F_X3_mostOf (n : Nat) (st : xS) (a0 : Option Nat) (a1 : Int32) (a2 : Int32) : Option (Int32) :=
  if a2 = (0 : Int32) then
    ((if a1 = (10 : Int32) then
        some (100 : Int32)
      else
        some (50 : Int32)) : Option (Int32)).bind fun q1 =>
    some q1
  else
    if (a1 - (11 : Int32)) = (1 : Int32) then
      some (9999 : Int32)
    else if (a1 - (11 : Int32)) = (2 : Int32) then
      some (30 : Int32)
    else if (a1 - (11 : Int32)) = (3 : Int32) then
      some (999 : Int32)
    else if (a1 - (11 : Int32)) = (4 : Int32) then
      some (999 : Int32)
    else 
      some (99 : Int32)
def F_X3_take (n : Nat) (st : xS) (a0 : Option Nat) (a1 : Int32) (a2 : Int32) (a3 : Int32) (a4 : Int32) : Option (xS) :=
  if a1 = (10 : Int32) then
    (gR st a0 3 0).bind fun v1 =>
    (sS 0 st v1 (0 : Int32) a2).bind fun s2 =>
    some s2
  else
    (some (a1 - (11 : Int32))).bind fun v3 =>
    (gR st a0 3 0).bind fun v4 =>
    (F_X10_setAt n st v4 ((10 : Int32) + v3) a2).bind fun s5 =>
    ((if v3 ≤ (0 : Int32) then
        some s5
      else
        (gR s5 a0 3 0).bind fun v6 =>
        (F_X10_setAt n s5 v6 ((20 : Int32) + v3) a3).bind fun s7 =>
        some s7) : Option (xS)).bind fun q8 =>
    some q8
def F_X3_number (n : Nat) (st : xS) (a0 : Option Nat) (a1 : Int32) : Option (Int32) :=
  ((if a1 < (10 : Int32) then
      some (0 : Int32)
    else
      if (16 : Int32) ≤ a1 then
        some (0 : Int32)
      else
        some (1 : Int32)) : Option (Int32)).bind fun q1 =>
  ((if a1 ≤ (20 : Int32) then
      some (0 : Int32)
    else
      if (26 : Int32) ≤ a1 then
        some (0 : Int32)
      else
        some (1 : Int32)) : Option (Int32)).bind fun q2 =>
  ((if a1 = (0 : Int32) then
      (gR st a0 3 0).bind fun v3 =>
      (F_X10_valueAt n st v3 a1).bind fun v4 =>
      some v4
    else
      if q1 = (0 : Int32) then
        if q2 = (0 : Int32) then
          some (-1 : Int32)
        else
          (gR st a0 3 0).bind fun v5 =>
          (F_X10_valueAt n st v5 a1).bind fun v6 =>
          some v6
      else
        (gR st a0 3 0).bind fun v7 =>
        (F_X10_valueAt n st v7 a1).bind fun v8 =>
        some v8) : Option (Int32)).bind fun q9 =>
  some q9
def F_X3_base (n : Nat) (st : xS) (a0 : Option Nat) : Option (Int32) :=
  (gR st a0 3 0).bind fun v1 =>
  (aI st v1 (0 : Int32)).bind fun v2 =>
  some v2
def F_X3_per (n : Nat) (st : xS) (a0 : Option Nat) (a1 : Int32) : Option (Int32) :=
  (gR st a0 3 0).bind fun v1 =>
  (F_X10_valueAt n st v1 ((20 : Int32) + a1)).bind fun v2 =>
  some v2
def F_X3_worthOf (n : Nat) (st : xS) (a0 : Option Nat) (a1 : Int32) (a2 : Int32) : Option (Int32) :=
  (gR st a0 3 0).bind fun v1 =>
  (F_X10_valueAt n st v1 ((10 : Int32) + a1)).bind fun v2 =>
  some (imin (50 : Int32) (v2 * a2))
def F_X4_init (n : Nat) (st : xS) (a0 : Option Nat) : Option (xS) :=
  (a0).bind fun b1 =>
  (F_X2_init n st a0 ).bind fun u2 =>
  (some (xnew st 60 (.inl (0, 60, .inl fun _ => 0)))).bind fun s3 =>
  (some (some (64 + st.1))).bind fun o4 =>
  (pF s3 a0 4 0 (va_rf o4)).bind fun s5 =>
  (some (xnew s5 100 (.inl (0, 100, .inl fun _ => 0)))).bind fun s6 =>
  (some (some (64 + s5.1))).bind fun o7 =>
  (pF s6 a0 4 1 (va_rf o7)).bind fun s8 =>
  (pF s8 a0 4 2 (.int (0 : Int32))).bind fun s9 =>
  (pF s9 a0 4 3 (.int (0 : Int32))).bind fun s10 =>
  some s10
def F_X4_isFull (n : Nat) (st : xS) (a0 : Option Nat) (a1 : Int32) : Option (Int32) :=
  if a1 = (0 : Int32) then
    (gI st a0 4 2).bind fun v1 =>
    ((if v1 < (10 : Int32) then
        some (0 : Int32)
      else
        some (1 : Int32)) : Option (Int32)).bind fun q2 =>
    (rz q2).bind fun v3 =>
    some v3
  else
    ((if a1 = (1 : Int32) then
        (gI st a0 4 3).bind fun v4 =>
        if v4 < (8 : Int32) then
          some (0 : Int32)
        else
          some (1 : Int32)
      else
        some (0 : Int32)) : Option (Int32)).bind fun q5 =>
    (rz q5).bind fun v6 =>
    some v6
def F_X4_leastOf (n : Nat) (st : xS) (a0 : Option Nat) (a1 : Int32) (a2 : Int32) : Option (Int32) :=
  some (0 : Int32)
def F_X4_mostOf (n : Nat) (st : xS) (a0 : Option Nat) (a1 : Int32) (a2 : Int32) : Option (Int32) :=
  if a1 = (0 : Int32) then
    ((if a2 = (2 : Int32) then
        some (999 : Int32)
      else
        some (99 : Int32)) : Option (Int32)).bind fun q1 =>
    some q1
  else
    if a1 = (1 : Int32) then
      ((if a2 = (0 : Int32) then
          (gI st a0 4 2).bind fun v2 =>
          some (v2 - (1 : Int32))
        else
          some (50 : Int32)) : Option (Int32)).bind fun q3 =>
      some q3
    else
      ((if a2 = (2 : Int32) then
          some (9999 : Int32)
        else
          (gI st a0 4 2).bind fun v4 =>
          some (v4 - (1 : Int32))) : Option (Int32)).bind fun q5 =>
      some q5
def F_X4_take (n : Nat) (st : xS) (a0 : Option Nat) (a1 : Int32) (a2 : Int32) (a3 : Int32) (a4 : Int32) : Option (xS) :=
  ((if a1 = (0 : Int32) then
      (gR st a0 4 0).bind fun v1 =>
      (gI st a0 4 2).bind fun v2 =>
      (F_X10_setAt n st v1 ((10 : Int32) + v2) a2).bind fun s3 =>
      (gR s3 a0 4 0).bind fun v4 =>
      (gI s3 a0 4 2).bind fun v5 =>
      (F_X10_setAt n s3 v4 ((20 : Int32) + v5) a3).bind fun s6 =>
      (gR s6 a0 4 0).bind fun v7 =>
      (gI s6 a0 4 2).bind fun v8 =>
      (F_X10_setAt n s6 v7 ((30 : Int32) + v8) a4).bind fun s9 =>
      (gI s9 a0 4 2).bind fun v10 =>
      (pF s9 a0 4 2 (.int (v10 + (1 : Int32)))).bind fun s11 =>
      some s11
    else
      if a1 = (1 : Int32) then
        (gR st a0 4 0).bind fun v12 =>
        (gI st a0 4 3).bind fun v13 =>
        (F_X10_setAt n st v12 ((40 : Int32) + v13) a2).bind fun s14 =>
        (gR s14 a0 4 0).bind fun v15 =>
        (gI s14 a0 4 3).bind fun v16 =>
        (F_X10_setAt n s14 v15 ((50 : Int32) + v16) a3).bind fun s17 =>
        (gI s17 a0 4 3).bind fun v18 =>
        (pF s17 a0 4 3 (.int (v18 + (1 : Int32)))).bind fun s19 =>
        some s19
      else
        (gR st a0 4 1).bind fun v20 =>
        (F_X10_setAt n st v20 (((10 : Int32) * a2) + a3) a4).bind fun s21 =>
        (gR s21 a0 4 1).bind fun v22 =>
        (F_X10_setAt n s21 v22 (((10 : Int32) * a3) + a2) a4).bind fun s23 =>
        some s23) : Option (xS)).bind fun q24 =>
  some q24
def F_X4_hasGround (n : Nat) (st : xS) (a0 : Option Nat) (a1 : Int32) : Option (Int32) :=
  ((if a1 < (0 : Int32) then
      some (0 : Int32)
    else
      (gI st a0 4 2).bind fun v1 =>
      if v1 ≤ a1 then
        some (0 : Int32)
      else
        some (1 : Int32)) : Option (Int32)).bind fun q2 =>
  (rz q2).bind fun v3 =>
  some v3
def F_X4_hasSide (n : Nat) (st : xS) (a0 : Option Nat) (a1 : Int32) : Option (Int32) :=
  ((if a1 < (0 : Int32) then
      some (0 : Int32)
    else
      (gI st a0 4 3).bind fun v1 =>
      if v1 ≤ a1 then
        some (0 : Int32)
      else
        some (1 : Int32)) : Option (Int32)).bind fun q2 =>
  (rz q2).bind fun v3 =>
  some v3
def F_X4_number (n : Nat) (st : xS) (a0 : Option Nat) (a1 : Int32) : Option (Int32) :=
  if a1 = (0 : Int32) then
    (gI st a0 4 2).bind fun v1 =>
    some v1
  else
    if a1 = (1 : Int32) then
      (gI st a0 4 3).bind fun v2 =>
      some v2
    else
      if a1 < (10 : Int32) then
        some (-1 : Int32)
      else
        (gR st a0 4 0).bind fun v3 =>
        (aN st v3).bind fun v4 =>
        if a1 < v4 then
          ((if (40 : Int32) ≤ a1 then
              (dR a1 (10 : Int32)).bind fun v5 =>
              (isO st a0 4).bind fun q7 =>
              (F_X4_hasSide n st a0 v5).bind fun v6 =>
              some v6
            else
              (dR a1 (10 : Int32)).bind fun v8 =>
              (isO st a0 4).bind fun q10 =>
              (F_X4_hasGround n st a0 v8).bind fun v9 =>
              some v9) : Option (Int32)).bind fun q11 =>
          ((if q11 = (0 : Int32) then
              some (-1 : Int32)
            else
              (gR st a0 4 0).bind fun v12 =>
              (aI st v12 a1).bind fun v13 =>
              some v13) : Option (Int32)).bind fun q14 =>
          some q14
        else
          some (-1 : Int32)
def F_X4_height (n : Nat) (st : xS) (a0 : Option Nat) (a1 : Int32) : Option (Int32) :=
  (gR st a0 4 0).bind fun v1 =>
  (F_X10_valueAt n st v1 ((10 : Int32) + a1)).bind fun v2 =>
  some v2
def F_X10_cut (n : Nat) (st : xS) (a0 : Int32) (a1 : Int32) : Option (Int32) :=
  ((if a1 ≤ (0 : Int32) then
      some (0 : Int32)
    else
      (dI a0 a1).bind fun v1 =>
      some v1) : Option (Int32)).bind fun q2 =>
  some q2
def F_X4_noise (n : Nat) (st : xS) (a0 : Option Nat) (a1 : Int32) : Option (Int32) :=
  (gR st a0 4 0).bind fun v1 =>
  (F_X10_valueAt n st v1 ((30 : Int32) + a1)).bind fun v2 =>
  (gR st a0 4 0).bind fun v3 =>
  (F_X10_valueAt n st v3 ((20 : Int32) + a1)).bind fun v4 =>
  (F_X10_cut n st v2 ((1 : Int32) + v4)).bind fun v5 =>
  some v5
def F_X4_own (n : Nat) (st : xS) (a0 : Option Nat) (a1 : Int32) : Option (Int32) :=
  (gR st a0 4 0).bind fun v1 =>
  (F_X10_valueAt n st v1 ((40 : Int32) + a1)).bind fun v2 =>
  some v2
def F_X4_strength (n : Nat) (st : xS) (a0 : Option Nat) (a1 : Int32) : Option (Int32) :=
  (gR st a0 4 0).bind fun v1 =>
  (F_X10_valueAt n st v1 ((50 : Int32) + a1)).bind fun v2 =>
  some v2
def F_X4_apart (n : Nat) (st : xS) (a0 : Option Nat) (a1 : Int32) (a2 : Int32) : Option (Int32) :=
  (gR st a0 4 1).bind fun v1 =>
  (F_X10_valueAt n st v1 (((10 : Int32) * a1) + a2)).bind fun v2 =>
  some v2
def F_X6_init (n : Nat) (st : xS) (a0 : Option Nat) : Option (xS) :=
  (a0).bind fun b1 =>
  (F_X2_init n st a0 ).bind fun u2 =>
  (some (xnew st 240 (.inl (0, 240, .inl fun _ => 0)))).bind fun s3 =>
  (some (some (64 + st.1))).bind fun o4 =>
  (pF s3 a0 6 0 (va_rf o4)).bind fun s5 =>
  (pF s5 a0 6 1 (.int (0 : Int32))).bind fun s6 =>
  (pF s6 a0 6 2 (.int (-1 : Int32))).bind fun s7 =>
  (pF s7 a0 6 3 (.int (-1 : Int32))).bind fun s8 =>
  (pF s8 a0 6 4 (.int (0 : Int32))).bind fun s9 =>
  (pF s9 a0 6 5 (.int (1 : Int32))).bind fun s10 =>
  (pF s10 a0 6 6 (.int (0 : Int32))).bind fun s11 =>
  (pF s11 a0 6 7 (.int (-1 : Int32))).bind fun s12 =>
  some s12
def F_X5_init (n : Nat) (st : xS) (a0 : Option Nat) : Option (xS) :=
  (a0).bind fun b1 =>
  (some (xnew st 4 (.inr (4, [Value.null, Value.null, Value.int 0, Value.int 0])))).bind fun s2 =>
  (some (some (64 + st.1))).bind fun o3 =>
  (o3).bind fun b4 =>
  (F_X4_init n s2 o3 ).bind fun s5 =>
  (pF s5 a0 5 0 (va_rf o3)).bind fun s6 =>
  (some (xnew s6 1 (.inr (3, [Value.null])))).bind fun s7 =>
  (some (some (64 + s6.1))).bind fun o8 =>
  (o8).bind fun b9 =>
  (F_X3_init n s7 o8 ).bind fun s10 =>
  (pF s10 a0 5 1 (va_rf o8)).bind fun s11 =>
  (some (xnew s11 8 (.inr (6, [Value.null, Value.int 0, Value.int 0, Value.int 0, Value.int 0, Value.int 0, Value.int 0, Value.int 0])))).bind fun s12 =>
  (some (some (64 + s11.1))).bind fun o13 =>
  (o13).bind fun b14 =>
  (F_X6_init n s12 o13 ).bind fun s15 =>
  (pF s15 a0 5 2 (va_rf o13)).bind fun s16 =>
  (some (xnew s16 6 (.inl (0, 6, .inl fun _ => 0)))).bind fun s17 =>
  (some (some (64 + s16.1))).bind fun o18 =>
  (pF s17 a0 5 3 (va_rf o18)).bind fun s19 =>
  (pF s19 a0 5 4 (.int (0 : Int32))).bind fun s20 =>
  (pF s20 a0 5 5 (.int (0 : Int32))).bind fun s21 =>
  (pF s21 a0 5 6 (.int (0 : Int32))).bind fun s22 =>
  (pF s22 a0 5 7 (.int (0 : Int32))).bind fun s23 =>
  (some (xnew s23 8 (.inl (0, 8, .inl fun _ => 0)))).bind fun s24 =>
  (some (some (64 + s23.1))).bind fun o25 =>
  (pF s24 a0 5 8 (va_rf o25)).bind fun s26 =>
  (some (xnew s26 8 (.inl (0, 8, .inl fun _ => 0)))).bind fun s27 =>
  (some (some (64 + s26.1))).bind fun o28 =>
  (pF s27 a0 5 9 (va_rf o28)).bind fun s29 =>
  some s29
def F_X6_fits (n : Nat) (st : xS) (a0 : Option Nat) (a1 : Option Nat) : Option (Int32) :=
  (gI st a0 6 2).bind fun v1 =>
  (gI st a1 4 3).bind fun v2 =>
  ((if v2 ≤ v1 then
      some (0 : Int32)
    else
      (gI st a0 6 3).bind fun v3 =>
      (gI st a1 4 2).bind fun v4 =>
      if v4 ≤ v3 then
        some (0 : Int32)
      else
        some (1 : Int32)) : Option (Int32)).bind fun q5 =>
  (rz q5).bind fun v6 =>
  some v6
def F_X9_leagueAt (n : Nat) (st : xS) (a0 : Option Nat) (a1 : Int32) : Option (Option Nat) :=
  ((if a1 < (0 : Int32) then
      some (none : Option Nat)
    else
      (gR st a0 9 0).bind fun v1 =>
      (aN st v1).bind fun v2 =>
      if v2 ≤ a1 then
        some (none : Option Nat)
      else
        (gR st a0 9 0).bind fun v3 =>
        (aR st v3 a1).bind fun v4 =>
        some v4) : Option (Option Nat)).bind fun q5 =>
  some q5
def F_X9_planAt (n : Nat) (st : xS) (a0 : Option Nat) (a1 : Int32) : Option (Option Nat) :=
  ((if a1 < (0 : Int32) then
      some (none : Option Nat)
    else
      (gR st a0 9 2).bind fun v1 =>
      (aN st v1).bind fun v2 =>
      if v2 ≤ a1 then
        some (none : Option Nat)
      else
        (gR st a0 9 2).bind fun v3 =>
        (aR st v3 a1).bind fun v4 =>
        some v4) : Option (Option Nat)).bind fun q5 =>
  some q5
def F_X5_bring (n : Nat) (st : xS) (a0 : Option Nat) (a1 : Option Nat) (a2 : Int32) (a3 : Int32) : Option (Int32 × xS) :=
  (isO st a1 9).bind fun q2 =>
  (F_X9_leagueAt n st a1 a2).bind fun v1 =>
  (isO st a1 9).bind fun q4 =>
  (F_X9_planAt n st a1 a3).bind fun v3 =>
  if v1 = none then
    (rz (0 : Int32)).bind fun v5 =>
    some (v5, st)
  else
    if v3 = none then
      (rz (0 : Int32)).bind fun v6 =>
      some (v6, st)
    else
      (isO st v3 6).bind fun q8 =>
      (F_X6_fits n st v3 v1).bind fun v7 =>
      if v7 = (0 : Int32) then
        (rz (0 : Int32)).bind fun v9 =>
        some (v9, st)
      else
        (pF st a0 5 0 (va_rf v1)).bind fun s10 =>
        (pF s10 a0 5 2 (va_rf v3)).bind fun s11 =>
        (rz (1 : Int32)).bind fun v12 =>
        some (v12, s11)
def F_X9_lawAt (n : Nat) (st : xS) (a0 : Option Nat) (a1 : Int32) : Option (Option Nat) :=
  ((if a1 < (0 : Int32) then
      some (none : Option Nat)
    else
      (gR st a0 9 1).bind fun v1 =>
      (aN st v1).bind fun v2 =>
      if v2 ≤ a1 then
        some (none : Option Nat)
      else
        (gR st a0 9 1).bind fun v3 =>
        (aR st v3 a1).bind fun v4 =>
        some v4) : Option (Option Nat)).bind fun q5 =>
  some q5
def F_X5_bring_ (n : Nat) (st : xS) (a0 : Option Nat) (a1 : Option Nat) (a2 : Int32) (a3 : Int32) (a4 : Int32) : Option (Int32 × xS) :=
  (isO st a1 9).bind fun q2 =>
  (F_X9_lawAt n st a1 a3).bind fun v1 =>
  if v1 = none then
    (rz (0 : Int32)).bind fun v3 =>
    some (v3, st)
  else
    (isO st a0 5).bind fun q5 =>
    (F_X5_bring n st a0 a1 a2 a4).bind fun p4 =>
    if p4.1 = (0 : Int32) then
      (rz (0 : Int32)).bind fun v6 =>
      some (v6, p4.2)
    else
      (pF p4.2 a0 5 1 (va_rf v1)).bind fun s7 =>
      (rz (1 : Int32)).bind fun v8 =>
      some (v8, s7)
def F_X5_worthOf (n : Nat) (st : xS) (a0 : Option Nat) (a1 : Int32) : Option (Int32) :=
  (gR st a0 5 3).bind fun v1 =>
  (F_X10_valueAt n st v1 a1).bind fun v2 =>
  some v2
def F_X6_of (n : Nat) (st : xS) (a0 : Option Nat) (a1 : Int32) (a2 : Int32) : Option (Int32) :=
  (gR st a0 6 0).bind fun v1 =>
  (F_X10_valueAt n st v1 (((6 : Int32) * a1) + a2)).bind fun v2 =>
  some v2
def F_X5_lead (n : Nat) (st : xS) (a0 : Option Nat) (a1 : Int32) : Option (Int32) :=
  (gR st a0 5 0).bind fun v1 =>
  (gR st a0 5 2).bind fun v2 =>
  (isO st v2 6).bind fun q4 =>
  (F_X6_of n st v2 a1 (0 : Int32)).bind fun v3 =>
  (isO st v1 4).bind fun q6 =>
  (F_X4_strength n st v1 v3).bind fun v5 =>
  (gR st a0 5 0).bind fun v7 =>
  (gR st a0 5 2).bind fun v8 =>
  (isO st v8 6).bind fun q10 =>
  (F_X6_of n st v8 a1 (1 : Int32)).bind fun v9 =>
  (isO st v7 4).bind fun q12 =>
  (F_X4_strength n st v7 v9).bind fun v11 =>
  some (v5 - v11)
def F_X5_groundOf (n : Nat) (st : xS) (a0 : Option Nat) (a1 : Int32) (a2 : Int32) : Option (Int32) :=
  (gR st a0 5 2).bind fun v1 =>
  (isO st v1 6).bind fun q3 =>
  (F_X6_of n st v1 a1 (5 : Int32)).bind fun v2 =>
  ((if v2 = (-1 : Int32) then
      (gR st a0 5 0).bind fun v4 =>
      (isO st v4 4).bind fun q6 =>
      (F_X4_own n st v4 a2).bind fun v5 =>
      some v5
    else
      some v2) : Option (Int32)).bind fun q7 =>
  some q7
def F_X5_percent (n : Nat) (st : xS) (a0 : Int32) : Option (Int32) :=
  some (imax (0 : Int32) (imin (100 : Int32) a0))
def F_X5_aim_L7 (n : Nat) : Nat → xS → Option Nat → Int32 → Int32 → Option ((xS))
  | 0 => fun _ _ _ _ => none
  | k + 1 => fun st a0 a1 a2 =>
    if (6 : Int32) ≤ a2 then
      some st
    else
      (gI st a0 5 4).bind fun v2 =>
      (gR st a0 5 3).bind fun v3 =>
      (aI st v3 a2).bind fun v4 =>
      (pF st a0 5 4 (.int (v2 + v4))).bind fun s5 =>
      (some (a2 + (1 : Int32))).bind fun v6 =>
      F_X5_aim_L7 n k s5 a0 a1 v6
def F_X5_aim (n : Nat) (st : xS) (a0 : Option Nat) (a1 : Int32) : Option (xS) :=
  (pF st a0 5 4 (.int (0 : Int32))).bind fun s1 =>
  (F_X5_aim_L7 n n s1 a0 a1 (0 : Int32)).bind fun q7 =>
  (gR q7 a0 5 1).bind fun v8 =>
  (isO q7 v8 3).bind fun q10 =>
  (F_X3_base n q7 v8 ).bind fun v9 =>
  (isO q7 a0 5).bind fun q12 =>
  (F_X5_lead n q7 a0 a1).bind fun v11 =>
  (gI q7 a0 5 4).bind fun v13 =>
  (F_X5_percent n q7 ((v9 + v11) + v13)).bind fun v14 =>
  (pF q7 a0 5 6 (.int v14)).bind fun s15 =>
  (gR s15 a0 5 1).bind fun v16 =>
  (isO s15 v16 3).bind fun q18 =>
  (F_X3_base n s15 v16 ).bind fun v17 =>
  (isO s15 a0 5).bind fun q20 =>
  (F_X5_lead n s15 a0 a1).bind fun v19 =>
  (F_X5_percent n s15 (v17 - v19)).bind fun v21 =>
  (pF s15 a0 5 7 (.int v21)).bind fun s22 =>
  some s22
def F_X6_plays (n : Nat) (st : xS) (a0 : Option Nat) (a1 : Int32) (a2 : Int32) : Option (Int32) :=
  (isO st a0 6).bind fun q2 =>
  (F_X6_of n st a0 a1 (0 : Int32)).bind fun v1 =>
  ((if v1 = a2 then
      some (1 : Int32)
    else
      (isO st a0 6).bind fun q4 =>
      (F_X6_of n st a0 a1 (1 : Int32)).bind fun v3 =>
      if v3 = a2 then
        some (1 : Int32)
      else
        some (0 : Int32)) : Option (Int32)).bind fun q5 =>
  (rz q5).bind fun v6 =>
  some v6
def F_X6_restOf_L4 (n : Nat) : Nat → xS → Option Nat → Int32 → Int32 → Int32 → Option (Int32)
  | 0 => fun _ _ _ _ _ => none
  | k + 1 => fun st a0 a1 a2 a3 =>
    if a3 < (0 : Int32) then
      some (30 : Int32)
    else
      (isO st a0 6).bind fun q3 =>
      (F_X6_plays n st a0 a3 a2).bind fun v2 =>
      if v2 = (0 : Int32) then
        (some (a3 + (-1 : Int32))).bind fun v4 =>
        F_X6_restOf_L4 n k st a0 a1 a2 v4
      else
        (isO st a0 6).bind fun q6 =>
        (F_X6_of n st a0 a1 (2 : Int32)).bind fun v5 =>
        (isO st a0 6).bind fun q8 =>
        (F_X6_of n st a0 a3 (2 : Int32)).bind fun v7 =>
        some (v5 - v7)
def F_X6_restOf (n : Nat) (st : xS) (a0 : Option Nat) (a1 : Int32) (a2 : Int32) : Option (Int32) :=
  (some (a1 - (1 : Int32))).bind fun v1 =>
  F_X6_restOf_L4 n n st a0 a1 a2 v1
def F_X5_weigh (n : Nat) (st : xS) (a0 : Option Nat) (a1 : Int32) : Option (xS) :=
  (gR st a0 5 2).bind fun v1 =>
  (isO st v1 6).bind fun q3 =>
  (F_X6_of n st v1 a1 (0 : Int32)).bind fun v2 =>
  (gR st a0 5 2).bind fun v4 =>
  (isO st v4 6).bind fun q6 =>
  (F_X6_of n st v4 a1 (1 : Int32)).bind fun v5 =>
  (isO st a0 5).bind fun q8 =>
  (F_X5_groundOf n st a0 a1 v2).bind fun v7 =>
  (gR st a0 5 0).bind fun v9 =>
  (isO st v9 4).bind fun q11 =>
  (F_X4_own n st v9 v5).bind fun v10 =>
  (gR st a0 5 2).bind fun v12 =>
  (isO st v12 6).bind fun q14 =>
  (F_X6_of n st v12 a1 (3 : Int32)).bind fun v13 =>
  ((if v13 = (1 : Int32) then
      (gR st a0 5 0).bind fun v15 =>
      (isO st v15 4).bind fun q17 =>
      (F_X4_noise n st v15 v7).bind fun v16 =>
      some v16
    else
      some (0 : Int32)) : Option (Int32)).bind fun q18 =>
  (pF st a0 5 5 (.int q18)).bind fun s19 =>
  (gR s19 a0 5 3).bind fun v20 =>
  (gR s19 a0 5 1).bind fun v21 =>
  (gR s19 a0 5 0).bind fun v22 =>
  (isO s19 v22 4).bind fun q24 =>
  (F_X4_own n s19 v22 v2).bind fun v23 =>
  ((if v7 = v23 then
      if v7 = v10 then
        some (0 : Int32)
      else
        some (1 : Int32)
    else
      some (0 : Int32)) : Option (Int32)).bind fun q25 =>
  (isO s19 v21 3).bind fun q27 =>
  (F_X3_worthOf n s19 v21 (0 : Int32) q25).bind fun v26 =>
  (sS 0 s19 v20 (0 : Int32) v26).bind fun s28 =>
  (gR s28 a0 5 3).bind fun v29 =>
  (gR s28 a0 5 1).bind fun v30 =>
  (gR s28 a0 5 0).bind fun v31 =>
  (isO s28 v31 4).bind fun q33 =>
  (F_X4_apart n s28 v31 v10 v7).bind fun v32 =>
  (gR s28 a0 5 1).bind fun v34 =>
  (isO s28 v34 3).bind fun q36 =>
  (F_X3_per n s28 v34 (1 : Int32)).bind fun v35 =>
  (F_X10_cut n s28 v32 v35).bind fun v37 =>
  (isO s28 v30 3).bind fun q39 =>
  (F_X3_worthOf n s28 v30 (1 : Int32) v37).bind fun v38 =>
  (sS 0 s28 v29 (1 : Int32) v38).bind fun s40 =>
  (gR s40 a0 5 2).bind fun v41 =>
  (isO s40 v41 6).bind fun q43 =>
  (F_X6_restOf n s40 v41 a1 v5).bind fun v42 =>
  (gR s40 a0 5 1).bind fun v44 =>
  (isO s40 v44 3).bind fun q46 =>
  (F_X3_per n s40 v44 (2 : Int32)).bind fun v45 =>
  ((if v45 ≤ v42 then
      some (0 : Int32)
    else
      (gR s40 a0 5 2).bind fun v47 =>
      (isO s40 v47 6).bind fun q49 =>
      (F_X6_restOf n s40 v47 a1 v2).bind fun v48 =>
      (gR s40 a0 5 1).bind fun v50 =>
      (isO s40 v50 3).bind fun q52 =>
      (F_X3_per n s40 v50 (2 : Int32)).bind fun v51 =>
      if v48 < v51 then
        some (0 : Int32)
      else
        some (1 : Int32)) : Option (Int32)).bind fun q53 =>
  (gR s40 a0 5 3).bind fun v54 =>
  (gR s40 a0 5 1).bind fun v55 =>
  ((if q53 = (0 : Int32) then
      some (0 : Int32)
    else
      some (1 : Int32)) : Option (Int32)).bind fun q56 =>
  (isO s40 v55 3).bind fun q58 =>
  (F_X3_worthOf n s40 v55 (2 : Int32) q56).bind fun v57 =>
  (sS 0 s40 v54 (2 : Int32) v57).bind fun s59 =>
  (gR s59 a0 5 3).bind fun v60 =>
  (gR s59 a0 5 1).bind fun v61 =>
  (gI s59 a0 5 5).bind fun v62 =>
  (gR s59 a0 5 1).bind fun v63 =>
  (isO s59 v63 3).bind fun q65 =>
  (F_X3_per n s59 v63 (3 : Int32)).bind fun v64 =>
  (F_X10_cut n s59 v62 v64).bind fun v66 =>
  (isO s59 v61 3).bind fun q68 =>
  (F_X3_worthOf n s59 v61 (3 : Int32) v66).bind fun v67 =>
  (sS 0 s59 v60 (3 : Int32) v67).bind fun s69 =>
  (gR s69 a0 5 3).bind fun v70 =>
  (gR s69 a0 5 1).bind fun v71 =>
  (gR s69 a0 5 2).bind fun v72 =>
  (isO s69 v72 6).bind fun q74 =>
  (F_X6_of n s69 v72 a1 (4 : Int32)).bind fun v73 =>
  ((if v73 = (1 : Int32) then
      (gI s69 a0 5 5).bind fun v75 =>
      (gR s69 a0 5 1).bind fun v76 =>
      (isO s69 v76 3).bind fun q78 =>
      (F_X3_per n s69 v76 (4 : Int32)).bind fun v77 =>
      (F_X10_cut n s69 v75 v77).bind fun v79 =>
      some v79
    else
      some (0 : Int32)) : Option (Int32)).bind fun q80 =>
  (isO s69 v71 3).bind fun q82 =>
  (F_X3_worthOf n s69 v71 (4 : Int32) q80).bind fun v81 =>
  (sS 0 s69 v70 (4 : Int32) v81).bind fun s83 =>
  (gR s83 a0 5 0).bind fun v84 =>
  (isO s83 v84 4).bind fun q86 =>
  (F_X4_height n s83 v84 v7).bind fun v85 =>
  (gR s83 a0 5 0).bind fun v87 =>
  (isO s83 v87 4).bind fun q89 =>
  (F_X4_height n s83 v87 v10).bind fun v88 =>
  (some (imax (0 : Int32) (v85 - v88))).bind fun v90 =>
  (gR s83 a0 5 3).bind fun v91 =>
  (gR s83 a0 5 1).bind fun v92 =>
  (gR s83 a0 5 1).bind fun v93 =>
  (isO s83 v93 3).bind fun q95 =>
  (F_X3_per n s83 v93 (5 : Int32)).bind fun v94 =>
  (F_X10_cut n s83 v90 v94).bind fun v96 =>
  (isO s83 v92 3).bind fun q98 =>
  (F_X3_worthOf n s83 v92 (5 : Int32) v96).bind fun v97 =>
  (sS 0 s83 v91 (5 : Int32) v97).bind fun s99 =>
  (isO s99 a0 5).bind fun q101 =>
  (F_X5_aim n s99 a0 a1).bind fun s100 =>
  some s100
def F_X5_drop (n : Nat) (st : xS) (a0 : Option Nat) (a1 : Int32) (a2 : Int32) : Option (xS) :=
  (gR st a0 5 3).bind fun v1 =>
  (F_X10_setAt n st v1 a2 (0 : Int32)).bind fun s2 =>
  (isO s2 a0 5).bind fun q4 =>
  (F_X5_aim n s2 a0 a1).bind fun s3 =>
  some s3
def F_X5_shots_L21 (n : Nat) : Nat → xS → Int32 → Int32 → Int64 → Int32 → Option ((Int64))
  | 0 => fun _ _ _ _ _ => none
  | k + 1 => fun st a0 a1 a2 a4 =>
    if (3 : Int32) ≤ a4 then
      some a2
    else
      ((if a1 ≤ a4 then
          some (((100 : Int32) - a0).toInt64)
        else
          some a0.toInt64) : Option (Int64)).bind fun q2 =>
      (some (a2 * q2)).bind fun v3 =>
      (some (a4 + (1 : Int32))).bind fun v4 =>
      F_X5_shots_L21 n k st a0 a1 v3 v4
def F_X5_shots (n : Nat) (st : xS) (a0 : Int32) (a1 : Int32) : Option (Int64) :=
  ((if a1 = (1 : Int32) then
      some (3 : Int64)
    else
      if a1 = (2 : Int32) then
        some (3 : Int64)
      else
        some (1 : Int64)) : Option (Int64)).bind fun q1 =>
  (F_X5_shots_L21 n n st a0 a1 q1 (0 : Int32)).bind fun q5 =>
  some q5
def F_X5_outlook_L41 (n : Nat) : Nat → xS → Option Nat → Int32 → Int64 → Int64 → Int32 → Int32 → Option ((Int64))
  | 0 => fun _ _ _ _ _ _ _ => none
  | k + 1 => fun st a0 a1 a2 a4 a6 a7 =>
    if a6 ≤ a7 then
      some a2
    else
      (gI st a0 5 6).bind fun v6 =>
      (F_X5_shots n st v6 a6).bind fun v7 =>
      (gI st a0 5 7).bind fun v8 =>
      (F_X5_shots n st v8 a7).bind fun v9 =>
      (some (a2 + (v7 * v9))).bind fun v10 =>
      (some (a7 + (1 : Int32))).bind fun v11 =>
      F_X5_outlook_L41 n k st a0 a1 v10 a4 a6 v11
def F_X5_outlook_L8 (n : Nat) : Nat → xS → Option Nat → Int32 → Int64 → Int64 → Int32 → Option ((Int64 × Int64))
  | 0 => fun _ _ _ _ _ _ => none
  | k + 1 => fun st a0 a1 a2 a4 a6 =>
    if (3 : Int32) < a6 then
      some (a2, a4)
    else
      (gI st a0 5 6).bind fun v1 =>
      (F_X5_shots n st v1 a6).bind fun v2 =>
      (gI st a0 5 7).bind fun v3 =>
      (F_X5_shots n st v3 a6).bind fun v4 =>
      (some (a4 + (v2 * v4))).bind fun v5 =>
      (F_X5_outlook_L41 n n st a0 a1 a2 v5 a6 (0 : Int32)).bind fun q12 =>
      (some (a6 + (1 : Int32))).bind fun v13 =>
      F_X5_outlook_L8 n k st a0 a1 q12 v5 v13
def F_X5_outlook (n : Nat) (st : xS) (a0 : Option Nat) (a1 : Int32) : Option (Int64) :=
  (F_X5_outlook_L8 n n st a0 a1 (0 : Int64) (0 : Int64) (0 : Int32)).bind fun q14 =>
  if a1 = (0 : Int32) then
    some q14.1
  else if a1 = (1 : Int32) then
    some q14.2
  else if a1 = (2 : Int32) then
    some (((1000000000000 : Int64) - q14.1) - q14.2)
  else 
    some (((3 : Int64) * q14.1) + q14.2)
def F_X5_hopes_L4 (n : Nat) : Nat → xS → Option Nat → Int64 → Int32 → Option ((Int64 × xS))
  | 0 => fun _ _ _ _ => none
  | k + 1 => fun st a0 a1 a3 =>
    (gR st a0 5 2).bind fun v1 =>
    (gI st v1 6 1).bind fun v2 =>
    if v2 ≤ a3 then
      some (a1, st)
    else
      (isO st a0 5).bind fun q4 =>
      (F_X5_weigh n st a0 a3).bind fun s3 =>
      (isO s3 a0 5).bind fun q6 =>
      (F_X5_outlook n s3 a0 (3 : Int32)).bind fun v5 =>
      (some (a1 + v5)).bind fun v7 =>
      (some (a3 + (1 : Int32))).bind fun v8 =>
      F_X5_hopes_L4 n k s3 a0 v7 v8
def F_X5_hopes (n : Nat) (st : xS) (a0 : Option Nat) : Option (Int64 × xS) :=
  (F_X5_hopes_L4 n n st a0 (0 : Int64) (0 : Int32)).bind fun q9 =>
  some (q9.1, q9.2)
def F_X5_go (n : Nat) (st : xS) (a0 : Option Nat) (a1 : Int32) (a2 : Int32) : Option (xS) :=
  ((if a1 < (0 : Int32) then
      some st
    else
      if (8 : Int32) ≤ a1 then
        some st
      else
        (gR st a0 5 9).bind fun v1 =>
        (aI st v1 a1).bind fun v2 =>
        (gR st a0 5 0).bind fun v3 =>
        (gR st a0 5 8).bind fun v4 =>
        (aI st v4 a1).bind fun v5 =>
        (isO st v3 4).bind fun q7 =>
        (F_X4_apart n st v3 v5 a2).bind fun v6 =>
        (sS 0 st v1 a1 (v2 + v6)).bind fun s8 =>
        (gR s8 a0 5 8).bind fun v9 =>
        (sS 0 s8 v9 a1 a2).bind fun s10 =>
        some s10) : Option (xS)).bind fun q11 =>
  some q11
def F_X5_walk_L2 (n : Nat) : Nat → xS → Option Nat → Int32 → Int32 → Option ((xS))
  | 0 => fun _ _ _ _ => none
  | k + 1 => fun st a0 a1 a2 =>
    if (8 : Int32) ≤ a2 then
      some st
    else
      (gR st a0 5 8).bind fun v1 =>
      (gR st a0 5 0).bind fun v2 =>
      (isO st v2 4).bind fun q4 =>
      (F_X4_own n st v2 a2).bind fun v3 =>
      (sS 0 st v1 a2 v3).bind fun s5 =>
      (gR s5 a0 5 9).bind fun v6 =>
      (sS 0 s5 v6 a2 (0 : Int32)).bind fun s7 =>
      (some (a2 + (1 : Int32))).bind fun v8 =>
      F_X5_walk_L2 n k s7 a0 a1 v8
def F_X5_walk_L37 (n : Nat) : Nat → xS → Option Nat → Int32 → Int32 → Option ((xS))
  | 0 => fun _ _ _ _ => none
  | k + 1 => fun st a0 a1 a2 =>
    (gR st a0 5 2).bind fun v10 =>
    (gI st v10 6 1).bind fun v11 =>
    if v11 ≤ a2 then
      some st
    else
      (gR st a0 5 2).bind fun v12 =>
      ((if a2 = a1 then
          some (1 : Int32)
        else
          some (0 : Int32)) : Option (Int32)).bind fun q13 =>
      (isO st v12 6).bind fun q15 =>
      (F_X6_of n st v12 a2 q13).bind fun v14 =>
      (gR st a0 5 2).bind fun v16 =>
      ((if a2 = a1 then
          some (0 : Int32)
        else
          some (1 : Int32)) : Option (Int32)).bind fun q17 =>
      (isO st v16 6).bind fun q19 =>
      (F_X6_of n st v16 a2 q17).bind fun v18 =>
      (isO st a0 5).bind fun q21 =>
      (F_X5_groundOf n st a0 a2 v14).bind fun v20 =>
      (isO st a0 5).bind fun q23 =>
      (F_X5_go n st a0 v14 v20).bind fun s22 =>
      (isO s22 a0 5).bind fun q25 =>
      (F_X5_go n s22 a0 v18 v20).bind fun s24 =>
      (some (a2 + (1 : Int32))).bind fun v26 =>
      F_X5_walk_L37 n k s24 a0 a1 v26
def F_X5_walk_L120 (n : Nat) : Nat → xS → Option Nat → Int32 → Int32 → Option ((Int32 × xS))
  | 0 => fun _ _ _ _ => none
  | k + 1 => fun st a0 a2 a3 =>
    if (8 : Int32) ≤ a3 then
      some (a2, st)
    else
      (gR st a0 5 0).bind fun v28 =>
      (isO st v28 4).bind fun q30 =>
      (F_X4_own n st v28 a3).bind fun v29 =>
      (isO st a0 5).bind fun q32 =>
      (F_X5_go n st a0 a3 v29).bind fun s31 =>
      (gR s31 a0 5 9).bind fun v33 =>
      (aI s31 v33 a3).bind fun v34 =>
      (some (a2 + v34)).bind fun v35 =>
      (some (a3 + (1 : Int32))).bind fun v36 =>
      F_X5_walk_L120 n k s31 a0 v35 v36
def F_X5_walk (n : Nat) (st : xS) (a0 : Option Nat) (a1 : Int32) : Option (Int32 × xS) :=
  (F_X5_walk_L2 n n st a0 a1 (0 : Int32)).bind fun q9 =>
  (F_X5_walk_L37 n n q9 a0 a1 (0 : Int32)).bind fun q27 =>
  (F_X5_walk_L120 n n q27 a0 (0 : Int32) (0 : Int32)).bind fun q37 =>
  some (q37.1, q37.2)
def F_X5_walkedBy (n : Nat) (st : xS) (a0 : Option Nat) (a1 : Int32) : Option (Int32) :=
  (gR st a0 5 9).bind fun v1 =>
  (F_X10_valueAt n st v1 a1).bind fun v2 =>
  some v2
def F_X6_isFull (n : Nat) (st : xS) (a0 : Option Nat) (a1 : Int32) : Option (Int32) :=
  ((if a1 = (26 : Int32) then
      (gI st a0 6 1).bind fun v1 =>
      if v1 < (40 : Int32) then
        some (0 : Int32)
      else
        some (1 : Int32)
    else
      some (0 : Int32)) : Option (Int32)).bind fun q2 =>
  (rz q2).bind fun v3 =>
  some v3
def F_X6_leastOf (n : Nat) (st : xS) (a0 : Option Nat) (a1 : Int32) (a2 : Int32) : Option (Int32) :=
  ((if a1 = (20 : Int32) then
      (gI st a0 6 4).bind fun v1 =>
      some v1
    else
      some (0 : Int32)) : Option (Int32)).bind fun q2 =>
  some q2
def F_X6_mostOf (n : Nat) (st : xS) (a0 : Option Nat) (a1 : Int32) (a2 : Int32) : Option (Int32) :=
  if a1 = (20 : Int32) then
    some (999 : Int32)
  else if a1 = (25 : Int32) then
    some (9 : Int32)
  else 
    some (7 : Int32)
def F_X6_addGame (n : Nat) (st : xS) (a0 : Option Nat) (a1 : Int32) (a2 : Int32) : Option (xS) :=
  (gI st a0 6 1).bind fun v1 =>
  (some ((6 : Int32) * v1)).bind fun v2 =>
  (gR st a0 6 0).bind fun v3 =>
  (F_X10_setAt n st v3 (v2 + (0 : Int32)) a1).bind fun s4 =>
  (gR s4 a0 6 0).bind fun v5 =>
  (F_X10_setAt n s4 v5 (v2 + (1 : Int32)) a2).bind fun s6 =>
  (gR s6 a0 6 0).bind fun v7 =>
  (gI s6 a0 6 4).bind fun v8 =>
  (F_X10_setAt n s6 v7 (v2 + (2 : Int32)) v8).bind fun s9 =>
  (gR s9 a0 6 0).bind fun v10 =>
  (gI s9 a0 6 5).bind fun v11 =>
  (F_X10_setAt n s9 v10 (v2 + (3 : Int32)) v11).bind fun s12 =>
  (gR s12 a0 6 0).bind fun v13 =>
  (gI s12 a0 6 6).bind fun v14 =>
  (F_X10_setAt n s12 v13 (v2 + (4 : Int32)) v14).bind fun s15 =>
  (gR s15 a0 6 0).bind fun v16 =>
  (gI s15 a0 6 7).bind fun v17 =>
  (F_X10_setAt n s15 v16 (v2 + (5 : Int32)) v17).bind fun s18 =>
  (gI s18 a0 6 1).bind fun v19 =>
  (pF s18 a0 6 1 (.int (v19 + (1 : Int32)))).bind fun s20 =>
  (gI s20 a0 6 2).bind fun v21 =>
  (pF s20 a0 6 2 (.int (imax v21 (imax a1 a2)))).bind fun s22 =>
  (gI s22 a0 6 3).bind fun v23 =>
  (gI s22 a0 6 7).bind fun v24 =>
  (pF s22 a0 6 3 (.int (imax v23 v24))).bind fun s25 =>
  (pF s25 a0 6 7 (.int (-1 : Int32))).bind fun s26 =>
  some s26
def F_X6_take (n : Nat) (st : xS) (a0 : Option Nat) (a1 : Int32) (a2 : Int32) (a3 : Int32) (a4 : Int32) : Option (xS) :=
  ((if a1 = (20 : Int32) then
      (pF st a0 6 4 (.int a2)).bind fun s1 =>
      some s1
    else if a1 = (21 : Int32) then
      (pF st a0 6 5 (.int (1 : Int32))).bind fun s2 =>
      some s2
    else if a1 = (22 : Int32) then
      (pF st a0 6 5 (.int (0 : Int32))).bind fun s3 =>
      some s3
    else if a1 = (23 : Int32) then
      (pF st a0 6 6 (.int (1 : Int32))).bind fun s4 =>
      some s4
    else if a1 = (24 : Int32) then
      (pF st a0 6 6 (.int (0 : Int32))).bind fun s5 =>
      some s5
    else if a1 = (25 : Int32) then
      (pF st a0 6 7 (.int a2)).bind fun s6 =>
      some s6
    else 
      (isO st a0 6).bind fun q8 =>
      (F_X6_addGame n st a0 a2 a3).bind fun s7 =>
      some s7) : Option (xS)).bind fun q9 =>
  some q9
def F_X6_hasGame (n : Nat) (st : xS) (a0 : Option Nat) (a1 : Int32) : Option (Int32) :=
  ((if a1 < (0 : Int32) then
      some (0 : Int32)
    else
      (gI st a0 6 1).bind fun v1 =>
      if v1 ≤ a1 then
        some (0 : Int32)
      else
        some (1 : Int32)) : Option (Int32)).bind fun q2 =>
  (rz q2).bind fun v3 =>
  some v3
def F_X6_hosted_L5 (n : Nat) : Nat → xS → Option Nat → Int32 → Int32 → Int32 → Int32 → Option ((Int32))
  | 0 => fun _ _ _ _ _ _ => none
  | k + 1 => fun st a0 a1 a2 a3 a4 =>
    (gI st a0 6 1).bind fun v1 =>
    if v1 ≤ a4 then
      some a3
    else
      (isO st a0 6).bind fun q3 =>
      (F_X6_of n st a0 a4 (0 : Int32)).bind fun v2 =>
      ((if v2 = a1 then
          (isO st a0 6).bind fun q5 =>
          (F_X6_of n st a0 a4 (1 : Int32)).bind fun v4 =>
          if v4 = a2 then
            (some (a3 + (1 : Int32))).bind fun v6 =>
            some v6
          else
            some a3
        else
          some a3) : Option (Int32)).bind fun q7 =>
      (some (a4 + (1 : Int32))).bind fun v8 =>
      F_X6_hosted_L5 n k st a0 a1 a2 q7 v8
def F_X6_hosted (n : Nat) (st : xS) (a0 : Option Nat) (a1 : Int32) (a2 : Int32) : Option (Int32) :=
  (F_X6_hosted_L5 n n st a0 a1 a2 (0 : Int32) (0 : Int32)).bind fun q9 =>
  some q9
def F_X7_init (n : Nat) (st : xS) (a0 : Option Nat) : Option (xS) :=
  (a0).bind fun b1 =>
  (some (xnew st 0 (.inl (2, 0, .inl fun _ => 0)))).bind fun s2 =>
  (some (some (64 + st.1))).bind fun o3 =>
  (pF s2 a0 7 0 (va_rf o3)).bind fun s4 =>
  (pF s4 a0 7 1 (.int (0 : Int32))).bind fun s5 =>
  (pF s5 a0 7 2 (.int (0 : Int32))).bind fun s6 =>
  (pF s6 a0 7 3 (.int (0 : Int32))).bind fun s7 =>
  (pF s7 a0 7 4 (.int (0 : Int32))).bind fun s8 =>
  (pF s8 a0 7 5 (.int (0 : Int32))).bind fun s9 =>
  (some (xnew s9 3 (.inl (0, 3, .inl fun _ => 0)))).bind fun s10 =>
  (some (some (64 + s9.1))).bind fun o11 =>
  (pF s10 a0 7 6 (va_rf o11)).bind fun s12 =>
  (some (xnew s12 3 (.inl (0, 3, .inl fun _ => 0)))).bind fun s13 =>
  (some (some (64 + s12.1))).bind fun o14 =>
  (pF s13 a0 7 7 (va_rf o14)).bind fun s15 =>
  (pF s15 a0 7 8 (.int (0 : Int32))).bind fun s16 =>
  (pF s16 a0 7 9 (.int (-1 : Int32))).bind fun s17 =>
  some s17
def F_X7_fail (n : Nat) (st : xS) (a0 : Option Nat) (a1 : Int32) (a2 : Int32) : Option (xS) :=
  (pF st a0 7 8 (.int a1)).bind fun s1 =>
  (pF s1 a0 7 9 (.int a2)).bind fun s2 =>
  some s2
def F_X7_isCouple (n : Nat) (st : xS) (a0 : Int32) : Option (Int32) :=
  ((if a0 = (2 : Int32) then
      some (1 : Int32)
    else
      if a0 = (26 : Int32) then
        some (1 : Int32)
      else
        some (0 : Int32)) : Option (Int32)).bind fun q1 =>
  (rz q1).bind fun v2 =>
  some v2
def F_X7_check_L19 (n : Nat) : Nat → xS → Option Nat → Int32 → Int32 → Option Nat → Int32 → Option (xS)
  | 0 => fun _ _ _ _ _ _ => none
  | k + 1 => fun st a0 a1 a2 a4 a5 =>
    if a2 ≤ a5 then
      (gR st a0 7 6).bind fun v2 =>
      (aI st v2 (0 : Int32)).bind fun v3 =>
      (gR st a0 7 6).bind fun v4 =>
      (aI st v4 (1 : Int32)).bind fun v5 =>
      (gR st a0 7 6).bind fun v6 =>
      (aI st v6 (2 : Int32)).bind fun v7 =>
      ((ckO st a4).bind fun c => if c = 3 then F_X3_take n st a4 a1 v3 v5 v7 else if c = 4 then F_X4_take n st a4 a1 v3 v5 v7 else if c = 6 then F_X6_take n st a4 a1 v3 v5 v7 else none).bind fun s8 =>
      some s8
    else
      if (3 : Int32) ≤ a5 then
        (gR st a0 7 6).bind fun v9 =>
        (aI st v9 (0 : Int32)).bind fun v10 =>
        (gR st a0 7 6).bind fun v11 =>
        (aI st v11 (1 : Int32)).bind fun v12 =>
        (gR st a0 7 6).bind fun v13 =>
        (aI st v13 (2 : Int32)).bind fun v14 =>
        ((ckO st a4).bind fun c => if c = 3 then F_X3_take n st a4 a1 v10 v12 v14 else if c = 4 then F_X4_take n st a4 a1 v10 v12 v14 else if c = 6 then F_X6_take n st a4 a1 v10 v12 v14 else none).bind fun s15 =>
        some s15
      else
        ((if a5 = (1 : Int32) then
            (F_X7_isCouple n st a1).bind fun v16 =>
            if v16 = (0 : Int32) then
              some (0 : Int32)
            else
              (gR st a0 7 6).bind fun v17 =>
              (aI st v17 (1 : Int32)).bind fun v18 =>
              (gR st a0 7 6).bind fun v19 =>
              (aI st v19 (0 : Int32)).bind fun v20 =>
              if v18 = v20 then
                some (1 : Int32)
              else
                some (0 : Int32)
          else
            some (0 : Int32)) : Option (Int32)).bind fun q21 =>
        if q21 = (0 : Int32) then
          (gR st a0 7 6).bind fun v22 =>
          (aI st v22 a5).bind fun v23 =>
          ((ckO st a4).bind fun c => if c = 3 then F_X3_leastOf n st a4 a1 a5 else if c = 4 then F_X4_leastOf n st a4 a1 a5 else if c = 6 then F_X6_leastOf n st a4 a1 a5 else none).bind fun v24 =>
          if v23 < v24 then
            (gR st a0 7 7).bind fun v25 =>
            (aI st v25 a5).bind fun v26 =>
            (isO st a0 7).bind fun q28 =>
            (F_X7_fail n st a0 (2 : Int32) v26).bind fun s27 =>
            some s27
          else
            (gR st a0 7 6).bind fun v29 =>
            (aI st v29 a5).bind fun v30 =>
            ((ckO st a4).bind fun c => if c = 3 then F_X3_mostOf n st a4 a1 a5 else if c = 4 then F_X4_mostOf n st a4 a1 a5 else if c = 6 then F_X6_mostOf n st a4 a1 a5 else none).bind fun v31 =>
            if v30 ≤ v31 then
              (some (a5 + (1 : Int32))).bind fun v32 =>
              F_X7_check_L19 n k st a0 a1 a2 a4 v32
            else
              (gR st a0 7 7).bind fun v33 =>
              (aI st v33 a5).bind fun v34 =>
              (isO st a0 7).bind fun q36 =>
              (F_X7_fail n st a0 (2 : Int32) v34).bind fun s35 =>
              some s35
        else
          (gR st a0 7 7).bind fun v37 =>
          (aI st v37 a5).bind fun v38 =>
          (isO st a0 7).bind fun q40 =>
          (F_X7_fail n st a0 (2 : Int32) v38).bind fun s39 =>
          some s39
def F_X7_check (n : Nat) (st : xS) (a0 : Option Nat) (a1 : Int32) (a2 : Int32) (a3 : Int32) (a4 : Option Nat) : Option (xS) :=
  ((ckO st a4).bind fun c => if c = 3 then F_X3_isFull n st a4 a1 else if c = 4 then F_X4_isFull n st a4 a1 else if c = 6 then F_X6_isFull n st a4 a1 else none).bind fun v1 =>
  if v1 = (0 : Int32) then
    F_X7_check_L19 n n st a0 a1 a2 a4 (0 : Int32)
  else
    (isO st a0 7).bind fun q42 =>
    (F_X7_fail n st a0 (3 : Int32) a3).bind fun s41 =>
    some s41
def F_X7_numbersOf (n : Nat) (st : xS) (a0 : Int32) : Option (Int32) :=
  if a0 = (0 : Int32) then
    some (3 : Int32)
  else if a0 = (1 : Int32) then
    some (2 : Int32)
  else if a0 = (2 : Int32) then
    some (3 : Int32)
  else if a0 = (3 : Int32) then
    some (2 : Int32)
  else if a0 = (4 : Int32) then
    some (2 : Int32)
  else if a0 = (5 : Int32) then
    some (2 : Int32)
  else if a0 = (6 : Int32) then
    some (2 : Int32)
  else if a0 = (7 : Int32) then
    some (2 : Int32)
  else if a0 = (8 : Int32) then
    some (2 : Int32)
  else if a0 = (9 : Int32) then
    some (2 : Int32)
  else if a0 = (10 : Int32) then
    some (1 : Int32)
  else if a0 = (11 : Int32) then
    some (1 : Int32)
  else if a0 = (12 : Int32) then
    some (2 : Int32)
  else if a0 = (13 : Int32) then
    some (2 : Int32)
  else if a0 = (14 : Int32) then
    some (2 : Int32)
  else if a0 = (15 : Int32) then
    some (2 : Int32)
  else if a0 = (16 : Int32) then
    some (2 : Int32)
  else if a0 = (17 : Int32) then
    some (2 : Int32)
  else if a0 = (18 : Int32) then
    some (2 : Int32)
  else if a0 = (19 : Int32) then
    some (2 : Int32)
  else if a0 = (20 : Int32) then
    some (1 : Int32)
  else if a0 = (21 : Int32) then
    some (0 : Int32)
  else if a0 = (22 : Int32) then
    some (0 : Int32)
  else if a0 = (23 : Int32) then
    some (0 : Int32)
  else if a0 = (24 : Int32) then
    some (0 : Int32)
  else if a0 = (25 : Int32) then
    some (1 : Int32)
  else 
    some (2 : Int32)
def F_X7_wordOf (n : Nat) (st : xS) (a0 : Int32) : Option (Option Nat) :=
  if a0 = (0 : Int32) then
    some (some 0)
  else if a0 = (1 : Int32) then
    some (some 1)
  else if a0 = (2 : Int32) then
    some (some 2)
  else if a0 = (3 : Int32) then
    some (some 16)
  else if a0 = (4 : Int32) then
    some (some 16)
  else if a0 = (5 : Int32) then
    some (some 16)
  else if a0 = (6 : Int32) then
    some (some 16)
  else if a0 = (7 : Int32) then
    some (some 16)
  else if a0 = (8 : Int32) then
    some (some 16)
  else if a0 = (9 : Int32) then
    some (some 16)
  else if a0 = (10 : Int32) then
    some (some 3)
  else if a0 = (11 : Int32) then
    some (some 4)
  else if a0 = (12 : Int32) then
    some (some 2)
  else if a0 = (13 : Int32) then
    some (some 5)
  else if a0 = (14 : Int32) then
    some (some 6)
  else if a0 = (15 : Int32) then
    some (some 7)
  else if a0 = (16 : Int32) then
    some (some 8)
  else if a0 = (17 : Int32) then
    some (some 16)
  else if a0 = (18 : Int32) then
    some (some 16)
  else if a0 = (19 : Int32) then
    some (some 16)
  else if a0 = (20 : Int32) then
    some (some 9)
  else if a0 = (21 : Int32) then
    some (some 10)
  else if a0 = (22 : Int32) then
    some (some 11)
  else if a0 = (23 : Int32) then
    some (some 12)
  else if a0 = (24 : Int32) then
    some (some 13)
  else if a0 = (25 : Int32) then
    some (some 14)
  else if a0 = (26 : Int32) then
    some (some 15)
  else 
    some (some 16)
def F_X7_signAt (n : Nat) (st : xS) (a0 : Option Nat) (a1 : Int32) : Option (Int32) :=
  ((if a1 < (0 : Int32) then
      some (-1 : Int32)
    else
      (gI st a0 7 1).bind fun v1 =>
      if v1 ≤ a1 then
        some (-1 : Int32)
      else
        (gR st a0 7 0).bind fun v2 =>
        (aN st v2).bind fun v3 =>
        if v3 ≤ a1 then
          some (-1 : Int32)
        else
          (gR st a0 7 0).bind fun v4 =>
          (aS 2 st v4 a1).bind fun v5 =>
          some (v5 &&& (255 : Int32))) : Option (Int32)).bind fun q6 =>
  some q6
def F_X7_spells_L20 (n : Nat) : Nat → xS → Option Nat → Option Nat → Int32 → Option (Int32)
  | 0 => fun _ _ _ _ => none
  | k + 1 => fun st a0 a1 a2 =>
    (sLen a1).bind fun v4 =>
    if v4 ≤ a2 then
      (rz (1 : Int32)).bind fun v5 =>
      some v5
    else
      (sCh a1 a2).bind fun v6 =>
      (gI st a0 7 4).bind fun v7 =>
      (isO st a0 7).bind fun q9 =>
      (F_X7_signAt n st a0 (v7 + a2)).bind fun v8 =>
      if v6 = v8 then
        (some (a2 + (1 : Int32))).bind fun v10 =>
        F_X7_spells_L20 n k st a0 a1 v10
      else
        (rz (0 : Int32)).bind fun v11 =>
        some v11
def F_X7_spells (n : Nat) (st : xS) (a0 : Option Nat) (a1 : Option Nat) : Option (Int32) :=
  (sLen a1).bind fun v1 =>
  (gI st a0 7 2).bind fun v2 =>
  (gI st a0 7 4).bind fun v3 =>
  if v1 = (v2 - v3) then
    F_X7_spells_L20 n n st a0 a1 (0 : Int32)
  else
    (rz (0 : Int32)).bind fun v12 =>
    some v12
def F_X7_formOf_L2 (n : Nat) : Nat → xS → Option Nat → Int32 → Int32 → Option (Int32)
  | 0 => fun _ _ _ _ => none
  | k + 1 => fun st a0 a1 a2 =>
    if (10 : Int32) ≤ a2 then
      some (-1 : Int32)
    else
      (F_X7_wordOf n st (((10 : Int32) * a1) + a2)).bind fun v1 =>
      (isO st a0 7).bind fun q3 =>
      (F_X7_spells n st a0 v1).bind fun v2 =>
      if v2 = (0 : Int32) then
        (some (a2 + (1 : Int32))).bind fun v4 =>
        F_X7_formOf_L2 n k st a0 a1 v4
      else
        some (((10 : Int32) * a1) + a2)
def F_X7_formOf (n : Nat) (st : xS) (a0 : Option Nat) (a1 : Int32) : Option (Int32) :=
  F_X7_formOf_L2 n n st a0 a1 (0 : Int32)
def F_X7_isBlank (n : Nat) (st : xS) (a0 : Int32) : Option (Int32) :=
  ((if a0 = (10 : Int32) then
      some (1 : Int32)
    else
      if a0 = (32 : Int32) then
        some (1 : Int32)
      else
        some (0 : Int32)) : Option (Int32)).bind fun q1 =>
  (rz q1).bind fun v2 =>
  some v2
def F_X7_isLetter (n : Nat) (st : xS) (a0 : Int32) : Option (Int32) :=
  ((if a0 < (97 : Int32) then
      some (0 : Int32)
    else
      if (122 : Int32) < a0 then
        some (0 : Int32)
      else
        some (1 : Int32)) : Option (Int32)).bind fun q1 =>
  (rz q1).bind fun v2 =>
  some v2
def F_X7_isDigit (n : Nat) (st : xS) (a0 : Int32) : Option (Int32) :=
  ((if a0 < (48 : Int32) then
      some (0 : Int32)
    else
      if (57 : Int32) < a0 then
        some (0 : Int32)
      else
        some (1 : Int32)) : Option (Int32)).bind fun q1 =>
  (rz q1).bind fun v2 =>
  some v2
def F_X7_stepNumber_L5 (n : Nat) : Nat → xS → Option Nat → Option ((xS))
  | 0 => fun _ _ => none
  | k + 1 => fun st a0 =>
    (gI st a0 7 2).bind fun v2 =>
    (gI st a0 7 1).bind fun v3 =>
    if v3 ≤ v2 then
      some st
    else
      (gI st a0 7 2).bind fun v4 =>
      (isO st a0 7).bind fun q6 =>
      (F_X7_signAt n st a0 v4).bind fun v5 =>
      (F_X7_isDigit n st v5).bind fun v7 =>
      if v7 = (0 : Int32) then
        some st
      else
        (gI st a0 7 2).bind fun v8 =>
        (gI st a0 7 4).bind fun v9 =>
        ((if (4 : Int32) ≤ (v8 - v9) then
            some st
          else
            (gI st a0 7 5).bind fun v10 =>
            (gI st a0 7 2).bind fun v11 =>
            (isO st a0 7).bind fun q13 =>
            (F_X7_signAt n st a0 v11).bind fun v12 =>
            (pF st a0 7 5 (.int ((((10 : Int32) * v10) + v12) - (48 : Int32)))).bind fun s14 =>
            some s14) : Option (xS)).bind fun q15 =>
        (gI q15 a0 7 2).bind fun v16 =>
        (pF q15 a0 7 2 (.int (v16 + (1 : Int32)))).bind fun s17 =>
        F_X7_stepNumber_L5 n k s17 a0
def F_X7_stepNumber (n : Nat) (st : xS) (a0 : Option Nat) : Option (xS) :=
  (pF st a0 7 5 (.int (0 : Int32))).bind fun s1 =>
  (F_X7_stepNumber_L5 n n s1 a0).bind fun q18 =>
  (gI q18 a0 7 2).bind fun v19 =>
  (gI q18 a0 7 4).bind fun v20 =>
  ((if (4 : Int32) < (v19 - v20) then
      some (4 : Int32)
    else
      some (2 : Int32)) : Option (Int32)).bind fun q21 =>
  (pF q18 a0 7 3 (.int q21)).bind fun s22 =>
  some s22
def F_X7_step_L0 (n : Nat) : Nat → xS → Option Nat → Option ((xS))
  | 0 => fun _ _ => none
  | k + 1 => fun st a0 =>
    (gI st a0 7 2).bind fun v1 =>
    (gI st a0 7 1).bind fun v2 =>
    if v2 ≤ v1 then
      some st
    else
      (gI st a0 7 2).bind fun v3 =>
      (isO st a0 7).bind fun q5 =>
      (F_X7_signAt n st a0 v3).bind fun v4 =>
      (F_X7_isBlank n st v4).bind fun v6 =>
      if v6 = (0 : Int32) then
        some st
      else
        (gI st a0 7 2).bind fun v7 =>
        (pF st a0 7 2 (.int (v7 + (1 : Int32)))).bind fun s8 =>
        F_X7_step_L0 n k s8 a0
def F_X7_step_L80 (n : Nat) : Nat → xS → Option Nat → Option ((xS))
  | 0 => fun _ _ => none
  | k + 1 => fun st a0 =>
    (gI st a0 7 2).bind fun v25 =>
    (gI st a0 7 1).bind fun v26 =>
    if v26 ≤ v25 then
      some st
    else
      (gI st a0 7 2).bind fun v27 =>
      (isO st a0 7).bind fun q29 =>
      (F_X7_signAt n st a0 v27).bind fun v28 =>
      (F_X7_isLetter n st v28).bind fun v30 =>
      if v30 = (0 : Int32) then
        some st
      else
        (gI st a0 7 2).bind fun v31 =>
        (pF st a0 7 2 (.int (v31 + (1 : Int32)))).bind fun s32 =>
        F_X7_step_L80 n k s32 a0
def F_X7_step (n : Nat) (st : xS) (a0 : Option Nat) : Option (xS) :=
  (F_X7_step_L0 n n st a0).bind fun q9 =>
  (gI q9 a0 7 2).bind fun v10 =>
  (pF q9 a0 7 4 (.int v10)).bind fun s11 =>
  (gI s11 a0 7 4).bind fun v12 =>
  (isO s11 a0 7).bind fun q14 =>
  (F_X7_signAt n s11 a0 v12).bind fun v13 =>
  ((if v13 = (-1 : Int32) then
      (pF s11 a0 7 3 (.int (0 : Int32))).bind fun s15 =>
      some s15
    else
      (F_X7_isLetter n s11 v13).bind fun v16 =>
      if v16 = (0 : Int32) then
        (F_X7_isDigit n s11 v13).bind fun v17 =>
        if v17 = (0 : Int32) then
          ((if v13 = (59 : Int32) then
              some (3 : Int32)
            else
              some (4 : Int32)) : Option (Int32)).bind fun q18 =>
          (pF s11 a0 7 3 (.int q18)).bind fun s19 =>
          (gI s19 a0 7 2).bind fun v20 =>
          (pF s19 a0 7 2 (.int (v20 + (1 : Int32)))).bind fun s21 =>
          some s21
        else
          (isO s11 a0 7).bind fun q23 =>
          (F_X7_stepNumber n s11 a0 ).bind fun s22 =>
          some s22
      else
        (pF s11 a0 7 3 (.int (1 : Int32))).bind fun s24 =>
        (F_X7_step_L80 n n s24 a0).bind fun q33 =>
        some q33) : Option (xS)).bind fun q34 =>
  some q34
def F_X7_readLine_L42 (n : Nat) : Nat → xS → Option Nat → Option Nat → Int32 → Int32 → Int32 → Int32 → Option (Int32 × xS)
  | 0 => fun _ _ _ _ _ _ _ => none
  | k + 1 => fun st a0 a2 a3 a4 a5 a6 =>
    if (3 : Int32) ≤ a6 then
      (isO st a0 7).bind fun q9 =>
      (F_X7_step n st a0 ).bind fun s8 =>
      (gI s8 a0 7 3).bind fun v10 =>
      if v10 = (3 : Int32) then
        (gI s8 a0 7 8).bind fun v11 =>
        ((if v11 = (0 : Int32) then
            (isO s8 a0 7).bind fun q13 =>
            (F_X7_check n s8 a0 a4 a5 a3 a2).bind fun s12 =>
            some s12
          else
            some s8) : Option (xS)).bind fun q14 =>
        (rz (1 : Int32)).bind fun v15 =>
        some (v15, q14)
      else
        (rz (0 : Int32)).bind fun v16 =>
        some (v16, s8)
    else
      (gR st a0 7 6).bind fun v17 =>
      (sS 0 st v17 a6 (0 : Int32)).bind fun s18 =>
      if a5 ≤ a6 then
        (some (a6 + (1 : Int32))).bind fun v19 =>
        F_X7_readLine_L42 n k s18 a0 a2 a3 a4 a5 v19
      else
        (isO s18 a0 7).bind fun q21 =>
        (F_X7_step n s18 a0 ).bind fun s20 =>
        (gI s20 a0 7 3).bind fun v22 =>
        if v22 = (2 : Int32) then
          (gR s20 a0 7 6).bind fun v23 =>
          (gI s20 a0 7 5).bind fun v24 =>
          (sS 0 s20 v23 a6 v24).bind fun s25 =>
          (gR s25 a0 7 7).bind fun v26 =>
          (gI s25 a0 7 4).bind fun v27 =>
          (sS 0 s25 v26 a6 v27).bind fun s28 =>
          (some (a6 + (1 : Int32))).bind fun v29 =>
          F_X7_readLine_L42 n k s28 a0 a2 a3 a4 a5 v29
        else
          (rz (0 : Int32)).bind fun v30 =>
          some (v30, s20)
def F_X7_readLine (n : Nat) (st : xS) (a0 : Option Nat) (a1 : Int32) (a2 : Option Nat) : Option (Int32 × xS) :=
  (gI st a0 7 4).bind fun v1 =>
  (gI st a0 7 3).bind fun v2 =>
  ((if v2 = (1 : Int32) then
      (isO st a0 7).bind fun q4 =>
      (F_X7_formOf n st a0 a1).bind fun v3 =>
      some v3
    else
      some (-1 : Int32)) : Option (Int32)).bind fun q5 =>
  if q5 = (-1 : Int32) then
    (rz (0 : Int32)).bind fun v6 =>
    some (v6, st)
  else
    (F_X7_numbersOf n st q5).bind fun v7 =>
    F_X7_readLine_L42 n n st a0 a2 v1 q5 v7 (0 : Int32)
def F_X7_read_L33 (n : Nat) : Nat → xS → Option Nat → Int32 → Option Nat → Int32 → Option (xS)
  | 0 => fun _ _ _ _ _ => none
  | k + 1 => fun st a0 a3 a4 a5 =>
    (gI st a0 7 1).bind fun v7 =>
    if v7 < a5 then
      some st
    else
      (isO st a0 7).bind fun q9 =>
      (F_X7_step n st a0 ).bind fun s8 =>
      (gI s8 a0 7 3).bind fun v10 =>
      if v10 = (0 : Int32) then
        some s8
      else
        (isO s8 a0 7).bind fun q12 =>
        (F_X7_readLine n s8 a0 a3 a4).bind fun p11 =>
        if p11.1 = (0 : Int32) then
          (gI p11.2 a0 7 4).bind fun v13 =>
          (isO p11.2 a0 7).bind fun q15 =>
          (F_X7_fail n p11.2 a0 (1 : Int32) v13).bind fun s14 =>
          some s14
        else
          (some (a5 + (1 : Int32))).bind fun v16 =>
          F_X7_read_L33 n k p11.2 a0 a3 a4 v16
def F_X7_read (n : Nat) (st : xS) (a0 : Option Nat) (a1 : Option Nat) (a2 : Int32) (a3 : Int32) (a4 : Option Nat) : Option (xS) :=
  (pF st a0 7 0 (va_rf a1)).bind fun s1 =>
  (aN s1 a1).bind fun v2 =>
  (pF s1 a0 7 1 (.int (imin a2 v2))).bind fun s3 =>
  (pF s3 a0 7 2 (.int (0 : Int32))).bind fun s4 =>
  (pF s4 a0 7 8 (.int (0 : Int32))).bind fun s5 =>
  (pF s5 a0 7 9 (.int (-1 : Int32))).bind fun s6 =>
  F_X7_read_L33 n n s6 a0 a3 a4 (0 : Int32)
def F_X8_init (n : Nat) (st : xS) (a0 : Option Nat) : Option (xS) :=
  (a0).bind fun b1 =>
  (some (xnew st 8 (.inl (0, 8, .inl fun _ => 0)))).bind fun s2 =>
  (some (some (64 + st.1))).bind fun o3 =>
  (pF s2 a0 8 0 (va_rf o3)).bind fun s4 =>
  (some (xnew s4 8 (.inl (0, 8, .inl fun _ => 0)))).bind fun s5 =>
  (some (some (64 + s4.1))).bind fun o6 =>
  (pF s5 a0 8 1 (va_rf o6)).bind fun s7 =>
  (some (xnew s7 8 (.inl (0, 8, .inl fun _ => 0)))).bind fun s8 =>
  (some (some (64 + s7.1))).bind fun o9 =>
  (pF s8 a0 8 2 (va_rf o9)).bind fun s10 =>
  (some (xnew s10 8 (.inl (0, 8, .inl fun _ => 0)))).bind fun s11 =>
  (some (some (64 + s10.1))).bind fun o12 =>
  (pF s11 a0 8 3 (va_rf o12)).bind fun s13 =>
  some s13
def F_X8_clear_L2 (n : Nat) : Nat → xS → Option Nat → Int32 → Option ((xS))
  | 0 => fun _ _ _ => none
  | k + 1 => fun st a0 a1 =>
    if (8 : Int32) ≤ a1 then
      some st
    else
      (gR st a0 8 0).bind fun v1 =>
      (sS 0 st v1 a1 (0 : Int32)).bind fun s2 =>
      (gR s2 a0 8 1).bind fun v3 =>
      (sS 0 s2 v3 a1 (0 : Int32)).bind fun s4 =>
      (gR s4 a0 8 2).bind fun v5 =>
      (sS 0 s4 v5 a1 (0 : Int32)).bind fun s6 =>
      (gR s6 a0 8 3).bind fun v7 =>
      (sS 0 s6 v7 a1 (0 : Int32)).bind fun s8 =>
      (some (a1 + (1 : Int32))).bind fun v9 =>
      F_X8_clear_L2 n k s8 a0 v9
def F_X8_clear (n : Nat) (st : xS) (a0 : Option Nat) : Option (xS) :=
  (F_X8_clear_L2 n n st a0 (0 : Int32)).bind fun q10 =>
  some q10
def F_X10_pointsBy (n : Nat) (st : xS) (a0 : Int32) : Option (Int32) :=
  if a0 ≤ (0 : Int32) then
    ((if a0 = (0 : Int32) then
        some (1 : Int32)
      else
        some (0 : Int32)) : Option (Int32)).bind fun q1 =>
    some q1
  else
    some (3 : Int32)
def F_X8_add (n : Nat) (st : xS) (a0 : Option Nat) (a1 : Int32) (a2 : Int32) (a3 : Int32) : Option (xS) :=
  ((if a1 < (0 : Int32) then
      some st
    else
      if (8 : Int32) ≤ a1 then
        some st
      else
        (gR st a0 8 0).bind fun v1 =>
        (aI st v1 a1).bind fun v2 =>
        (sS 0 st v1 a1 (v2 + (1 : Int32))).bind fun s3 =>
        (gR s3 a0 8 1).bind fun v4 =>
        (aI s3 v4 a1).bind fun v5 =>
        (F_X10_pointsBy n s3 (a2 - a3)).bind fun v6 =>
        (sS 0 s3 v4 a1 (v5 + v6)).bind fun s7 =>
        (gR s7 a0 8 2).bind fun v8 =>
        (aI s7 v8 a1).bind fun v9 =>
        (sS 0 s7 v8 a1 (v9 + (a2 - a3))).bind fun s10 =>
        (gR s10 a0 8 3).bind fun v11 =>
        (aI s10 v11 a1).bind fun v12 =>
        (sS 0 s10 v11 a1 (v12 + a2)).bind fun s13 =>
        some s13) : Option (xS)).bind fun q14 =>
  some q14
def F_X8_pointsOf (n : Nat) (st : xS) (a0 : Option Nat) (a1 : Int32) : Option (Int32) :=
  (gR st a0 8 1).bind fun v1 =>
  (F_X10_valueAt n st v1 a1).bind fun v2 =>
  some v2
def F_X8_isAhead (n : Nat) (st : xS) (a0 : Option Nat) (a1 : Int32) (a2 : Int32) : Option (Int32) :=
  (gR st a0 8 1).bind fun v1 =>
  (F_X10_valueAt n st v1 a1).bind fun v2 =>
  (gR st a0 8 1).bind fun v3 =>
  (F_X10_valueAt n st v3 a2).bind fun v4 =>
  if v2 = v4 then
    (gR st a0 8 2).bind fun v5 =>
    (F_X10_valueAt n st v5 a1).bind fun v6 =>
    (gR st a0 8 2).bind fun v7 =>
    (F_X10_valueAt n st v7 a2).bind fun v8 =>
    if v6 = v8 then
      (gR st a0 8 3).bind fun v9 =>
      (F_X10_valueAt n st v9 a1).bind fun v10 =>
      (gR st a0 8 3).bind fun v11 =>
      (F_X10_valueAt n st v11 a2).bind fun v12 =>
      if v10 = v12 then
        ((if a2 ≤ a1 then
            some (0 : Int32)
          else
            some (1 : Int32)) : Option (Int32)).bind fun q13 =>
        (rz q13).bind fun v14 =>
        some v14
      else
        (gR st a0 8 3).bind fun v15 =>
        (F_X10_valueAt n st v15 a1).bind fun v16 =>
        (gR st a0 8 3).bind fun v17 =>
        (F_X10_valueAt n st v17 a2).bind fun v18 =>
        ((if v16 ≤ v18 then
            some (0 : Int32)
          else
            some (1 : Int32)) : Option (Int32)).bind fun q19 =>
        (rz q19).bind fun v20 =>
        some v20
    else
      (gR st a0 8 2).bind fun v21 =>
      (F_X10_valueAt n st v21 a1).bind fun v22 =>
      (gR st a0 8 2).bind fun v23 =>
      (F_X10_valueAt n st v23 a2).bind fun v24 =>
      ((if v22 ≤ v24 then
          some (0 : Int32)
        else
          some (1 : Int32)) : Option (Int32)).bind fun q25 =>
      (rz q25).bind fun v26 =>
      some v26
  else
    (gR st a0 8 1).bind fun v27 =>
    (F_X10_valueAt n st v27 a1).bind fun v28 =>
    (gR st a0 8 1).bind fun v29 =>
    (F_X10_valueAt n st v29 a2).bind fun v30 =>
    ((if v28 ≤ v30 then
        some (0 : Int32)
      else
        some (1 : Int32)) : Option (Int32)).bind fun q31 =>
    (rz q31).bind fun v32 =>
    some v32
def F_X8_placeOf_L4 (n : Nat) : Nat → xS → Option Nat → Int32 → Int32 → Int32 → Option ((Int32))
  | 0 => fun _ _ _ _ _ => none
  | k + 1 => fun st a0 a1 a2 a3 =>
    if (8 : Int32) ≤ a3 then
      some a2
    else
      (gR st a0 8 0).bind fun v1 =>
      (F_X10_valueAt n st v1 a3).bind fun v2 =>
      ((if v2 ≤ (0 : Int32) then
          some a2
        else
          (isO st a0 8).bind fun q4 =>
          (F_X8_isAhead n st a0 a3 a1).bind fun v3 =>
          if v3 = (0 : Int32) then
            some a2
          else
            (some (a2 + (1 : Int32))).bind fun v5 =>
            some v5) : Option (Int32)).bind fun q6 =>
      (some (a3 + (1 : Int32))).bind fun v7 =>
      F_X8_placeOf_L4 n k st a0 a1 q6 v7
def F_X8_placeOf (n : Nat) (st : xS) (a0 : Option Nat) (a1 : Int32) : Option (Int32) :=
  (F_X8_placeOf_L4 n n st a0 a1 (0 : Int32) (0 : Int32)).bind fun q8 =>
  some q8
def F_X8_sideAt_L2 (n : Nat) : Nat → xS → Option Nat → Int32 → Int32 → Option (Int32)
  | 0 => fun _ _ _ _ => none
  | k + 1 => fun st a0 a1 a2 =>
    if (8 : Int32) ≤ a2 then
      some (-1 : Int32)
    else
      (gR st a0 8 0).bind fun v1 =>
      (aI st v1 a2).bind fun v2 =>
      if v2 ≤ (0 : Int32) then
        (some (a2 + (1 : Int32))).bind fun v3 =>
        F_X8_sideAt_L2 n k st a0 a1 v3
      else
        (isO st a0 8).bind fun q5 =>
        (F_X8_placeOf n st a0 a2).bind fun v4 =>
        if v4 = a1 then
          some a2
        else
          (some (a2 + (1 : Int32))).bind fun v6 =>
          F_X8_sideAt_L2 n k st a0 a1 v6
def F_X8_sideAt (n : Nat) (st : xS) (a0 : Option Nat) (a1 : Int32) : Option (Int32) :=
  F_X8_sideAt_L2 n n st a0 a1 (0 : Int32)
def F_X9_init (n : Nat) (st : xS) (a0 : Option Nat) : Option (xS) :=
  (a0).bind fun b1 =>
  (some (xnew st 3 (.inl (4, 3, .inr (.inr (.inr (.inr fun _ => none))))))).bind fun s2 =>
  (some (some (64 + st.1))).bind fun o3 =>
  (pF s2 a0 9 0 (va_rf o3)).bind fun s4 =>
  (some (xnew s4 3 (.inl (5, 3, .inr (.inr (.inr (.inr fun _ => none))))))).bind fun s5 =>
  (some (some (64 + s4.1))).bind fun o6 =>
  (pF s5 a0 9 1 (va_rf o6)).bind fun s7 =>
  (some (xnew s7 3 (.inl (6, 3, .inr (.inr (.inr (.inr fun _ => none))))))).bind fun s8 =>
  (some (some (64 + s7.1))).bind fun o9 =>
  (pF s8 a0 9 2 (va_rf o9)).bind fun s10 =>
  (some (xnew s10 4 (.inl (0, 4, .inl fun _ => 0)))).bind fun s11 =>
  (some (some (64 + s10.1))).bind fun o12 =>
  (pF s11 a0 9 3 (va_rf o12)).bind fun s13 =>
  (some (xnew s13 800 (.inl (0, 800, .inl fun _ => 0)))).bind fun s14 =>
  (some (some (64 + s13.1))).bind fun o15 =>
  (pF s14 a0 9 4 (va_rf o15)).bind fun s16 =>
  (some (xnew s16 16 (.inl (0, 16, .inl fun _ => 0)))).bind fun s17 =>
  (some (some (64 + s16.1))).bind fun o18 =>
  (pF s17 a0 9 5 (va_rf o18)).bind fun s19 =>
  (some (xnew s19 16 (.inl (0, 16, .inl fun _ => 0)))).bind fun s20 =>
  (some (some (64 + s19.1))).bind fun o21 =>
  (pF s20 a0 9 6 (va_rf o21)).bind fun s22 =>
  (some (xnew s22 500 (.inl (2, 500, .inl fun _ => 0)))).bind fun s23 =>
  (some (some (64 + s22.1))).bind fun o24 =>
  (pF s23 a0 9 7 (va_rf o24)).bind fun s25 =>
  (pF s25 a0 9 8 (.int (0 : Int32))).bind fun s26 =>
  (pF s26 a0 9 9 (.int (0 : Int32))).bind fun s27 =>
  (pF s27 a0 9 10 (.int (-1 : Int32))).bind fun s28 =>
  some s28
def F_X9_howMany (n : Nat) (st : xS) (a0 : Option Nat) (a1 : Int32) : Option (Int32) :=
  (gR st a0 9 3).bind fun v1 =>
  (F_X10_valueAt n st v1 a1).bind fun v2 =>
  some v2
def F_X9_addBytes_L3 (n : Nat) : Nat → xS → Option Nat → Int32 → Int32 → Option ((xS))
  | 0 => fun _ _ _ _ => none
  | k + 1 => fun st a0 a1 a2 =>
    if a2 < (0 : Int32) then
      some st
    else
      (gI st a0 9 8).bind fun v1 =>
      (gR st a0 9 7).bind fun v2 =>
      (aN st v2).bind fun v3 =>
      if v3 ≤ v1 then
        some st
      else
        (gR st a0 9 7).bind fun v4 =>
        (gI st a0 9 8).bind fun v5 =>
        (sS 2 st v4 v5 ((ush a1 a2).toInt8.toInt32).toInt8.toInt32).bind fun s6 =>
        (gI s6 a0 9 8).bind fun v7 =>
        (pF s6 a0 9 8 (.int (v7 + (1 : Int32)))).bind fun s8 =>
        (some (a2 + (-8 : Int32))).bind fun v9 =>
        F_X9_addBytes_L3 n k s8 a0 a1 v9
def F_X9_addBytes (n : Nat) (st : xS) (a0 : Option Nat) (a1 : Int32) : Option (xS) :=
  (F_X9_addBytes_L3 n n st a0 a1 (24 : Int32)).bind fun q10 =>
  some q10
def F_X9_slotOf (n : Nat) (st : xS) (a0 : Option Nat) (a1 : Int32) (a2 : Int32) : Option (Int32) :=
  if a1 < (0 : Int32) then
    some (-1 : Int32)
  else
    if a1 ≤ (2 : Int32) then
      (isO st a0 9).bind fun q2 =>
      (F_X9_howMany n st a0 a1).bind fun v1 =>
      if a2 = (-1 : Int32) then
        ((if (3 : Int32) ≤ v1 then
            some (-1 : Int32)
          else
            some v1) : Option (Int32)).bind fun q3 =>
        some q3
      else
        ((if a2 < (0 : Int32) then
            some (-1 : Int32)
          else
            if v1 ≤ a2 then
              some (-1 : Int32)
            else
              some a2) : Option (Int32)).bind fun q4 =>
        some q4
    else
      some (-1 : Int32)
def F_X9_grow (n : Nat) (st : xS) (a0 : Option Nat) (a1 : Int32) (a2 : Int32) : Option (xS) :=
  (gR st a0 9 3).bind fun v1 =>
  (isO st a0 9).bind fun q3 =>
  (F_X9_howMany n st a0 a1).bind fun v2 =>
  (F_X10_setAt n st v1 a1 (imax v2 (a2 + (1 : Int32)))).bind fun s4 =>
  some s4
def F_X9_putLeague (n : Nat) (st : xS) (a0 : Option Nat) (a1 : Int32) (a2 : Option Nat) : Option (xS) :=
  ((if a1 < (0 : Int32) then
      some st
    else
      (gR st a0 9 0).bind fun v1 =>
      (aN st v1).bind fun v2 =>
      if v2 ≤ a1 then
        some st
      else
        (gR st a0 9 0).bind fun v3 =>
        (sR st v3 a1 a2).bind fun s4 =>
        (isO s4 a0 9).bind fun q6 =>
        (F_X9_grow n s4 a0 (0 : Int32) a1).bind fun s5 =>
        some s5) : Option (xS)).bind fun q7 =>
  some q7
def F_X9_putLaw (n : Nat) (st : xS) (a0 : Option Nat) (a1 : Int32) (a2 : Option Nat) : Option (xS) :=
  ((if a1 < (0 : Int32) then
      some st
    else
      (gR st a0 9 1).bind fun v1 =>
      (aN st v1).bind fun v2 =>
      if v2 ≤ a1 then
        some st
      else
        (gR st a0 9 1).bind fun v3 =>
        (sR st v3 a1 a2).bind fun s4 =>
        (isO s4 a0 9).bind fun q6 =>
        (F_X9_grow n s4 a0 (1 : Int32) a1).bind fun s5 =>
        some s5) : Option (xS)).bind fun q7 =>
  some q7
def F_X9_putPlan (n : Nat) (st : xS) (a0 : Option Nat) (a1 : Int32) (a2 : Option Nat) : Option (xS) :=
  ((if a1 < (0 : Int32) then
      some st
    else
      (gR st a0 9 2).bind fun v1 =>
      (aN st v1).bind fun v2 =>
      if v2 ≤ a1 then
        some st
      else
        (gR st a0 9 2).bind fun v3 =>
        (sR st v3 a1 a2).bind fun s4 =>
        (isO s4 a0 9).bind fun q6 =>
        (F_X9_grow n s4 a0 (2 : Int32) a1).bind fun s5 =>
        some s5) : Option (xS)).bind fun q7 =>
  some q7
def F_X9_newNote (n : Nat) (st : xS) (a0 : Option Nat) : Option (Int32 × xS) :=
  (isO st a0 9).bind fun q2 =>
  (F_X9_howMany n st a0 (3 : Int32)).bind fun v1 =>
  (gR st a0 9 3).bind fun v3 =>
  (F_X10_setAt n st v3 (3 : Int32) (v1 + (1 : Int32))).bind fun s4 =>
  some (v1, s4)
def F_X9_setNote (n : Nat) (st : xS) (a0 : Option Nat) (a1 : Int32) (a2 : Int32) (a3 : Int32) : Option (xS) :=
  (gR st a0 9 4).bind fun v1 =>
  (F_X10_setAt n st v1 (((10 : Int32) * a1) + a2) a3).bind fun s2 =>
  some s2
def F_X9_noteOf (n : Nat) (st : xS) (a0 : Option Nat) (a1 : Int32) (a2 : Int32) : Option (Int32) :=
  (gR st a0 9 4).bind fun v1 =>
  (F_X10_valueAt n st v1 (((10 : Int32) * a1) + a2)).bind fun v2 =>
  some v2
def F_X9_filmOf (n : Nat) (st : xS) (a0 : Option Nat) (a1 : Int32) (a2 : Int32) : Option (Int32) :=
  ((if a2 = (0 : Int32) then
      some (0 : Int32)
    else
      some (1 : Int32)) : Option (Int32)).bind fun q1 =>
  some (((2 : Int32) * a1) + q1)
def F_X9_setFilms (n : Nat) (st : xS) (a0 : Option Nat) (a1 : Int32) (a2 : Int32) (a3 : Int32) (a4 : Int32) : Option (xS) :=
  (gR st a0 9 5).bind fun v1 =>
  (isO st a0 9).bind fun q3 =>
  (F_X9_filmOf n st a0 a1 a2).bind fun v2 =>
  (F_X10_setAt n st v1 v2 a3).bind fun s4 =>
  (gR s4 a0 9 6).bind fun v5 =>
  (isO s4 a0 9).bind fun q7 =>
  (F_X9_filmOf n s4 a0 a1 a2).bind fun v6 =>
  (F_X10_setAt n s4 v5 v6 a4).bind fun s8 =>
  some s8
def F_X9_shownBy (n : Nat) (st : xS) (a0 : Option Nat) (a1 : Int32) (a2 : Int32) : Option (Int32) :=
  (gR st a0 9 5).bind fun v1 =>
  (isO st a0 9).bind fun q3 =>
  (F_X9_filmOf n st a0 a1 a2).bind fun v2 =>
  (F_X10_valueAt n st v1 v2).bind fun v4 =>
  some v4
def F_X9_gaveBy (n : Nat) (st : xS) (a0 : Option Nat) (a1 : Int32) (a2 : Int32) : Option (Int32) :=
  (gR st a0 9 6).bind fun v1 =>
  (isO st a0 9).bind fun q3 =>
  (F_X9_filmOf n st a0 a1 a2).bind fun v2 =>
  (F_X10_valueAt n st v1 v2).bind fun v4 =>
  some v4
def F_X9_become_L2 (n : Nat) : Nat → xS → Option Nat → Option Nat → Int32 → Option ((xS))
  | 0 => fun _ _ _ _ => none
  | k + 1 => fun st a0 a1 a2 =>
    if (3 : Int32) ≤ a2 then
      some st
    else
      (gR st a0 9 0).bind fun v1 =>
      (gR st a1 9 0).bind fun v2 =>
      (aR st v2 a2).bind fun v3 =>
      (sR st v1 a2 v3).bind fun s4 =>
      (gR s4 a0 9 1).bind fun v5 =>
      (gR s4 a1 9 1).bind fun v6 =>
      (aR s4 v6 a2).bind fun v7 =>
      (sR s4 v5 a2 v7).bind fun s8 =>
      (gR s8 a0 9 2).bind fun v9 =>
      (gR s8 a1 9 2).bind fun v10 =>
      (aR s8 v10 a2).bind fun v11 =>
      (sR s8 v9 a2 v11).bind fun s12 =>
      (some (a2 + (1 : Int32))).bind fun v13 =>
      F_X9_become_L2 n k s12 a0 a1 v13
def F_X9_become (n : Nat) (st : xS) (a0 : Option Nat) (a1 : Option Nat) : Option (xS) :=
  (F_X9_become_L2 n n st a0 a1 (0 : Int32)).bind fun q14 =>
  (gR q14 a1 9 3).bind fun v15 =>
  (gR q14 a0 9 3).bind fun v16 =>
  (gR q14 a0 9 3).bind fun v17 =>
  (aN q14 v17).bind fun v18 =>
  (cpS 0 q14 v15 (0 : Int32) v16 (0 : Int32) v18).bind fun s19 =>
  (gR s19 a1 9 4).bind fun v20 =>
  (gR s19 a0 9 4).bind fun v21 =>
  (gR s19 a0 9 4).bind fun v22 =>
  (aN s19 v22).bind fun v23 =>
  (cpS 0 s19 v20 (0 : Int32) v21 (0 : Int32) v23).bind fun s24 =>
  (gR s24 a1 9 5).bind fun v25 =>
  (gR s24 a0 9 5).bind fun v26 =>
  (gR s24 a0 9 5).bind fun v27 =>
  (aN s24 v27).bind fun v28 =>
  (cpS 0 s24 v25 (0 : Int32) v26 (0 : Int32) v28).bind fun s29 =>
  (gR s29 a1 9 6).bind fun v30 =>
  (gR s29 a0 9 6).bind fun v31 =>
  (gR s29 a0 9 6).bind fun v32 =>
  (aN s29 v32).bind fun v33 =>
  (cpS 0 s29 v30 (0 : Int32) v31 (0 : Int32) v33).bind fun s34 =>
  (gR s34 a1 9 7).bind fun v35 =>
  (gR s34 a0 9 7).bind fun v36 =>
  (gR s34 a0 9 7).bind fun v37 =>
  (aN s34 v37).bind fun v38 =>
  (cpS 2 s34 v35 (0 : Int32) v36 (0 : Int32) v38).bind fun s39 =>
  (gI s39 a1 9 8).bind fun v40 =>
  (pF s39 a0 9 8 (.int v40)).bind fun s41 =>
  (gI s41 a1 9 9).bind fun v42 =>
  (pF s41 a0 9 9 (.int v42)).bind fun s43 =>
  (gI s43 a1 9 10).bind fun v44 =>
  (pF s43 a0 9 10 (.int v44)).bind fun s45 =>
  some s45
def F_X10_init (n : Nat) (st : xS) (a0 : Option Nat) : Option (xS) :=
  (a0).bind fun b1 =>
  (some (xnew st 11 (.inr (9, [Value.null, Value.null, Value.null, Value.null, Value.null, Value.null, Value.null, Value.null, Value.int 0, Value.int 0, Value.int 0])))).bind fun s2 =>
  (some (some (64 + st.1))).bind fun o3 =>
  (o3).bind fun b4 =>
  (F_X9_init n s2 o3 ).bind fun s5 =>
  (pF s5 a0 10 0 (va_rf o3)).bind fun s6 =>
  (some (xnew s6 3 (.inl (7, 3, .inr (.inr (.inr (.inr fun _ => none))))))).bind fun s7 =>
  (some (some (64 + s6.1))).bind fun o8 =>
  (pF s7 a0 10 1 (va_rf o8)).bind fun s9 =>
  (some (xnew s9 10 (.inr (7, [Value.null, Value.int 0, Value.int 0, Value.int 0, Value.int 0, Value.int 0, Value.null, Value.null, Value.int 0, Value.int 0])))).bind fun s10 =>
  (some (some (64 + s9.1))).bind fun o11 =>
  (o11).bind fun b12 =>
  (F_X7_init n s10 o11 ).bind fun s13 =>
  (pF s13 a0 10 2 (va_rf o11)).bind fun s14 =>
  (some (xnew s14 10 (.inr (5, [Value.null, Value.null, Value.null, Value.null, Value.int 0, Value.int 0, Value.int 0, Value.int 0, Value.null, Value.null])))).bind fun s15 =>
  (some (some (64 + s14.1))).bind fun o16 =>
  (o16).bind fun b17 =>
  (F_X5_init n s15 o16 ).bind fun s18 =>
  (pF s18 a0 10 3 (va_rf o16)).bind fun s19 =>
  (some (xnew s19 3 (.inr (1, [Value.null, Value.null, Value.int 0])))).bind fun s20 =>
  (some (some (64 + s19.1))).bind fun o21 =>
  (o21).bind fun b22 =>
  (F_X1_init n s20 o21 ).bind fun s23 =>
  (pF s23 a0 10 4 (va_rf o21)).bind fun s24 =>
  (some (xnew s24 4 (.inr (8, [Value.null, Value.null, Value.null, Value.null])))).bind fun s25 =>
  (some (some (64 + s24.1))).bind fun o26 =>
  (o26).bind fun b27 =>
  (F_X8_init n s25 o26 ).bind fun s28 =>
  (pF s28 a0 10 5 (va_rf o26)).bind fun s29 =>
  (some (xnew s29 80 (.inl (0, 80, .inl fun _ => 0)))).bind fun s30 =>
  (some (some (64 + s29.1))).bind fun o31 =>
  (pF s30 a0 10 6 (va_rf o31)).bind fun s32 =>
  (some (xnew s32 40 (.inl (0, 40, .inl fun _ => 0)))).bind fun s33 =>
  (some (some (64 + s32.1))).bind fun o34 =>
  (pF s33 a0 10 7 (va_rf o34)).bind fun s35 =>
  some s35
def F_X10_feed (n : Nat) (st : xS) (a0 : Option Nat) (a1 : Int32) (a2 : Int32) (a3 : Int32) (a4 : Int32) (a5 : Int32) : Option (Int32 × xS) :=
  (gR st a0 10 0).bind fun v1 =>
  (gI st v1 9 8).bind fun v2 =>
  if (v2 + (20 : Int32)) ≤ (500 : Int32) then
    (gR st a0 10 0).bind fun v3 =>
    (isO st v3 9).bind fun q5 =>
    (F_X9_addBytes n st v3 a1).bind fun s4 =>
    (gR s4 a0 10 0).bind fun v6 =>
    (isO s4 v6 9).bind fun q8 =>
    (F_X9_addBytes n s4 v6 a2).bind fun s7 =>
    (gR s7 a0 10 0).bind fun v9 =>
    (isO s7 v9 9).bind fun q11 =>
    (F_X9_addBytes n s7 v9 a3).bind fun s10 =>
    (gR s10 a0 10 0).bind fun v12 =>
    (isO s10 v12 9).bind fun q14 =>
    (F_X9_addBytes n s10 v12 a4).bind fun s13 =>
    (gR s13 a0 10 0).bind fun v15 =>
    (isO s13 v15 9).bind fun q17 =>
    (F_X9_addBytes n s13 v15 a5).bind fun s16 =>
    (gR s16 a0 10 0).bind fun v18 =>
    (gI s16 v18 9 8).bind fun v19 =>
    some (v19, s16)
  else
    some ((-1 : Int32), st)
def F_X10_end (n : Nat) (st : xS) (a0 : Option Nat) (a1 : Int32) : Option (Int32 × xS) :=
  if a1 < (0 : Int32) then
    some ((-1 : Int32), st)
  else
    (gR st a0 10 0).bind fun v1 =>
    (gI st v1 9 8).bind fun v2 =>
    if a1 ≤ v2 then
      (gR st a0 10 0).bind fun v3 =>
      (pF st v3 9 8 (.int a1)).bind fun s4 =>
      some (a1, s4)
    else
      some ((-1 : Int32), st)
def F_X10_readInto (n : Nat) (st : xS) (a0 : Option Nat) (a1 : Int32) (a2 : Int32) (a3 : Int32) : Option (xS) :=
  ((if a1 = (0 : Int32) then
      (some (xnew st 4 (.inr (4, [Value.null, Value.null, Value.int 0, Value.int 0])))).bind fun s1 =>
      (some (some (64 + st.1))).bind fun o2 =>
      (o2).bind fun b3 =>
      (F_X4_init n s1 o2 ).bind fun s4 =>
      (gR s4 a0 10 2).bind fun v5 =>
      (gR s4 a0 10 0).bind fun v6 =>
      (gR s4 v6 9 7).bind fun v7 =>
      (isO s4 v5 7).bind fun q9 =>
      (F_X7_read n s4 v5 v7 a3 a1 o2).bind fun s8 =>
      (gR s8 a0 10 2).bind fun v10 =>
      (gI s8 v10 7 8).bind fun v11 =>
      ((if v11 = (0 : Int32) then
          (gR s8 a0 10 0).bind fun v12 =>
          (isO s8 v12 9).bind fun q14 =>
          (F_X9_putLeague n s8 v12 a2 o2).bind fun s13 =>
          some s13
        else
          some s8) : Option (xS)).bind fun q15 =>
      some q15
    else
      if a1 = (1 : Int32) then
        (some (xnew st 1 (.inr (3, [Value.null])))).bind fun s16 =>
        (some (some (64 + st.1))).bind fun o17 =>
        (o17).bind fun b18 =>
        (F_X3_init n s16 o17 ).bind fun s19 =>
        (gR s19 a0 10 2).bind fun v20 =>
        (gR s19 a0 10 0).bind fun v21 =>
        (gR s19 v21 9 7).bind fun v22 =>
        (isO s19 v20 7).bind fun q24 =>
        (F_X7_read n s19 v20 v22 a3 a1 o17).bind fun s23 =>
        (gR s23 a0 10 2).bind fun v25 =>
        (gI s23 v25 7 8).bind fun v26 =>
        ((if v26 = (0 : Int32) then
            (gR s23 a0 10 0).bind fun v27 =>
            (isO s23 v27 9).bind fun q29 =>
            (F_X9_putLaw n s23 v27 a2 o17).bind fun s28 =>
            some s28
          else
            some s23) : Option (xS)).bind fun q30 =>
        some q30
      else
        (some (xnew st 8 (.inr (6, [Value.null, Value.int 0, Value.int 0, Value.int 0, Value.int 0, Value.int 0, Value.int 0, Value.int 0])))).bind fun s31 =>
        (some (some (64 + st.1))).bind fun o32 =>
        (o32).bind fun b33 =>
        (F_X6_init n s31 o32 ).bind fun s34 =>
        (gR s34 a0 10 2).bind fun v35 =>
        (gR s34 a0 10 0).bind fun v36 =>
        (gR s34 v36 9 7).bind fun v37 =>
        (isO s34 v35 7).bind fun q39 =>
        (F_X7_read n s34 v35 v37 a3 a1 o32).bind fun s38 =>
        (gR s38 a0 10 2).bind fun v40 =>
        (gI s38 v40 7 8).bind fun v41 =>
        if v41 = (0 : Int32) then
          (gR s38 a0 10 0).bind fun v42 =>
          (isO s38 v42 9).bind fun q44 =>
          (F_X9_putPlan n s38 v42 a2 o32).bind fun s43 =>
          some s43
        else
          some s38) : Option (xS)).bind fun q45 =>
  some q45
def F_X10_text (n : Nat) (st : xS) (a0 : Option Nat) (a1 : Int32) (a2 : Int32) : Option (Int32 × xS) :=
  (gR st a0 10 0).bind fun v1 =>
  (gI st v1 9 8).bind fun v2 =>
  (gR st a0 10 0).bind fun v3 =>
  (isO st v3 9).bind fun q5 =>
  (F_X9_slotOf n st v3 a1 a2).bind fun v4 =>
  (gR st a0 10 0).bind fun v6 =>
  (pF st v6 9 8 (.int (0 : Int32))).bind fun s7 =>
  (gR s7 a0 10 0).bind fun v8 =>
  (pF s7 v8 9 9 (.int (0 : Int32))).bind fun s9 =>
  (gR s9 a0 10 0).bind fun v10 =>
  (pF s9 v10 9 10 (.int (-1 : Int32))).bind fun s11 =>
  if v4 = (-1 : Int32) then
    some ((-2 : Int32), s11)
  else
    (isO s11 a0 10).bind fun q13 =>
    (F_X10_readInto n s11 a0 a1 v4 v2).bind fun s12 =>
    (gR s12 a0 10 0).bind fun v14 =>
    (gR s12 a0 10 2).bind fun v15 =>
    (gI s12 v15 7 8).bind fun v16 =>
    (pF s12 v14 9 9 (.int v16)).bind fun s17 =>
    (gR s17 a0 10 0).bind fun v18 =>
    (gR s17 a0 10 2).bind fun v19 =>
    (gI s17 v19 7 9).bind fun v20 =>
    (pF s17 v18 9 10 (.int v20)).bind fun s21 =>
    (gR s21 a0 10 0).bind fun v22 =>
    (gI s21 v22 9 9).bind fun v23 =>
    ((if v23 = (0 : Int32) then
        some v4
      else
        some (-1 : Int32)) : Option (Int32)).bind fun q24 =>
    some (q24, s21)
def F_X10_fault (n : Nat) (st : xS) (a0 : Option Nat) (a1 : Int32) : Option (Int32) :=
  if a1 = (0 : Int32) then
    (gR st a0 10 0).bind fun v1 =>
    (gI st v1 9 9).bind fun v2 =>
    some v2
  else
    ((if a1 = (1 : Int32) then
        (gR st a0 10 0).bind fun v3 =>
        (gI st v3 9 10).bind fun v4 =>
        some v4
      else
        some (-1 : Int32)) : Option (Int32)).bind fun q5 =>
    some q5
def F_X10_league (n : Nat) (st : xS) (a0 : Option Nat) (a1 : Int32) (a2 : Int32) : Option (Int32) :=
  (gR st a0 10 0).bind fun v1 =>
  (isO st v1 9).bind fun q3 =>
  (F_X9_leagueAt n st v1 a1).bind fun v2 =>
  ((if v2 = none then
      some (-1 : Int32)
    else
      (isO st v2 4).bind fun q5 =>
      (F_X4_number n st v2 a2).bind fun v4 =>
      some v4) : Option (Int32)).bind fun q6 =>
  some q6
def F_X10_miles (n : Nat) (st : xS) (a0 : Option Nat) (a1 : Int32) (a2 : Int32) (a3 : Int32) : Option (Int32) :=
  (gR st a0 10 0).bind fun v1 =>
  (isO st v1 9).bind fun q3 =>
  (F_X9_leagueAt n st v1 a1).bind fun v2 =>
  if v2 = none then
    some (-1 : Int32)
  else
    (isO st v2 4).bind fun q5 =>
    (F_X4_hasGround n st v2 a2).bind fun v4 =>
    if v4 = (0 : Int32) then
      some (-1 : Int32)
    else
      (isO st v2 4).bind fun q7 =>
      (F_X4_hasGround n st v2 a3).bind fun v6 =>
      if v6 = (0 : Int32) then
        some (-1 : Int32)
      else
        (isO st v2 4).bind fun q9 =>
        (F_X4_apart n st v2 a2 a3).bind fun v8 =>
        some v8
def F_X10_law (n : Nat) (st : xS) (a0 : Option Nat) (a1 : Int32) (a2 : Int32) : Option (Int32) :=
  (gR st a0 10 0).bind fun v1 =>
  (isO st v1 9).bind fun q3 =>
  (F_X9_lawAt n st v1 a1).bind fun v2 =>
  ((if v2 = none then
      some (-1 : Int32)
    else
      (isO st v2 3).bind fun q5 =>
      (F_X3_number n st v2 a2).bind fun v4 =>
      some v4) : Option (Int32)).bind fun q6 =>
  some q6
def F_X10_plan (n : Nat) (st : xS) (a0 : Option Nat) (a1 : Int32) (a2 : Int32) (a3 : Int32) : Option (Int32) :=
  (gR st a0 10 0).bind fun v1 =>
  (isO st v1 9).bind fun q3 =>
  (F_X9_planAt n st v1 a1).bind fun v2 =>
  if v2 = none then
    some (-2 : Int32)
  else
    if a2 = (-1 : Int32) then
      ((if a3 = (0 : Int32) then
          (gI st v2 6 1).bind fun v4 =>
          some v4
        else
          some (-2 : Int32)) : Option (Int32)).bind fun q5 =>
      some q5
    else
      (isO st v2 6).bind fun q7 =>
      (F_X6_hasGame n st v2 a2).bind fun v6 =>
      if v6 = (0 : Int32) then
        some (-2 : Int32)
      else
        if a3 < (0 : Int32) then
          some (-2 : Int32)
        else
          if a3 < (6 : Int32) then
            (isO st v2 6).bind fun q9 =>
            (F_X6_of n st v2 a2 a3).bind fun v8 =>
            some v8
          else
            some (-2 : Int32)
def F_X10_goes (n : Nat) (st : xS) (a0 : Option Nat) (a1 : Int32) (a2 : Int32) : Option (Int32 × xS) :=
  (gR st a0 10 3).bind fun v1 =>
  (gR st a0 10 0).bind fun v2 =>
  (isO st v1 5).bind fun q4 =>
  (F_X5_bring n st v1 v2 a1 a2).bind fun p3 =>
  (rz p3.1).bind fun v5 =>
  some (v5, p3.2)
def F_X10_within (n : Nat) (st : xS) (a0 : Int32) (a1 : Int32) (a2 : Int32) : Option (Int32) :=
  ((if a0 < a1 then
      some (0 : Int32)
    else
      if a2 < a0 then
        some (0 : Int32)
      else
        some (1 : Int32)) : Option (Int32)).bind fun q1 =>
  (rz q1).bind fun v2 =>
  some v2
def F_X10_isPart (n : Nat) (st : xS) (a0 : Int32) : Option (Int32) :=
  (F_X10_within n st a0 (0 : Int32) (5 : Int32)).bind fun v1 =>
  (rz v1).bind fun v2 =>
  some v2
def F_X10_worth (n : Nat) (st : xS) (a0 : Option Nat) (a1 : Int32) (a2 : Int32) (a3 : Int32) (a4 : Int32) (a5 : Int32) : Option (Int32 × xS) :=
  (gR st a0 10 3).bind fun v1 =>
  (gR st a0 10 0).bind fun v2 =>
  (isO st v1 5).bind fun q4 =>
  (F_X5_bring_ n st v1 v2 a1 a2 a3).bind fun p3 =>
  if p3.1 = (0 : Int32) then
    some ((-1 : Int32), p3.2)
  else
    (gR p3.2 a0 10 3).bind fun v5 =>
    (gR p3.2 v5 5 2).bind fun v6 =>
    (isO p3.2 v6 6).bind fun q8 =>
    (F_X6_hasGame n p3.2 v6 a4).bind fun v7 =>
    if v7 = (0 : Int32) then
      some ((-1 : Int32), p3.2)
    else
      (gR p3.2 a0 10 3).bind fun v9 =>
      (isO p3.2 v9 5).bind fun q11 =>
      (F_X5_weigh n p3.2 v9 a4).bind fun s10 =>
      if a5 = (6 : Int32) then
        (gR s10 a0 10 3).bind fun v12 =>
        (gI s10 v12 5 4).bind fun v13 =>
        some (v13, s10)
      else if a5 = (7 : Int32) then
        (gR s10 a0 10 3).bind fun v14 =>
        (gI s10 v14 5 5).bind fun v15 =>
        some (v15, s10)
      else if a5 = (8 : Int32) then
        (gR s10 a0 10 3).bind fun v16 =>
        (gI s10 v16 5 6).bind fun v17 =>
        some (v17, s10)
      else if a5 = (9 : Int32) then
        (gR s10 a0 10 3).bind fun v18 =>
        (gI s10 v18 5 7).bind fun v19 =>
        some (v19, s10)
      else 
        (F_X10_isPart n s10 a5).bind fun v20 =>
        ((if v20 = (0 : Int32) then
            some (-1 : Int32)
          else
            (gR s10 a0 10 3).bind fun v21 =>
            (isO s10 v21 5).bind fun q23 =>
            (F_X5_worthOf n s10 v21 a5).bind fun v22 =>
            some v22) : Option (Int32)).bind fun q24 =>
        some (q24, s10)
def F_X10_chance (n : Nat) (st : xS) (a0 : Option Nat) (a1 : Int32) (a2 : Int32) (a3 : Int32) (a4 : Int32) (a5 : Int32) : Option (Int64 × xS) :=
  if a5 < (0 : Int32) then
    some ((-1 : Int64), st)
  else
    if (3 : Int32) < a5 then
      some ((-1 : Int64), st)
    else
      (gR st a0 10 3).bind fun v1 =>
      (gR st a0 10 0).bind fun v2 =>
      (isO st v1 5).bind fun q4 =>
      (F_X5_bring_ n st v1 v2 a1 a2 a3).bind fun p3 =>
      if p3.1 = (0 : Int32) then
        some ((-1 : Int64), p3.2)
      else
        (gR p3.2 a0 10 3).bind fun v5 =>
        (gR p3.2 v5 5 2).bind fun v6 =>
        (isO p3.2 v6 6).bind fun q8 =>
        (F_X6_hasGame n p3.2 v6 a4).bind fun v7 =>
        if v7 = (0 : Int32) then
          some ((-1 : Int64), p3.2)
        else
          (gR p3.2 a0 10 3).bind fun v9 =>
          (isO p3.2 v9 5).bind fun q11 =>
          (F_X5_weigh n p3.2 v9 a4).bind fun s10 =>
          (gR s10 a0 10 3).bind fun v12 =>
          (isO s10 v12 5).bind fun q14 =>
          (F_X5_outlook n s10 v12 a5).bind fun v13 =>
          some (v13, s10)
