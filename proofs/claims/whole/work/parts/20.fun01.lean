/-! printed by a program: the methods as functions of a pure state -/
def F_X10_playOne (n : Nat) (st : xS) (a0 : Option Nat) (a1 : Int32) (a2 : Int32) (a3 : Option Nat) : Option (xS) :=
  (gR st a0 10 3).bind fun v1 =>
  (gI st v1 5 6).bind fun v2 =>
  (isO st a3 0).bind fun q4 =>
  (F_X0_shots n st a3 v2).bind fun p3 =>
  (gR p3.2 a0 10 3).bind fun v5 =>
  (gI p3.2 v5 5 7).bind fun v6 =>
  (isO p3.2 a3 0).bind fun q8 =>
  (F_X0_shots n p3.2 a3 v6).bind fun p7 =>
  (isO p7.2 a3 0).bind fun q10 =>
  (F_X0_below n p7.2 a3 (4 : Int32)).bind fun p9 =>
  (isO p9.2 a3 0).bind fun q12 =>
  (F_X0_below n p9.2 a3 (4 : Int32)).bind fun p11 =>
  (gR p11.2 a0 10 3).bind fun v13 =>
  (isO p11.2 v13 5).bind fun q15 =>
  (F_X5_worthOf n p11.2 v13 (4 : Int32)).bind fun v14 =>
  ((if v14 ≤ (0 : Int32) then
      some (0 : Int32)
    else
      some (1 : Int32)) : Option (Int32)).bind fun q16 =>
  (some (p11.1 + q16)).bind fun v17 =>
  (gR p11.2 a0 10 3).bind fun v18 =>
  (gR p11.2 v18 5 2).bind fun v19 =>
  (isO p11.2 v19 6).bind fun q21 =>
  (F_X6_of n p11.2 v19 a1 (4 : Int32)).bind fun v20 =>
  (isO p11.2 a3 0).bind fun q23 =>
  (F_X0_below n p11.2 a3 (3 : Int32)).bind fun p22 =>
  ((if v20 = (1 : Int32) then
      if (p3.1 - p7.1) = (-1 : Int32) then
        some (2 : Int32)
      else
        some (0 : Int32)
    else
      some (0 : Int32)) : Option (Int32)).bind fun q24 =>
  (some (((1 : Int32) + p22.1) + q24)).bind fun v25 =>
  (gR p22.2 a0 10 0).bind fun v26 =>
  (isO p22.2 v26 9).bind fun q28 =>
  (F_X9_newNote n p22.2 v26 ).bind fun p27 =>
  (gR p27.2 a0 10 0).bind fun v29 =>
  (gR p27.2 a0 10 3).bind fun v30 =>
  (gR p27.2 v30 5 2).bind fun v31 =>
  (isO p27.2 v31 6).bind fun q33 =>
  (F_X6_of n p27.2 v31 a1 (0 : Int32)).bind fun v32 =>
  (isO p27.2 v29 9).bind fun q35 =>
  (F_X9_setNote n p27.2 v29 p27.1 (0 : Int32) v32).bind fun s34 =>
  (gR s34 a0 10 0).bind fun v36 =>
  (gR s34 a0 10 3).bind fun v37 =>
  (gR s34 v37 5 2).bind fun v38 =>
  (isO s34 v38 6).bind fun q40 =>
  (F_X6_of n s34 v38 a1 (1 : Int32)).bind fun v39 =>
  (isO s34 v36 9).bind fun q42 =>
  (F_X9_setNote n s34 v36 p27.1 (1 : Int32) v39).bind fun s41 =>
  (gR s41 a0 10 0).bind fun v43 =>
  (isO s41 v43 9).bind fun q45 =>
  (F_X9_setNote n s41 v43 p27.1 (2 : Int32) a2).bind fun s44 =>
  (gR s44 a0 10 0).bind fun v46 =>
  (isO s44 v46 9).bind fun q48 =>
  (F_X9_setNote n s44 v46 p27.1 (3 : Int32) p3.1).bind fun s47 =>
  (gR s47 a0 10 0).bind fun v49 =>
  (isO s47 v49 9).bind fun q51 =>
  (F_X9_setNote n s47 v49 p27.1 (4 : Int32) p7.1).bind fun s50 =>
  (gR s50 a0 10 0).bind fun v52 =>
  (isO s50 v52 9).bind fun q54 =>
  (F_X9_setNote n s50 v52 p27.1 (5 : Int32) p9.1).bind fun s53 =>
  (gR s53 a0 10 0).bind fun v55 =>
  (isO s53 v55 9).bind fun q57 =>
  (F_X9_setNote n s53 v55 p27.1 (6 : Int32) v17).bind fun s56 =>
  (gR s56 a0 10 0).bind fun v58 =>
  (isO s56 v58 9).bind fun q60 =>
  (F_X9_setNote n s56 v58 p27.1 (7 : Int32) v25).bind fun s59 =>
  (gR s59 a0 10 0).bind fun v61 =>
  (gR s59 a0 10 3).bind fun v62 =>
  (gI s59 v62 5 5).bind fun v63 =>
  (isO s59 v61 9).bind fun q65 =>
  (F_X9_setNote n s59 v61 p27.1 (8 : Int32) v63).bind fun s64 =>
  (gR s64 a0 10 0).bind fun v66 =>
  (isO s64 v66 9).bind fun q68 =>
  (F_X9_setNote n s64 v66 p27.1 (9 : Int32) v20).bind fun s67 =>
  some s67
def F_X10_isYear (n : Nat) (st : xS) (a0 : Int32) : Option (Int32) :=
  (F_X10_within n st a0 (0 : Int32) (59 : Int32)).bind fun v1 =>
  (rz v1).bind fun v2 =>
  some v2
def F_X10_play_L71 (n : Nat) : Nat → xS → Option Nat → Int32 → Int32 → Option Nat → Int32 → Option ((xS))
  | 0 => fun _ _ _ _ _ _ => none
  | k + 1 => fun st a0 a5 a6 a7 a8 =>
    if a6 ≤ a8 then
      some st
    else
      (gR st a0 10 3).bind fun v16 =>
      (isO st v16 5).bind fun q18 =>
      (F_X5_weigh n st v16 a8).bind fun s17 =>
      (isO s17 a0 10).bind fun q20 =>
      (F_X10_playOne n s17 a0 a8 a5 a7).bind fun s19 =>
      (some (a8 + (1 : Int32))).bind fun v21 =>
      F_X10_play_L71 n k s19 a0 a5 a6 a7 v21
def F_X10_play (n : Nat) (st : xS) (a0 : Option Nat) (a1 : Int32) (a2 : Int32) (a3 : Int32) (a4 : Int32) (a5 : Int32) : Option (Int32 × xS) :=
  (F_X10_isYear n st a5).bind fun v1 =>
  if v1 = (0 : Int32) then
    some ((-1 : Int32), st)
  else
    (gR st a0 10 3).bind fun v2 =>
    (gR st a0 10 0).bind fun v3 =>
    (isO st v2 5).bind fun q5 =>
    (F_X5_bring_ n st v2 v3 a1 a2 a3).bind fun p4 =>
    if p4.1 = (0 : Int32) then
      some ((-1 : Int32), p4.2)
    else
      (gR p4.2 a0 10 3).bind fun v6 =>
      (gR p4.2 v6 5 2).bind fun v7 =>
      (gI p4.2 v7 6 1).bind fun v8 =>
      (gR p4.2 a0 10 0).bind fun v9 =>
      (isO p4.2 v9 9).bind fun q11 =>
      (F_X9_howMany n p4.2 v9 (3 : Int32)).bind fun v10 =>
      if (v10 + v8) ≤ (80 : Int32) then
        (some (xnew p4.2 1 (.inr (0, [Value.int 0])))).bind fun s12 =>
        (some (some (64 + p4.2.1))).bind fun o13 =>
        (o13).bind fun b14 =>
        (F_X0_init n s12 o13 a4).bind fun s15 =>
        (F_X10_play_L71 n n s15 a0 a5 v8 o13 (0 : Int32)).bind fun q22 =>
        some (v8, q22)
      else
        some ((-1 : Int32), p4.2)
def F_X10_isSide (n : Nat) (st : xS) (a0 : Int32) : Option (Int32) :=
  (F_X10_within n st a0 (0 : Int32) (7 : Int32)).bind fun v1 =>
  (rz v1).bind fun v2 =>
  some v2
def F_X10_isJudge (n : Nat) (st : xS) (a0 : Int32) : Option (Int32) :=
  (F_X10_within n st a0 (0 : Int32) (7 : Int32)).bind fun v1 =>
  (rz v1).bind fun v2 =>
  some v2
def F_X10_note (n : Nat) (st : xS) (a0 : Option Nat) (a1 : Int32) (a2 : Int32) (a3 : Int32) (a4 : Int32) (a5 : Int32) (a6 : Int32) (a7 : Int32) (a8 : Int32) : Option (Int32 × xS) :=
  (F_X10_isSide n st a1).bind fun v1 =>
  ((if v1 = (0 : Int32) then
      some (0 : Int32)
    else
      (F_X10_isSide n st a2).bind fun v2 =>
      if v2 = (0 : Int32) then
        some (0 : Int32)
      else
        if a1 = a2 then
          some (0 : Int32)
        else
          some (1 : Int32)) : Option (Int32)).bind fun q3 =>
  (F_X10_within n st a4 (0 : Int32) (99 : Int32)).bind fun v4 =>
  ((if v4 = (0 : Int32) then
      some (0 : Int32)
    else
      (F_X10_within n st a5 (0 : Int32) (99 : Int32)).bind fun v5 =>
      if v5 = (0 : Int32) then
        some (0 : Int32)
      else
        some (1 : Int32)) : Option (Int32)).bind fun q6 =>
  (F_X10_within n st a6 (0 : Int32) (19 : Int32)).bind fun v7 =>
  ((if v7 = (0 : Int32) then
      some (0 : Int32)
    else
      (F_X10_within n st a7 (0 : Int32) (999 : Int32)).bind fun v8 =>
      if v8 = (0 : Int32) then
        some (0 : Int32)
      else
        (F_X10_isJudge n st a8).bind fun v9 =>
        if v9 = (0 : Int32) then
          some (0 : Int32)
        else
          some (1 : Int32)) : Option (Int32)).bind fun q10 =>
  if q3 = (0 : Int32) then
    some ((-1 : Int32), st)
  else
    if q6 = (0 : Int32) then
      some ((-1 : Int32), st)
    else
      if q10 = (0 : Int32) then
        some ((-1 : Int32), st)
      else
        (F_X10_isYear n st a3).bind fun v11 =>
        if v11 = (0 : Int32) then
          some ((-1 : Int32), st)
        else
          (gR st a0 10 0).bind fun v12 =>
          (isO st v12 9).bind fun q14 =>
          (F_X9_howMany n st v12 (3 : Int32)).bind fun v13 =>
          if v13 < (80 : Int32) then
            (gR st a0 10 0).bind fun v15 =>
            (isO st v15 9).bind fun q17 =>
            (F_X9_newNote n st v15 ).bind fun p16 =>
            (gR p16.2 a0 10 0).bind fun v18 =>
            (isO p16.2 v18 9).bind fun q20 =>
            (F_X9_setNote n p16.2 v18 p16.1 (0 : Int32) a1).bind fun s19 =>
            (gR s19 a0 10 0).bind fun v21 =>
            (isO s19 v21 9).bind fun q23 =>
            (F_X9_setNote n s19 v21 p16.1 (1 : Int32) a2).bind fun s22 =>
            (gR s22 a0 10 0).bind fun v24 =>
            (isO s22 v24 9).bind fun q26 =>
            (F_X9_setNote n s22 v24 p16.1 (2 : Int32) a3).bind fun s25 =>
            (gR s25 a0 10 0).bind fun v27 =>
            (dI a4 (10 : Int32)).bind fun v28 =>
            (isO s25 v27 9).bind fun q30 =>
            (F_X9_setNote n s25 v27 p16.1 (3 : Int32) v28).bind fun s29 =>
            (gR s29 a0 10 0).bind fun v31 =>
            (dR a4 (10 : Int32)).bind fun v32 =>
            (isO s29 v31 9).bind fun q34 =>
            (F_X9_setNote n s29 v31 p16.1 (4 : Int32) v32).bind fun s33 =>
            (gR s33 a0 10 0).bind fun v35 =>
            (dI a5 (10 : Int32)).bind fun v36 =>
            (isO s33 v35 9).bind fun q38 =>
            (F_X9_setNote n s33 v35 p16.1 (5 : Int32) v36).bind fun s37 =>
            (gR s37 a0 10 0).bind fun v39 =>
            (dR a5 (10 : Int32)).bind fun v40 =>
            (isO s37 v39 9).bind fun q42 =>
            (F_X9_setNote n s37 v39 p16.1 (6 : Int32) v40).bind fun s41 =>
            (gR s41 a0 10 0).bind fun v43 =>
            (isO s41 v43 9).bind fun q45 =>
            (F_X9_setNote n s41 v43 p16.1 (7 : Int32) a6).bind fun s44 =>
            (gR s44 a0 10 0).bind fun v46 =>
            (isO s44 v46 9).bind fun q48 =>
            (F_X9_setNote n s44 v46 p16.1 (8 : Int32) a7).bind fun s47 =>
            (gR s47 a0 10 0).bind fun v49 =>
            (isO s47 v49 9).bind fun q51 =>
            (F_X9_setNote n s47 v49 p16.1 (9 : Int32) a8).bind fun s50 =>
            some (p16.1, s50)
          else
            some ((-1 : Int32), st)
def F_X10_noted (n : Nat) (st : xS) (a0 : Option Nat) (a1 : Int32) (a2 : Int32) : Option (Int32) :=
  if a1 < (0 : Int32) then
    some (-1 : Int32)
  else
    (gR st a0 10 0).bind fun v1 =>
    (isO st v1 9).bind fun q3 =>
    (F_X9_howMany n st v1 (3 : Int32)).bind fun v2 =>
    if v2 ≤ a1 then
      some (-1 : Int32)
    else
      if a2 < (0 : Int32) then
        some (-1 : Int32)
      else
        if a2 < (10 : Int32) then
          (gR st a0 10 0).bind fun v4 =>
          (isO st v4 9).bind fun q6 =>
          (F_X9_noteOf n st v4 a1 a2).bind fun v5 =>
          some v5
        else
          some (-1 : Int32)
def F_X10_pickedOf (n : Nat) (st : xS) (a0 : Option Nat) (a1 : Int32) (a2 : Int32) : Option (Int32) :=
  (gR st a0 10 0).bind fun v1 =>
  (gR st a0 10 6).bind fun v2 =>
  (F_X10_valueAt n st v2 a1).bind fun v3 =>
  (isO st v1 9).bind fun q5 =>
  (F_X9_noteOf n st v1 v3 a2).bind fun v4 =>
  some v4
def F_X10_margin (n : Nat) (st : xS) (a0 : Option Nat) (a1 : Int32) : Option (Int32) :=
  (isO st a0 10).bind fun q2 =>
  (F_X10_pickedOf n st a0 a1 (3 : Int32)).bind fun v1 =>
  (isO st a0 10).bind fun q4 =>
  (F_X10_pickedOf n st a0 a1 (4 : Int32)).bind fun v3 =>
  some (v1 - v3)
def F_X10_counted (n : Nat) (st : xS) (a0 : Option Nat) (a1 : Int32) (a2 : Int32) : Option (Int32) :=
  (isO st a0 10).bind fun q2 =>
  (F_X10_margin n st a0 a1).bind fun v1 =>
  if a2 = (0 : Int32) then
    some (1 : Int32)
  else if a2 = (1 : Int32) then
    ((if v1 ≤ (0 : Int32) then
        some (0 : Int32)
      else
        some (1 : Int32)) : Option (Int32)).bind fun q3 =>
    some q3
  else if a2 = (2 : Int32) then
    ((if v1 = (0 : Int32) then
        some (1 : Int32)
      else
        some (0 : Int32)) : Option (Int32)).bind fun q4 =>
    some q4
  else if a2 = (3 : Int32) then
    ((if (0 : Int32) ≤ v1 then
        some (0 : Int32)
      else
        some (1 : Int32)) : Option (Int32)).bind fun q5 =>
    some q5
  else if a2 = (4 : Int32) then
    (isO st a0 10).bind fun q7 =>
    (F_X10_pickedOf n st a0 a1 (3 : Int32)).bind fun v6 =>
    some v6
  else 
    (isO st a0 10).bind fun q9 =>
    (F_X10_pickedOf n st a0 a1 (4 : Int32)).bind fun v8 =>
    some v8
def F_X10_pick_L55 (n : Nat) : Nat → xS → Option Nat → Int32 → Int32 → Int32 → Int32 → Int32 → Int32 → Option ((Int32 × xS))
  | 0 => fun _ _ _ _ _ _ _ _ => none
  | k + 1 => fun st a0 a1 a2 a3 a4 a5 a6 =>
    if a6 ≤ (0 : Int32) then
      some (a6, st)
    else
      (gR st a0 10 0).bind fun v10 =>
      (gR st a0 10 6).bind fun v11 =>
      (aI st v11 (a6 - (1 : Int32))).bind fun v12 =>
      (isO st v10 9).bind fun q14 =>
      (F_X9_noteOf n st v10 v12 (2 : Int32)).bind fun v13 =>
      if v13 ≤ a5 then
        some (a6, st)
      else
        (gR st a0 10 6).bind fun v15 =>
        (gR st a0 10 6).bind fun v16 =>
        (aI st v16 (a6 - (1 : Int32))).bind fun v17 =>
        (sS 0 st v15 a6 v17).bind fun s18 =>
        (some (a6 + (-1 : Int32))).bind fun v19 =>
        F_X10_pick_L55 n k s18 a0 a1 a2 a3 a4 a5 v19
def F_X10_pick_L5 (n : Nat) : Nat → xS → Option Nat → Int32 → Int32 → Int32 → Int32 → Option ((Int32 × xS))
  | 0 => fun _ _ _ _ _ _ => none
  | k + 1 => fun st a0 a1 a2 a3 a4 =>
    (gR st a0 10 0).bind fun v1 =>
    (isO st v1 9).bind fun q3 =>
    (F_X9_howMany n st v1 (3 : Int32)).bind fun v2 =>
    if v2 ≤ a4 then
      some (a3, st)
    else
      (gR st a0 10 6).bind fun v4 =>
      (aN st v4).bind fun v5 =>
      if v5 ≤ a3 then
        some (a3, st)
      else
        (gR st a0 10 0).bind fun v6 =>
        (isO st v6 9).bind fun q8 =>
        (F_X9_noteOf n st v6 a4 (2 : Int32)).bind fun v7 =>
        (F_X10_within n st v7 a1 a2).bind fun v9 =>
        ((if v9 = (0 : Int32) then
            some (a3, st)
          else
            (F_X10_pick_L55 n n st a0 a1 a2 a3 a4 v7 a3).bind fun q20 =>
            (gR q20.2 a0 10 6).bind fun v21 =>
            (sS 0 q20.2 v21 q20.1 a4).bind fun s22 =>
            (some (a3 + (1 : Int32))).bind fun v23 =>
            some (v23, s22)) : Option (Int32 × xS)).bind fun q24 =>
        (some (a4 + (1 : Int32))).bind fun v25 =>
        F_X10_pick_L5 n k q24.2 a0 a1 a2 q24.1 v25
def F_X10_pick (n : Nat) (st : xS) (a0 : Option Nat) (a1 : Int32) (a2 : Int32) : Option (Int32 × xS) :=
  (F_X10_pick_L5 n n st a0 a1 a2 (0 : Int32) (0 : Int32)).bind fun q26 =>
  some (q26.1, q26.2)
def F_X10_sum_L25 (n : Nat) : Nat → xS → Option Nat → Int32 → Int32 → Int32 → Int32 → Option ((Int32))
  | 0 => fun _ _ _ _ _ _ => none
  | k + 1 => fun st a0 a3 a4 a5 a6 =>
    if a4 ≤ a6 then
      some a5
    else
      (isO st a0 10).bind fun q4 =>
      (F_X10_counted n st a0 a6 a3).bind fun v3 =>
      (some (a5 + v3)).bind fun v5 =>
      (some (a6 + (1 : Int32))).bind fun v6 =>
      F_X10_sum_L25 n k st a0 a3 a4 v5 v6
def F_X10_sum (n : Nat) (st : xS) (a0 : Option Nat) (a1 : Int32) (a2 : Int32) (a3 : Int32) : Option (Int32 × xS) :=
  if a3 < (0 : Int32) then
    some ((-1 : Int32), st)
  else
    if a3 ≤ (5 : Int32) then
      (isO st a0 10).bind fun q2 =>
      (F_X10_pick n st a0 a1 a2).bind fun p1 =>
      (F_X10_sum_L25 n n p1.2 a0 a3 p1.1 (0 : Int32) (0 : Int32)).bind fun q7 =>
      some (q7, p1.2)
    else
      some ((-1 : Int32), st)
def F_X10_fillTable_L17 (n : Nat) : Nat → xS → Option Nat → Int32 → Int32 → Option ((xS))
  | 0 => fun _ _ _ _ => none
  | k + 1 => fun st a0 a3 a4 =>
    if a3 ≤ a4 then
      some st
    else
      (isO st a0 10).bind fun q7 =>
      (F_X10_pickedOf n st a0 a4 (3 : Int32)).bind fun v6 =>
      (isO st a0 10).bind fun q9 =>
      (F_X10_pickedOf n st a0 a4 (4 : Int32)).bind fun v8 =>
      (gR st a0 10 5).bind fun v10 =>
      (isO st a0 10).bind fun q12 =>
      (F_X10_pickedOf n st a0 a4 (0 : Int32)).bind fun v11 =>
      (isO st v10 8).bind fun q14 =>
      (F_X8_add n st v10 v11 v6 v8).bind fun s13 =>
      (gR s13 a0 10 5).bind fun v15 =>
      (isO s13 a0 10).bind fun q17 =>
      (F_X10_pickedOf n s13 a0 a4 (1 : Int32)).bind fun v16 =>
      (isO s13 v15 8).bind fun q19 =>
      (F_X8_add n s13 v15 v16 v8 v6).bind fun s18 =>
      (some (a4 + (1 : Int32))).bind fun v20 =>
      F_X10_fillTable_L17 n k s18 a0 a3 v20
def F_X10_fillTable (n : Nat) (st : xS) (a0 : Option Nat) (a1 : Int32) (a2 : Int32) : Option (xS) :=
  (gR st a0 10 5).bind fun v1 =>
  (isO st v1 8).bind fun q3 =>
  (F_X8_clear n st v1 ).bind fun s2 =>
  (isO s2 a0 10).bind fun q5 =>
  (F_X10_pick n s2 a0 a1 a2).bind fun p4 =>
  (F_X10_fillTable_L17 n n p4.2 a0 p4.1 (0 : Int32)).bind fun q21 =>
  some q21
def F_X10_table (n : Nat) (st : xS) (a0 : Option Nat) (a1 : Int32) (a2 : Int32) (a3 : Int32) : Option (Int32 × xS) :=
  (isO st a0 10).bind fun q2 =>
  (F_X10_fillTable n st a0 a1 a2).bind fun s1 =>
  (gR s1 a0 10 5).bind fun v3 =>
  (isO s1 v3 8).bind fun q5 =>
  (F_X8_sideAt n s1 v3 a3).bind fun v4 =>
  some (v4, s1)
def F_X10_points (n : Nat) (st : xS) (a0 : Option Nat) (a1 : Int32) (a2 : Int32) (a3 : Int32) : Option (Int32 × xS) :=
  (F_X10_isSide n st a3).bind fun v1 =>
  if v1 = (0 : Int32) then
    some ((-1 : Int32), st)
  else
    (isO st a0 10).bind fun q3 =>
    (F_X10_fillTable n st a0 a1 a2).bind fun s2 =>
    (gR s2 a0 10 5).bind fun v4 =>
    (isO s2 v4 8).bind fun q6 =>
    (F_X8_pointsOf n s2 v4 a3).bind fun v5 =>
    some (v5, s2)
def F_X10_marginsTogether_L4 (n : Nat) : Nat → xS → Option Nat → Int32 → Int32 → Int32 → Option ((Int32))
  | 0 => fun _ _ _ _ _ => none
  | k + 1 => fun st a0 a1 a2 a3 =>
    if a1 ≤ a3 then
      some a2
    else
      (isO st a0 10).bind fun q2 =>
      (F_X10_margin n st a0 a3).bind fun v1 =>
      (some (a2 + v1)).bind fun v3 =>
      (some (a3 + (1 : Int32))).bind fun v4 =>
      F_X10_marginsTogether_L4 n k st a0 a1 v3 v4
def F_X10_marginsTogether (n : Nat) (st : xS) (a0 : Option Nat) (a1 : Int32) : Option (Int32) :=
  (F_X10_marginsTogether_L4 n n st a0 a1 (0 : Int32) (0 : Int32)).bind fun q5 =>
  some q5
def F_X10_common_L15 (n : Nat) : Nat → xS → Int64 → Int64 → Int32 → Option ((Int64))
  | 0 => fun _ _ _ _ => none
  | k + 1 => fun st a4 a6 a8 =>
    if (100 : Int32) ≤ a8 then
      some a4
    else
      if (lg_cmp a6 (0 : Int64)) = (0 : Int32) then
        some a4
      else
        (dM a4 a6).bind fun v3 =>
        (some (a8 + (1 : Int32))).bind fun v4 =>
        F_X10_common_L15 n k st a6 v3 v4
def F_X10_common (n : Nat) (st : xS) (a0 : Int64) (a2 : Int64) : Option (Int64) :=
  (some (labs a0)).bind fun v1 =>
  (some (labs a2)).bind fun v2 =>
  (F_X10_common_L15 n n st v1 v2 (0 : Int32)).bind fun q5 =>
  some q5
def F_X10_share (n : Nat) (st : xS) (a0 : Int64) (a2 : Int64) (a4 : Int32) : Option (Int64) :=
  (F_X10_common n st a0 a2).bind fun v1 =>
  if (lg_cmp v1 (0 : Int64)) = (0 : Int32) then
    some (0 : Int64)
  else
    ((if (0 : Int32) ≤ (lg_cmp a2 (0 : Int64)) then
        some v1
      else
        some (-v1)) : Option (Int64)).bind fun q2 =>
    ((if a4 = (0 : Int32) then
        (dL a0 q2).bind fun v3 =>
        some v3
      else
        (dL a2 q2).bind fun v4 =>
        some v4) : Option (Int64)).bind fun q5 =>
    some q5
def F_X10_alone (n : Nat) (st : xS) (a0 : Option Nat) (a1 : Int32) (a2 : Int32) (a3 : Int32) : Option (Int32 × xS) :=
  (isO st a0 10).bind fun q2 =>
  (F_X10_pick n st a0 a1 a2).bind fun p1 =>
  ((if p1.1 = (0 : Int32) then
      some (-1000000 : Int32)
    else
      (isO p1.2 a0 10).bind fun q4 =>
      (F_X10_marginsTogether n p1.2 a0 p1.1).bind fun v3 =>
      (F_X10_share n p1.2 v3.toInt64 p1.1.toInt64 a3).bind fun v5 =>
      some v5.toInt32) : Option (Int32)).bind fun q6 =>
  some (q6, p1.2)
def F_X10_fitYears_L17 (n : Nat) : Nat → xS → Option Nat → Int32 → Int32 → Option ((xS))
  | 0 => fun _ _ _ _ => none
  | k + 1 => fun st a0 a3 a4 =>
    if a3 ≤ a4 then
      some st
    else
      (gR st a0 10 4).bind fun v6 =>
      (isO st a0 10).bind fun q8 =>
      (F_X10_pickedOf n st a0 a4 (0 : Int32)).bind fun v7 =>
      (isO st a0 10).bind fun q10 =>
      (F_X10_pickedOf n st a0 a4 (1 : Int32)).bind fun v9 =>
      (isO st v6 1).bind fun q12 =>
      (F_X1_see n st v6 v7 v9).bind fun s11 =>
      (some (a4 + (1 : Int32))).bind fun v13 =>
      F_X10_fitYears_L17 n k s11 a0 a3 v13
def F_X10_fitYears_L65 (n : Nat) : Nat → xS → Option Nat → Int32 → Int32 → Option ((xS))
  | 0 => fun _ _ _ _ => none
  | k + 1 => fun st a0 a3 a4 =>
    if a3 ≤ a4 then
      some st
    else
      (gR st a0 10 4).bind fun v19 =>
      (isO st a0 10).bind fun q21 =>
      (F_X10_pickedOf n st a0 a4 (0 : Int32)).bind fun v20 =>
      (isO st a0 10).bind fun q23 =>
      (F_X10_pickedOf n st a0 a4 (1 : Int32)).bind fun v22 =>
      (isO st a0 10).bind fun q25 =>
      (F_X10_margin n st a0 a4).bind fun v24 =>
      (isO st v19 1).bind fun q27 =>
      (F_X1_add n st v19 v20 v22 v24).bind fun s26 =>
      (some (a4 + (1 : Int32))).bind fun v28 =>
      F_X10_fitYears_L65 n k s26 a0 a3 v28
def F_X10_fitYears (n : Nat) (st : xS) (a0 : Option Nat) (a1 : Int32) (a2 : Int32) : Option (Int32 × xS) :=
  (isO st a0 10).bind fun q2 =>
  (F_X10_pick n st a0 a1 a2).bind fun p1 =>
  (gR p1.2 a0 10 4).bind fun v3 =>
  (isO p1.2 v3 1).bind fun q5 =>
  (F_X1_clear n p1.2 v3 ).bind fun s4 =>
  (F_X10_fitYears_L17 n n s4 a0 p1.1 (0 : Int32)).bind fun q14 =>
  (gR q14 a0 10 4).bind fun v15 =>
  (isO q14 v15 1).bind fun q17 =>
  (F_X1_arrange n q14 v15 ).bind fun p16 =>
  if p16.1 = (0 : Int32) then
    (rz (0 : Int32)).bind fun v18 =>
    some (v18, p16.2)
  else
    (F_X10_fitYears_L65 n n p16.2 a0 p1.1 (0 : Int32)).bind fun q29 =>
    (gR q29 a0 10 4).bind fun v30 =>
    (isO q29 v30 1).bind fun q32 =>
    (F_X1_solve n q29 v30 ).bind fun p31 =>
    (rz p31.1).bind fun v33 =>
    some (v33, p31.2)
def F_X10_both (n : Nat) (st : xS) (a0 : Option Nat) (a1 : Int32) (a2 : Int32) (a3 : Int32) (a4 : Int32) : Option (Int64 × xS) :=
  (isO st a0 10).bind fun q2 =>
  (F_X10_fitYears n st a0 a1 a2).bind fun p1 =>
  if p1.1 = (0 : Int32) then
    some ((-1000000000000000 : Int64), p1.2)
  else
    if a3 = (-1 : Int32) then
      (gR p1.2 a0 10 4).bind fun v3 =>
      (isO p1.2 v3 1).bind fun q5 =>
      (F_X1_home n p1.2 v3 ).bind fun v4 =>
      (gR p1.2 a0 10 4).bind fun v6 =>
      (isO p1.2 v6 1).bind fun q8 =>
      (F_X1_under n p1.2 v6 ).bind fun v7 =>
      (F_X10_share n p1.2 v4 v7 a4).bind fun v9 =>
      some (v9, p1.2)
    else
      (gR p1.2 a0 10 4).bind fun v10 =>
      (isO p1.2 v10 1).bind fun q12 =>
      (F_X1_played n p1.2 v10 a3).bind fun v11 =>
      ((if v11 = (0 : Int32) then
          some (-1000000000000000 : Int64)
        else
          (gR p1.2 a0 10 4).bind fun v13 =>
          (isO p1.2 v13 1).bind fun q15 =>
          (F_X1_strength n p1.2 v13 a3).bind fun v14 =>
          (gR p1.2 a0 10 4).bind fun v16 =>
          (isO p1.2 v16 1).bind fun q18 =>
          (F_X1_under n p1.2 v16 ).bind fun v17 =>
          (F_X10_share n p1.2 v14 v17 a4).bind fun v19 =>
          some v19) : Option (Int64)).bind fun q20 =>
      some (q20, p1.2)
def F_X10_off (n : Nat) (st : xS) (a0 : Option Nat) (a1 : Int32) (a2 : Int32) (a3 : Int32) : Option (Int64 × xS) :=
  (isO st a0 10).bind fun q2 =>
  (F_X10_fitYears n st a0 a1 a2).bind fun p1 =>
  if p1.1 = (0 : Int32) then
    some ((-1000000000000000 : Int64), p1.2)
  else
    (isO p1.2 a0 10).bind fun q4 =>
    (F_X10_pick n p1.2 a0 a1 a2).bind fun p3 =>
    (isO p3.2 a0 10).bind fun q6 =>
    (F_X10_marginsTogether n p3.2 a0 p3.1).bind fun v5 =>
    (gR p3.2 a0 10 4).bind fun v7 =>
    (isO p3.2 v7 1).bind fun q9 =>
    (F_X1_under n p3.2 v7 ).bind fun v8 =>
    (gR p3.2 a0 10 4).bind fun v10 =>
    (isO p3.2 v10 1).bind fun q12 =>
    (F_X1_home n p3.2 v10 ).bind fun v11 =>
    (gR p3.2 a0 10 4).bind fun v13 =>
    (isO p3.2 v13 1).bind fun q15 =>
    (F_X1_under n p3.2 v13 ).bind fun v14 =>
    (F_X10_share n p3.2 ((v5.toInt64 * v8) - (p3.1.toInt64 * v11)) (p3.1.toInt64 * v14) a3).bind fun v16 =>
    some (v16, p3.2)
def F_X10_lessOther (n : Nat) (st : xS) (a0 : Int32) (a1 : Int32) (a2 : Int32) (a3 : Int32) (a4 : Int32) : Option (Int32) :=
  if a1 = (0 : Int32) then
    some (-1000000 : Int32)
  else
    if a3 = (0 : Int32) then
      some (-1000000 : Int32)
    else
      (F_X10_share n st (((a0 * a3) - (a2 * a1)).toInt64) ((a1 * a3).toInt64) a4).bind fun v1 =>
      some v1.toInt32
def F_X10_people_L34 (n : Nat) : Nat → xS → Option Nat → Int32 → Int32 → Int32 → Int32 → Int32 → Int32 → Int32 → Option ((Int32 × Int32 × Int32))
  | 0 => fun _ _ _ _ _ _ _ _ _ => none
  | k + 1 => fun st a0 a3 a4 a5 a6 a7 a8 a9 =>
    if a5 ≤ a9 then
      some (a6, a7, a8)
    else
      (isO st a0 10).bind fun q5 =>
      (F_X10_pickedOf n st a0 a9 (8 : Int32)).bind fun v4 =>
      ((if v4 < a3 then
          (isO st a0 10).bind fun q7 =>
          (F_X10_margin n st a0 a9).bind fun v6 =>
          (some (a8 + v6)).bind fun v8 =>
          some (a6, a7, v8)
        else
          (some (a6 + (1 : Int32))).bind fun v9 =>
          (isO st a0 10).bind fun q11 =>
          (F_X10_margin n st a0 a9).bind fun v10 =>
          (some (a7 + v10)).bind fun v12 =>
          some (v9, v12, a8)) : Option (Int32 × Int32 × Int32)).bind fun q13 =>
      (some (a9 + (1 : Int32))).bind fun v14 =>
      F_X10_people_L34 n k st a0 a3 a4 a5 q13.1 q13.2.1 q13.2.2 v14
def F_X10_people (n : Nat) (st : xS) (a0 : Option Nat) (a1 : Int32) (a2 : Int32) (a3 : Int32) (a4 : Int32) : Option (Int32 × xS) :=
  (F_X10_within n st a3 (0 : Int32) (1000 : Int32)).bind fun v1 =>
  if v1 = (0 : Int32) then
    some ((-1000000 : Int32), st)
  else
    (isO st a0 10).bind fun q3 =>
    (F_X10_pick n st a0 a1 a2).bind fun p2 =>
    (F_X10_people_L34 n n p2.2 a0 a3 a4 p2.1 (0 : Int32) (0 : Int32) (0 : Int32) (0 : Int32)).bind fun q15 =>
    (F_X10_lessOther n p2.2 q15.2.1 q15.1 q15.2.2 (p2.1 - q15.1) a4).bind fun v16 =>
    some (v16, p2.2)
def F_X10_slope_L23 (n : Nat) : Nat → xS → Option Nat → Int32 → Int32 → Int32 → Int32 → Int32 → Int32 → Int32 → Option ((Int32 × Int32 × Int32 × Int32))
  | 0 => fun _ _ _ _ _ _ _ _ _ => none
  | k + 1 => fun st a0 a3 a4 a5 a6 a7 a8 a9 =>
    if a4 ≤ a9 then
      some (a5, a6, a7, a8)
    else
      (isO st a0 10).bind fun q4 =>
      (F_X10_pickedOf n st a0 a9 (2 : Int32)).bind fun v3 =>
      (some (a5 + v3)).bind fun v5 =>
      (isO st a0 10).bind fun q7 =>
      (F_X10_margin n st a0 a9).bind fun v6 =>
      (some (a6 + v6)).bind fun v8 =>
      (some (a7 + (v3 * v3))).bind fun v9 =>
      (isO st a0 10).bind fun q11 =>
      (F_X10_margin n st a0 a9).bind fun v10 =>
      (some (a8 + (v3 * v10))).bind fun v12 =>
      (some (a9 + (1 : Int32))).bind fun v13 =>
      F_X10_slope_L23 n k st a0 a3 a4 v5 v8 v9 v12 v13
def F_X10_slope (n : Nat) (st : xS) (a0 : Option Nat) (a1 : Int32) (a2 : Int32) (a3 : Int32) : Option (Int32 × xS) :=
  (isO st a0 10).bind fun q2 =>
  (F_X10_pick n st a0 a1 a2).bind fun p1 =>
  (F_X10_slope_L23 n n p1.2 a0 a3 p1.1 (0 : Int32) (0 : Int32) (0 : Int32) (0 : Int32) (0 : Int32)).bind fun q14 =>
  (some ((p1.1 * q14.2.2.1) - (q14.1 * q14.1))).bind fun v15 =>
  ((if v15 = (0 : Int32) then
      some (-1000000 : Int32)
    else
      (F_X10_share n p1.2 (((p1.1 * q14.2.2.2) - (q14.1 * q14.2.1)).toInt64) v15.toInt64 a3).bind fun v16 =>
      some v16.toInt32) : Option (Int32)).bind fun q17 =>
  some (q17, p1.2)
def F_X10_ways_L24 (n : Nat) : Nat → xS → Int32 → Int32 → Int64 → Int32 → Option ((Int64))
  | 0 => fun _ _ _ _ _ => none
  | k + 1 => fun st a0 a2 a3 a5 =>
    if a2 < a5 then
      some a3
    else
      (dL (a3 * (((a0 - a2) + a5).toInt64)) a5.toInt64).bind fun v2 =>
      (some (a5 + (1 : Int32))).bind fun v3 =>
      F_X10_ways_L24 n k st a0 a2 v2 v3
def F_X10_ways (n : Nat) (st : xS) (a0 : Int32) (a1 : Int32) : Option (Int64) :=
  if a1 < (0 : Int32) then
    some (0 : Int64)
  else
    if a1 ≤ a0 then
      (some (imin a1 (a0 - a1))).bind fun v1 =>
      (F_X10_ways_L24 n n st a0 v1 (1 : Int64) (1 : Int32)).bind fun q4 =>
      some q4
    else
      some (0 : Int64)
def F_X10_waysWithAtLeast_L6 (n : Nat) : Nat → xS → Int32 → Int32 → Int32 → Int64 → Int32 → Option ((Int64))
  | 0 => fun _ _ _ _ _ _ => none
  | k + 1 => fun st a0 a1 a2 a4 a6 =>
    if a1 < a6 then
      some a4
    else
      (F_X10_ways n st a1 a6).bind fun v1 =>
      (F_X10_ways n st (a0 - a1) (a2 - a6)).bind fun v2 =>
      (some (a4 + (v1 * v2))).bind fun v3 =>
      (some (a6 + (1 : Int32))).bind fun v4 =>
      F_X10_waysWithAtLeast_L6 n k st a0 a1 a2 v3 v4
def F_X10_waysWithAtLeast (n : Nat) (st : xS) (a0 : Int32) (a1 : Int32) (a2 : Int32) (a3 : Int32) : Option (Int64) :=
  (F_X10_waysWithAtLeast_L6 n n st a0 a1 a2 (0 : Int64) a3).bind fun q5 =>
  some q5
def F_X10_odds_L42 (n : Nat) : Nat → xS → Option Nat → Int32 → Int32 → Int32 → Int32 → Int32 → Int32 → Int32 → Option ((Int32 × Int32 × Int32))
  | 0 => fun _ _ _ _ _ _ _ _ _ => none
  | k + 1 => fun st a0 a3 a4 a5 a6 a7 a8 a9 =>
    if a5 ≤ a9 then
      some (a6, a7, a8)
    else
      (isO st a0 10).bind fun q5 =>
      (F_X10_margin n st a0 a9).bind fun v4 =>
      ((if v4 ≤ (0 : Int32) then
          some (0 : Int32)
        else
          some (1 : Int32)) : Option (Int32)).bind fun q6 =>
      (some (a6 + q6)).bind fun v7 =>
      (isO st a0 10).bind fun q9 =>
      (F_X10_pickedOf n st a0 a9 (8 : Int32)).bind fun v8 =>
      ((if v8 < a3 then
          some (a7, a8)
        else
          (some (a7 + (1 : Int32))).bind fun v10 =>
          (some (a8 + q6)).bind fun v11 =>
          some (v10, v11)) : Option (Int32 × Int32)).bind fun q12 =>
      (some (a9 + (1 : Int32))).bind fun v13 =>
      F_X10_odds_L42 n k st a0 a3 a4 a5 v7 q12.1 q12.2 v13
def F_X10_odds (n : Nat) (st : xS) (a0 : Option Nat) (a1 : Int32) (a2 : Int32) (a3 : Int32) (a4 : Int32) : Option (Int64 × xS) :=
  (isO st a0 10).bind fun q2 =>
  (F_X10_pick n st a0 a1 a2).bind fun p1 =>
  if (60 : Int32) < p1.1 then
    some ((-1 : Int64), p1.2)
  else
    (F_X10_within n p1.2 a3 (0 : Int32) (1000 : Int32)).bind fun v3 =>
    if v3 = (0 : Int32) then
      some ((-1 : Int64), p1.2)
    else
      (F_X10_odds_L42 n n p1.2 a0 a3 a4 p1.1 (0 : Int32) (0 : Int32) (0 : Int32) (0 : Int32)).bind fun q14 =>
      ((if a4 = (0 : Int32) then
          (F_X10_waysWithAtLeast n p1.2 p1.1 q14.1 q14.2.1 q14.2.2).bind fun v15 =>
          some v15
        else
          (F_X10_ways n p1.2 p1.1 q14.2.1).bind fun v16 =>
          some v16) : Option (Int64)).bind fun q17 =>
      some (q17, p1.2)
def F_X10_carded_L17 (n : Nat) : Nat → xS → Option Nat → Int32 → Int32 → Int32 → Int32 → Int32 → Option ((Int32 × Int32))
  | 0 => fun _ _ _ _ _ _ _ => none
  | k + 1 => fun st a0 a3 a4 a5 a6 a7 =>
    if a4 ≤ a7 then
      some (a5, a6)
    else
      (isO st a0 10).bind fun q4 =>
      (F_X10_pickedOf n st a0 a7 (9 : Int32)).bind fun v3 =>
      ((if v3 = a3 then
          (some (a5 + (1 : Int32))).bind fun v5 =>
          (isO st a0 10).bind fun q7 =>
          (F_X10_pickedOf n st a0 a7 (6 : Int32)).bind fun v6 =>
          (isO st a0 10).bind fun q9 =>
          (F_X10_pickedOf n st a0 a7 (5 : Int32)).bind fun v8 =>
          (some (a6 + (v6 - v8))).bind fun v10 =>
          some (v5, v10)
        else
          some (a5, a6)) : Option (Int32 × Int32)).bind fun q11 =>
      (some (a7 + (1 : Int32))).bind fun v12 =>
      F_X10_carded_L17 n k st a0 a3 a4 q11.1 q11.2 v12
def F_X10_carded (n : Nat) (st : xS) (a0 : Option Nat) (a1 : Int32) (a2 : Int32) (a3 : Int32) : Option (Int32 × xS) :=
  (isO st a0 10).bind fun q2 =>
  (F_X10_pick n st a0 a1 a2).bind fun p1 =>
  (F_X10_carded_L17 n n p1.2 a0 a3 p1.1 (0 : Int32) (0 : Int32) (0 : Int32)).bind fun q13 =>
  ((if q13.1 = (0 : Int32) then
      some (-1000000 : Int32)
    else
      some q13.2) : Option (Int32)).bind fun q14 =>
  some (q14, p1.2)
def F_X10_longer_L23 (n : Nat) : Nat → xS → Option Nat → Int32 → Int32 → Int32 → Int32 → Int32 → Int32 → Int32 → Int32 → Option ((Int32 × Int32 × Int32 × Int32))
  | 0 => fun _ _ _ _ _ _ _ _ _ _ => none
  | k + 1 => fun st a0 a3 a4 a5 a6 a7 a8 a9 a10 =>
    if a5 ≤ a10 then
      some (a6, a7, a8, a9)
    else
      (isO st a0 10).bind fun q4 =>
      (F_X10_pickedOf n st a0 a10 (9 : Int32)).bind fun v3 =>
      ((if v3 = a3 then
          (isO st a0 10).bind fun q6 =>
          (F_X10_margin n st a0 a10).bind fun v5 =>
          if v5 = (-1 : Int32) then
            (some (a6 + (1 : Int32))).bind fun v7 =>
            (isO st a0 10).bind fun q9 =>
            (F_X10_pickedOf n st a0 a10 (7 : Int32)).bind fun v8 =>
            (some (a7 + v8)).bind fun v10 =>
            some (v7, v10, a8, a9)
          else
            (isO st a0 10).bind fun q12 =>
            (F_X10_margin n st a0 a10).bind fun v11 =>
            if v11 = (1 : Int32) then
              (some (a8 + (1 : Int32))).bind fun v13 =>
              (isO st a0 10).bind fun q15 =>
              (F_X10_pickedOf n st a0 a10 (7 : Int32)).bind fun v14 =>
              (some (a9 + v14)).bind fun v16 =>
              some (a6, a7, v13, v16)
            else
              some (a6, a7, a8, a9)
        else
          some (a6, a7, a8, a9)) : Option (Int32 × Int32 × Int32 × Int32)).bind fun q17 =>
      (some (a10 + (1 : Int32))).bind fun v18 =>
      F_X10_longer_L23 n k st a0 a3 a4 a5 q17.1 q17.2.1 q17.2.2.1 q17.2.2.2 v18
def F_X10_longer (n : Nat) (st : xS) (a0 : Option Nat) (a1 : Int32) (a2 : Int32) (a3 : Int32) (a4 : Int32) : Option (Int32 × xS) :=
  (isO st a0 10).bind fun q2 =>
  (F_X10_pick n st a0 a1 a2).bind fun p1 =>
  (F_X10_longer_L23 n n p1.2 a0 a3 a4 p1.1 (0 : Int32) (0 : Int32) (0 : Int32) (0 : Int32) (0 : Int32)).bind fun q19 =>
  (F_X10_lessOther n p1.2 q19.2.1 q19.1 q19.2.2.2 q19.2.2.1 a4).bind fun v20 =>
  some (v20, p1.2)
def F_X10_fresh_L38 (n : Nat) : Nat → xS → Option Nat → Int32 → Int32 → Int32 → Int32 → Int32 → Int32 → Option ((Int32 × Int32))
  | 0 => fun _ _ _ _ _ _ _ _ => none
  | k + 1 => fun st a0 a1 a3 a4 a5 a6 a7 =>
    if a4 ≤ a7 then
      some (a5, a6)
    else
      if ((2 : Int32) * a3) ≤ a5 then
        some (a5, a6)
      else
        (isO st a0 10).bind fun q6 =>
        (F_X10_pickedOf n st a0 a7 (0 : Int32)).bind fun v5 =>
        ((if v5 = a1 then
            (isO st a0 10).bind fun q8 =>
            (F_X10_margin n st a0 a7).bind fun v7 =>
            (F_X10_pointsBy n st v7).bind fun v9 =>
            ((if a3 ≤ a5 then
                some (-v9)
              else
                some v9) : Option (Int32)).bind fun q10 =>
            (some (a6 + q10)).bind fun v11 =>
            (some (a5 + (1 : Int32))).bind fun v12 =>
            some (v12, v11)
          else
            some (a5, a6)) : Option (Int32 × Int32)).bind fun q13 =>
        (some (a7 + (1 : Int32))).bind fun v14 =>
        F_X10_fresh_L38 n k st a0 a1 a3 a4 q13.1 q13.2 v14
def F_X10_fresh (n : Nat) (st : xS) (a0 : Option Nat) (a1 : Int32) (a2 : Int32) (a3 : Int32) : Option (Int32 × xS) :=
  (F_X10_isSide n st a1).bind fun v1 =>
  if v1 = (0 : Int32) then
    some ((-1000000 : Int32), st)
  else
    (F_X10_within n st a3 (1 : Int32) (40 : Int32)).bind fun v2 =>
    if v2 = (0 : Int32) then
      some ((-1000000 : Int32), st)
    else
      (isO st a0 10).bind fun q4 =>
      (F_X10_pick n st a0 a2 (59 : Int32)).bind fun p3 =>
      (F_X10_fresh_L38 n n p3.2 a0 a1 a3 p3.1 (0 : Int32) (0 : Int32) (0 : Int32)).bind fun q15 =>
      ((if ((2 : Int32) * a3) ≤ q15.1 then
          some q15.2
        else
          some (-1000000 : Int32)) : Option (Int32)).bind fun q16 =>
      some (q16, p3.2)
def F_X10_films (n : Nat) (st : xS) (a0 : Option Nat) (a1 : Int32) (a2 : Int32) (a3 : Int32) (a4 : Int32) : Option (Int32 × xS) :=
  (F_X10_isJudge n st a1).bind fun v1 =>
  if v1 = (0 : Int32) then
    (rz (0 : Int32)).bind fun v2 =>
    some (v2, st)
  else
    (F_X10_within n st a3 (0 : Int32) (30 : Int32)).bind fun v3 =>
    if v3 = (0 : Int32) then
      (rz (0 : Int32)).bind fun v4 =>
      some (v4, st)
    else
      (F_X10_within n st a4 (0 : Int32) a3).bind fun v5 =>
      if v5 = (0 : Int32) then
        (rz (0 : Int32)).bind fun v6 =>
        some (v6, st)
      else
        (gR st a0 10 0).bind fun v7 =>
        (isO st v7 9).bind fun q9 =>
        (F_X9_setFilms n st v7 a1 a2 a3 a4).bind fun s8 =>
        (rz (1 : Int32)).bind fun v10 =>
        some (v10, s8)
def F_X10_looser (n : Nat) (st : xS) (a0 : Option Nat) (a1 : Int32) (a2 : Int32) : Option (Int64) :=
  (F_X10_isJudge n st a1).bind fun v1 =>
  if v1 = (0 : Int32) then
    some (-1 : Int64)
  else
    (gR st a0 10 0).bind fun v2 =>
    (isO st v2 9).bind fun q4 =>
    (F_X9_shownBy n st v2 a1 (0 : Int32)).bind fun v3 =>
    (gR st a0 10 0).bind fun v5 =>
    (isO st v5 9).bind fun q7 =>
    (F_X9_shownBy n st v5 a1 (1 : Int32)).bind fun v6 =>
    (some (v3 + v6)).bind fun v8 =>
    (gR st a0 10 0).bind fun v9 =>
    (isO st v9 9).bind fun q11 =>
    (F_X9_gaveBy n st v9 a1 (0 : Int32)).bind fun v10 =>
    (gR st a0 10 0).bind fun v12 =>
    (isO st v12 9).bind fun q14 =>
    (F_X9_gaveBy n st v12 a1 (1 : Int32)).bind fun v13 =>
    (some (v10 + v13)).bind fun v15 =>
    ((if a2 = (0 : Int32) then
        (F_X10_waysWithAtLeast n st v8 v15 v3 v10).bind fun v16 =>
        some v16
      else
        (F_X10_ways n st v8 v3).bind fun v17 =>
        some v17) : Option (Int64)).bind fun q18 =>
    some q18
def F_X10_isPrice (n : Nat) (st : xS) (a0 : Int32) : Option (Int32) :=
  (F_X10_within n st a0 (101 : Int32) (999 : Int32)).bind fun v1 =>
  (rz v1).bind fun v2 =>
  some v2
def F_X10_had_L24 (n : Nat) : Nat → xS → Option Nat → Int32 → Int32 → Int32 → Int32 → Option ((Int32))
  | 0 => fun _ _ _ _ _ _ => none
  | k + 1 => fun st a0 a3 a4 a5 a6 =>
    if a4 ≤ a6 then
      some a5
    else
      (isO st a0 10).bind fun q5 =>
      (F_X10_margin n st a0 a6).bind fun v4 =>
      ((if v4 ≤ (0 : Int32) then
          some (-100 : Int32)
        else
          some (a3 - (100 : Int32))) : Option (Int32)).bind fun q6 =>
      (some (a5 + q6)).bind fun v7 =>
      (some (a6 + (1 : Int32))).bind fun v8 =>
      F_X10_had_L24 n k st a0 a3 a4 v7 v8
def F_X10_had (n : Nat) (st : xS) (a0 : Option Nat) (a1 : Int32) (a2 : Int32) (a3 : Int32) : Option (Int32 × xS) :=
  (F_X10_isPrice n st a3).bind fun v1 =>
  if v1 = (0 : Int32) then
    some ((-1000000 : Int32), st)
  else
    (isO st a0 10).bind fun q3 =>
    (F_X10_pick n st a0 a1 a2).bind fun p2 =>
    (F_X10_had_L24 n n p2.2 a0 a3 p2.1 (0 : Int32) (0 : Int32)).bind fun q9 =>
    some (q9, p2.2)
def F_X10_fixed_L35 (n : Nat) : Nat → xS → Option Nat → Int32 → Int32 → Int32 → Int32 → Int32 → Option (Int32 × xS)
  | 0 => fun _ _ _ _ _ _ _ => none
  | k + 1 => fun st a0 a3 a4 a5 a6 a7 =>
    if a5 ≤ a7 then
      some (a5, st)
    else
      (isO st a0 10).bind fun q6 =>
      (F_X10_margin n st a0 a7).bind fun v5 =>
      ((if v5 ≤ (0 : Int32) then
          some (-100 : Int32)
        else
          some (a3 - (100 : Int32))) : Option (Int32)).bind fun q7 =>
      (some (a6 + q7)).bind fun v8 =>
      if (-a4) ≤ v8 then
        (some (a7 + (1 : Int32))).bind fun v9 =>
        F_X10_fixed_L35 n k st a0 a3 a4 a5 v8 v9
      else
        some (a7 + (1 : Int32), st)
def F_X10_fixed (n : Nat) (st : xS) (a0 : Option Nat) (a1 : Int32) (a2 : Int32) (a3 : Int32) (a4 : Int32) : Option (Int32 × xS) :=
  (F_X10_isPrice n st a3).bind fun v1 =>
  if v1 = (0 : Int32) then
    some ((-1 : Int32), st)
  else
    (F_X10_within n st a4 (0 : Int32) (9999 : Int32)).bind fun v2 =>
    if v2 = (0 : Int32) then
      some ((-1 : Int32), st)
    else
      (isO st a0 10).bind fun q4 =>
      (F_X10_pick n st a0 a1 a2).bind fun p3 =>
      F_X10_fixed_L35 n n p3.2 a0 a3 a4 p3.1 (0 : Int32) (0 : Int32)
def F_X10_travel (n : Nat) (st : xS) (a0 : Option Nat) (a1 : Int32) (a2 : Int32) (a3 : Int32) : Option (Int32 × xS) :=
  (gR st a0 10 3).bind fun v1 =>
  (gR st a0 10 0).bind fun v2 =>
  (isO st v1 5).bind fun q4 =>
  (F_X5_bring n st v1 v2 a1 a2).bind fun p3 =>
  if p3.1 = (0 : Int32) then
    some ((-1 : Int32), p3.2)
  else
    (gR p3.2 a0 10 3).bind fun v5 =>
    (gR p3.2 v5 5 0).bind fun v6 =>
    (isO p3.2 v6 4).bind fun q8 =>
    (F_X4_hasSide n p3.2 v6 a3).bind fun v7 =>
    if v7 = (0 : Int32) then
      some ((-1 : Int32), p3.2)
    else
      (gR p3.2 a0 10 3).bind fun v9 =>
      (isO p3.2 v9 5).bind fun q11 =>
      (F_X5_walk n p3.2 v9 (-1 : Int32)).bind fun p10 =>
      (gR p10.2 a0 10 3).bind fun v12 =>
      (isO p10.2 v12 5).bind fun q14 =>
      (F_X5_walkedBy n p10.2 v12 a3).bind fun v13 =>
      some (v13, p10.2)
def F_X10_runs_L33 (n : Nat) : Nat → xS → Int32 → Int32 → Option Nat → Int32 → Int32 → Int32 → Option ((Int32))
  | 0 => fun _ _ _ _ _ _ _ => none
  | k + 1 => fun st a2 a3 a4 a5 a6 a7 =>
    (gI st a4 6 1).bind fun v5 =>
    if v5 ≤ a7 then
      some a5
    else
      ((if a3 = (0 : Int32) then
          some (1 : Int32)
        else
          some (0 : Int32)) : Option (Int32)).bind fun q6 =>
      (isO st a4 6).bind fun q8 =>
      (F_X6_of n st a4 a7 q6).bind fun v7 =>
      ((if v7 = a2 then
          (some (a6 + (1 : Int32))).bind fun v9 =>
          (some (imax a5 v9)).bind fun v10 =>
          some (v10, v9)
        else
          (isO st a4 6).bind fun q12 =>
          (F_X6_plays n st a4 a7 a2).bind fun v11 =>
          if v11 = (0 : Int32) then
            some (a5, a6)
          else
            some (a5, (0 : Int32))) : Option (Int32 × Int32)).bind fun q13 =>
      (some (a7 + (1 : Int32))).bind fun v14 =>
      F_X10_runs_L33 n k st a2 a3 a4 q13.1 q13.2 v14
def F_X10_runs (n : Nat) (st : xS) (a0 : Option Nat) (a1 : Int32) (a2 : Int32) (a3 : Int32) : Option (Int32) :=
  (gR st a0 10 0).bind fun v1 =>
  (isO st v1 9).bind fun q3 =>
  (F_X9_planAt n st v1 a1).bind fun v2 =>
  if v2 = none then
    some (-1 : Int32)
  else
    (F_X10_isSide n st a2).bind fun v4 =>
    if v4 = (0 : Int32) then
      some (-1 : Int32)
    else
      (F_X10_runs_L33 n n st a2 a3 v2 (0 : Int32) (0 : Int32) (0 : Int32)).bind fun q15 =>
      some q15
def F_X10_early_L43 (n : Nat) : Nat → xS → Option Nat → Int32 → Int32 → Int32 → Option ((Int32))
  | 0 => fun _ _ _ _ _ => none
  | k + 1 => fun st a0 a3 a4 a5 =>
    if a3 ≤ a5 then
      some a4
    else
      (gR st a0 10 3).bind fun v9 =>
      (isO st v9 5).bind fun q11 =>
      (F_X5_lead n st v9 a5).bind fun v10 =>
      (some (a4 + v10)).bind fun v12 =>
      (some (a5 + (1 : Int32))).bind fun v13 =>
      F_X10_early_L43 n k st a0 a3 v12 v13
def F_X10_early (n : Nat) (st : xS) (a0 : Option Nat) (a1 : Int32) (a2 : Int32) (a3 : Int32) : Option (Int32 × xS) :=
  (gR st a0 10 3).bind fun v1 =>
  (gR st a0 10 0).bind fun v2 =>
  (isO st v1 5).bind fun q4 =>
  (F_X5_bring n st v1 v2 a1 a2).bind fun p3 =>
  if p3.1 = (0 : Int32) then
    some ((-1000000 : Int32), p3.2)
  else
    (gR p3.2 a0 10 3).bind fun v5 =>
    (gR p3.2 v5 5 2).bind fun v6 =>
    (gI p3.2 v6 6 1).bind fun v7 =>
    (F_X10_within n p3.2 a3 (0 : Int32) v7).bind fun v8 =>
    if v8 = (0 : Int32) then
      some ((-1000000 : Int32), p3.2)
    else
      (F_X10_early_L43 n n p3.2 a0 a3 (0 : Int32) (0 : Int32)).bind fun q14 =>
      some (q14, p3.2)
def F_X10_uneven_L33 (n : Nat) : Nat → xS → Option Nat → Int32 → Int32 → Int32 → Option ((Int32))
  | 0 => fun _ _ _ _ _ => none
  | k + 1 => fun st a2 a3 a4 a5 =>
    if (8 : Int32) ≤ a5 then
      some a3
    else
      (isO st a2 6).bind fun q6 =>
      (F_X6_hosted n st a2 a4 a5).bind fun v5 =>
      (isO st a2 6).bind fun q8 =>
      (F_X6_hosted n st a2 a5 a4).bind fun v7 =>
      ((if v5 = v7 then
          some a3
        else
          (some (a3 + (1 : Int32))).bind fun v9 =>
          some v9) : Option (Int32)).bind fun q10 =>
      (some (a5 + (1 : Int32))).bind fun v11 =>
      F_X10_uneven_L33 n k st a2 q10 a4 v11
def F_X10_uneven_L20 (n : Nat) : Nat → xS → Option Nat → Int32 → Int32 → Option ((Int32))
  | 0 => fun _ _ _ _ => none
  | k + 1 => fun st a2 a3 a4 =>
    if (8 : Int32) ≤ a4 then
      some a3
    else
      (some (a4 + (1 : Int32))).bind fun v4 =>
      (F_X10_uneven_L33 n n st a2 a3 a4 v4).bind fun q12 =>
      (some (a4 + (1 : Int32))).bind fun v13 =>
      F_X10_uneven_L20 n k st a2 q12 v13
def F_X10_uneven (n : Nat) (st : xS) (a0 : Option Nat) (a1 : Int32) : Option (Int32) :=
  (gR st a0 10 0).bind fun v1 =>
  (isO st v1 9).bind fun q3 =>
  (F_X9_planAt n st v1 a1).bind fun v2 =>
  if v2 = none then
    some (-1 : Int32)
  else
    (F_X10_uneven_L20 n n st v2 (0 : Int32) (0 : Int32)).bind fun q14 =>
    some q14
def F_X10_turned_L33 (n : Nat) : Nat → xS → Option Nat → Int32 → Int32 → Int32 → Option ((Int32 × xS))
  | 0 => fun _ _ _ _ _ => none
  | k + 1 => fun st a0 a3 a4 a5 =>
    (gR st a0 10 3).bind fun v8 =>
    (gR st v8 5 2).bind fun v9 =>
    (gI st v9 6 1).bind fun v10 =>
    if v10 ≤ a5 then
      some (a4, st)
    else
      (gR st a0 10 3).bind fun v11 =>
      (isO st v11 5).bind fun q13 =>
      (F_X5_walk n st v11 a5).bind fun p12 =>
      ((if a3 ≤ p12.1 then
          some (a3, a4)
        else
          some (p12.1, a5)) : Option (Int32 × Int32)).bind fun q14 =>
      (some (a5 + (1 : Int32))).bind fun v15 =>
      F_X10_turned_L33 n k p12.2 a0 q14.1 q14.2 v15
def F_X10_turned (n : Nat) (st : xS) (a0 : Option Nat) (a1 : Int32) (a2 : Int32) : Option (Int32 × xS) :=
  (gR st a0 10 3).bind fun v1 =>
  (gR st a0 10 0).bind fun v2 =>
  (isO st v1 5).bind fun q4 =>
  (F_X5_bring n st v1 v2 a1 a2).bind fun p3 =>
  if p3.1 = (0 : Int32) then
    some ((-1 : Int32), p3.2)
  else
    (gR p3.2 a0 10 3).bind fun v5 =>
    (isO p3.2 v5 5).bind fun q7 =>
    (F_X5_walk n p3.2 v5 (-1 : Int32)).bind fun p6 =>
    (F_X10_turned_L33 n n p6.2 a0 p6.1 (-1 : Int32) (0 : Int32)).bind fun q16 =>
    some (q16.1, q16.2)
def F_X10_wakeAlike_L2 (n : Nat) : Nat → xS → Option Nat → Int32 → Int32 → Int32 → Option (Int32)
  | 0 => fun _ _ _ _ _ => none
  | k + 1 => fun st a0 a1 a2 a3 =>
    (gR st a0 10 3).bind fun v1 =>
    (gR st v1 5 2).bind fun v2 =>
    (gI st v2 6 1).bind fun v3 =>
    if v3 ≤ a3 then
      (rz (1 : Int32)).bind fun v4 =>
      some v4
    else
      (gR st a0 10 7).bind fun v5 =>
      (F_X10_valueAt n st v5 a3).bind fun v6 =>
      if ((v6 >>> (a1 &&& 31)) &&& (1 : Int32)) = ((v6 >>> (a2 &&& 31)) &&& (1 : Int32)) then
        (some (a3 + (1 : Int32))).bind fun v7 =>
        F_X10_wakeAlike_L2 n k st a0 a1 a2 v7
      else
        (rz (0 : Int32)).bind fun v8 =>
        some v8
def F_X10_wakeAlike (n : Nat) (st : xS) (a0 : Option Nat) (a1 : Int32) (a2 : Int32) : Option (Int32) :=
  F_X10_wakeAlike_L2 n n st a0 a1 a2 (0 : Int32)
def F_X10_wake_L37 (n : Nat) : Nat → xS → Option Nat → Int32 → Int32 → Int32 → Option ((Int32))
  | 0 => fun _ _ _ _ _ => none
  | k + 1 => fun st a0 a1 a2 a3 =>
    if (6 : Int32) ≤ a3 then
      some a2
    else
      (gR st a0 10 3).bind fun v9 =>
      (isO st v9 5).bind fun q11 =>
      (F_X5_worthOf n st v9 a3).bind fun v10 =>
      ((if v10 ≤ (0 : Int32) then
          some a2
        else
          (some (a2 ||| ((1 : Int32) <<< (a3 &&& 31)))).bind fun v12 =>
          some v12) : Option (Int32)).bind fun q13 =>
      (some (a3 + (1 : Int32))).bind fun v14 =>
      F_X10_wake_L37 n k st a0 a1 q13 v14
def F_X10_wake_L2 (n : Nat) : Nat → xS → Option Nat → Int32 → Option ((xS))
  | 0 => fun _ _ _ => none
  | k + 1 => fun st a0 a1 =>
    (gR st a0 10 3).bind fun v1 =>
    (gR st v1 5 2).bind fun v2 =>
    (gI st v2 6 1).bind fun v3 =>
    if v3 ≤ a1 then
      some st
    else
      (gR st a0 10 7).bind fun v4 =>
      (aN st v4).bind fun v5 =>
      if v5 ≤ a1 then
        some st
      else
        (gR st a0 10 3).bind fun v6 =>
        (isO st v6 5).bind fun q8 =>
        (F_X5_weigh n st v6 a1).bind fun s7 =>
        (F_X10_wake_L37 n n s7 a0 a1 (0 : Int32) (0 : Int32)).bind fun q15 =>
        (gR s7 a0 10 7).bind fun v16 =>
        (sS 0 s7 v16 a1 q15).bind fun s17 =>
        (some (a1 + (1 : Int32))).bind fun v18 =>
        F_X10_wake_L2 n k s17 a0 v18
def F_X10_wake (n : Nat) (st : xS) (a0 : Option Nat) : Option (xS) :=
  (F_X10_wake_L2 n n st a0 (0 : Int32)).bind fun q19 =>
  some q19
def F_X10_like_L37 (n : Nat) : Nat → xS → Option Nat → Int32 → Int32 → Int32 → Option ((Int32))
  | 0 => fun _ _ _ _ _ => none
  | k + 1 => fun st a0 a4 a5 a6 =>
    if (6 : Int32) ≤ a6 then
      some a5
    else
      (isO st a0 10).bind fun q9 =>
      (F_X10_wakeAlike n st a0 a4 a6).bind fun v8 =>
      ((if v8 = (0 : Int32) then
          some a5
        else
          (some (a5 ||| ((1 : Int32) <<< (a6 &&& 31)))).bind fun v10 =>
          some v10) : Option (Int32)).bind fun q11 =>
      (some (a6 + (1 : Int32))).bind fun v12 =>
      F_X10_like_L37 n k st a0 a4 q11 v12
def F_X10_like (n : Nat) (st : xS) (a0 : Option Nat) (a1 : Int32) (a2 : Int32) (a3 : Int32) (a4 : Int32) : Option (Int32 × xS) :=
  (F_X10_isPart n st a4).bind fun v1 =>
  if v1 = (0 : Int32) then
    some ((-1 : Int32), st)
  else
    (gR st a0 10 3).bind fun v2 =>
    (gR st a0 10 0).bind fun v3 =>
    (isO st v2 5).bind fun q5 =>
    (F_X5_bring_ n st v2 v3 a1 a2 a3).bind fun p4 =>
    if p4.1 = (0 : Int32) then
      some ((-1 : Int32), p4.2)
    else
      (isO p4.2 a0 10).bind fun q7 =>
      (F_X10_wake n p4.2 a0 ).bind fun s6 =>
      (F_X10_like_L37 n n s6 a0 a4 (0 : Int32) (0 : Int32)).bind fun q13 =>
      some (q13, s6)
def F_X10_differJustBy (n : Nat) (st : xS) (a0 : Option Nat) (a1 : Int32) (a2 : Int32) (a3 : Int32) : Option (Int32) :=
  (gR st a0 10 7).bind fun v1 =>
  (F_X10_valueAt n st v1 a2).bind fun v2 =>
  (gR st a0 10 7).bind fun v3 =>
  (F_X10_valueAt n st v3 a3).bind fun v4 =>
  ((if (v2 ^^^ v4) = ((1 : Int32) <<< (a1 &&& 31)) then
      some (1 : Int32)
    else
      some (0 : Int32)) : Option (Int32)).bind fun q5 =>
  (rz q5).bind fun v6 =>
  some v6
def F_X10_single_L58 (n : Nat) : Nat → xS → Option Nat → Int32 → Int32 → Int32 → Int32 → Option ((Int32))
  | 0 => fun _ _ _ _ _ _ => none
  | k + 1 => fun st a0 a4 a5 a6 a7 =>
    (gR st a0 10 3).bind fun v12 =>
    (gR st v12 5 2).bind fun v13 =>
    (gI st v13 6 1).bind fun v14 =>
    if v14 ≤ a7 then
      some a5
    else
      (isO st a0 10).bind fun q16 =>
      (F_X10_differJustBy n st a0 a4 a6 a7).bind fun v15 =>
      ((if v15 = (0 : Int32) then
          some a5
        else
          (some (a5 + (1 : Int32))).bind fun v17 =>
          some v17) : Option (Int32)).bind fun q18 =>
      (some (a7 + (1 : Int32))).bind fun v19 =>
      F_X10_single_L58 n k st a0 a4 q18 a6 v19
def F_X10_single_L37 (n : Nat) : Nat → xS → Option Nat → Int32 → Int32 → Int32 → Option ((Int32))
  | 0 => fun _ _ _ _ _ => none
  | k + 1 => fun st a0 a4 a5 a6 =>
    (gR st a0 10 3).bind fun v8 =>
    (gR st v8 5 2).bind fun v9 =>
    (gI st v9 6 1).bind fun v10 =>
    if v10 ≤ a6 then
      some a5
    else
      (some (a6 + (1 : Int32))).bind fun v11 =>
      (F_X10_single_L58 n n st a0 a4 a5 a6 v11).bind fun q20 =>
      (some (a6 + (1 : Int32))).bind fun v21 =>
      F_X10_single_L37 n k st a0 a4 q20 v21
def F_X10_single (n : Nat) (st : xS) (a0 : Option Nat) (a1 : Int32) (a2 : Int32) (a3 : Int32) (a4 : Int32) : Option (Int32 × xS) :=
  (F_X10_isPart n st a4).bind fun v1 =>
  if v1 = (0 : Int32) then
    some ((-1 : Int32), st)
  else
    (gR st a0 10 3).bind fun v2 =>
    (gR st a0 10 0).bind fun v3 =>
    (isO st v2 5).bind fun q5 =>
    (F_X5_bring_ n st v2 v3 a1 a2 a3).bind fun p4 =>
    if p4.1 = (0 : Int32) then
      some ((-1 : Int32), p4.2)
    else
      (isO p4.2 a0 10).bind fun q7 =>
      (F_X10_wake n p4.2 a0 ).bind fun s6 =>
      (F_X10_single_L37 n n s6 a0 a4 (0 : Int32) (0 : Int32)).bind fun q22 =>
      some (q22, s6)
def F_X10_felt_L83 (n : Nat) : Nat → xS → Option Nat → Int32 → Int32 → Int32 → Int32 → Int32 → Int32 → Option ((Int32 × Int32))
  | 0 => fun _ _ _ _ _ _ _ _ => none
  | k + 1 => fun st a0 a4 a6 a7 a8 a9 a10 =>
    (gR st a0 10 3).bind fun v17 =>
    (gR st v17 5 2).bind fun v18 =>
    (gI st v18 6 1).bind fun v19 =>
    if v19 ≤ a10 then
      some (a7, a8)
    else
      (isO st a0 10).bind fun q21 =>
      (F_X10_differJustBy n st a0 a4 a9 a10).bind fun v20 =>
      ((if v20 = (0 : Int32) then
          some (a7, a8)
        else
          (some (a7 + (1 : Int32))).bind fun v22 =>
          (gR st a0 10 7).bind fun v23 =>
          (F_X10_valueAt n st v23 a9).bind fun v24 =>
          ((if ((v24 >>> (a4 &&& 31)) &&& (1 : Int32)) = (1 : Int32) then
              some (1 : Int32)
            else
              some (0 : Int32)) : Option (Int32)).bind fun q25 =>
          ((if q25 = (0 : Int32) then
              (isO st a0 10).bind fun q27 =>
              (F_X10_margin n st a0 a10).bind fun v26 =>
              (isO st a0 10).bind fun q29 =>
              (F_X10_margin n st a0 a9).bind fun v28 =>
              some (v26 - v28)
            else
              (isO st a0 10).bind fun q31 =>
              (F_X10_margin n st a0 a9).bind fun v30 =>
              (isO st a0 10).bind fun q33 =>
              (F_X10_margin n st a0 a10).bind fun v32 =>
              some (v30 - v32)) : Option (Int32)).bind fun q34 =>
          (some (a8 + q34)).bind fun v35 =>
          some (v22, v35)) : Option (Int32 × Int32)).bind fun q36 =>
      (some (a10 + (1 : Int32))).bind fun v37 =>
      F_X10_felt_L83 n k st a0 a4 a6 q36.1 q36.2 a9 v37
def F_X10_felt_L62 (n : Nat) : Nat → xS → Option Nat → Int32 → Int32 → Int32 → Int32 → Int32 → Option ((Int32 × Int32))
  | 0 => fun _ _ _ _ _ _ _ => none
  | k + 1 => fun st a0 a4 a6 a7 a8 a9 =>
    (gR st a0 10 3).bind fun v13 =>
    (gR st v13 5 2).bind fun v14 =>
    (gI st v14 6 1).bind fun v15 =>
    if v15 ≤ a9 then
      some (a7, a8)
    else
      (some (a9 + (1 : Int32))).bind fun v16 =>
      (F_X10_felt_L83 n n st a0 a4 a6 a7 a8 a9 v16).bind fun q38 =>
      (some (a9 + (1 : Int32))).bind fun v39 =>
      F_X10_felt_L62 n k st a0 a4 a6 q38.1 q38.2 v39
def F_X10_felt (n : Nat) (st : xS) (a0 : Option Nat) (a1 : Int32) (a2 : Int32) (a3 : Int32) (a4 : Int32) (a5 : Int32) (a6 : Int32) : Option (Int32 × xS) :=
  (F_X10_isPart n st a4).bind fun v1 =>
  if v1 = (0 : Int32) then
    some ((-1000000 : Int32), st)
  else
    (gR st a0 10 3).bind fun v2 =>
    (gR st a0 10 0).bind fun v3 =>
    (isO st v2 5).bind fun q5 =>
    (F_X5_bring_ n st v2 v3 a1 a2 a3).bind fun p4 =>
    if p4.1 = (0 : Int32) then
      some ((-1000000 : Int32), p4.2)
    else
      (isO p4.2 a0 10).bind fun q7 =>
      (F_X10_pick n p4.2 a0 a5 a5).bind fun p6 =>
      (gR p6.2 a0 10 3).bind fun v8 =>
      (gR p6.2 v8 5 2).bind fun v9 =>
      (gI p6.2 v9 6 1).bind fun v10 =>
      if v10 ≤ p6.1 then
        (isO p6.2 a0 10).bind fun q12 =>
        (F_X10_wake n p6.2 a0 ).bind fun s11 =>
        (F_X10_felt_L62 n n s11 a0 a4 a6 (0 : Int32) (0 : Int32) (0 : Int32)).bind fun q40 =>
        ((if q40.1 = (0 : Int32) then
            some (-1000000 : Int32)
          else
            (F_X10_share n s11 q40.2.toInt64 q40.1.toInt64 a6).bind fun v41 =>
            some v41.toInt32) : Option (Int32)).bind fun q42 =>
        some (q42, s11)
      else
        some ((-1000000 : Int32), p6.2)
def F_X10_rule (n : Nat) (st : xS) (a0 : Option Nat) (a1 : Int32) (a2 : Int32) (a3 : Int32) (a4 : Int32) : Option (Int64 × xS) :=
  (gR st a0 10 3).bind fun v1 =>
  (gR st a0 10 0).bind fun v2 =>
  (isO st v1 5).bind fun q4 =>
  (F_X5_bring_ n st v1 v2 a1 a3 a4).bind fun p3 =>
  if p3.1 = (0 : Int32) then
    some ((-9223372036854775808 : Int64), p3.2)
  else
    (gR p3.2 a0 10 3).bind fun v5 =>
    (isO p3.2 v5 5).bind fun q7 =>
    (F_X5_hopes n p3.2 v5 ).bind fun p6 =>
    (gR p6.2 a0 10 3).bind fun v8 =>
    (gR p6.2 a0 10 0).bind fun v9 =>
    (isO p6.2 v8 5).bind fun q11 =>
    (F_X5_bring_ n p6.2 v8 v9 a1 a2 a4).bind fun p10 =>
    ((if p10.1 = (0 : Int32) then
        some ((-9223372036854775808 : Int64), p10.2)
      else
        (gR p10.2 a0 10 3).bind fun v12 =>
        (isO p10.2 v12 5).bind fun q14 =>
        (F_X5_hopes n p10.2 v12 ).bind fun p13 =>
        some (p13.1 - p6.1, p13.2)) : Option (Int64 × xS)).bind fun q15 =>
    some (q15.1, q15.2)
def F_X10_less_L35 (n : Nat) : Nat → xS → Option Nat → Int32 → Int64 → Int32 → Option ((Int64 × xS))
  | 0 => fun _ _ _ _ _ => none
  | k + 1 => fun st a0 a4 a5 a7 =>
    (gR st a0 10 3).bind fun v6 =>
    (gR st v6 5 2).bind fun v7 =>
    (gI st v7 6 1).bind fun v8 =>
    if v8 ≤ a7 then
      some (a5, st)
    else
      (gR st a0 10 3).bind fun v9 =>
      (isO st v9 5).bind fun q11 =>
      (F_X5_weigh n st v9 a7).bind fun s10 =>
      (gR s10 a0 10 3).bind fun v12 =>
      (isO s10 v12 5).bind fun q14 =>
      (F_X5_outlook n s10 v12 (3 : Int32)).bind fun v13 =>
      (gR s10 a0 10 3).bind fun v15 =>
      (isO s10 v15 5).bind fun q17 =>
      (F_X5_drop n s10 v15 a7 a4).bind fun s16 =>
      (gR s16 a0 10 3).bind fun v18 =>
      (isO s16 v18 5).bind fun q20 =>
      (F_X5_outlook n s16 v18 (3 : Int32)).bind fun v19 =>
      (some (a5 + (v19 - v13))).bind fun v21 =>
      (some (a7 + (1 : Int32))).bind fun v22 =>
      F_X10_less_L35 n k s16 a0 a4 v21 v22
def F_X10_less (n : Nat) (st : xS) (a0 : Option Nat) (a1 : Int32) (a2 : Int32) (a3 : Int32) (a4 : Int32) : Option (Int64 × xS) :=
  (F_X10_isPart n st a4).bind fun v1 =>
  if v1 = (0 : Int32) then
    some ((-9223372036854775808 : Int64), st)
  else
    (gR st a0 10 3).bind fun v2 =>
    (gR st a0 10 0).bind fun v3 =>
    (isO st v2 5).bind fun q5 =>
    (F_X5_bring_ n st v2 v3 a1 a2 a3).bind fun p4 =>
    if p4.1 = (0 : Int32) then
      some ((-9223372036854775808 : Int64), p4.2)
    else
      (F_X10_less_L35 n n p4.2 a0 a4 (0 : Int64) (0 : Int32)).bind fun q23 =>
      some (q23.1, q23.2)
def F_X10_gain (n : Nat) (st : xS) (a0 : Int64) (a2 : Int32) : Option (Int64) :=
  some ((a0 * a2.toInt64) - (100000000000000 : Int64))
def F_X10_bet (n : Nat) (st : xS) (a0 : Option Nat) (a1 : Int32) (a2 : Int32) (a3 : Int32) (a4 : Int32) (a5 : Int32) : Option (Int64 × xS) :=
  (F_X10_isPrice n st a5).bind fun v1 =>
  if v1 = (0 : Int32) then
    some ((-9223372036854775808 : Int64), st)
  else
    (gR st a0 10 3).bind fun v2 =>
    (gR st a0 10 0).bind fun v3 =>
    (isO st v2 5).bind fun q5 =>
    (F_X5_bring_ n st v2 v3 a1 a2 a3).bind fun p4 =>
    if p4.1 = (0 : Int32) then
      some ((-9223372036854775808 : Int64), p4.2)
    else
      (gR p4.2 a0 10 3).bind fun v6 =>
      (gR p4.2 v6 5 2).bind fun v7 =>
      (isO p4.2 v7 6).bind fun q9 =>
      (F_X6_hasGame n p4.2 v7 a4).bind fun v8 =>
      if v8 = (0 : Int32) then
        some ((-9223372036854775808 : Int64), p4.2)
      else
        (gR p4.2 a0 10 3).bind fun v10 =>
        (isO p4.2 v10 5).bind fun q12 =>
        (F_X5_weigh n p4.2 v10 a4).bind fun s11 =>
        (gR s11 a0 10 3).bind fun v13 =>
        (isO s11 v13 5).bind fun q15 =>
        (F_X5_outlook n s11 v13 (0 : Int32)).bind fun v14 =>
        (F_X10_gain n s11 v14 a5).bind fun v16 =>
        some (v16, s11)
def F_X10_best_L36 (n : Nat) : Nat → xS → Option Nat → Int32 → Int64 → Int32 → Int32 → Option ((Int32 × xS))
  | 0 => fun _ _ _ _ _ _ => none
  | k + 1 => fun st a0 a4 a5 a7 a8 =>
    (gR st a0 10 3).bind fun v6 =>
    (gR st v6 5 2).bind fun v7 =>
    (gI st v7 6 1).bind fun v8 =>
    if v8 ≤ a8 then
      some (a7, st)
    else
      (gR st a0 10 3).bind fun v9 =>
      (isO st v9 5).bind fun q11 =>
      (F_X5_weigh n st v9 a8).bind fun s10 =>
      (gR s10 a0 10 3).bind fun v12 =>
      (isO s10 v12 5).bind fun q14 =>
      (F_X5_outlook n s10 v12 (0 : Int32)).bind fun v13 =>
      (F_X10_gain n s10 v13 a4).bind fun v15 =>
      ((if (lg_cmp v15 a5) ≤ (0 : Int32) then
          some (a5, a7)
        else
          some (v15, a8)) : Option (Int64 × Int32)).bind fun q16 =>
      (some (a8 + (1 : Int32))).bind fun v17 =>
      F_X10_best_L36 n k s10 a0 a4 q16.1 q16.2 v17
def F_X10_best (n : Nat) (st : xS) (a0 : Option Nat) (a1 : Int32) (a2 : Int32) (a3 : Int32) (a4 : Int32) : Option (Int32 × xS) :=
  (F_X10_isPrice n st a4).bind fun v1 =>
  if v1 = (0 : Int32) then
    some ((-1 : Int32), st)
  else
    (gR st a0 10 3).bind fun v2 =>
    (gR st a0 10 0).bind fun v3 =>
    (isO st v2 5).bind fun q5 =>
    (F_X5_bring_ n st v2 v3 a1 a2 a3).bind fun p4 =>
    if p4.1 = (0 : Int32) then
      some ((-1 : Int32), p4.2)
    else
      (F_X10_best_L36 n n p4.2 a0 a4 (0 : Int64) (-1 : Int32) (0 : Int32)).bind fun q18 =>
      some (q18.1, q18.2)
def F_X10_fair_L57 (n : Nat) : Nat → xS → Int64 → Int32 → Option (Int32 × xS)
  | 0 => fun _ _ _ => none
  | k + 1 => fun st a5 a7 =>
    if (999 : Int32) < a7 then
      some ((-1 : Int32), st)
    else
      (F_X10_gain n st a5 a7).bind fun v15 =>
      if (lg_cmp v15 (0 : Int64)) < (0 : Int32) then
        (some (a7 + (1 : Int32))).bind fun v16 =>
        F_X10_fair_L57 n k st a5 v16
      else
        some (a7, st)
def F_X10_fair (n : Nat) (st : xS) (a0 : Option Nat) (a1 : Int32) (a2 : Int32) (a3 : Int32) (a4 : Int32) : Option (Int32 × xS) :=
  (gR st a0 10 3).bind fun v1 =>
  (gR st a0 10 0).bind fun v2 =>
  (isO st v1 5).bind fun q4 =>
  (F_X5_bring_ n st v1 v2 a1 a2 a3).bind fun p3 =>
  if p3.1 = (0 : Int32) then
    some ((-1 : Int32), p3.2)
  else
    (gR p3.2 a0 10 3).bind fun v5 =>
    (gR p3.2 v5 5 2).bind fun v6 =>
    (isO p3.2 v6 6).bind fun q8 =>
    (F_X6_hasGame n p3.2 v6 a4).bind fun v7 =>
    if v7 = (0 : Int32) then
      some ((-1 : Int32), p3.2)
    else
      (gR p3.2 a0 10 3).bind fun v9 =>
      (isO p3.2 v9 5).bind fun q11 =>
      (F_X5_weigh n p3.2 v9 a4).bind fun s10 =>
      (gR s10 a0 10 3).bind fun v12 =>
      (isO s10 v12 5).bind fun q14 =>
      (F_X5_outlook n s10 v12 (0 : Int32)).bind fun v13 =>
      F_X10_fair_L57 n n s10 v13 (101 : Int32)
def F_X10_count (n : Nat) (st : xS) (a0 : Option Nat) (a1 : Int32) : Option (Int32) :=
  ((if a1 < (0 : Int32) then
      some (-2 : Int32)
    else
      if a1 ≤ (3 : Int32) then
        (gR st a0 10 0).bind fun v1 =>
        (isO st v1 9).bind fun q3 =>
        (F_X9_howMany n st v1 a1).bind fun v2 =>
        some v2
      else
        some (-2 : Int32)) : Option (Int32)).bind fun q4 =>
  some q4
def F_X10_image (n : Nat) (st : xS) (a0 : Option Nat) (a1 : Int32) : Option (Int32 × xS) :=
  if a1 < (0 : Int32) then
    (rz (0 : Int32)).bind fun v1 =>
    some (v1, st)
  else
    (gR st a0 10 1).bind fun v2 =>
    (aN st v2).bind fun v3 =>
    if a1 < v3 then
      (gR st a0 10 1).bind fun v4 =>
      (aR st v4 a1).bind fun v5 =>
      ((if v5 = none then
          (some (xnew st 11 (.inr (9, [Value.null, Value.null, Value.null, Value.null, Value.null, Value.null, Value.null, Value.null, Value.int 0, Value.int 0, Value.int 0])))).bind fun s6 =>
          (some (some (64 + st.1))).bind fun o7 =>
          (o7).bind fun b8 =>
          (F_X9_init n s6 o7 ).bind fun s9 =>
          (gR s9 a0 10 1).bind fun v10 =>
          (sR s9 v10 a1 o7).bind fun s11 =>
          some (o7, s11)
        else
          some (v5, st)) : Option (Option Nat × xS)).bind fun q12 =>
      (gR q12.2 a0 10 0).bind fun v13 =>
      (isO q12.2 q12.1 9).bind fun q15 =>
      (F_X9_become n q12.2 q12.1 v13).bind fun s14 =>
      (rz (1 : Int32)).bind fun v16 =>
      some (v16, s14)
    else
      (rz (0 : Int32)).bind fun v17 =>
      some (v17, st)
def F_X10_again (n : Nat) (st : xS) (a0 : Option Nat) (a1 : Int32) : Option (Int32 × xS) :=
  if a1 < (0 : Int32) then
    (rz (0 : Int32)).bind fun v1 =>
    some (v1, st)
  else
    (gR st a0 10 1).bind fun v2 =>
    (aN st v2).bind fun v3 =>
    if a1 < v3 then
      (gR st a0 10 1).bind fun v4 =>
      (aR st v4 a1).bind fun v5 =>
      if v5 = none then
        (rz (0 : Int32)).bind fun v6 =>
        some (v6, st)
      else
        (gR st a0 10 0).bind fun v7 =>
        (isO st v7 9).bind fun q9 =>
        (F_X9_become n st v7 v5).bind fun s8 =>
        (rz (1 : Int32)).bind fun v10 =>
        some (v10, s8)
    else
      (rz (0 : Int32)).bind fun v11 =>
      some (v11, st)
def F_X11_init (n : Nat) (st : xS) (a0 : Option Nat) : Option (xS) :=
  (a0).bind fun b1 =>
  (some (xnew st 10250 (.inl (0, 10250, .inl fun _ => 0)))).bind fun s2 =>
  (some (some (64 + st.1))).bind fun o3 =>
  (pF s2 a0 11 0 (va_rf o3)).bind fun s4 =>
  (some (xnew s4 3 (.inl (3, 3, .inl fun _ => 0)))).bind fun s5 =>
  (some (some (64 + s4.1))).bind fun o6 =>
  (pF s5 a0 11 1 (va_rf o6)).bind fun s7 =>
  (some (xnew s7 242 (.inl (0, 242, .inl fun _ => 0)))).bind fun s8 =>
  (some (some (64 + s7.1))).bind fun o9 =>
  (pF s8 a0 11 9 (va_rf o9)).bind fun s10 =>
  (some (xnew s10 6 (.inl (0, 6, .inl fun _ => 0)))).bind fun s11 =>
  (some (some (64 + s10.1))).bind fun o12 =>
  (pF s11 a0 11 14 (va_rf o12)).bind fun s13 =>
  (pF s13 a0 11 15 (.int (-1 : Int32))).bind fun s14 =>
  (some (xnew s14 42 (.inl (1, 42, .inr (.inl fun _ => 0))))).bind fun s15 =>
  (some (some (64 + s14.1))).bind fun o16 =>
  (pF s15 a0 11 21 (va_rf o16)).bind fun s17 =>
  (some (xnew s17 8 (.inl (0, 8, .inl fun _ => 0)))).bind fun s18 =>
  (some (some (64 + s17.1))).bind fun o19 =>
  (pF s18 a0 11 22 (va_rf o19)).bind fun s20 =>
  (some (xnew s20 61 (.inl (1, 61, .inr (.inl fun _ => 0))))).bind fun s21 =>
  (some (some (64 + s20.1))).bind fun o22 =>
  (pF s21 a0 11 27 (va_rf o22)).bind fun s23 =>
  (some (xnew s23 80 (.inl (0, 80, .inl fun _ => 0)))).bind fun s24 =>
  (some (some (64 + s23.1))).bind fun o25 =>
  (pF s24 a0 11 28 (va_rf o25)).bind fun s26 =>
  (some (xnew s26 40 (.inl (0, 40, .inl fun _ => 0)))).bind fun s27 =>
  (some (some (64 + s26.1))).bind fun o28 =>
  (pF s27 a0 11 30 (va_rf o28)).bind fun s29 =>
  (gR s29 a0 11 0).bind fun v30 =>
  (sS 0 s29 v30 (6 : Int32) (-1 : Int32)).bind fun s31 =>
  some s31
def F_X11_isIn (n : Nat) (st : xS) (a0 : Int32) (a1 : Int32) (a2 : Int32) : Option (Int32) :=
  ((if a0 < a1 then
      some (0 : Int32)
    else
      if a2 < a0 then
        some (0 : Int32)
      else
        some (1 : Int32)) : Option (Int32)).bind fun q1 =>
  (rz q1).bind fun v2 =>
  some v2
def F_X11_feed_L20 (n : Nat) : Nat → xS → Option Nat → Int32 → Int32 → Int32 → Int32 → Int32 → Int32 → Option ((xS))
  | 0 => fun _ _ _ _ _ _ _ _ => none
  | k + 1 => fun st a0 a1 a2 a3 a4 a5 a6 =>
    if (20 : Int32) ≤ a6 then
      some st
    else
      ((if (4 : Int32) ≤ a6 then
          if (8 : Int32) ≤ a6 then
            if (12 : Int32) ≤ a6 then
              if (16 : Int32) ≤ a6 then
                some a5
              else
                some a4
            else
              some a3
          else
            some a2
        else
          some a1) : Option (Int32)).bind fun q3 =>
      (gR st a0 11 0).bind fun v4 =>
      (gR st a0 11 0).bind fun v5 =>
      (aI st v5 (4 : Int32)).bind fun v6 =>
      (dR a6 (4 : Int32)).bind fun v7 =>
      (sS 0 st v4 ((10 : Int32) + v6) ((q3 >>> (((24 : Int32) - ((8 : Int32) * v7)) &&& 31)) &&& (255 : Int32))).bind fun s8 =>
      (gR s8 a0 11 0).bind fun v9 =>
      (aI s8 v9 (4 : Int32)).bind fun v10 =>
      (sS 0 s8 v9 (4 : Int32) (v10 + (1 : Int32))).bind fun s11 =>
      (some (a6 + (1 : Int32))).bind fun v12 =>
      F_X11_feed_L20 n k s11 a0 a1 a2 a3 a4 a5 v12
def F_X11_feed (n : Nat) (st : xS) (a0 : Option Nat) (a1 : Int32) (a2 : Int32) (a3 : Int32) (a4 : Int32) (a5 : Int32) : Option (Int32 × xS) :=
  (gR st a0 11 0).bind fun v1 =>
  (aI st v1 (4 : Int32)).bind fun v2 =>
  if (v2 + (20 : Int32)) ≤ (500 : Int32) then
    (F_X11_feed_L20 n n st a0 a1 a2 a3 a4 a5 (0 : Int32)).bind fun q13 =>
    (gR q13 a0 11 0).bind fun v14 =>
    (aI q13 v14 (4 : Int32)).bind fun v15 =>
    some (v15, q13)
  else
    some ((-1 : Int32), st)
def F_X11_end (n : Nat) (st : xS) (a0 : Option Nat) (a1 : Int32) : Option (Int32 × xS) :=
  if a1 < (0 : Int32) then
    some ((-1 : Int32), st)
  else
    (gR st a0 11 0).bind fun v1 =>
    (aI st v1 (4 : Int32)).bind fun v2 =>
    if a1 ≤ v2 then
      (gR st a0 11 0).bind fun v3 =>
      (sS 0 st v3 (4 : Int32) a1).bind fun s4 =>
      some (a1, s4)
    else
      some ((-1 : Int32), st)
def F_X11_byteAt (n : Nat) (st : xS) (a0 : Option Nat) (a1 : Int32) : Option (Int32) :=
  (gI st a0 11 2).bind fun v1 =>
  ((if v1 ≤ a1 then
      some (-1 : Int32)
    else
      (gR st a0 11 0).bind fun v2 =>
      (aI st v2 ((10 : Int32) + a1)).bind fun v3 =>
      some v3) : Option (Int32)).bind fun q4 =>
  some q4
def F_X11_isLetter (n : Nat) (st : xS) (a0 : Int32) : Option (Int32) :=
  ((if a0 < (97 : Int32) then
      some (0 : Int32)
    else
      if (122 : Int32) < a0 then
        some (0 : Int32)
      else
        some (1 : Int32)) : Option (Int32)).bind fun q1 =>
  (rz q1).bind fun v2 =>
  some v2
def F_X11_isDigit (n : Nat) (st : xS) (a0 : Int32) : Option (Int32) :=
  ((if a0 < (48 : Int32) then
      some (0 : Int32)
    else
      if (57 : Int32) < a0 then
        some (0 : Int32)
      else
        some (1 : Int32)) : Option (Int32)).bind fun q1 =>
  (rz q1).bind fun v2 =>
  some v2
def F_X11_three (n : Nat) (st : xS) (a0 : Int32) (a1 : Int32) (a2 : Int32) : Option (Int32) :=
  some (((((32 : Int32) * a0) + a1) * (32 : Int32)) + a2)
def F_X11_wordOf (n : Nat) (st : xS) (a0 : Int32) : Option (Int32) :=
  (F_X11_three n st (7 : Int32) (18 : Int32) (15 : Int32)).bind fun v1 =>
  (F_X11_three n st (21 : Int32) (14 : Int32) (4 : Int32)).bind fun v2 =>
  if a0 = (((32768 : Int32) * v1) + v2) then
    some (1 : Int32)
  else
    (F_X11_three n st (19 : Int32) (9 : Int32) (4 : Int32)).bind fun v3 =>
    if a0 = (((32 : Int32) * v3) + (5 : Int32)) then
      some (2 : Int32)
    else
      (F_X11_three n st (2 : Int32) (1 : Int32) (19 : Int32)).bind fun v4 =>
      if a0 = (((32 : Int32) * v4) + (5 : Int32)) then
        some (11 : Int32)
      else
        (F_X11_three n st (11 : Int32) (14 : Int32) (15 : Int32)).bind fun v5 =>
        if a0 = ((((1024 : Int32) * v5) + (736 : Int32)) + (14 : Int32)) then
          some (12 : Int32)
        else
          (F_X11_three n st (13 : Int32) (9 : Int32) (12 : Int32)).bind fun v6 =>
          if a0 = ((((1024 : Int32) * v6) + (160 : Int32)) + (19 : Int32)) then
            some (13 : Int32)
          else
            (F_X11_three n st (18 : Int32) (5 : Int32) (19 : Int32)).bind fun v7 =>
            if a0 = (((32 : Int32) * v7) + (20 : Int32)) then
              some (14 : Int32)
            else
              (F_X11_three n st (19 : Int32) (21 : Int32) (14 : Int32)).bind fun v8 =>
              if a0 = (((32 : Int32) * v8) + (7 : Int32)) then
                some (15 : Int32)
              else
                (F_X11_three n st (10 : Int32) (21 : Int32) (4 : Int32)).bind fun v9 =>
                (F_X11_three n st (7 : Int32) (5 : Int32) (4 : Int32)).bind fun v10 =>
                if a0 = (((32768 : Int32) * v9) + v10) then
                  some (16 : Int32)
                else
                  (F_X11_three n st (8 : Int32) (5 : Int32) (9 : Int32)).bind fun v11 =>
                  (F_X11_three n st (7 : Int32) (8 : Int32) (20 : Int32)).bind fun v12 =>
                  if a0 = (((32768 : Int32) * v11) + v12) then
                    some (17 : Int32)
                  else
                    (F_X11_three n st (4 : Int32) (1 : Int32) (25 : Int32)).bind fun v13 =>
                    if a0 = v13 then
                      some (21 : Int32)
                    else
                      (F_X11_three n st (16 : Int32) (5 : Int32) (15 : Int32)).bind fun v14 =>
                      (F_X11_three n st (16 : Int32) (12 : Int32) (5 : Int32)).bind fun v15 =>
                      if a0 = (((32768 : Int32) * v14) + v15) then
                        some (22 : Int32)
                      else
                        (F_X11_three n st (5 : Int32) (13 : Int32) (16 : Int32)).bind fun v16 =>
                        if a0 = ((((1024 : Int32) * v16) + (640 : Int32)) + (25 : Int32)) then
                          some (23 : Int32)
                        else
                          (F_X11_three n st (19 : Int32) (15 : Int32) (6 : Int32)).bind fun v17 =>
                          if a0 = (((32 : Int32) * v17) + (20 : Int32)) then
                            some (24 : Int32)
                          else
                            (F_X11_three n st (19 : Int32) (20 : Int32) (18 : Int32)).bind fun v18 =>
                            (F_X11_three n st (9 : Int32) (3 : Int32) (20 : Int32)).bind fun v19 =>
                            if a0 = (((32768 : Int32) * v18) + v19) then
                              some (25 : Int32)
                            else
                              (F_X11_three n st (0 : Int32) (1 : Int32) (20 : Int32)).bind fun v20 =>
                              if a0 = v20 then
                                some (26 : Int32)
                              else
                                (F_X11_three n st (7 : Int32) (1 : Int32) (13 : Int32)).bind fun v21 =>
                                ((if a0 = (((32 : Int32) * v21) + (5 : Int32)) then
                                    some (27 : Int32)
                                  else
                                    some (99 : Int32)) : Option (Int32)).bind fun q22 =>
                                some q22
def F_X11_advance_L0 (n : Nat) : Nat → xS → Option Nat → Option ((xS))
  | 0 => fun _ _ => none
  | k + 1 => fun st a0 =>
    (gI st a0 11 3).bind fun v1 =>
    (isO st a0 11).bind fun q3 =>
    (F_X11_byteAt n st a0 v1).bind fun v2 =>
    if v2 = (10 : Int32) then
      (gI st a0 11 3).bind fun v4 =>
      (pF st a0 11 3 (.int (v4 + (1 : Int32)))).bind fun s5 =>
      F_X11_advance_L0 n k s5 a0
    else
      (gI st a0 11 3).bind fun v6 =>
      (isO st a0 11).bind fun q8 =>
      (F_X11_byteAt n st a0 v6).bind fun v7 =>
      if v7 = (32 : Int32) then
        (gI st a0 11 3).bind fun v9 =>
        (pF st a0 11 3 (.int (v9 + (1 : Int32)))).bind fun s10 =>
        F_X11_advance_L0 n k s10 a0
      else
        some st
def F_X11_advance_L195 (n : Nat) : Nat → xS → Option Nat → Option ((xS))
  | 0 => fun _ _ => none
  | k + 1 => fun st a0 =>
    (gI st a0 11 3).bind fun v24 =>
    (isO st a0 11).bind fun q26 =>
    (F_X11_byteAt n st a0 v24).bind fun v25 =>
    (F_X11_isDigit n st v25).bind fun v27 =>
    if v27 = (0 : Int32) then
      some st
    else
      (gI st a0 11 3).bind fun v28 =>
      (gI st a0 11 4).bind fun v29 =>
      ((if (4 : Int32) ≤ (v28 - v29) then
          some st
        else
          (gI st a0 11 6).bind fun v30 =>
          (gI st a0 11 3).bind fun v31 =>
          (isO st a0 11).bind fun q33 =>
          (F_X11_byteAt n st a0 v31).bind fun v32 =>
          (pF st a0 11 6 (.int ((((10 : Int32) * v30) + v32) - (48 : Int32)))).bind fun s34 =>
          some s34) : Option (xS)).bind fun q35 =>
      (gI q35 a0 11 3).bind fun v36 =>
      (pF q35 a0 11 3 (.int (v36 + (1 : Int32)))).bind fun s37 =>
      F_X11_advance_L195 n k s37 a0
def F_X11_advance_L77 (n : Nat) : Nat → xS → Option Nat → Int32 → Option ((Int32 × xS))
  | 0 => fun _ _ _ => none
  | k + 1 => fun st a0 a2 =>
    (gI st a0 11 3).bind fun v43 =>
    (isO st a0 11).bind fun q45 =>
    (F_X11_byteAt n st a0 v43).bind fun v44 =>
    (F_X11_isLetter n st v44).bind fun v46 =>
    if v46 = (0 : Int32) then
      some (a2, st)
    else
      (gI st a0 11 3).bind fun v47 =>
      (gI st a0 11 4).bind fun v48 =>
      ((if (6 : Int32) ≤ (v47 - v48) then
          some a2
        else
          (gI st a0 11 3).bind fun v49 =>
          (isO st a0 11).bind fun q51 =>
          (F_X11_byteAt n st a0 v49).bind fun v50 =>
          (some ((((32 : Int32) * a2) + v50) - (96 : Int32))).bind fun v52 =>
          some v52) : Option (Int32)).bind fun q53 =>
      (gI st a0 11 3).bind fun v54 =>
      (pF st a0 11 3 (.int (v54 + (1 : Int32)))).bind fun s55 =>
      F_X11_advance_L77 n k s55 a0 q53
def F_X11_advance (n : Nat) (st : xS) (a0 : Option Nat) : Option (xS) :=
  (F_X11_advance_L0 n n st a0).bind fun q11 =>
  (gI q11 a0 11 3).bind fun v12 =>
  (pF q11 a0 11 4 (.int v12)).bind fun s13 =>
  (gI s13 a0 11 3).bind fun v14 =>
  (isO s13 a0 11).bind fun q16 =>
  (F_X11_byteAt n s13 a0 v14).bind fun v15 =>
  ((if (0 : Int32) ≤ v15 then
      (F_X11_isLetter n s13 v15).bind fun v17 =>
      if v17 = (0 : Int32) then
        (F_X11_isDigit n s13 v15).bind fun v18 =>
        if v18 = (0 : Int32) then
          (gI s13 a0 11 3).bind fun v19 =>
          (pF s13 a0 11 3 (.int (v19 + (1 : Int32)))).bind fun s20 =>
          ((if v15 = (59 : Int32) then
              some (2 : Int32)
            else
              some (4 : Int32)) : Option (Int32)).bind fun q21 =>
          (pF s20 a0 11 5 (.int q21)).bind fun s22 =>
          some s22
        else
          (pF s13 a0 11 6 (.int (0 : Int32))).bind fun s23 =>
          (F_X11_advance_L195 n n s23 a0).bind fun q38 =>
          (gI q38 a0 11 3).bind fun v39 =>
          (gI q38 a0 11 4).bind fun v40 =>
          ((if (v39 - v40) ≤ (4 : Int32) then
              some (1 : Int32)
            else
              some (4 : Int32)) : Option (Int32)).bind fun q41 =>
          (pF q38 a0 11 5 (.int q41)).bind fun s42 =>
          some s42
      else
        (F_X11_advance_L77 n n s13 a0 (0 : Int32)).bind fun q56 =>
        (gI q56.2 a0 11 3).bind fun v57 =>
        (gI q56.2 a0 11 4).bind fun v58 =>
        ((if (v57 - v58) ≤ (6 : Int32) then
            (F_X11_wordOf n q56.2 q56.1).bind fun v59 =>
            some v59
          else
            some (99 : Int32)) : Option (Int32)).bind fun q60 =>
        (pF q56.2 a0 11 7 (.int q60)).bind fun s61 =>
        (gI s61 a0 11 7).bind fun v62 =>
        ((if v62 = (99 : Int32) then
            some (4 : Int32)
          else
            some (3 : Int32)) : Option (Int32)).bind fun q63 =>
        (pF s61 a0 11 5 (.int q63)).bind fun s64 =>
        some s64
    else
      (pF s13 a0 11 5 (.int (0 : Int32))).bind fun s65 =>
      some s65) : Option (xS)).bind fun q66 =>
  some q66
def F_X11_ends (n : Nat) (st : xS) (a0 : Option Nat) : Option (xS) :=
  (gI st a0 11 8).bind fun v1 =>
  if v1 = (0 : Int32) then
    (rz (1 : Int32)).bind fun v3 =>
    (pF st a0 11 8 (.int v3)).bind fun s2 =>
    (gR s2 a0 11 0).bind fun v4 =>
    (sS 0 s2 v4 (5 : Int32) (1 : Int32)).bind fun s5 =>
    (gR s5 a0 11 0).bind fun v6 =>
    (gI s5 a0 11 4).bind fun v7 =>
    (sS 0 s5 v6 (6 : Int32) v7).bind fun s8 =>
    some s8
  else
    some st
def F_X11_also (n : Nat) (st : xS) (a0 : Option Nat) (a1 : Int32) (a2 : Int32) : Option (xS) :=
  (gI st a0 11 8).bind fun v1 =>
  if v1 = (0 : Int32) then
    (gR st a0 11 0).bind fun v2 =>
    (aI st v2 (5 : Int32)).bind fun v3 =>
    if v3 = (0 : Int32) then
      (gR st a0 11 0).bind fun v4 =>
      (sS 0 st v4 (5 : Int32) a1).bind fun s5 =>
      (gR s5 a0 11 0).bind fun v6 =>
      (sS 0 s5 v6 (6 : Int32) a2).bind fun s7 =>
      some s7
    else
      (gR st a0 11 0).bind fun v8 =>
      (aI st v8 (6 : Int32)).bind fun v9 =>
      if v9 < a2 then
        some st
      else
        (gR st a0 11 0).bind fun v10 =>
        (aI st v10 (6 : Int32)).bind fun v11 =>
        if v11 = a2 then
          (gR st a0 11 0).bind fun v12 =>
          (aI st v12 (5 : Int32)).bind fun v13 =>
          if a1 < v13 then
            (gR st a0 11 0).bind fun v14 =>
            (sS 0 st v14 (5 : Int32) a1).bind fun s15 =>
            (gR s15 a0 11 0).bind fun v16 =>
            (sS 0 s15 v16 (6 : Int32) a2).bind fun s17 =>
            some s17
          else
            some st
        else
          (gR st a0 11 0).bind fun v18 =>
          (sS 0 st v18 (5 : Int32) a1).bind fun s19 =>
          (gR s19 a0 11 0).bind fun v20 =>
          (sS 0 s19 v20 (6 : Int32) a2).bind fun s21 =>
          some s21
  else
    some st
def F_X11_numbered (n : Nat) (st : xS) (a0 : Option Nat) (a1 : Int32) (a2 : Int32) : Option (Int32 × xS) :=
  (gI st a0 11 8).bind fun v1 =>
  if v1 = (0 : Int32) then
    (gI st a0 11 5).bind fun v2 =>
    if v2 = (1 : Int32) then
      (gI st a0 11 6).bind fun v3 =>
      (gI st a0 11 4).bind fun v4 =>
      (isO st a0 11).bind fun q6 =>
      (F_X11_advance n st a0 ).bind fun s5 =>
      (F_X11_isIn n s5 v3 a1 a2).bind fun v7 =>
      if v7 = (0 : Int32) then
        (isO s5 a0 11).bind fun q9 =>
        (F_X11_also n s5 a0 (2 : Int32) v4).bind fun s8 =>
        some ((-1 : Int32), s8)
      else
        some (v3, s5)
    else
      (isO st a0 11).bind fun q11 =>
      (F_X11_ends n st a0 ).bind fun s10 =>
      some ((-1 : Int32), s10)
  else
    (isO st a0 11).bind fun q13 =>
    (F_X11_ends n st a0 ).bind fun s12 =>
    some ((-1 : Int32), s12)
def F_X11_another (n : Nat) (st : xS) (a0 : Option Nat) (a1 : Int32) (a2 : Int32) (a3 : Int32) : Option (Int32 × xS) :=
  (gI st a0 11 4).bind fun v1 =>
  (isO st a0 11).bind fun q3 =>
  (F_X11_numbered n st a0 a1 a2).bind fun p2 =>
  ((if p2.1 < (0 : Int32) then
      some p2.2
    else
      if p2.1 = a3 then
        (isO p2.2 a0 11).bind fun q5 =>
        (F_X11_also n p2.2 a0 (2 : Int32) v1).bind fun s4 =>
        some s4
      else
        some p2.2) : Option (xS)).bind fun q6 =>
  some (p2.1, q6)
def F_X11_takes (n : Nat) (st : xS) (a0 : Option Nat) (a1 : Int32) (a2 : Int32) : Option (Int32 × xS) :=
  (gI st a0 11 8).bind fun v1 =>
  if v1 = (0 : Int32) then
    (gI st a0 11 5).bind fun v2 =>
    if v2 = (3 : Int32) then
      (gI st a0 11 7).bind fun v3 =>
      (F_X11_isIn n st v3 a1 a2).bind fun v4 =>
      if v4 = (0 : Int32) then
        (isO st a0 11).bind fun q6 =>
        (F_X11_ends n st a0 ).bind fun s5 =>
        some ((-1 : Int32), s5)
      else
        (gI st a0 11 7).bind fun v7 =>
        (isO st a0 11).bind fun q9 =>
        (F_X11_advance n st a0 ).bind fun s8 =>
        some (v7, s8)
    else
      (isO st a0 11).bind fun q11 =>
      (F_X11_ends n st a0 ).bind fun s10 =>
      some ((-1 : Int32), s10)
  else
    (isO st a0 11).bind fun q13 =>
    (F_X11_ends n st a0 ).bind fun s12 =>
    some ((-1 : Int32), s12)
def F_X11_endsLine (n : Nat) (st : xS) (a0 : Option Nat) : Option (xS) :=
  (gI st a0 11 8).bind fun v1 =>
  ((if v1 = (0 : Int32) then
      (gI st a0 11 5).bind fun v2 =>
      if v2 = (2 : Int32) then
        (isO st a0 11).bind fun q4 =>
        (F_X11_advance n st a0 ).bind fun s3 =>
        some s3
      else
        (isO st a0 11).bind fun q6 =>
        (F_X11_ends n st a0 ).bind fun s5 =>
        some s5
    else
      (isO st a0 11).bind fun q8 =>
      (F_X11_ends n st a0 ).bind fun s7 =>
      some s7) : Option (xS)).bind fun q9 =>
  some q9
def F_X11_leagueLine (n : Nat) (st : xS) (a0 : Option Nat) : Option (xS) :=
  (gI st a0 11 4).bind fun v1 =>
  (gI st a0 11 5).bind fun v2 =>
  ((if v2 = (3 : Int32) then
      (gI st a0 11 7).bind fun v3 =>
      if v3 = (13 : Int32) then
        (isO st a0 11).bind fun q5 =>
        (F_X11_takes n st a0 (13 : Int32) (13 : Int32)).bind fun p4 =>
        some (p4.1, p4.2)
      else
        (isO st a0 11).bind fun q7 =>
        (F_X11_takes n st a0 (1 : Int32) (2 : Int32)).bind fun p6 =>
        some (p6.1, p6.2)
    else
      (isO st a0 11).bind fun q9 =>
      (F_X11_takes n st a0 (1 : Int32) (2 : Int32)).bind fun p8 =>
      some (p8.1, p8.2)) : Option (Int32 × xS)).bind fun q10 =>
  ((if q10.1 = (1 : Int32) then
      (gR q10.2 a0 11 9).bind fun v11 =>
      (aI q10.2 v11 (0 : Int32)).bind fun v12 =>
      ((if v12 < (10 : Int32) then
          some q10.2
        else
          (isO q10.2 a0 11).bind fun q14 =>
          (F_X11_also n q10.2 a0 (3 : Int32) v1).bind fun s13 =>
          some s13) : Option (xS)).bind fun q15 =>
      (isO q15 a0 11).bind fun q17 =>
      (F_X11_numbered n q15 a0 (0 : Int32) (99 : Int32)).bind fun p16 =>
      (isO p16.2 a0 11).bind fun q19 =>
      (F_X11_numbered n p16.2 a0 (0 : Int32) (99 : Int32)).bind fun p18 =>
      (isO p18.2 a0 11).bind fun q21 =>
      (F_X11_numbered n p18.2 a0 (0 : Int32) (999 : Int32)).bind fun p20 =>
      (gR p20.2 a0 11 9).bind fun v22 =>
      (aI p20.2 v22 (0 : Int32)).bind fun v23 =>
      ((if (10 : Int32) ≤ v23 then
          some p20.2
        else
          (gR p20.2 a0 11 9).bind fun v24 =>
          (gR p20.2 a0 11 9).bind fun v25 =>
          (aI p20.2 v25 (0 : Int32)).bind fun v26 =>
          (sS 0 p20.2 v24 ((2 : Int32) + v26) p16.1).bind fun s27 =>
          (gR s27 a0 11 9).bind fun v28 =>
          (gR s27 a0 11 9).bind fun v29 =>
          (aI s27 v29 (0 : Int32)).bind fun v30 =>
          (sS 0 s27 v28 ((12 : Int32) + v30) p18.1).bind fun s31 =>
          (gR s31 a0 11 9).bind fun v32 =>
          (gR s31 a0 11 9).bind fun v33 =>
          (aI s31 v33 (0 : Int32)).bind fun v34 =>
          (sS 0 s31 v32 ((22 : Int32) + v34) p20.1).bind fun s35 =>
          some s35) : Option (xS)).bind fun q36 =>
      (gR q36 a0 11 9).bind fun v37 =>
      (aI q36 v37 (0 : Int32)).bind fun v38 =>
      (sS 0 q36 v37 (0 : Int32) (v38 + (1 : Int32))).bind fun s39 =>
      some s39
    else
      if q10.1 = (2 : Int32) then
        (gR q10.2 a0 11 9).bind fun v40 =>
        (aI q10.2 v40 (1 : Int32)).bind fun v41 =>
        ((if v41 < (8 : Int32) then
            some q10.2
          else
            (isO q10.2 a0 11).bind fun q43 =>
            (F_X11_also n q10.2 a0 (3 : Int32) v1).bind fun s42 =>
            some s42) : Option (xS)).bind fun q44 =>
        (gR q44 a0 11 9).bind fun v45 =>
        (aI q44 v45 (0 : Int32)).bind fun v46 =>
        (isO q44 a0 11).bind fun q48 =>
        (F_X11_numbered n q44 a0 (0 : Int32) (v46 - (1 : Int32))).bind fun p47 =>
        (isO p47.2 a0 11).bind fun q50 =>
        (F_X11_numbered n p47.2 a0 (0 : Int32) (50 : Int32)).bind fun p49 =>
        (gR p49.2 a0 11 9).bind fun v51 =>
        (aI p49.2 v51 (1 : Int32)).bind fun v52 =>
        ((if (8 : Int32) ≤ v52 then
            some p49.2
          else
            (gR p49.2 a0 11 9).bind fun v53 =>
            (gR p49.2 a0 11 9).bind fun v54 =>
            (aI p49.2 v54 (1 : Int32)).bind fun v55 =>
            (sS 0 p49.2 v53 ((32 : Int32) + v55) p47.1).bind fun s56 =>
            (gR s56 a0 11 9).bind fun v57 =>
            (gR s56 a0 11 9).bind fun v58 =>
            (aI s56 v58 (1 : Int32)).bind fun v59 =>
            (sS 0 s56 v57 ((40 : Int32) + v59) p49.1).bind fun s60 =>
            some s60) : Option (xS)).bind fun q61 =>
        (gR q61 a0 11 9).bind fun v62 =>
        (aI q61 v62 (1 : Int32)).bind fun v63 =>
        (sS 0 q61 v62 (1 : Int32) (v63 + (1 : Int32))).bind fun s64 =>
        some s64
      else
        if q10.1 = (13 : Int32) then
          (gR q10.2 a0 11 9).bind fun v65 =>
          (aI q10.2 v65 (0 : Int32)).bind fun v66 =>
          (isO q10.2 a0 11).bind fun q68 =>
          (F_X11_numbered n q10.2 a0 (0 : Int32) (v66 - (1 : Int32))).bind fun p67 =>
          (gR p67.2 a0 11 9).bind fun v69 =>
          (aI p67.2 v69 (0 : Int32)).bind fun v70 =>
          (isO p67.2 a0 11).bind fun q72 =>
          (F_X11_another n p67.2 a0 (0 : Int32) (v70 - (1 : Int32)) p67.1).bind fun p71 =>
          (isO p71.2 a0 11).bind fun q74 =>
          (F_X11_numbered n p71.2 a0 (0 : Int32) (9999 : Int32)).bind fun p73 =>
          (F_X11_isIn n p73.2 p67.1 (0 : Int32) (9 : Int32)).bind fun v75 =>
          if v75 = (0 : Int32) then
            some p73.2
          else
            (F_X11_isIn n p73.2 p71.1 (0 : Int32) (9 : Int32)).bind fun v76 =>
            if v76 = (0 : Int32) then
              some p73.2
            else
              (gR p73.2 a0 11 9).bind fun v77 =>
              (sS 0 p73.2 v77 (((50 : Int32) + ((10 : Int32) * p67.1)) + p71.1) p73.1).bind fun s78 =>
              (gR s78 a0 11 9).bind fun v79 =>
              (sS 0 s78 v79 (((50 : Int32) + ((10 : Int32) * p71.1)) + p67.1) p73.1).bind fun s80 =>
              some s80
        else
          some q10.2) : Option (xS)).bind fun q81 =>
  (isO q81 a0 11).bind fun q83 =>
  (F_X11_endsLine n q81 a0 ).bind fun s82 =>
  some s82
def F_X11_mostPer (n : Nat) (st : xS) (a0 : Int32) : Option (Int32) :=
  ((if a0 = (1 : Int32) then
      some (9999 : Int32)
    else
      if a0 = (2 : Int32) then
        some (30 : Int32)
      else
        if a0 = (5 : Int32) then
          some (99 : Int32)
        else
          some (999 : Int32)) : Option (Int32)).bind fun q1 =>
  some q1
def F_X11_lawLine (n : Nat) (st : xS) (a0 : Option Nat) : Option (xS) :=
  (isO st a0 11).bind fun q2 =>
  (F_X11_takes n st a0 (11 : Int32) (17 : Int32)).bind fun p1 =>
  ((if p1.1 = (11 : Int32) then
      (gR p1.2 a0 11 9).bind fun v3 =>
      (isO p1.2 a0 11).bind fun q5 =>
      (F_X11_numbered n p1.2 a0 (0 : Int32) (100 : Int32)).bind fun p4 =>
      (sS 0 p4.2 v3 (0 : Int32) p4.1).bind fun s6 =>
      some s6
    else
      if p1.1 ≤ (11 : Int32) then
        some p1.2
      else
        (some (p1.1 - (12 : Int32))).bind fun v7 =>
        (gR p1.2 a0 11 9).bind fun v8 =>
        (isO p1.2 a0 11).bind fun q10 =>
        (F_X11_numbered n p1.2 a0 (0 : Int32) (50 : Int32)).bind fun p9 =>
        (sS 0 p9.2 v8 ((1 : Int32) + v7) p9.1).bind fun s11 =>
        if v7 ≤ (0 : Int32) then
          some s11
        else
          (gR s11 a0 11 9).bind fun v12 =>
          (F_X11_mostPer n s11 v7).bind fun v13 =>
          (isO s11 a0 11).bind fun q15 =>
          (F_X11_numbered n s11 a0 (1 : Int32) v13).bind fun p14 =>
          (sS 0 p14.2 v12 ((7 : Int32) + v7) p14.1).bind fun s16 =>
          some s16) : Option (xS)).bind fun q17 =>
  (isO q17 a0 11).bind fun q19 =>
  (F_X11_endsLine n q17 a0 ).bind fun s18 =>
  some s18
def F_X11_plans (n : Nat) (st : xS) (a0 : Option Nat) (a1 : Int32) (a2 : Int32) : Option (Option Nat × xS) :=
  (gR st a0 11 14).bind fun v1 =>
  (sS 0 st v1 (0 : Int32) a1).bind fun s2 =>
  (gR s2 a0 11 14).bind fun v3 =>
  (sS 0 s2 v3 (1 : Int32) a2).bind fun s4 =>
  (gR s4 a0 11 14).bind fun v5 =>
  (gI s4 a0 11 10).bind fun v6 =>
  (sS 0 s4 v5 (2 : Int32) v6).bind fun s7 =>
  (gR s7 a0 11 14).bind fun v8 =>
  (gI s7 a0 11 11).bind fun v9 =>
  (sS 0 s7 v8 (3 : Int32) v9).bind fun s10 =>
  (gR s10 a0 11 14).bind fun v11 =>
  (gI s10 a0 11 12).bind fun v12 =>
  (sS 0 s10 v11 (4 : Int32) v12).bind fun s13 =>
  (gR s13 a0 11 14).bind fun v14 =>
  (gI s13 a0 11 13).bind fun v15 =>
  (sS 0 s13 v14 (5 : Int32) v15).bind fun s16 =>
  (gR s16 a0 11 14).bind fun v17 =>
  some (v17, s16)
def F_X11_planLine_L172 (n : Nat) : Nat → xS → Option Nat → Option Nat → Int32 → Option ((xS))
  | 0 => fun _ _ _ _ => none
  | k + 1 => fun st a0 a5 a6 =>
    if (6 : Int32) ≤ a6 then
      some st
    else
      (gR st a0 11 9).bind fun v36 =>
      (aI st v36 (0 : Int32)).bind fun v37 =>
      if (40 : Int32) ≤ v37 then
        some st
      else
        (gR st a0 11 9).bind fun v38 =>
        (gR st a0 11 9).bind fun v39 =>
        (aI st v39 (0 : Int32)).bind fun v40 =>
        (aI st a5 a6).bind fun v41 =>
        (sS 0 st v38 (((1 : Int32) + ((6 : Int32) * v40)) + a6) v41).bind fun s42 =>
        (some (a6 + (1 : Int32))).bind fun v43 =>
        F_X11_planLine_L172 n k s42 a0 a5 v43
def F_X11_planLine (n : Nat) (st : xS) (a0 : Option Nat) : Option (xS) :=
  (gI st a0 11 4).bind fun v1 =>
  (isO st a0 11).bind fun q3 =>
  (F_X11_takes n st a0 (21 : Int32) (27 : Int32)).bind fun p2 =>
  ((if p2.1 = (21 : Int32) then
      (gI p2.2 a0 11 10).bind fun v4 =>
      (isO p2.2 a0 11).bind fun q6 =>
      (F_X11_numbered n p2.2 a0 v4 (999 : Int32)).bind fun p5 =>
      ((if (0 : Int32) ≤ p5.1 then
          some p5.1
        else
          (gI p5.2 a0 11 10).bind fun v7 =>
          some v7) : Option (Int32)).bind fun q8 =>
      (pF p5.2 a0 11 10 (.int q8)).bind fun s9 =>
      some s9
    else
      some p2.2) : Option (xS)).bind fun q10 =>
  ((if p2.1 = (22 : Int32) then
      ((if p2.1 = (22 : Int32) then
          some (1 : Int32)
        else
          some (0 : Int32)) : Option (Int32)).bind fun q11 =>
      (pF q10 a0 11 11 (.int q11)).bind fun s12 =>
      some s12
    else
      if p2.1 = (23 : Int32) then
        ((if p2.1 = (22 : Int32) then
            some (1 : Int32)
          else
            some (0 : Int32)) : Option (Int32)).bind fun q13 =>
        (pF q10 a0 11 11 (.int q13)).bind fun s14 =>
        some s14
      else
        some q10) : Option (xS)).bind fun q15 =>
  ((if p2.1 = (24 : Int32) then
      ((if p2.1 = (24 : Int32) then
          some (1 : Int32)
        else
          some (0 : Int32)) : Option (Int32)).bind fun q16 =>
      (pF q15 a0 11 12 (.int q16)).bind fun s17 =>
      some s17
    else
      if p2.1 = (25 : Int32) then
        ((if p2.1 = (24 : Int32) then
            some (1 : Int32)
          else
            some (0 : Int32)) : Option (Int32)).bind fun q18 =>
        (pF q15 a0 11 12 (.int q18)).bind fun s19 =>
        some s19
      else
        some q15) : Option (xS)).bind fun q20 =>
  ((if p2.1 = (26 : Int32) then
      (isO q20 a0 11).bind fun q22 =>
      (F_X11_numbered n q20 a0 (0 : Int32) (9 : Int32)).bind fun p21 =>
      (pF p21.2 a0 11 13 (.int p21.1)).bind fun s23 =>
      some s23
    else
      some q20) : Option (xS)).bind fun q24 =>
  ((if p2.1 = (27 : Int32) then
      (gR q24 a0 11 9).bind fun v25 =>
      (aI q24 v25 (0 : Int32)).bind fun v26 =>
      ((if v26 < (40 : Int32) then
          some q24
        else
          (isO q24 a0 11).bind fun q28 =>
          (F_X11_also n q24 a0 (3 : Int32) v1).bind fun s27 =>
          some s27) : Option (xS)).bind fun q29 =>
      (isO q29 a0 11).bind fun q31 =>
      (F_X11_numbered n q29 a0 (0 : Int32) (7 : Int32)).bind fun p30 =>
      (isO p30.2 a0 11).bind fun q33 =>
      (F_X11_another n p30.2 a0 (0 : Int32) (7 : Int32) p30.1).bind fun p32 =>
      (isO p32.2 a0 11).bind fun q35 =>
      (F_X11_plans n p32.2 a0 p30.1 p32.1).bind fun p34 =>
      (F_X11_planLine_L172 n n p34.2 a0 p34.1 (0 : Int32)).bind fun q44 =>
      (gR q44 a0 11 9).bind fun v45 =>
      (aI q44 v45 (0 : Int32)).bind fun v46 =>
      (sS 0 q44 v45 (0 : Int32) (v46 + (1 : Int32))).bind fun s47 =>
      (pF s47 a0 11 13 (.int (-1 : Int32))).bind fun s48 =>
      some s48
    else
      some q24) : Option (xS)).bind fun q49 =>
  (isO q49 a0 11).bind fun q51 =>
  (F_X11_endsLine n q49 a0 ).bind fun s50 =>
  some s50
def F_X11_placeOf (n : Nat) (st : xS) (a0 : Int32) (a1 : Int32) : Option (Int32) :=
  ((if a0 = (0 : Int32) then
      some ((510 : Int32) + ((150 : Int32) * a1))
    else
      if a0 = (1 : Int32) then
        some ((960 : Int32) + ((14 : Int32) * a1))
      else
        some ((1002 : Int32) + ((242 : Int32) * a1))) : Option (Int32)).bind fun q1 =>
  some q1
def F_X11_sizeOf (n : Nat) (st : xS) (a0 : Int32) : Option (Int32) :=
  ((if a0 = (0 : Int32) then
      some (150 : Int32)
    else
      if a0 = (1 : Int32) then
        some (14 : Int32)
      else
        some (242 : Int32)) : Option (Int32)).bind fun q1 =>
  some q1
def F_X11_isOf (n : Nat) (st : xS) (a0 : Option Nat) (a1 : Int32) (a2 : Int32) : Option (Int32) :=
  (gR st a0 11 0).bind fun v1 =>
  (aI st v1 a1).bind fun v2 =>
  (F_X11_isIn n st a2 (0 : Int32) (v2 - (1 : Int32))).bind fun v3 =>
  (rz v3).bind fun v4 =>
  some v4
def F_X11_begins_L12 (n : Nat) : Nat → xS → Option Nat → Int32 → Int32 → Option ((xS))
  | 0 => fun _ _ _ _ => none
  | k + 1 => fun st a0 a1 a2 =>
    if (242 : Int32) ≤ a2 then
      some st
    else
      (gR st a0 11 9).bind fun v4 =>
      (sS 0 st v4 a2 (0 : Int32)).bind fun s5 =>
      (some (a2 + (1 : Int32))).bind fun v6 =>
      F_X11_begins_L12 n k s5 a0 a1 v6
def F_X11_begins_L47 (n : Nat) : Nat → xS → Option Nat → Int32 → Option ((xS))
  | 0 => fun _ _ _ => none
  | k + 1 => fun st a0 a2 =>
    if (6 : Int32) ≤ a2 then
      some st
    else
      (gR st a0 11 9).bind fun v10 =>
      (sS 0 st v10 ((7 : Int32) + a2) (1 : Int32)).bind fun s11 =>
      (some (a2 + (1 : Int32))).bind fun v12 =>
      F_X11_begins_L47 n k s11 a0 v12
def F_X11_begins (n : Nat) (st : xS) (a0 : Option Nat) (a1 : Int32) : Option (xS) :=
  (pF st a0 11 3 (.int (0 : Int32))).bind fun s1 =>
  (rz (0 : Int32)).bind fun v3 =>
  (pF s1 a0 11 8 (.int v3)).bind fun s2 =>
  (F_X11_begins_L12 n n s2 a0 a1 (0 : Int32)).bind fun q7 =>
  ((if a1 = (1 : Int32) then
      (gR q7 a0 11 9).bind fun v8 =>
      (sS 0 q7 v8 (0 : Int32) (30 : Int32)).bind fun s9 =>
      (F_X11_begins_L47 n n s9 a0 (1 : Int32)).bind fun q13 =>
      some q13
    else
      some q7) : Option (xS)).bind fun q14 =>
  (pF q14 a0 11 10 (.int (0 : Int32))).bind fun s15 =>
  (pF s15 a0 11 11 (.int (1 : Int32))).bind fun s16 =>
  (pF s16 a0 11 12 (.int (0 : Int32))).bind fun s17 =>
  (pF s17 a0 11 13 (.int (-1 : Int32))).bind fun s18 =>
  (isO s18 a0 11).bind fun q20 =>
  (F_X11_advance n s18 a0 ).bind fun s19 =>
  some s19
def F_X11_text_L76 (n : Nat) : Nat → xS → Option Nat → Int32 → Int32 → Option ((xS))
  | 0 => fun _ _ _ _ => none
  | k + 1 => fun st a0 a1 a2 =>
    (gI st a0 11 8).bind fun v15 =>
    if v15 = (0 : Int32) then
      (gI st a0 11 5).bind fun v16 =>
      if v16 = (0 : Int32) then
        some st
      else
        if a1 = (0 : Int32) then
          (isO st a0 11).bind fun q18 =>
          (F_X11_leagueLine n st a0 ).bind fun s17 =>
          F_X11_text_L76 n k s17 a0 a1 a2
        else
          if a1 = (1 : Int32) then
            (isO st a0 11).bind fun q20 =>
            (F_X11_lawLine n st a0 ).bind fun s19 =>
            F_X11_text_L76 n k s19 a0 a1 a2
          else
            (isO st a0 11).bind fun q22 =>
            (F_X11_planLine n st a0 ).bind fun s21 =>
            F_X11_text_L76 n k s21 a0 a1 a2
    else
      some st
def F_X11_text_L165 (n : Nat) : Nat → xS → Option Nat → Int32 → Int32 → Int32 → Option ((xS))
  | 0 => fun _ _ _ _ _ => none
  | k + 1 => fun st a0 a1 a3 a4 =>
    (F_X11_sizeOf n st a1).bind fun v33 =>
    if v33 ≤ a4 then
      some st
    else
      (gR st a0 11 0).bind fun v34 =>
      (F_X11_placeOf n st a1 a3).bind fun v35 =>
      (gR st a0 11 9).bind fun v36 =>
      (aI st v36 a4).bind fun v37 =>
      (sS 0 st v34 (v35 + a4) v37).bind fun s38 =>
      (some (a4 + (1 : Int32))).bind fun v39 =>
      F_X11_text_L165 n k s38 a0 a1 a3 v39
def F_X11_text (n : Nat) (st : xS) (a0 : Option Nat) (a1 : Int32) (a2 : Int32) : Option (Int32 × xS) :=
  (gR st a0 11 0).bind fun v1 =>
  (aI st v1 (4 : Int32)).bind fun v2 =>
  (pF st a0 11 2 (.int v2)).bind fun s3 =>
  (gR s3 a0 11 0).bind fun v4 =>
  (sS 0 s3 v4 (4 : Int32) (0 : Int32)).bind fun s5 =>
  (gR s5 a0 11 0).bind fun v6 =>
  (sS 0 s5 v6 (5 : Int32) (0 : Int32)).bind fun s7 =>
  (gR s7 a0 11 0).bind fun v8 =>
  (sS 0 s7 v8 (6 : Int32) (-1 : Int32)).bind fun s9 =>
  (F_X11_isIn n s9 a1 (0 : Int32) (2 : Int32)).bind fun v10 =>
  if v10 = (0 : Int32) then
    some ((-2 : Int32), s9)
  else
    if a2 = (-1 : Int32) then
      (gR s9 a0 11 0).bind fun v11 =>
      (aI s9 v11 a1).bind fun v12 =>
      if v12 < (3 : Int32) then
        (isO s9 a0 11).bind fun q14 =>
        (F_X11_begins n s9 a0 a1).bind fun s13 =>
        (F_X11_text_L76 n n s13 a0 a1 a2).bind fun q23 =>
        (gR q23 a0 11 0).bind fun v24 =>
        (aI q23 v24 (5 : Int32)).bind fun v25 =>
        if v25 = (0 : Int32) then
          ((if a2 = (-1 : Int32) then
              (gR q23 a0 11 0).bind fun v26 =>
              (aI q23 v26 a1).bind fun v27 =>
              some v27
            else
              some a2) : Option (Int32)).bind fun q28 =>
          ((if a2 = (-1 : Int32) then
              (gR q23 a0 11 0).bind fun v29 =>
              (aI q23 v29 a1).bind fun v30 =>
              (sS 0 q23 v29 a1 (v30 + (1 : Int32))).bind fun s31 =>
              some s31
            else
              some q23) : Option (xS)).bind fun q32 =>
          (F_X11_text_L165 n n q32 a0 a1 q28 (0 : Int32)).bind fun q40 =>
          some (q28, q40)
        else
          some ((-1 : Int32), q23)
      else
        some ((-2 : Int32), s9)
    else
      (isO s9 a0 11).bind fun q42 =>
      (F_X11_isOf n s9 a0 a1 a2).bind fun v41 =>
      if v41 = (0 : Int32) then
        some ((-2 : Int32), s9)
      else
        (isO s9 a0 11).bind fun q44 =>
        (F_X11_begins n s9 a0 a1).bind fun s43 =>
        (F_X11_text_L76 n n s43 a0 a1 a2).bind fun q45 =>
        (gR q45 a0 11 0).bind fun v46 =>
        (aI q45 v46 (5 : Int32)).bind fun v47 =>
        if v47 = (0 : Int32) then
          ((if a2 = (-1 : Int32) then
              (gR q45 a0 11 0).bind fun v48 =>
              (aI q45 v48 a1).bind fun v49 =>
              some v49
            else
              some a2) : Option (Int32)).bind fun q50 =>
          ((if a2 = (-1 : Int32) then
              (gR q45 a0 11 0).bind fun v51 =>
              (aI q45 v51 a1).bind fun v52 =>
              (sS 0 q45 v51 a1 (v52 + (1 : Int32))).bind fun s53 =>
              some s53
            else
              some q45) : Option (xS)).bind fun q54 =>
          (F_X11_text_L165 n n q54 a0 a1 q50 (0 : Int32)).bind fun q55 =>
          some (q50, q55)
        else
          some ((-1 : Int32), q45)
def F_X11_fault (n : Nat) (st : xS) (a0 : Option Nat) (a1 : Int32) : Option (Int32) :=
  ((if a1 = (0 : Int32) then
      (gR st a0 11 0).bind fun v1 =>
      (aI st v1 (5 : Int32)).bind fun v2 =>
      some v2
    else
      if a1 = (1 : Int32) then
        (gR st a0 11 0).bind fun v3 =>
        (aI st v3 (6 : Int32)).bind fun v4 =>
        some v4
      else
        some (-1 : Int32)) : Option (Int32)).bind fun q5 =>
  some q5
def F_X11_league (n : Nat) (st : xS) (a0 : Option Nat) (a1 : Int32) (a2 : Int32) : Option (Int32) :=
  (isO st a0 11).bind fun q2 =>
  (F_X11_isOf n st a0 (0 : Int32) a1).bind fun v1 =>
  if v1 = (0 : Int32) then
    some (-1 : Int32)
  else
    (F_X11_placeOf n st (0 : Int32) a1).bind fun v3 =>
    (F_X11_isIn n st a2 (0 : Int32) (1 : Int32)).bind fun v4 =>
    if v4 = (0 : Int32) then
      (dR a2 (10 : Int32)).bind fun v5 =>
      (F_X11_isIn n st a2 (10 : Int32) (39 : Int32)).bind fun v6 =>
      if v6 = (0 : Int32) then
        (F_X11_isIn n st a2 (40 : Int32) (59 : Int32)).bind fun v7 =>
        ((if v7 = (0 : Int32) then
            some (-1 : Int32)
          else
            (gR st a0 11 0).bind fun v8 =>
            (aI st v8 (v3 + (1 : Int32))).bind fun v9 =>
            if v9 ≤ v5 then
              some (-1 : Int32)
            else
              (gR st a0 11 0).bind fun v10 =>
              ((if (50 : Int32) ≤ a2 then
                  some (40 : Int32)
                else
                  some (32 : Int32)) : Option (Int32)).bind fun q11 =>
              (aI st v10 ((v3 + q11) + v5)).bind fun v12 =>
              some v12) : Option (Int32)).bind fun q13 =>
        some q13
      else
        (gR st a0 11 0).bind fun v14 =>
        (aI st v14 v3).bind fun v15 =>
        ((if v5 < v15 then
            (gR st a0 11 0).bind fun v16 =>
            ((if (20 : Int32) ≤ a2 then
                if (30 : Int32) ≤ a2 then
                  some (22 : Int32)
                else
                  some (12 : Int32)
              else
                some (2 : Int32)) : Option (Int32)).bind fun q17 =>
            (aI st v16 ((v3 + q17) + v5)).bind fun v18 =>
            some v18
          else
            some (-1 : Int32)) : Option (Int32)).bind fun q19 =>
        some q19
    else
      (gR st a0 11 0).bind fun v20 =>
      (aI st v20 (v3 + a2)).bind fun v21 =>
      some v21
