/-! printed by a program: the methods as functions of a pure state -/
def F_X11_miles (n : Nat) (st : xS) (a0 : Option Nat) (a1 : Int32) (a2 : Int32) (a3 : Int32) : Option (Int32) :=
  (isO st a0 11).bind fun q2 =>
  (F_X11_isOf n st a0 (0 : Int32) a1).bind fun v1 =>
  if v1 = (0 : Int32) then
    some (-1 : Int32)
  else
    (F_X11_placeOf n st (0 : Int32) a1).bind fun v3 =>
    (gR st a0 11 0).bind fun v4 =>
    (aI st v4 v3).bind fun v5 =>
    (F_X11_isIn n st a2 (0 : Int32) (v5 - (1 : Int32))).bind fun v6 =>
    ((if v6 = (0 : Int32) then
        some (-1 : Int32)
      else
        (gR st a0 11 0).bind fun v7 =>
        (aI st v7 v3).bind fun v8 =>
        (F_X11_isIn n st a3 (0 : Int32) (v8 - (1 : Int32))).bind fun v9 =>
        if v9 = (0 : Int32) then
          some (-1 : Int32)
        else
          (gR st a0 11 0).bind fun v10 =>
          (aI st v10 (((v3 + (50 : Int32)) + ((10 : Int32) * a2)) + a3)).bind fun v11 =>
          some v11) : Option (Int32)).bind fun q12 =>
    some q12
def F_X11_law (n : Nat) (st : xS) (a0 : Option Nat) (a1 : Int32) (a2 : Int32) : Option (Int32) :=
  (isO st a0 11).bind fun q2 =>
  (F_X11_isOf n st a0 (1 : Int32) a1).bind fun v1 =>
  if v1 = (0 : Int32) then
    some (-1 : Int32)
  else
    if a2 = (0 : Int32) then
      (gR st a0 11 0).bind fun v3 =>
      (F_X11_placeOf n st (1 : Int32) a1).bind fun v4 =>
      (aI st v3 v4).bind fun v5 =>
      some v5
    else
      (F_X11_isIn n st a2 (10 : Int32) (15 : Int32)).bind fun v6 =>
      if v6 = (0 : Int32) then
        (F_X11_isIn n st a2 (21 : Int32) (25 : Int32)).bind fun v7 =>
        ((if v7 = (0 : Int32) then
            some (-1 : Int32)
          else
            (gR st a0 11 0).bind fun v8 =>
            (F_X11_placeOf n st (1 : Int32) a1).bind fun v9 =>
            (aI st v8 (((v9 + (7 : Int32)) + a2) - (20 : Int32))).bind fun v10 =>
            some v10) : Option (Int32)).bind fun q11 =>
        some q11
      else
        (gR st a0 11 0).bind fun v12 =>
        (F_X11_placeOf n st (1 : Int32) a1).bind fun v13 =>
        (aI st v12 (((v13 + (1 : Int32)) + a2) - (10 : Int32))).bind fun v14 =>
        some v14
def F_X11_gamesOf (n : Nat) (st : xS) (a0 : Option Nat) (a1 : Int32) : Option (Int32) :=
  (gR st a0 11 0).bind fun v1 =>
  (F_X11_placeOf n st (2 : Int32) a1).bind fun v2 =>
  (aI st v1 v2).bind fun v3 =>
  some v3
def F_X11_gameOf (n : Nat) (st : xS) (a0 : Option Nat) (a1 : Int32) (a2 : Int32) (a3 : Int32) : Option (Int32) :=
  (gR st a0 11 0).bind fun v1 =>
  (F_X11_placeOf n st (2 : Int32) a1).bind fun v2 =>
  (aI st v1 (((v2 + (1 : Int32)) + ((6 : Int32) * a2)) + a3)).bind fun v3 =>
  some v3
def F_X11_plan (n : Nat) (st : xS) (a0 : Option Nat) (a1 : Int32) (a2 : Int32) (a3 : Int32) : Option (Int32) :=
  (isO st a0 11).bind fun q2 =>
  (F_X11_isOf n st a0 (2 : Int32) a1).bind fun v1 =>
  if v1 = (0 : Int32) then
    some (-2 : Int32)
  else
    if a2 = (-1 : Int32) then
      ((if a3 = (0 : Int32) then
          (isO st a0 11).bind fun q4 =>
          (F_X11_gamesOf n st a0 a1).bind fun v3 =>
          some v3
        else
          some (-2 : Int32)) : Option (Int32)).bind fun q5 =>
      some q5
    else
      (isO st a0 11).bind fun q7 =>
      (F_X11_gamesOf n st a0 a1).bind fun v6 =>
      (F_X11_isIn n st a2 (0 : Int32) (v6 - (1 : Int32))).bind fun v8 =>
      ((if v8 = (0 : Int32) then
          some (-2 : Int32)
        else
          (F_X11_isIn n st a3 (0 : Int32) (5 : Int32)).bind fun v9 =>
          if v9 = (0 : Int32) then
            some (-2 : Int32)
          else
            (isO st a0 11).bind fun q11 =>
            (F_X11_gameOf n st a0 a1 a2 a3).bind fun v10 =>
            some v10) : Option (Int32)).bind fun q12 =>
      some q12
def F_X11_goes_L32 (n : Nat) : Nat → xS → Option Nat → Int32 → Int32 → Int32 → Int32 → Option ((Int32))
  | 0 => fun _ _ _ _ _ _ => none
  | k + 1 => fun st a0 a2 a3 a4 a5 =>
    (isO st a0 11).bind fun q9 =>
    (F_X11_gamesOf n st a0 a2).bind fun v8 =>
    if v8 ≤ a5 then
      some a4
    else
      ((if a4 = (0 : Int32) then
          some (0 : Int32)
        else
          (isO st a0 11).bind fun q11 =>
          (F_X11_gameOf n st a0 a2 a5 (0 : Int32)).bind fun v10 =>
          (gR st a0 11 0).bind fun v12 =>
          (aI st v12 (a3 + (1 : Int32))).bind fun v13 =>
          if v13 ≤ v10 then
            some (0 : Int32)
          else
            (isO st a0 11).bind fun q15 =>
            (F_X11_gameOf n st a0 a2 a5 (1 : Int32)).bind fun v14 =>
            (gR st a0 11 0).bind fun v16 =>
            (aI st v16 (a3 + (1 : Int32))).bind fun v17 =>
            if v17 ≤ v14 then
              some (0 : Int32)
            else
              (isO st a0 11).bind fun q19 =>
              (F_X11_gameOf n st a0 a2 a5 (5 : Int32)).bind fun v18 =>
              (gR st a0 11 0).bind fun v20 =>
              (aI st v20 a3).bind fun v21 =>
              if v21 ≤ v18 then
                some (0 : Int32)
              else
                some (1 : Int32)) : Option (Int32)).bind fun q22 =>
      (some (a5 + (1 : Int32))).bind fun v23 =>
      F_X11_goes_L32 n k st a0 a2 a3 q22 v23
def F_X11_goes (n : Nat) (st : xS) (a0 : Option Nat) (a1 : Int32) (a2 : Int32) : Option (Int32) :=
  (isO st a0 11).bind fun q2 =>
  (F_X11_isOf n st a0 (0 : Int32) a1).bind fun v1 =>
  if v1 = (0 : Int32) then
    (rz (0 : Int32)).bind fun v3 =>
    some v3
  else
    (isO st a0 11).bind fun q5 =>
    (F_X11_isOf n st a0 (2 : Int32) a2).bind fun v4 =>
    if v4 = (0 : Int32) then
      (rz (0 : Int32)).bind fun v6 =>
      some v6
    else
      (F_X11_placeOf n st (0 : Int32) a1).bind fun v7 =>
      (F_X11_goes_L32 n n st a0 a2 v7 (1 : Int32) (0 : Int32)).bind fun q24 =>
      (rz q24).bind fun v25 =>
      some v25
def F_X11_ownOf (n : Nat) (st : xS) (a0 : Option Nat) (a1 : Int32) (a2 : Int32) : Option (Int32) :=
  (gR st a0 11 0).bind fun v1 =>
  (aI st v1 ((a1 + (32 : Int32)) + a2)).bind fun v2 =>
  some v2
def F_X11_groundOf (n : Nat) (st : xS) (a0 : Option Nat) (a1 : Int32) (a2 : Int32) (a3 : Int32) : Option (Int32) :=
  (isO st a0 11).bind fun q2 =>
  (F_X11_gameOf n st a0 a2 a3 (5 : Int32)).bind fun v1 =>
  ((if (0 : Int32) ≤ v1 then
      some v1
    else
      (isO st a0 11).bind fun q4 =>
      (F_X11_gameOf n st a0 a2 a3 (0 : Int32)).bind fun v3 =>
      (isO st a0 11).bind fun q6 =>
      (F_X11_ownOf n st a0 a1 v3).bind fun v5 =>
      some v5) : Option (Int32)).bind fun q7 =>
  some q7
def F_X11_loudOf (n : Nat) (st : xS) (a0 : Option Nat) (a1 : Int32) (a2 : Int32) (a3 : Int32) : Option (Int32) :=
  (isO st a0 11).bind fun q2 =>
  (F_X11_groundOf n st a0 a1 a2 a3).bind fun v1 =>
  (isO st a0 11).bind fun q4 =>
  (F_X11_gameOf n st a0 a2 a3 (3 : Int32)).bind fun v3 =>
  ((if v3 = (0 : Int32) then
      some (0 : Int32)
    else
      (gR st a0 11 0).bind fun v5 =>
      (aI st v5 ((a1 + (22 : Int32)) + v1)).bind fun v6 =>
      (gR st a0 11 0).bind fun v7 =>
      (aI st v7 ((a1 + (12 : Int32)) + v1)).bind fun v8 =>
      (dI v6 ((1 : Int32) + v8)).bind fun v9 =>
      some v9) : Option (Int32)).bind fun q10 =>
  some q10
def F_X11_restOf_L7 (n : Nat) : Nat → xS → Option Nat → Int32 → Int32 → Int32 → Int32 → Int32 → Option ((Int32))
  | 0 => fun _ _ _ _ _ _ _ => none
  | k + 1 => fun st a0 a1 a2 a3 a4 a5 =>
    if a2 ≤ a5 then
      some a4
    else
      (isO st a0 11).bind fun q2 =>
      (F_X11_gameOf n st a0 a1 a5 (0 : Int32)).bind fun v1 =>
      ((if v1 = a3 then
          (isO st a0 11).bind fun q4 =>
          (F_X11_gameOf n st a0 a1 a2 (2 : Int32)).bind fun v3 =>
          (isO st a0 11).bind fun q6 =>
          (F_X11_gameOf n st a0 a1 a5 (2 : Int32)).bind fun v5 =>
          (some (v3 - v5)).bind fun v7 =>
          some v7
        else
          (isO st a0 11).bind fun q9 =>
          (F_X11_gameOf n st a0 a1 a5 (1 : Int32)).bind fun v8 =>
          if v8 = a3 then
            (isO st a0 11).bind fun q11 =>
            (F_X11_gameOf n st a0 a1 a2 (2 : Int32)).bind fun v10 =>
            (isO st a0 11).bind fun q13 =>
            (F_X11_gameOf n st a0 a1 a5 (2 : Int32)).bind fun v12 =>
            (some (v10 - v12)).bind fun v14 =>
            some v14
          else
            some a4) : Option (Int32)).bind fun q15 =>
      (some (a5 + (1 : Int32))).bind fun v16 =>
      F_X11_restOf_L7 n k st a0 a1 a2 a3 q15 v16
def F_X11_restOf (n : Nat) (st : xS) (a0 : Option Nat) (a1 : Int32) (a2 : Int32) (a3 : Int32) : Option (Int32) :=
  (F_X11_restOf_L7 n n st a0 a1 a2 a3 (30 : Int32) (0 : Int32)).bind fun q17 =>
  some q17
def F_X11_timesOf (n : Nat) (st : xS) (a0 : Option Nat) (a1 : Int32) (a2 : Int32) (a3 : Int32) (a4 : Int32) (a5 : Int32) : Option (Int32) :=
  (isO st a0 11).bind fun q2 =>
  (F_X11_gameOf n st a0 a3 a4 (0 : Int32)).bind fun v1 =>
  (isO st a0 11).bind fun q4 =>
  (F_X11_gameOf n st a0 a3 a4 (1 : Int32)).bind fun v3 =>
  (isO st a0 11).bind fun q6 =>
  (F_X11_groundOf n st a0 a1 a3 a4).bind fun v5 =>
  (isO st a0 11).bind fun q8 =>
  (F_X11_ownOf n st a0 a1 v3).bind fun v7 =>
  (gR st a0 11 0).bind fun v9 =>
  (aI st v9 ((a2 + (7 : Int32)) + a5)).bind fun v10 =>
  if a5 = (0 : Int32) then
    (isO st a0 11).bind fun q12 =>
    (F_X11_ownOf n st a0 a1 v1).bind fun v11 =>
    ((if v5 = v11 then
        if v5 = v7 then
          some (0 : Int32)
        else
          some (1 : Int32)
      else
        some (0 : Int32)) : Option (Int32)).bind fun q13 =>
    some q13
  else
    if a5 = (1 : Int32) then
      (gR st a0 11 0).bind fun v14 =>
      (aI st v14 (((a1 + (50 : Int32)) + ((10 : Int32) * v7)) + v5)).bind fun v15 =>
      (dI v15 v10).bind fun v16 =>
      some v16
    else
      if a5 = (2 : Int32) then
        (isO st a0 11).bind fun q18 =>
        (F_X11_restOf n st a0 a3 a4 v3).bind fun v17 =>
        ((if v10 ≤ v17 then
            some (0 : Int32)
          else
            (isO st a0 11).bind fun q20 =>
            (F_X11_restOf n st a0 a3 a4 v1).bind fun v19 =>
            if v19 < v10 then
              some (0 : Int32)
            else
              some (1 : Int32)) : Option (Int32)).bind fun q21 =>
        some q21
      else
        if a5 = (3 : Int32) then
          (isO st a0 11).bind fun q23 =>
          (F_X11_loudOf n st a0 a1 a3 a4).bind fun v22 =>
          (dI v22 v10).bind fun v24 =>
          some v24
        else
          if a5 = (4 : Int32) then
            (isO st a0 11).bind fun q26 =>
            (F_X11_gameOf n st a0 a3 a4 (4 : Int32)).bind fun v25 =>
            ((if v25 = (0 : Int32) then
                some (0 : Int32)
              else
                (isO st a0 11).bind fun q28 =>
                (F_X11_loudOf n st a0 a1 a3 a4).bind fun v27 =>
                (dI v27 v10).bind fun v29 =>
                some v29) : Option (Int32)).bind fun q30 =>
            some q30
          else
            (gR st a0 11 0).bind fun v31 =>
            (aI st v31 ((a1 + (2 : Int32)) + v5)).bind fun v32 =>
            (gR st a0 11 0).bind fun v33 =>
            (aI st v33 ((a1 + (2 : Int32)) + v7)).bind fun v34 =>
            (some (v32 - v34)).bind fun v35 =>
            ((if (0 : Int32) ≤ v35 then
                (dI v35 v10).bind fun v36 =>
                some v36
              else
                some (0 : Int32)) : Option (Int32)).bind fun q37 =>
            some q37
def F_X11_partOf (n : Nat) (st : xS) (a0 : Option Nat) (a1 : Int32) (a2 : Int32) (a3 : Int32) (a4 : Int32) (a5 : Int32) : Option (Int32) :=
  (gR st a0 11 0).bind fun v1 =>
  (aI st v1 ((a2 + (1 : Int32)) + a5)).bind fun v2 =>
  (isO st a0 11).bind fun q4 =>
  (F_X11_timesOf n st a0 a1 a2 a3 a4 a5).bind fun v3 =>
  (some (v2 * v3)).bind fun v5 =>
  ((if v5 ≤ (50 : Int32) then
      some v5
    else
      some (50 : Int32)) : Option (Int32)).bind fun q6 =>
  some q6
def F_X11_edgeOf_L6 (n : Nat) : Nat → xS → Option Nat → Int32 → Int32 → Int32 → Int32 → Int32 → Int32 → Option ((Int32))
  | 0 => fun _ _ _ _ _ _ _ _ => none
  | k + 1 => fun st a0 a1 a2 a3 a4 a5 a6 =>
    if (6 : Int32) ≤ a6 then
      some a5
    else
      (gI st a0 11 15).bind fun v1 =>
      ((if a6 = v1 then
          some (0 : Int32)
        else
          (isO st a0 11).bind fun q3 =>
          (F_X11_partOf n st a0 a1 a2 a3 a4 a6).bind fun v2 =>
          some v2) : Option (Int32)).bind fun q4 =>
      (some (a5 + q4)).bind fun v5 =>
      (some (a6 + (1 : Int32))).bind fun v6 =>
      F_X11_edgeOf_L6 n k st a0 a1 a2 a3 a4 v5 v6
def F_X11_edgeOf (n : Nat) (st : xS) (a0 : Option Nat) (a1 : Int32) (a2 : Int32) (a3 : Int32) (a4 : Int32) : Option (Int32) :=
  (F_X11_edgeOf_L6 n n st a0 a1 a2 a3 a4 (0 : Int32) (0 : Int32)).bind fun q7 =>
  some q7
def F_X11_ofHundred (n : Nat) (st : xS) (a0 : Int32) : Option (Int32) :=
  ((if (0 : Int32) ≤ a0 then
      if a0 ≤ (100 : Int32) then
        some a0
      else
        some (100 : Int32)
    else
      some (0 : Int32)) : Option (Int32)).bind fun q1 =>
  some q1
def F_X11_goalOf (n : Nat) (st : xS) (a0 : Option Nat) (a1 : Int32) (a2 : Int32) (a3 : Int32) (a4 : Int32) (a5 : Int32) : Option (Int32) :=
  (gR st a0 11 0).bind fun v1 =>
  (isO st a0 11).bind fun q3 =>
  (F_X11_gameOf n st a0 a3 a4 (0 : Int32)).bind fun v2 =>
  (aI st v1 ((a1 + (40 : Int32)) + v2)).bind fun v4 =>
  (gR st a0 11 0).bind fun v5 =>
  (isO st a0 11).bind fun q7 =>
  (F_X11_gameOf n st a0 a3 a4 (1 : Int32)).bind fun v6 =>
  (aI st v5 ((a1 + (40 : Int32)) + v6)).bind fun v8 =>
  (some (v4 - v8)).bind fun v9 =>
  ((if a5 = (0 : Int32) then
      (gR st a0 11 0).bind fun v10 =>
      (aI st v10 a2).bind fun v11 =>
      some (v11 - v9)
    else
      (gR st a0 11 0).bind fun v12 =>
      (aI st v12 a2).bind fun v13 =>
      (isO st a0 11).bind fun q15 =>
      (F_X11_edgeOf n st a0 a1 a2 a3 a4).bind fun v14 =>
      some ((v13 + v9) + v14)) : Option (Int32)).bind fun q16 =>
  (F_X11_ofHundred n st q16).bind fun v17 =>
  some v17
def F_X11_shots_L21 (n : Nat) : Nat → xS → Int32 → Int32 → Int64 → Int32 → Option ((Int64))
  | 0 => fun _ _ _ _ _ => none
  | k + 1 => fun st a0 a1 a2 a4 =>
    if (3 : Int32) ≤ a4 then
      some a2
    else
      ((if a1 ≤ a4 then
          some (((100 : Int32) - a0).toInt64)
        else
          some a0.toInt64) : Option (Int64)).bind fun q2 =>
      (some (a2 * q2)).bind fun v3 =>
      (some (a4 + (1 : Int32))).bind fun v4 =>
      F_X11_shots_L21 n k st a0 a1 v3 v4
def F_X11_shots (n : Nat) (st : xS) (a0 : Int32) (a1 : Int32) : Option (Int64) :=
  ((if a1 = (1 : Int32) then
      some (3 : Int64)
    else
      if a1 = (2 : Int32) then
        some (3 : Int64)
      else
        some (1 : Int64)) : Option (Int64)).bind fun q1 =>
  (F_X11_shots_L21 n n st a0 a1 q1 (0 : Int32)).bind fun q5 =>
  some q5
def F_X11_chanceOf_L39 (n : Nat) : Nat → xS → Int32 → Int32 → Int32 → Int64 → Int32 → Int32 → Option ((Int64))
  | 0 => fun _ _ _ _ _ _ _ => none
  | k + 1 => fun st a5 a6 a7 a8 a10 a11 =>
    if (4 : Int32) ≤ a11 then
      some a8
    else
      ((if a10 ≤ a11 then
          if a10 = a11 then
            some (1 : Int32)
          else
            some (2 : Int32)
        else
          some (0 : Int32)) : Option (Int32)).bind fun q5 =>
      ((if q5 = a5 then
          (F_X11_shots n st a6 a10).bind fun v6 =>
          (F_X11_shots n st a7 a11).bind fun v7 =>
          some (v6 * v7)
        else
          some (0 : Int64)) : Option (Int64)).bind fun q8 =>
      (some (a8 + q8)).bind fun v9 =>
      (some (a11 + (1 : Int32))).bind fun v10 =>
      F_X11_chanceOf_L39 n k st a5 a6 a7 v9 a10 v10
def F_X11_chanceOf_L30 (n : Nat) : Nat → xS → Int32 → Int32 → Int32 → Int64 → Int32 → Option ((Int64))
  | 0 => fun _ _ _ _ _ _ => none
  | k + 1 => fun st a5 a6 a7 a8 a10 =>
    if (4 : Int32) ≤ a10 then
      some a8
    else
      (F_X11_chanceOf_L39 n n st a5 a6 a7 a8 a10 (0 : Int32)).bind fun q11 =>
      (some (a10 + (1 : Int32))).bind fun v12 =>
      F_X11_chanceOf_L30 n k st a5 a6 a7 q11 v12
def F_X11_chanceOf (n : Nat) (st : xS) (a0 : Option Nat) (a1 : Int32) (a2 : Int32) (a3 : Int32) (a4 : Int32) (a5 : Int32) : Option (Int64) :=
  (isO st a0 11).bind fun q2 =>
  (F_X11_goalOf n st a0 a1 a2 a3 a4 (1 : Int32)).bind fun v1 =>
  (isO st a0 11).bind fun q4 =>
  (F_X11_goalOf n st a0 a1 a2 a3 a4 (0 : Int32)).bind fun v3 =>
  (F_X11_chanceOf_L30 n n st a5 v1 v3 (0 : Int64) (0 : Int32)).bind fun q13 =>
  some q13
def F_X11_hopeOf (n : Nat) (st : xS) (a0 : Option Nat) (a1 : Int32) (a2 : Int32) (a3 : Int32) (a4 : Int32) : Option (Int64) :=
  (isO st a0 11).bind fun q2 =>
  (F_X11_chanceOf n st a0 a1 a2 a3 a4 (0 : Int32)).bind fun v1 =>
  (isO st a0 11).bind fun q4 =>
  (F_X11_chanceOf n st a0 a1 a2 a3 a4 (1 : Int32)).bind fun v3 =>
  some (((3 : Int64) * v1) + v3)
def F_X11_isGame (n : Nat) (st : xS) (a0 : Option Nat) (a1 : Int32) (a2 : Int32) (a3 : Int32) (a4 : Int32) : Option (Int32) :=
  (isO st a0 11).bind fun q2 =>
  (F_X11_goes n st a0 a1 a3).bind fun v1 =>
  ((if v1 = (0 : Int32) then
      some (0 : Int32)
    else
      (isO st a0 11).bind fun q4 =>
      (F_X11_isOf n st a0 (1 : Int32) a2).bind fun v3 =>
      if v3 = (0 : Int32) then
        some (0 : Int32)
      else
        (isO st a0 11).bind fun q6 =>
        (F_X11_gamesOf n st a0 a3).bind fun v5 =>
        (F_X11_isIn n st a4 (0 : Int32) (v5 - (1 : Int32))).bind fun v7 =>
        if v7 = (0 : Int32) then
          some (0 : Int32)
        else
          some (1 : Int32)) : Option (Int32)).bind fun q8 =>
  (rz q8).bind fun v9 =>
  some v9
def F_X11_worth (n : Nat) (st : xS) (a0 : Option Nat) (a1 : Int32) (a2 : Int32) (a3 : Int32) (a4 : Int32) (a5 : Int32) : Option (Int32) :=
  (isO st a0 11).bind fun q2 =>
  (F_X11_isGame n st a0 a1 a2 a3 a4).bind fun v1 =>
  if v1 = (0 : Int32) then
    some (-1 : Int32)
  else
    (F_X11_isIn n st a5 (0 : Int32) (9 : Int32)).bind fun v3 =>
    if v3 = (0 : Int32) then
      some (-1 : Int32)
    else
      (F_X11_placeOf n st (0 : Int32) a1).bind fun v4 =>
      (F_X11_placeOf n st (1 : Int32) a2).bind fun v5 =>
      if (6 : Int32) ≤ a5 then
        ((if a5 = (6 : Int32) then
            (isO st a0 11).bind fun q7 =>
            (F_X11_edgeOf n st a0 v4 v5 a3 a4).bind fun v6 =>
            some v6
          else
            if a5 = (7 : Int32) then
              (isO st a0 11).bind fun q9 =>
              (F_X11_loudOf n st a0 v4 a3 a4).bind fun v8 =>
              some v8
            else
              ((if a5 = (8 : Int32) then
                  some (1 : Int32)
                else
                  some (0 : Int32)) : Option (Int32)).bind fun q10 =>
              (isO st a0 11).bind fun q12 =>
              (F_X11_goalOf n st a0 v4 v5 a3 a4 q10).bind fun v11 =>
              some v11) : Option (Int32)).bind fun q13 =>
        some q13
      else
        (isO st a0 11).bind fun q15 =>
        (F_X11_partOf n st a0 v4 v5 a3 a4 a5).bind fun v14 =>
        some v14
def F_X11_chance (n : Nat) (st : xS) (a0 : Option Nat) (a1 : Int32) (a2 : Int32) (a3 : Int32) (a4 : Int32) (a5 : Int32) : Option (Int64) :=
  (isO st a0 11).bind fun q2 =>
  (F_X11_isGame n st a0 a1 a2 a3 a4).bind fun v1 =>
  if v1 = (0 : Int32) then
    some (-1 : Int64)
  else
    (F_X11_isIn n st a5 (0 : Int32) (3 : Int32)).bind fun v3 =>
    if v3 = (0 : Int32) then
      some (-1 : Int64)
    else
      ((if a5 = (3 : Int32) then
          (F_X11_placeOf n st (0 : Int32) a1).bind fun v4 =>
          (F_X11_placeOf n st (1 : Int32) a2).bind fun v5 =>
          (isO st a0 11).bind fun q7 =>
          (F_X11_hopeOf n st a0 v4 v5 a3 a4).bind fun v6 =>
          some v6
        else
          (F_X11_placeOf n st (0 : Int32) a1).bind fun v8 =>
          (F_X11_placeOf n st (1 : Int32) a2).bind fun v9 =>
          (isO st a0 11).bind fun q11 =>
          (F_X11_chanceOf n st a0 v8 v9 a3 a4 a5).bind fun v10 =>
          some v10) : Option (Int64)).bind fun q12 =>
      some q12
def F_X11_drawn (n : Nat) (st : xS) (a0 : Option Nat) (a1 : Int32) : Option (Int32 × xS) :=
  (gI st a0 11 16).bind fun v1 =>
  (pF st a0 11 16 (.int ((v1 * (1103515245 : Int32)) + (12345 : Int32)))).bind fun s2 =>
  (gI s2 a0 11 16).bind fun v3 =>
  (dR (ush v3 (16 : Int32)) a1).bind fun v4 =>
  some (v4, s2)
def F_X11_goals_L4 (n : Nat) : Nat → xS → Option Nat → Int32 → Int32 → Int32 → Option ((Int32 × xS))
  | 0 => fun _ _ _ _ _ => none
  | k + 1 => fun st a0 a1 a2 a3 =>
    if (3 : Int32) ≤ a3 then
      some (a2, st)
    else
      (isO st a0 11).bind fun q2 =>
      (F_X11_drawn n st a0 (100 : Int32)).bind fun p1 =>
      ((if a1 ≤ p1.1 then
          some (0 : Int32)
        else
          some (1 : Int32)) : Option (Int32)).bind fun q3 =>
      (some (a2 + q3)).bind fun v4 =>
      (some (a3 + (1 : Int32))).bind fun v5 =>
      F_X11_goals_L4 n k p1.2 a0 a1 v4 v5
def F_X11_goals (n : Nat) (st : xS) (a0 : Option Nat) (a1 : Int32) : Option (Int32 × xS) :=
  (F_X11_goals_L4 n n st a0 a1 (0 : Int32) (0 : Int32)).bind fun q6 =>
  some (q6.1, q6.2)
def F_X11_noteAt (n : Nat) (st : xS) (a0 : Option Nat) (a1 : Int32) (a2 : Int32) : Option (Int32) :=
  (gR st a0 11 0).bind fun v1 =>
  (aI st v1 (((1730 : Int32) + ((10 : Int32) * a1)) + a2)).bind fun v2 =>
  some v2
def F_X11_notes (n : Nat) (st : xS) (a0 : Option Nat) (a1 : Int32) (a2 : Int32) (a3 : Int32) : Option (xS) :=
  (gR st a0 11 0).bind fun v1 =>
  (sS 0 st v1 (((1730 : Int32) + ((10 : Int32) * a1)) + a2) a3).bind fun s2 =>
  some s2
def F_X11_play_L71 (n : Nat) : Nat → xS → Option Nat → Int32 → Int32 → Int32 → Int32 → Int32 → Option ((xS))
  | 0 => fun _ _ _ _ _ _ _ => none
  | k + 1 => fun st a0 a3 a5 a6 a7 a8 =>
    (isO st a0 11).bind fun q14 =>
    (F_X11_gamesOf n st a0 a3).bind fun v13 =>
    if v13 ≤ a8 then
      some st
    else
      (gR st a0 11 0).bind fun v15 =>
      (aI st v15 (3 : Int32)).bind fun v16 =>
      (isO st a0 11).bind fun q18 =>
      (F_X11_goalOf n st a0 a6 a7 a3 a8 (1 : Int32)).bind fun v17 =>
      (isO st a0 11).bind fun q20 =>
      (F_X11_goals n st a0 v17).bind fun p19 =>
      (isO p19.2 a0 11).bind fun q22 =>
      (F_X11_goalOf n p19.2 a0 a6 a7 a3 a8 (0 : Int32)).bind fun v21 =>
      (isO p19.2 a0 11).bind fun q24 =>
      (F_X11_goals n p19.2 a0 v21).bind fun p23 =>
      (isO p23.2 a0 11).bind fun q26 =>
      (F_X11_gameOf n p23.2 a0 a3 a8 (0 : Int32)).bind fun v25 =>
      (isO p23.2 a0 11).bind fun q28 =>
      (F_X11_notes n p23.2 a0 v16 (0 : Int32) v25).bind fun s27 =>
      (isO s27 a0 11).bind fun q30 =>
      (F_X11_gameOf n s27 a0 a3 a8 (1 : Int32)).bind fun v29 =>
      (isO s27 a0 11).bind fun q32 =>
      (F_X11_notes n s27 a0 v16 (1 : Int32) v29).bind fun s31 =>
      (isO s31 a0 11).bind fun q34 =>
      (F_X11_notes n s31 a0 v16 (2 : Int32) a5).bind fun s33 =>
      (isO s33 a0 11).bind fun q36 =>
      (F_X11_notes n s33 a0 v16 (3 : Int32) p19.1).bind fun s35 =>
      (isO s35 a0 11).bind fun q38 =>
      (F_X11_notes n s35 a0 v16 (4 : Int32) p23.1).bind fun s37 =>
      (isO s37 a0 11).bind fun q40 =>
      (F_X11_drawn n s37 a0 (4 : Int32)).bind fun p39 =>
      (isO p39.2 a0 11).bind fun q42 =>
      (F_X11_notes n p39.2 a0 v16 (5 : Int32) p39.1).bind fun s41 =>
      (isO s41 a0 11).bind fun q44 =>
      (F_X11_drawn n s41 a0 (4 : Int32)).bind fun p43 =>
      (isO p43.2 a0 11).bind fun q46 =>
      (F_X11_partOf n p43.2 a0 a6 a7 a3 a8 (4 : Int32)).bind fun v45 =>
      ((if v45 ≤ (0 : Int32) then
          some (0 : Int32)
        else
          some (1 : Int32)) : Option (Int32)).bind fun q47 =>
      (isO p43.2 a0 11).bind fun q49 =>
      (F_X11_notes n p43.2 a0 v16 (6 : Int32) (p43.1 + q47)).bind fun s48 =>
      (isO s48 a0 11).bind fun q51 =>
      (F_X11_drawn n s48 a0 (3 : Int32)).bind fun p50 =>
      (isO p50.2 a0 11).bind fun q53 =>
      (F_X11_gameOf n p50.2 a0 a3 a8 (4 : Int32)).bind fun v52 =>
      ((if v52 = (1 : Int32) then
          if p19.1 = (p23.1 - (1 : Int32)) then
            some (2 : Int32)
          else
            some (0 : Int32)
        else
          some (0 : Int32)) : Option (Int32)).bind fun q54 =>
      (isO p50.2 a0 11).bind fun q56 =>
      (F_X11_notes n p50.2 a0 v16 (7 : Int32) (((1 : Int32) + p50.1) + q54)).bind fun s55 =>
      (isO s55 a0 11).bind fun q58 =>
      (F_X11_loudOf n s55 a0 a6 a3 a8).bind fun v57 =>
      (isO s55 a0 11).bind fun q60 =>
      (F_X11_notes n s55 a0 v16 (8 : Int32) v57).bind fun s59 =>
      (isO s59 a0 11).bind fun q62 =>
      (F_X11_gameOf n s59 a0 a3 a8 (4 : Int32)).bind fun v61 =>
      (isO s59 a0 11).bind fun q64 =>
      (F_X11_notes n s59 a0 v16 (9 : Int32) v61).bind fun s63 =>
      (gR s63 a0 11 0).bind fun v65 =>
      (aI s63 v65 (3 : Int32)).bind fun v66 =>
      (sS 0 s63 v65 (3 : Int32) (v66 + (1 : Int32))).bind fun s67 =>
      (some (a8 + (1 : Int32))).bind fun v68 =>
      F_X11_play_L71 n k s67 a0 a3 a5 a6 a7 v68
def F_X11_play (n : Nat) (st : xS) (a0 : Option Nat) (a1 : Int32) (a2 : Int32) (a3 : Int32) (a4 : Int32) (a5 : Int32) : Option (Int32 × xS) :=
  (isO st a0 11).bind fun q2 =>
  (F_X11_goes n st a0 a1 a3).bind fun v1 =>
  if v1 = (0 : Int32) then
    some ((-1 : Int32), st)
  else
    (isO st a0 11).bind fun q4 =>
    (F_X11_isOf n st a0 (1 : Int32) a2).bind fun v3 =>
    if v3 = (0 : Int32) then
      some ((-1 : Int32), st)
    else
      (F_X11_isIn n st a5 (0 : Int32) (59 : Int32)).bind fun v5 =>
      if v5 = (0 : Int32) then
        some ((-1 : Int32), st)
      else
        (gR st a0 11 0).bind fun v6 =>
        (aI st v6 (3 : Int32)).bind fun v7 =>
        (isO st a0 11).bind fun q9 =>
        (F_X11_gamesOf n st a0 a3).bind fun v8 =>
        if (v7 + v8) ≤ (80 : Int32) then
          (F_X11_placeOf n st (0 : Int32) a1).bind fun v10 =>
          (F_X11_placeOf n st (1 : Int32) a2).bind fun v11 =>
          (pF st a0 11 16 (.int a4)).bind fun s12 =>
          (F_X11_play_L71 n n s12 a0 a3 a5 v10 v11 (0 : Int32)).bind fun q69 =>
          (isO q69 a0 11).bind fun q71 =>
          (F_X11_gamesOf n q69 a0 a3).bind fun v70 =>
          some (v70, q69)
        else
          some ((-1 : Int32), st)
def F_X11_note (n : Nat) (st : xS) (a0 : Option Nat) (a1 : Int32) (a2 : Int32) (a3 : Int32) (a4 : Int32) (a5 : Int32) (a6 : Int32) (a7 : Int32) (a8 : Int32) : Option (Int32 × xS) :=
  (F_X11_isIn n st a1 (0 : Int32) (7 : Int32)).bind fun v1 =>
  ((if v1 = (0 : Int32) then
      some (0 : Int32)
    else
      (F_X11_isIn n st a2 (0 : Int32) (7 : Int32)).bind fun v2 =>
      if v2 = (0 : Int32) then
        some (0 : Int32)
      else
        if a1 = a2 then
          some (0 : Int32)
        else
          (F_X11_isIn n st a3 (0 : Int32) (59 : Int32)).bind fun v3 =>
          if v3 = (0 : Int32) then
            some (0 : Int32)
          else
            (F_X11_isIn n st a4 (0 : Int32) (99 : Int32)).bind fun v4 =>
            if v4 = (0 : Int32) then
              some (0 : Int32)
            else
              (F_X11_isIn n st a5 (0 : Int32) (99 : Int32)).bind fun v5 =>
              if v5 = (0 : Int32) then
                some (0 : Int32)
              else
                (F_X11_isIn n st a6 (0 : Int32) (19 : Int32)).bind fun v6 =>
                if v6 = (0 : Int32) then
                  some (0 : Int32)
                else
                  (F_X11_isIn n st a7 (0 : Int32) (999 : Int32)).bind fun v7 =>
                  if v7 = (0 : Int32) then
                    some (0 : Int32)
                  else
                    (F_X11_isIn n st a8 (0 : Int32) (7 : Int32)).bind fun v8 =>
                    if v8 = (0 : Int32) then
                      some (0 : Int32)
                    else
                      some (1 : Int32)) : Option (Int32)).bind fun q9 =>
  if q9 = (0 : Int32) then
    some ((-1 : Int32), st)
  else
    (gR st a0 11 0).bind fun v10 =>
    (aI st v10 (3 : Int32)).bind fun v11 =>
    if v11 = (80 : Int32) then
      some ((-1 : Int32), st)
    else
      (gR st a0 11 0).bind fun v12 =>
      (aI st v12 (3 : Int32)).bind fun v13 =>
      (isO st a0 11).bind fun q15 =>
      (F_X11_notes n st a0 v13 (0 : Int32) a1).bind fun s14 =>
      (isO s14 a0 11).bind fun q17 =>
      (F_X11_notes n s14 a0 v13 (1 : Int32) a2).bind fun s16 =>
      (isO s16 a0 11).bind fun q19 =>
      (F_X11_notes n s16 a0 v13 (2 : Int32) a3).bind fun s18 =>
      (dI a4 (10 : Int32)).bind fun v20 =>
      (isO s18 a0 11).bind fun q22 =>
      (F_X11_notes n s18 a0 v13 (3 : Int32) v20).bind fun s21 =>
      (dR a4 (10 : Int32)).bind fun v23 =>
      (isO s21 a0 11).bind fun q25 =>
      (F_X11_notes n s21 a0 v13 (4 : Int32) v23).bind fun s24 =>
      (dI a5 (10 : Int32)).bind fun v26 =>
      (isO s24 a0 11).bind fun q28 =>
      (F_X11_notes n s24 a0 v13 (5 : Int32) v26).bind fun s27 =>
      (dR a5 (10 : Int32)).bind fun v29 =>
      (isO s27 a0 11).bind fun q31 =>
      (F_X11_notes n s27 a0 v13 (6 : Int32) v29).bind fun s30 =>
      (isO s30 a0 11).bind fun q33 =>
      (F_X11_notes n s30 a0 v13 (7 : Int32) a6).bind fun s32 =>
      (isO s32 a0 11).bind fun q35 =>
      (F_X11_notes n s32 a0 v13 (8 : Int32) a7).bind fun s34 =>
      (isO s34 a0 11).bind fun q37 =>
      (F_X11_notes n s34 a0 v13 (9 : Int32) a8).bind fun s36 =>
      (gR s36 a0 11 0).bind fun v38 =>
      (aI s36 v38 (3 : Int32)).bind fun v39 =>
      (sS 0 s36 v38 (3 : Int32) (v39 + (1 : Int32))).bind fun s40 =>
      some (v13, s40)
def F_X11_noted (n : Nat) (st : xS) (a0 : Option Nat) (a1 : Int32) (a2 : Int32) : Option (Int32) :=
  (gR st a0 11 0).bind fun v1 =>
  (aI st v1 (3 : Int32)).bind fun v2 =>
  (F_X11_isIn n st a1 (0 : Int32) (v2 - (1 : Int32))).bind fun v3 =>
  ((if v3 = (0 : Int32) then
      some (-1 : Int32)
    else
      (F_X11_isIn n st a2 (0 : Int32) (9 : Int32)).bind fun v4 =>
      if v4 = (0 : Int32) then
        some (-1 : Int32)
      else
        (isO st a0 11).bind fun q6 =>
        (F_X11_noteAt n st a0 a1 a2).bind fun v5 =>
        some v5) : Option (Int32)).bind fun q7 =>
  some q7
def F_X11_isOfYears (n : Nat) (st : xS) (a0 : Option Nat) (a1 : Int32) (a2 : Int32) (a3 : Int32) : Option (Int32) :=
  (isO st a0 11).bind fun q2 =>
  (F_X11_noteAt n st a0 a1 (2 : Int32)).bind fun v1 =>
  (F_X11_isIn n st v1 a2 a3).bind fun v3 =>
  (rz v3).bind fun v4 =>
  some v4
def F_X11_marginOf (n : Nat) (st : xS) (a0 : Option Nat) (a1 : Int32) : Option (Int32) :=
  (isO st a0 11).bind fun q2 =>
  (F_X11_noteAt n st a0 a1 (3 : Int32)).bind fun v1 =>
  (isO st a0 11).bind fun q4 =>
  (F_X11_noteAt n st a0 a1 (4 : Int32)).bind fun v3 =>
  some (v1 - v3)
def F_X11_sum_L17 (n : Nat) : Nat → xS → Option Nat → Int32 → Int32 → Int32 → Int32 → Int32 → Option ((Int32))
  | 0 => fun _ _ _ _ _ _ _ => none
  | k + 1 => fun st a0 a1 a2 a3 a4 a5 =>
    (gR st a0 11 0).bind fun v2 =>
    (aI st v2 (3 : Int32)).bind fun v3 =>
    if v3 ≤ a5 then
      some a4
    else
      (isO st a0 11).bind fun q5 =>
      (F_X11_isOfYears n st a0 a5 a1 a2).bind fun v4 =>
      ((if v4 = (0 : Int32) then
          some a4
        else
          (isO st a0 11).bind fun q7 =>
          (F_X11_marginOf n st a0 a5).bind fun v6 =>
          ((if a3 = (0 : Int32) then
              some (1 : Int32)
            else
              if a3 = (1 : Int32) then
                if v6 ≤ (0 : Int32) then
                  some (0 : Int32)
                else
                  some (1 : Int32)
              else
                if a3 = (2 : Int32) then
                  if v6 = (0 : Int32) then
                    some (1 : Int32)
                  else
                    some (0 : Int32)
                else
                  if a3 = (3 : Int32) then
                    if (0 : Int32) ≤ v6 then
                      some (0 : Int32)
                    else
                      some (1 : Int32)
                  else
                    (isO st a0 11).bind fun q9 =>
                    (F_X11_noteAt n st a0 a5 (a3 - (1 : Int32))).bind fun v8 =>
                    some v8) : Option (Int32)).bind fun q10 =>
          (some (a4 + q10)).bind fun v11 =>
          some v11) : Option (Int32)).bind fun q12 =>
      (some (a5 + (1 : Int32))).bind fun v13 =>
      F_X11_sum_L17 n k st a0 a1 a2 a3 q12 v13
def F_X11_sum (n : Nat) (st : xS) (a0 : Option Nat) (a1 : Int32) (a2 : Int32) (a3 : Int32) : Option (Int32) :=
  (F_X11_isIn n st a3 (0 : Int32) (5 : Int32)).bind fun v1 =>
  if v1 = (0 : Int32) then
    some (-1 : Int32)
  else
    (F_X11_sum_L17 n n st a0 a1 a2 a3 (0 : Int32) (0 : Int32)).bind fun q14 =>
    some q14
def F_X11_isBy (n : Nat) (st : xS) (a0 : Option Nat) (a1 : Int32) (a2 : Int32) : Option (Int32) :=
  (isO st a0 11).bind fun q2 =>
  (F_X11_noteAt n st a0 a1 (0 : Int32)).bind fun v1 =>
  ((if v1 = a2 then
      some (1 : Int32)
    else
      (isO st a0 11).bind fun q4 =>
      (F_X11_noteAt n st a0 a1 (1 : Int32)).bind fun v3 =>
      if v3 = a2 then
        some (1 : Int32)
      else
        some (0 : Int32)) : Option (Int32)).bind fun q5 =>
  (rz q5).bind fun v6 =>
  some v6
def F_X11_madeOf_L6 (n : Nat) : Nat → xS → Option Nat → Int32 → Int32 → Int32 → Int32 → Int32 → Int32 → Option ((Int32))
  | 0 => fun _ _ _ _ _ _ _ _ => none
  | k + 1 => fun st a0 a1 a2 a3 a4 a5 a6 =>
    (gR st a0 11 0).bind fun v1 =>
    (aI st v1 (3 : Int32)).bind fun v2 =>
    if v2 ≤ a6 then
      some a5
    else
      (isO st a0 11).bind fun q4 =>
      (F_X11_isOfYears n st a0 a6 a1 a2).bind fun v3 =>
      ((if v3 = (0 : Int32) then
          some a5
        else
          (isO st a0 11).bind fun q6 =>
          (F_X11_isBy n st a0 a6 a3).bind fun v5 =>
          if v5 = (0 : Int32) then
            some a5
          else
            (isO st a0 11).bind fun q8 =>
            (F_X11_noteAt n st a0 a6 (0 : Int32)).bind fun v7 =>
            ((if v7 = a3 then
                (isO st a0 11).bind fun q10 =>
                (F_X11_marginOf n st a0 a6).bind fun v9 =>
                some v9
              else
                (isO st a0 11).bind fun q12 =>
                (F_X11_marginOf n st a0 a6).bind fun v11 =>
                some (-v11)) : Option (Int32)).bind fun q13 =>
            ((if a4 = (0 : Int32) then
                if q13 ≤ (0 : Int32) then
                  if q13 = (0 : Int32) then
                    some (1 : Int32)
                  else
                    some (0 : Int32)
                else
                  some (3 : Int32)
              else
                if a4 = (1 : Int32) then
                  some q13
                else
                  if a4 = (2 : Int32) then
                    (isO st a0 11).bind fun q15 =>
                    (F_X11_noteAt n st a0 a6 (0 : Int32)).bind fun v14 =>
                    ((if v14 = a3 then
                        some (3 : Int32)
                      else
                        some (4 : Int32)) : Option (Int32)).bind fun q16 =>
                    (isO st a0 11).bind fun q18 =>
                    (F_X11_noteAt n st a0 a6 q16).bind fun v17 =>
                    some v17
                  else
                    some (1 : Int32)) : Option (Int32)).bind fun q19 =>
            (some (a5 + q19)).bind fun v20 =>
            some v20) : Option (Int32)).bind fun q21 =>
      (some (a6 + (1 : Int32))).bind fun v22 =>
      F_X11_madeOf_L6 n k st a0 a1 a2 a3 a4 q21 v22
def F_X11_madeOf (n : Nat) (st : xS) (a0 : Option Nat) (a1 : Int32) (a2 : Int32) (a3 : Int32) (a4 : Int32) : Option (Int32) :=
  (F_X11_madeOf_L6 n n st a0 a1 a2 a3 a4 (0 : Int32) (0 : Int32)).bind fun q23 =>
  some q23
def F_X11_isAhead_L6 (n : Nat) : Nat → xS → Option Nat → Int32 → Int32 → Int32 → Int32 → Int32 → Int32 → Option ((Int32))
  | 0 => fun _ _ _ _ _ _ _ _ => none
  | k + 1 => fun st a0 a1 a2 a3 a4 a5 a6 =>
    if (3 : Int32) ≤ a6 then
      some a5
    else
      if a5 = (0 : Int32) then
        (isO st a0 11).bind fun q2 =>
        (F_X11_madeOf n st a0 a1 a2 a3 a6).bind fun v1 =>
        (isO st a0 11).bind fun q4 =>
        (F_X11_madeOf n st a0 a1 a2 a4 a6).bind fun v3 =>
        (some (v1 - v3)).bind fun v5 =>
        (some (a6 + (1 : Int32))).bind fun v6 =>
        F_X11_isAhead_L6 n k st a0 a1 a2 a3 a4 v5 v6
      else
        some a5
def F_X11_isAhead (n : Nat) (st : xS) (a0 : Option Nat) (a1 : Int32) (a2 : Int32) (a3 : Int32) (a4 : Int32) : Option (Int32) :=
  (F_X11_isAhead_L6 n n st a0 a1 a2 a3 a4 (0 : Int32) (0 : Int32)).bind fun q7 =>
  ((if (0 : Int32) < q7 then
      some (1 : Int32)
    else
      if q7 = (0 : Int32) then
        if a4 ≤ a3 then
          some (0 : Int32)
        else
          some (1 : Int32)
      else
        some (0 : Int32)) : Option (Int32)).bind fun q8 =>
  (rz q8).bind fun v9 =>
  some v9
def F_X11_table_L31 (n : Nat) : Nat → xS → Option Nat → Int32 → Int32 → Int32 → Int32 → Int32 → Int32 → Option ((Int32))
  | 0 => fun _ _ _ _ _ _ _ _ => none
  | k + 1 => fun st a0 a1 a2 a3 a4 a5 a6 =>
    if (8 : Int32) ≤ a6 then
      some a5
    else
      ((if a6 = a4 then
          some (0 : Int32)
        else
          (isO st a0 11).bind fun q5 =>
          (F_X11_madeOf n st a0 a1 a2 a6 (3 : Int32)).bind fun v4 =>
          if v4 ≤ (0 : Int32) then
            some (0 : Int32)
          else
            (isO st a0 11).bind fun q7 =>
            (F_X11_isAhead n st a0 a1 a2 a6 a4).bind fun v6 =>
            if v6 = (0 : Int32) then
              some (0 : Int32)
            else
              some (1 : Int32)) : Option (Int32)).bind fun q8 =>
      (some (a5 + q8)).bind fun v9 =>
      (some (a6 + (1 : Int32))).bind fun v10 =>
      F_X11_table_L31 n k st a0 a1 a2 a3 a4 v9 v10
def F_X11_table_L3 (n : Nat) : Nat → xS → Option Nat → Int32 → Int32 → Int32 → Int32 → Option (Int32)
  | 0 => fun _ _ _ _ _ _ => none
  | k + 1 => fun st a0 a1 a2 a3 a4 =>
    if (8 : Int32) ≤ a4 then
      some (-1 : Int32)
    else
      (isO st a0 11).bind fun q2 =>
      (F_X11_madeOf n st a0 a1 a2 a4 (3 : Int32)).bind fun v1 =>
      if v1 = (0 : Int32) then
        (some (a4 + (1 : Int32))).bind fun v3 =>
        F_X11_table_L3 n k st a0 a1 a2 a3 v3
      else
        (F_X11_table_L31 n n st a0 a1 a2 a3 a4 (0 : Int32) (0 : Int32)).bind fun q11 =>
        if q11 = a3 then
          some a4
        else
          (some (a4 + (1 : Int32))).bind fun v12 =>
          F_X11_table_L3 n k st a0 a1 a2 a3 v12
def F_X11_table (n : Nat) (st : xS) (a0 : Option Nat) (a1 : Int32) (a2 : Int32) (a3 : Int32) : Option (Int32) :=
  F_X11_table_L3 n n st a0 a1 a2 a3 (0 : Int32)
def F_X11_points (n : Nat) (st : xS) (a0 : Option Nat) (a1 : Int32) (a2 : Int32) (a3 : Int32) : Option (Int32) :=
  (F_X11_isIn n st a3 (0 : Int32) (7 : Int32)).bind fun v1 =>
  ((if v1 = (0 : Int32) then
      some (-1 : Int32)
    else
      (isO st a0 11).bind fun q3 =>
      (F_X11_madeOf n st a0 a1 a2 a3 (0 : Int32)).bind fun v2 =>
      some v2) : Option (Int32)).bind fun q4 =>
  some q4
def F_X11_common_L28 (n : Nat) : Nat → xS → Int64 → Int64 → Option ((Int64))
  | 0 => fun _ _ _ => none
  | k + 1 => fun st a4 a6 =>
    if (lg_cmp a6 (0 : Int64)) = (0 : Int32) then
      some a4
    else
      (dM a4 a6).bind fun v3 =>
      F_X11_common_L28 n k st a6 v3
def F_X11_common (n : Nat) (st : xS) (a0 : Int64) (a2 : Int64) : Option (Int64) :=
  ((if (0 : Int32) ≤ (lg_cmp a0 (0 : Int64)) then
      some a0
    else
      some (-a0)) : Option (Int64)).bind fun q1 =>
  ((if (0 : Int32) ≤ (lg_cmp a2 (0 : Int64)) then
      some a2
    else
      some (-a2)) : Option (Int64)).bind fun q2 =>
  (F_X11_common_L28 n n st q1 q2).bind fun q4 =>
  some q4
def F_X11_least (n : Nat) (st : xS) (a0 : Int64) (a2 : Int64) (a4 : Int32) : Option (Int64) :=
  (F_X11_common n st a0 a2).bind fun v1 =>
  ((if (0 : Int32) ≤ (lg_cmp a2 (0 : Int64)) then
      some v1
    else
      some (-v1)) : Option (Int64)).bind fun q2 =>
  ((if a4 = (0 : Int32) then
      (dL a0 q2).bind fun v3 =>
      some v3
    else
      (dL a2 q2).bind fun v4 =>
      some v4) : Option (Int64)).bind fun q5 =>
  some q5
def F_X11_adds (n : Nat) (st : xS) (a0 : Option Nat) (a1 : Int32) (a2 : Int32) : Option (xS) :=
  (gI st a0 11 17).bind fun v1 =>
  ((if a1 = (0 : Int32) then
      some (0 : Int32)
    else
      some (1 : Int32)) : Option (Int32)).bind fun q2 =>
  (pF st a0 11 17 (.int (v1 + q2))).bind fun s3 =>
  (gI s3 a0 11 18).bind fun v4 =>
  ((if a1 = (0 : Int32) then
      some (1 : Int32)
    else
      some (0 : Int32)) : Option (Int32)).bind fun q5 =>
  (pF s3 a0 11 18 (.int (v4 + q5))).bind fun s6 =>
  (gI s6 a0 11 19).bind fun v7 =>
  ((if a1 = (0 : Int32) then
      some (0 : Int32)
    else
      some a2) : Option (Int32)).bind fun q8 =>
  (pF s6 a0 11 19 (.int (v7 + q8))).bind fun s9 =>
  (gI s9 a0 11 20).bind fun v10 =>
  ((if a1 = (0 : Int32) then
      some a2
    else
      some (0 : Int32)) : Option (Int32)).bind fun q11 =>
  (pF s9 a0 11 20 (.int (v10 + q11))).bind fun s12 =>
  some s12
def F_X11_nothing (n : Nat) (st : xS) (a0 : Option Nat) : Option (xS) :=
  (pF st a0 11 17 (.int (0 : Int32))).bind fun s1 =>
  (pF s1 a0 11 18 (.int (0 : Int32))).bind fun s2 =>
  (pF s2 a0 11 19 (.int (0 : Int32))).bind fun s3 =>
  (pF s3 a0 11 20 (.int (0 : Int32))).bind fun s4 =>
  some s4
def F_X11_apart (n : Nat) (st : xS) (a0 : Option Nat) (a1 : Int32) : Option (Int32) :=
  (gI st a0 11 17).bind fun v1 =>
  ((if v1 = (0 : Int32) then
      some (-1000000 : Int32)
    else
      (gI st a0 11 18).bind fun v2 =>
      if v2 = (0 : Int32) then
        some (-1000000 : Int32)
      else
        (gI st a0 11 19).bind fun v3 =>
        (gI st a0 11 18).bind fun v4 =>
        (gI st a0 11 20).bind fun v5 =>
        (gI st a0 11 17).bind fun v6 =>
        (gI st a0 11 17).bind fun v7 =>
        (gI st a0 11 18).bind fun v8 =>
        (F_X11_least n st ((v3.toInt64 * v4.toInt64) - (v5.toInt64 * v6.toInt64)) (v7.toInt64 * v8.toInt64) a1).bind fun v9 =>
        some v9.toInt32) : Option (Int32)).bind fun q10 =>
  some q10
def F_X11_alone_L7 (n : Nat) : Nat → xS → Option Nat → Int32 → Int32 → Int32 → Int32 → Option ((xS))
  | 0 => fun _ _ _ _ _ _ => none
  | k + 1 => fun st a0 a1 a2 a3 a4 =>
    (gR st a0 11 0).bind fun v3 =>
    (aI st v3 (3 : Int32)).bind fun v4 =>
    if v4 ≤ a4 then
      some st
    else
      (isO st a0 11).bind fun q6 =>
      (F_X11_isOfYears n st a0 a4 a1 a2).bind fun v5 =>
      ((if v5 = (0 : Int32) then
          some st
        else
          (isO st a0 11).bind fun q8 =>
          (F_X11_marginOf n st a0 a4).bind fun v7 =>
          (isO st a0 11).bind fun q10 =>
          (F_X11_adds n st a0 (1 : Int32) v7).bind fun s9 =>
          some s9) : Option (xS)).bind fun q11 =>
      (some (a4 + (1 : Int32))).bind fun v12 =>
      F_X11_alone_L7 n k q11 a0 a1 a2 a3 v12
def F_X11_alone (n : Nat) (st : xS) (a0 : Option Nat) (a1 : Int32) (a2 : Int32) (a3 : Int32) : Option (Int32 × xS) :=
  (isO st a0 11).bind fun q2 =>
  (F_X11_nothing n st a0 ).bind fun s1 =>
  (F_X11_alone_L7 n n s1 a0 a1 a2 a3 (0 : Int32)).bind fun q13 =>
  (gI q13 a0 11 17).bind fun v14 =>
  ((if v14 = (0 : Int32) then
      some (-1000000 : Int32)
    else
      (gI q13 a0 11 19).bind fun v15 =>
      (gI q13 a0 11 17).bind fun v16 =>
      (F_X11_least n q13 v15.toInt64 v16.toInt64 a3).bind fun v17 =>
      some v17.toInt32) : Option (Int32)).bind fun q18 =>
  some (q18, q13)
def F_X11_people_L22 (n : Nat) : Nat → xS → Option Nat → Int32 → Int32 → Int32 → Int32 → Int32 → Option ((xS))
  | 0 => fun _ _ _ _ _ _ _ => none
  | k + 1 => fun st a0 a1 a2 a3 a4 a5 =>
    (gR st a0 11 0).bind fun v4 =>
    (aI st v4 (3 : Int32)).bind fun v5 =>
    if v5 ≤ a5 then
      some st
    else
      (isO st a0 11).bind fun q7 =>
      (F_X11_isOfYears n st a0 a5 a1 a2).bind fun v6 =>
      ((if v6 = (0 : Int32) then
          some st
        else
          (isO st a0 11).bind fun q9 =>
          (F_X11_noteAt n st a0 a5 (8 : Int32)).bind fun v8 =>
          ((if v8 < a3 then
              some (0 : Int32)
            else
              some (1 : Int32)) : Option (Int32)).bind fun q10 =>
          (isO st a0 11).bind fun q12 =>
          (F_X11_marginOf n st a0 a5).bind fun v11 =>
          (isO st a0 11).bind fun q14 =>
          (F_X11_adds n st a0 q10 v11).bind fun s13 =>
          some s13) : Option (xS)).bind fun q15 =>
      (some (a5 + (1 : Int32))).bind fun v16 =>
      F_X11_people_L22 n k q15 a0 a1 a2 a3 a4 v16
def F_X11_people (n : Nat) (st : xS) (a0 : Option Nat) (a1 : Int32) (a2 : Int32) (a3 : Int32) (a4 : Int32) : Option (Int32 × xS) :=
  (F_X11_isIn n st a3 (0 : Int32) (1000 : Int32)).bind fun v1 =>
  if v1 = (0 : Int32) then
    some ((-1000000 : Int32), st)
  else
    (isO st a0 11).bind fun q3 =>
    (F_X11_nothing n st a0 ).bind fun s2 =>
    (F_X11_people_L22 n n s2 a0 a1 a2 a3 a4 (0 : Int32)).bind fun q17 =>
    (isO q17 a0 11).bind fun q19 =>
    (F_X11_apart n q17 a0 a4).bind fun v18 =>
    some (v18, q17)
def F_X11_longer_L7 (n : Nat) : Nat → xS → Option Nat → Int32 → Int32 → Int32 → Int32 → Int32 → Option ((xS))
  | 0 => fun _ _ _ _ _ _ _ => none
  | k + 1 => fun st a0 a1 a2 a3 a4 a5 =>
    (gR st a0 11 0).bind fun v3 =>
    (aI st v3 (3 : Int32)).bind fun v4 =>
    if v4 ≤ a5 then
      some st
    else
      (isO st a0 11).bind fun q6 =>
      (F_X11_marginOf n st a0 a5).bind fun v5 =>
      (isO st a0 11).bind fun q8 =>
      (F_X11_isOfYears n st a0 a5 a1 a2).bind fun v7 =>
      ((if v7 = (0 : Int32) then
          some st
        else
          (isO st a0 11).bind fun q10 =>
          (F_X11_noteAt n st a0 a5 (9 : Int32)).bind fun v9 =>
          if v9 = a3 then
            if v5 = (1 : Int32) then
              ((if v5 = (-1 : Int32) then
                  some (1 : Int32)
                else
                  some (0 : Int32)) : Option (Int32)).bind fun q11 =>
              (isO st a0 11).bind fun q13 =>
              (F_X11_noteAt n st a0 a5 (7 : Int32)).bind fun v12 =>
              (isO st a0 11).bind fun q15 =>
              (F_X11_adds n st a0 q11 v12).bind fun s14 =>
              some s14
            else
              if v5 = (-1 : Int32) then
                ((if v5 = (-1 : Int32) then
                    some (1 : Int32)
                  else
                    some (0 : Int32)) : Option (Int32)).bind fun q16 =>
                (isO st a0 11).bind fun q18 =>
                (F_X11_noteAt n st a0 a5 (7 : Int32)).bind fun v17 =>
                (isO st a0 11).bind fun q20 =>
                (F_X11_adds n st a0 q16 v17).bind fun s19 =>
                some s19
              else
                some st
          else
            some st) : Option (xS)).bind fun q21 =>
      (some (a5 + (1 : Int32))).bind fun v22 =>
      F_X11_longer_L7 n k q21 a0 a1 a2 a3 a4 v22
def F_X11_longer (n : Nat) (st : xS) (a0 : Option Nat) (a1 : Int32) (a2 : Int32) (a3 : Int32) (a4 : Int32) : Option (Int32 × xS) :=
  (isO st a0 11).bind fun q2 =>
  (F_X11_nothing n st a0 ).bind fun s1 =>
  (F_X11_longer_L7 n n s1 a0 a1 a2 a3 a4 (0 : Int32)).bind fun q23 =>
  (isO q23 a0 11).bind fun q25 =>
  (F_X11_apart n q23 a0 a4).bind fun v24 =>
  some (v24, q23)
def F_X11_slope_L18 (n : Nat) : Nat → xS → Option Nat → Int32 → Int32 → Int32 → Int64 → Int64 → Int64 → Int64 → Int64 → Int32 → Option ((Int64 × Int64 × Int64 × Int64 × Int64))
  | 0 => fun _ _ _ _ _ _ _ _ _ _ _ => none
  | k + 1 => fun st a0 a1 a2 a3 a4 a6 a8 a10 a12 a14 =>
    (gR st a0 11 0).bind fun v1 =>
    (aI st v1 (3 : Int32)).bind fun v2 =>
    if v2 ≤ a14 then
      some (a4, a6, a8, a10, a12)
    else
      (isO st a0 11).bind fun q4 =>
      (F_X11_isOfYears n st a0 a14 a1 a2).bind fun v3 =>
      ((if v3 = (0 : Int32) then
          some (a4, a6, a8, a10, a12)
        else
          (isO st a0 11).bind fun q6 =>
          (F_X11_noteAt n st a0 a14 (2 : Int32)).bind fun v5 =>
          (some (a4 + (1 : Int64))).bind fun v7 =>
          (some (a6 + v5.toInt64)).bind fun v8 =>
          (isO st a0 11).bind fun q10 =>
          (F_X11_marginOf n st a0 a14).bind fun v9 =>
          (some (a8 + v9.toInt64)).bind fun v11 =>
          (some (a10 + (v5.toInt64 * v5.toInt64))).bind fun v12 =>
          (isO st a0 11).bind fun q14 =>
          (F_X11_marginOf n st a0 a14).bind fun v13 =>
          (some (a12 + (v5.toInt64 * v13.toInt64))).bind fun v15 =>
          some (v7, v8, v11, v12, v15)) : Option (Int64 × Int64 × Int64 × Int64 × Int64)).bind fun q16 =>
      (some (a14 + (1 : Int32))).bind fun v17 =>
      F_X11_slope_L18 n k st a0 a1 a2 a3 q16.1 q16.2.1 q16.2.2.1 q16.2.2.2.1 q16.2.2.2.2 v17
def F_X11_slope (n : Nat) (st : xS) (a0 : Option Nat) (a1 : Int32) (a2 : Int32) (a3 : Int32) : Option (Int32) :=
  (F_X11_slope_L18 n n st a0 a1 a2 a3 (0 : Int64) (0 : Int64) (0 : Int64) (0 : Int64) (0 : Int64) (0 : Int32)).bind fun q18 =>
  (some ((q18.1 * q18.2.2.2.1) - (q18.2.1 * q18.2.1))).bind fun v19 =>
  ((if (lg_cmp v19 (0 : Int64)) = (0 : Int32) then
      some (-1000000 : Int32)
    else
      (F_X11_least n st ((q18.1 * q18.2.2.2.2) - (q18.2.1 * q18.2.2.1)) v19 a3).bind fun v20 =>
      some v20.toInt32) : Option (Int32)).bind fun q21 =>
  some q21
def F_X11_meets_L12 (n : Nat) : Nat → xS → Option Nat → Int32 → Int32 → Int32 → Option ((xS))
  | 0 => fun _ _ _ _ _ => none
  | k + 1 => fun st a0 a1 a2 a3 =>
    if (8 : Int32) ≤ a3 then
      some st
    else
      (gR st a0 11 22).bind fun v3 =>
      (sS 0 st v3 a3 (-1 : Int32)).bind fun s4 =>
      (isO s4 a0 11).bind fun q6 =>
      (F_X11_madeOf n s4 a0 a1 a2 a3 (3 : Int32)).bind fun v5 =>
      ((if v5 = (0 : Int32) then
          some s4
        else
          (gI s4 a0 11 24).bind fun v7 =>
          if (0 : Int32) ≤ v7 then
            (gR s4 a0 11 22).bind fun v8 =>
            (gI s4 a0 11 23).bind fun v9 =>
            (sS 0 s4 v8 a3 v9).bind fun s10 =>
            (gI s10 a0 11 23).bind fun v11 =>
            (pF s10 a0 11 23 (.int (v11 + (1 : Int32)))).bind fun s12 =>
            some s12
          else
            (pF s4 a0 11 24 (.int a3)).bind fun s13 =>
            some s13) : Option (xS)).bind fun q14 =>
      (some (a3 + (1 : Int32))).bind fun v15 =>
      F_X11_meets_L12 n k q14 a0 a1 a2 v15
def F_X11_meets (n : Nat) (st : xS) (a0 : Option Nat) (a1 : Int32) (a2 : Int32) : Option (xS) :=
  (pF st a0 11 23 (.int (1 : Int32))).bind fun s1 =>
  (pF s1 a0 11 24 (.int (-1 : Int32))).bind fun s2 =>
  (F_X11_meets_L12 n n s2 a0 a1 a2 (0 : Int32)).bind fun q16 =>
  some q16
def F_X11_countsIn (n : Nat) (st : xS) (a0 : Option Nat) (a1 : Int32) (a2 : Int32) : Option (Int32) :=
  if a2 = (0 : Int32) then
    some (1 : Int32)
  else
    (gR st a0 11 22).bind fun v1 =>
    (isO st a0 11).bind fun q3 =>
    (F_X11_noteAt n st a0 a1 (0 : Int32)).bind fun v2 =>
    (aI st v1 v2).bind fun v4 =>
    ((if v4 = a2 then
        some (1 : Int32)
      else
        some (0 : Int32)) : Option (Int32)).bind fun q5 =>
    (gR st a0 11 22).bind fun v6 =>
    (isO st a0 11).bind fun q8 =>
    (F_X11_noteAt n st a0 a1 (1 : Int32)).bind fun v7 =>
    (aI st v6 v7).bind fun v9 =>
    ((if v9 = a2 then
        some (1 : Int32)
      else
        some (0 : Int32)) : Option (Int32)).bind fun q10 =>
    some (q5 - q10)
def F_X11_squares_L2 (n : Nat) : Nat → xS → Option Nat → Int32 → Int32 → Int32 → Option ((xS))
  | 0 => fun _ _ _ _ _ => none
  | k + 1 => fun st a0 a1 a2 a3 =>
    if (42 : Int32) ≤ a3 then
      some st
    else
      (gR st a0 11 21).bind fun v1 =>
      (sL st v1 a3 (0 : Int64)).bind fun s2 =>
      (some (a3 + (1 : Int32))).bind fun v3 =>
      F_X11_squares_L2 n k s2 a0 a1 a2 v3
def F_X11_squares_L61 (n : Nat) : Nat → xS → Option Nat → Int32 → Int32 → Int32 → Int32 → Int32 → Option ((xS))
  | 0 => fun _ _ _ _ _ _ _ => none
  | k + 1 => fun st a0 a1 a2 a3 a4 a5 =>
    (gI st a0 11 23).bind fun v10 =>
    if v10 ≤ a5 then
      some st
    else
      (gR st a0 11 21).bind fun v11 =>
      (aL st v11 (((7 : Int32) * a4) + a5)).bind fun v12 =>
      (isO st a0 11).bind fun q14 =>
      (F_X11_countsIn n st a0 a3 a4).bind fun v13 =>
      (isO st a0 11).bind fun q16 =>
      (F_X11_countsIn n st a0 a3 a5).bind fun v15 =>
      (sL st v11 (((7 : Int32) * a4) + a5) (v12 + ((v13 * v15).toInt64))).bind fun s17 =>
      (some (a5 + (1 : Int32))).bind fun v18 =>
      F_X11_squares_L61 n k s17 a0 a1 a2 a3 a4 v18
def F_X11_squares_L49 (n : Nat) : Nat → xS → Option Nat → Int32 → Int32 → Int32 → Int32 → Option ((xS))
  | 0 => fun _ _ _ _ _ _ => none
  | k + 1 => fun st a0 a1 a2 a3 a4 =>
    (gI st a0 11 23).bind fun v9 =>
    if v9 ≤ a4 then
      some st
    else
      (F_X11_squares_L61 n n st a0 a1 a2 a3 a4 (0 : Int32)).bind fun q19 =>
      (gR q19 a0 11 21).bind fun v20 =>
      (aL q19 v20 (((7 : Int32) * a4) + (6 : Int32))).bind fun v21 =>
      (isO q19 a0 11).bind fun q23 =>
      (F_X11_countsIn n q19 a0 a3 a4).bind fun v22 =>
      (isO q19 a0 11).bind fun q25 =>
      (F_X11_marginOf n q19 a0 a3).bind fun v24 =>
      (sL q19 v20 (((7 : Int32) * a4) + (6 : Int32)) (v21 + ((v22 * v24).toInt64))).bind fun s26 =>
      (some (a4 + (1 : Int32))).bind fun v27 =>
      F_X11_squares_L49 n k s26 a0 a1 a2 a3 v27
def F_X11_squares_L23 (n : Nat) : Nat → xS → Option Nat → Int32 → Int32 → Int32 → Option ((xS))
  | 0 => fun _ _ _ _ _ => none
  | k + 1 => fun st a0 a1 a2 a3 =>
    (gR st a0 11 0).bind fun v5 =>
    (aI st v5 (3 : Int32)).bind fun v6 =>
    if v6 ≤ a3 then
      some st
    else
      (isO st a0 11).bind fun q8 =>
      (F_X11_isOfYears n st a0 a3 a1 a2).bind fun v7 =>
      ((if v7 = (0 : Int32) then
          some st
        else
          (F_X11_squares_L49 n n st a0 a1 a2 a3 (0 : Int32)).bind fun q28 =>
          some q28) : Option (xS)).bind fun q29 =>
      (some (a3 + (1 : Int32))).bind fun v30 =>
      F_X11_squares_L23 n k q29 a0 a1 a2 v30
def F_X11_squares (n : Nat) (st : xS) (a0 : Option Nat) (a1 : Int32) (a2 : Int32) : Option (xS) :=
  (F_X11_squares_L2 n n st a0 a1 a2 (0 : Int32)).bind fun q4 =>
  (F_X11_squares_L23 n n q4 a0 a1 a2 (0 : Int32)).bind fun q31 =>
  some q31
def F_X11_clears_L15 (n : Nat) : Nat → xS → Option Nat → Int64 → Int32 → Int32 → Option ((Int32))
  | 0 => fun _ _ _ _ _ => none
  | k + 1 => fun st a0 a1 a3 a4 =>
    (gI st a0 11 23).bind fun v2 =>
    if v2 ≤ a4 then
      some a4
    else
      (gR st a0 11 21).bind fun v3 =>
      (aL st v3 (((7 : Int32) * a4) + a3)).bind fun v4 =>
      if (lg_cmp v4 (0 : Int64)) = (0 : Int32) then
        (some (a4 + (1 : Int32))).bind fun v5 =>
        F_X11_clears_L15 n k st a0 a1 a3 v5
      else
        some a4
def F_X11_clears_L61 (n : Nat) : Nat → xS → Option Nat → Int64 → Int32 → Int32 → Int32 → Option ((xS))
  | 0 => fun _ _ _ _ _ _ => none
  | k + 1 => fun st a0 a1 a3 a4 a5 =>
    if (7 : Int32) ≤ a5 then
      some st
    else
      if a4 = a3 then
        some st
      else
        (gR st a0 11 21).bind fun v8 =>
        (aL st v8 (((7 : Int32) * a3) + a5)).bind fun v9 =>
        (gR st a0 11 21).bind fun v10 =>
        (gR st a0 11 21).bind fun v11 =>
        (aL st v11 (((7 : Int32) * a4) + a5)).bind fun v12 =>
        (sL st v10 (((7 : Int32) * a3) + a5) v12).bind fun s13 =>
        (gR s13 a0 11 21).bind fun v14 =>
        (sL s13 v14 (((7 : Int32) * a4) + a5) (-v9)).bind fun s15 =>
        (some (a5 + (1 : Int32))).bind fun v16 =>
        F_X11_clears_L61 n k s15 a0 a1 a3 a4 v16
def F_X11_clears_L177 (n : Nat) : Nat → xS → Option Nat → Int64 → Int32 → Int64 → Int32 → Int64 → Int32 → Option ((xS))
  | 0 => fun _ _ _ _ _ _ _ _ => none
  | k + 1 => fun st a0 a1 a3 a5 a7 a8 a10 =>
    if (7 : Int32) ≤ a10 then
      some st
    else
      if a7 = a3 then
        some st
      else
        (gR st a0 11 21).bind fun v23 =>
        (gR st a0 11 21).bind fun v24 =>
        (aL st v24 (((7 : Int32) * a7) + a10)).bind fun v25 =>
        (gR st a0 11 21).bind fun v26 =>
        (aL st v26 (((7 : Int32) * a3) + a10)).bind fun v27 =>
        (dL ((v25 * a5) - (v27 * a8)) a1).bind fun v28 =>
        (sL st v23 (((7 : Int32) * a7) + a10) v28).bind fun s29 =>
        (some (a10 + (1 : Int32))).bind fun v30 =>
        F_X11_clears_L177 n k s29 a0 a1 a3 a5 a7 a8 v30
def F_X11_clears_L151 (n : Nat) : Nat → xS → Option Nat → Int64 → Int32 → Int64 → Int32 → Option ((xS))
  | 0 => fun _ _ _ _ _ _ => none
  | k + 1 => fun st a0 a1 a3 a5 a7 =>
    (gI st a0 11 23).bind fun v20 =>
    if v20 ≤ a7 then
      some st
    else
      (gR st a0 11 21).bind fun v21 =>
      (aL st v21 (((7 : Int32) * a7) + a3)).bind fun v22 =>
      (F_X11_clears_L177 n n st a0 a1 a3 a5 a7 v22 (0 : Int32)).bind fun q31 =>
      (some (a7 + (1 : Int32))).bind fun v32 =>
      F_X11_clears_L151 n k q31 a0 a1 a3 a5 v32
def F_X11_clears_L4 (n : Nat) : Nat → xS → Option Nat → Int64 → Int32 → Option (Int64 × xS)
  | 0 => fun _ _ _ _ => none
  | k + 1 => fun st a0 a1 a3 =>
    (gI st a0 11 23).bind fun v1 =>
    if v1 ≤ a3 then
      some (a1, st)
    else
      (F_X11_clears_L15 n n st a0 a1 a3 a3).bind fun q6 =>
      (gI st a0 11 23).bind fun v7 =>
      if q6 = v7 then
        some ((0 : Int64), st)
      else
        (F_X11_clears_L61 n n st a0 a1 a3 q6 (0 : Int32)).bind fun q17 =>
        (gR q17 a0 11 21).bind fun v18 =>
        (aL q17 v18 (((7 : Int32) * a3) + a3)).bind fun v19 =>
        (F_X11_clears_L151 n n q17 a0 a1 a3 v19 (0 : Int32)).bind fun q33 =>
        (some (a3 + (1 : Int32))).bind fun v34 =>
        F_X11_clears_L4 n k q33 a0 v19 v34
def F_X11_clears (n : Nat) (st : xS) (a0 : Option Nat) : Option (Int64 × xS) :=
  F_X11_clears_L4 n n st a0 (1 : Int64) (0 : Int32)
def F_X11_finds (n : Nat) (st : xS) (a0 : Option Nat) (a1 : Int32) (a2 : Int32) (a3 : Int32) : Option (Int32 × xS) :=
  (isO st a0 11).bind fun q2 =>
  (F_X11_meets n st a0 a1 a2).bind fun s1 =>
  (gI s1 a0 11 24).bind fun v3 =>
  if v3 < (0 : Int32) then
    (rz (0 : Int32)).bind fun v4 =>
    some (v4, s1)
  else
    (gI s1 a0 11 23).bind fun v5 =>
    if v5 ≤ (6 : Int32) then
      (isO s1 a0 11).bind fun q7 =>
      (F_X11_squares n s1 a0 a1 a2).bind fun s6 =>
      (isO s6 a0 11).bind fun q9 =>
      (F_X11_clears n s6 a0 ).bind fun p8 =>
      if (lg_cmp p8.1 (0 : Int64)) = (0 : Int32) then
        (rz (0 : Int32)).bind fun v10 =>
        some (v10, p8.2)
      else
        ((if a3 = (-1 : Int32) then
            some (0 : Int32)
          else
            (gR p8.2 a0 11 22).bind fun v11 =>
            (aI p8.2 v11 a3).bind fun v12 =>
            some v12) : Option (Int32)).bind fun q13 =>
        ((if a3 = (-1 : Int32) then
            if (0 : Int32) ≤ q13 then
              (gR p8.2 a0 11 21).bind fun v14 =>
              (aL p8.2 v14 (((7 : Int32) * q13) + (6 : Int32))).bind fun v15 =>
              some v15
            else
              some (0 : Int64)
          else
            (gI p8.2 a0 11 24).bind fun v16 =>
            if a3 = v16 then
              some (0 : Int64)
            else
              if (0 : Int32) ≤ q13 then
                (gR p8.2 a0 11 21).bind fun v17 =>
                (aL p8.2 v17 (((7 : Int32) * q13) + (6 : Int32))).bind fun v18 =>
                some v18
              else
                some (0 : Int64)) : Option (Int64)).bind fun q19 =>
        (pF p8.2 a0 11 25 (.long q19)).bind fun s20 =>
        (pF s20 a0 11 26 (.long p8.1)).bind fun s21 =>
        ((if a3 = (-1 : Int32) then
            some (1 : Int32)
          else
            (gI s21 a0 11 24).bind fun v22 =>
            if a3 = v22 then
              some (1 : Int32)
            else
              if q13 ≤ (0 : Int32) then
                some (0 : Int32)
              else
                some (1 : Int32)) : Option (Int32)).bind fun q23 =>
        (rz q23).bind fun v24 =>
        some (v24, s21)
    else
      (rz (0 : Int32)).bind fun v25 =>
      some (v25, s1)
def F_X11_both (n : Nat) (st : xS) (a0 : Option Nat) (a1 : Int32) (a2 : Int32) (a3 : Int32) (a4 : Int32) : Option (Int64 × xS) :=
  if a3 = (-1 : Int32) then
    (isO st a0 11).bind fun q2 =>
    (F_X11_finds n st a0 a1 a2 a3).bind fun p1 =>
    ((if p1.1 = (0 : Int32) then
        some (-1000000000000000 : Int64)
      else
        (gL p1.2 a0 11 25).bind fun v3 =>
        (gL p1.2 a0 11 26).bind fun v4 =>
        (F_X11_least n p1.2 v3 v4 a4).bind fun v5 =>
        some v5) : Option (Int64)).bind fun q6 =>
    some (q6, p1.2)
  else
    (F_X11_isIn n st a3 (0 : Int32) (7 : Int32)).bind fun v7 =>
    if v7 = (0 : Int32) then
      some ((-1000000000000000 : Int64), st)
    else
      (isO st a0 11).bind fun q9 =>
      (F_X11_finds n st a0 a1 a2 a3).bind fun p8 =>
      ((if p8.1 = (0 : Int32) then
          some (-1000000000000000 : Int64)
        else
          (gL p8.2 a0 11 25).bind fun v10 =>
          (gL p8.2 a0 11 26).bind fun v11 =>
          (F_X11_least n p8.2 v10 v11 a4).bind fun v12 =>
          some v12) : Option (Int64)).bind fun q13 =>
      some (q13, p8.2)
def F_X11_off (n : Nat) (st : xS) (a0 : Option Nat) (a1 : Int32) (a2 : Int32) (a3 : Int32) : Option (Int64 × xS) :=
  (isO st a0 11).bind fun q2 =>
  (F_X11_finds n st a0 a1 a2 (-1 : Int32)).bind fun p1 =>
  if p1.1 = (0 : Int32) then
    some ((-1000000000000000 : Int64), p1.2)
  else
    (gL p1.2 a0 11 25).bind fun v3 =>
    (gL p1.2 a0 11 26).bind fun v4 =>
    (F_X11_least n p1.2 v3 v4 (0 : Int32)).bind fun v5 =>
    (gL p1.2 a0 11 25).bind fun v6 =>
    (gL p1.2 a0 11 26).bind fun v7 =>
    (F_X11_least n p1.2 v6 v7 (1 : Int32)).bind fun v8 =>
    (isO p1.2 a0 11).bind fun q10 =>
    (F_X11_alone n p1.2 a0 a1 a2 (1 : Int32)).bind fun p9 =>
    (isO p9.2 a0 11).bind fun q12 =>
    (F_X11_alone n p9.2 a0 a1 a2 (0 : Int32)).bind fun p11 =>
    (F_X11_least n p11.2 ((p11.1.toInt64 * v8) - (v5 * p9.1.toInt64)) (p9.1.toInt64 * v8) a3).bind fun v13 =>
    some (v13, p11.2)
def F_X11_choose_L13 (n : Nat) : Nat → xS → Option Nat → Int32 → Int32 → Int32 → Option ((xS))
  | 0 => fun _ _ _ _ _ => none
  | k + 1 => fun st a0 a1 a2 a3 =>
    if a2 < a3 then
      some st
    else
      (gR st a0 11 27).bind fun v1 =>
      ((if a3 = (0 : Int32) then
          some (1 : Int64)
        else
          some (0 : Int64)) : Option (Int64)).bind fun q2 =>
      (sL st v1 a3 q2).bind fun s3 =>
      (some (a3 + (1 : Int32))).bind fun v4 =>
      F_X11_choose_L13 n k s3 a0 a1 a2 v4
def F_X11_choose_L49 (n : Nat) : Nat → xS → Option Nat → Int32 → Int32 → Int32 → Int32 → Option ((xS))
  | 0 => fun _ _ _ _ _ _ => none
  | k + 1 => fun st a0 a1 a2 a3 a4 =>
    if a4 ≤ (0 : Int32) then
      some st
    else
      (gR st a0 11 27).bind fun v6 =>
      (aL st v6 a4).bind fun v7 =>
      (gR st a0 11 27).bind fun v8 =>
      (aL st v8 (a4 - (1 : Int32))).bind fun v9 =>
      (sL st v6 a4 (v7 + v9)).bind fun s10 =>
      (some (a4 + (-1 : Int32))).bind fun v11 =>
      F_X11_choose_L49 n k s10 a0 a1 a2 a3 v11
def F_X11_choose_L41 (n : Nat) : Nat → xS → Option Nat → Int32 → Int32 → Int32 → Option ((xS))
  | 0 => fun _ _ _ _ _ => none
  | k + 1 => fun st a0 a1 a2 a3 =>
    if a1 ≤ a3 then
      some st
    else
      (F_X11_choose_L49 n n st a0 a1 a2 a3 a2).bind fun q12 =>
      (some (a3 + (1 : Int32))).bind fun v13 =>
      F_X11_choose_L41 n k q12 a0 a1 a2 v13
def F_X11_choose (n : Nat) (st : xS) (a0 : Option Nat) (a1 : Int32) (a2 : Int32) : Option (Int64 × xS) :=
  if a2 < (0 : Int32) then
    some ((0 : Int64), st)
  else
    if a2 ≤ a1 then
      (F_X11_choose_L13 n n st a0 a1 a2 (0 : Int32)).bind fun q5 =>
      (F_X11_choose_L41 n n q5 a0 a1 a2 (0 : Int32)).bind fun q14 =>
      (gR q14 a0 11 27).bind fun v15 =>
      (aL q14 v15 a2).bind fun v16 =>
      some (v16, q14)
    else
      some ((0 : Int64), st)
def F_X11_atLeast_L7 (n : Nat) : Nat → xS → Option Nat → Int32 → Int32 → Int32 → Int64 → Int32 → Option ((Int64 × xS))
  | 0 => fun _ _ _ _ _ _ _ => none
  | k + 1 => fun st a0 a1 a2 a3 a5 a7 =>
    if a2 < a7 then
      some (a5, st)
    else
      if a3 < a7 then
        some (a5, st)
      else
        (isO st a0 11).bind fun q2 =>
        (F_X11_choose n st a0 a2 a7).bind fun p1 =>
        ((if (lg_cmp p1.1 (0 : Int64)) = (0 : Int32) then
            some ((0 : Int64), p1.2)
          else
            (isO p1.2 a0 11).bind fun q4 =>
            (F_X11_choose n p1.2 a0 (a1 - a2) (a3 - a7)).bind fun p3 =>
            some (p1.1 * p3.1, p3.2)) : Option (Int64 × xS)).bind fun q5 =>
        (some (a5 + q5.1)).bind fun v6 =>
        (some (a7 + (1 : Int32))).bind fun v7 =>
        F_X11_atLeast_L7 n k q5.2 a0 a1 a2 a3 v6 v7
def F_X11_atLeast (n : Nat) (st : xS) (a0 : Option Nat) (a1 : Int32) (a2 : Int32) (a3 : Int32) (a4 : Int32) : Option (Int64 × xS) :=
  (F_X11_atLeast_L7 n n st a0 a1 a2 a3 (0 : Int64) a4).bind fun q8 =>
  some (q8.1, q8.2)
def F_X11_odds_L40 (n : Nat) : Nat → xS → Option Nat → Int32 → Int32 → Int32 → Int32 → Int32 → Int32 → Int32 → Int32 → Option ((Int32 × Int32))
  | 0 => fun _ _ _ _ _ _ _ _ _ _ => none
  | k + 1 => fun st a0 a1 a2 a3 a4 a5 a6 a7 a8 =>
    (gR st a0 11 0).bind fun v4 =>
    (aI st v4 (3 : Int32)).bind fun v5 =>
    if v5 ≤ a8 then
      some (a6, a7)
    else
      (isO st a0 11).bind fun q7 =>
      (F_X11_isOfYears n st a0 a8 a1 a2).bind fun v6 =>
      ((if v6 = (0 : Int32) then
          some (a6, a7)
        else
          (isO st a0 11).bind fun q9 =>
          (F_X11_noteAt n st a0 a8 (8 : Int32)).bind fun v8 =>
          if a3 ≤ v8 then
            (some (a6 + (1 : Int32))).bind fun v10 =>
            (isO st a0 11).bind fun q12 =>
            (F_X11_marginOf n st a0 a8).bind fun v11 =>
            ((if v11 ≤ (0 : Int32) then
                some (0 : Int32)
              else
                some (1 : Int32)) : Option (Int32)).bind fun q13 =>
            (some (a7 + q13)).bind fun v14 =>
            some (v10, v14)
          else
            some (a6, a7)) : Option (Int32 × Int32)).bind fun q15 =>
      (some (a8 + (1 : Int32))).bind fun v16 =>
      F_X11_odds_L40 n k st a0 a1 a2 a3 a4 a5 q15.1 q15.2 v16
def F_X11_odds (n : Nat) (st : xS) (a0 : Option Nat) (a1 : Int32) (a2 : Int32) (a3 : Int32) (a4 : Int32) : Option (Int64 × xS) :=
  (isO st a0 11).bind fun q2 =>
  (F_X11_sum n st a0 a1 a2 (0 : Int32)).bind fun v1 =>
  (F_X11_isIn n st a3 (0 : Int32) (1000 : Int32)).bind fun v3 =>
  if v3 = (0 : Int32) then
    some ((-1 : Int64), st)
  else
    if v1 ≤ (60 : Int32) then
      (F_X11_odds_L40 n n st a0 a1 a2 a3 a4 v1 (0 : Int32) (0 : Int32) (0 : Int32)).bind fun q17 =>
      ((if a4 = (0 : Int32) then
          (isO st a0 11).bind fun q19 =>
          (F_X11_sum n st a0 a1 a2 (1 : Int32)).bind fun v18 =>
          (isO st a0 11).bind fun q21 =>
          (F_X11_atLeast n st a0 v1 v18 q17.1 q17.2).bind fun p20 =>
          some (p20.1, p20.2)
        else
          (isO st a0 11).bind fun q23 =>
          (F_X11_choose n st a0 v1 q17.1).bind fun p22 =>
          some (p22.1, p22.2)) : Option (Int64 × xS)).bind fun q24 =>
      some (q24.1, q24.2)
    else
      some ((-1 : Int64), st)
def F_X11_carded_L9 (n : Nat) : Nat → xS → Option Nat → Int32 → Int32 → Int32 → Int32 → Int32 → Int32 → Option ((Int32 × Int32))
  | 0 => fun _ _ _ _ _ _ _ _ => none
  | k + 1 => fun st a0 a1 a2 a3 a4 a5 a6 =>
    (gR st a0 11 0).bind fun v1 =>
    (aI st v1 (3 : Int32)).bind fun v2 =>
    if v2 ≤ a6 then
      some (a4, a5)
    else
      (isO st a0 11).bind fun q4 =>
      (F_X11_isOfYears n st a0 a6 a1 a2).bind fun v3 =>
      ((if v3 = (0 : Int32) then
          some (a4, a5)
        else
          (isO st a0 11).bind fun q6 =>
          (F_X11_noteAt n st a0 a6 (9 : Int32)).bind fun v5 =>
          if v5 = a3 then
            (some (a4 + (1 : Int32))).bind fun v7 =>
            (isO st a0 11).bind fun q9 =>
            (F_X11_noteAt n st a0 a6 (6 : Int32)).bind fun v8 =>
            (isO st a0 11).bind fun q11 =>
            (F_X11_noteAt n st a0 a6 (5 : Int32)).bind fun v10 =>
            (some (a5 + (v8 - v10))).bind fun v12 =>
            some (v7, v12)
          else
            some (a4, a5)) : Option (Int32 × Int32)).bind fun q13 =>
      (some (a6 + (1 : Int32))).bind fun v14 =>
      F_X11_carded_L9 n k st a0 a1 a2 a3 q13.1 q13.2 v14
def F_X11_carded (n : Nat) (st : xS) (a0 : Option Nat) (a1 : Int32) (a2 : Int32) (a3 : Int32) : Option (Int32) :=
  (F_X11_carded_L9 n n st a0 a1 a2 a3 (0 : Int32) (0 : Int32) (0 : Int32)).bind fun q15 =>
  ((if q15.1 = (0 : Int32) then
      some (-1000000 : Int32)
    else
      some q15.2) : Option (Int32)).bind fun q16 =>
  some q16
def F_X11_orders_L36 (n : Nat) : Nat → xS → Option Nat → Int32 → Int32 → Int32 → Int32 → Option ((Int32 × xS))
  | 0 => fun _ _ _ _ _ _ => none
  | k + 1 => fun st a0 a1 a2 a3 a4 =>
    if a4 ≤ (0 : Int32) then
      some (a4, st)
    else
      (gR st a0 11 28).bind fun v7 =>
      (aI st v7 (a4 - (1 : Int32))).bind fun v8 =>
      (isO st a0 11).bind fun q10 =>
      (F_X11_noteAt n st a0 v8 (2 : Int32)).bind fun v9 =>
      (isO st a0 11).bind fun q12 =>
      (F_X11_noteAt n st a0 a3 (2 : Int32)).bind fun v11 =>
      if v9 ≤ v11 then
        some (a4, st)
      else
        (gR st a0 11 28).bind fun v13 =>
        (gR st a0 11 28).bind fun v14 =>
        (aI st v14 (a4 - (1 : Int32))).bind fun v15 =>
        (sS 0 st v13 a4 v15).bind fun s16 =>
        (some (a4 + (-1 : Int32))).bind fun v17 =>
        F_X11_orders_L36 n k s16 a0 a1 a2 a3 v17
def F_X11_orders_L7 (n : Nat) : Nat → xS → Option Nat → Int32 → Int32 → Int32 → Option ((xS))
  | 0 => fun _ _ _ _ _ => none
  | k + 1 => fun st a0 a1 a2 a3 =>
    (gR st a0 11 0).bind fun v2 =>
    (aI st v2 (3 : Int32)).bind fun v3 =>
    if v3 ≤ a3 then
      some st
    else
      (isO st a0 11).bind fun q5 =>
      (F_X11_isOfYears n st a0 a3 a1 a2).bind fun v4 =>
      ((if v4 = (0 : Int32) then
          some st
        else
          (gI st a0 11 29).bind fun v6 =>
          (F_X11_orders_L36 n n st a0 a1 a2 a3 v6).bind fun q18 =>
          (gR q18.2 a0 11 28).bind fun v19 =>
          (sS 0 q18.2 v19 q18.1 a3).bind fun s20 =>
          (gI s20 a0 11 29).bind fun v21 =>
          (pF s20 a0 11 29 (.int (v21 + (1 : Int32)))).bind fun s22 =>
          some s22) : Option (xS)).bind fun q23 =>
      (some (a3 + (1 : Int32))).bind fun v24 =>
      F_X11_orders_L7 n k q23 a0 a1 a2 v24
def F_X11_orders (n : Nat) (st : xS) (a0 : Option Nat) (a1 : Int32) (a2 : Int32) : Option (xS) :=
  (pF st a0 11 29 (.int (0 : Int32))).bind fun s1 =>
  (F_X11_orders_L7 n n s1 a0 a1 a2 (0 : Int32)).bind fun q25 =>
  some q25
def F_X11_fresh_L40 (n : Nat) : Nat → xS → Option Nat → Int32 → Int32 → Int32 → Int32 → Int32 → Option ((Int32 × Int32))
  | 0 => fun _ _ _ _ _ _ _ => none
  | k + 1 => fun st a0 a1 a3 a4 a5 a6 =>
    (gI st a0 11 29).bind fun v5 =>
    if v5 ≤ a6 then
      some (a4, a5)
    else
      if ((2 : Int32) * a3) ≤ a4 then
        some (a4, a5)
      else
        (gR st a0 11 28).bind fun v6 =>
        (aI st v6 a6).bind fun v7 =>
        (isO st a0 11).bind fun q9 =>
        (F_X11_noteAt n st a0 v7 (0 : Int32)).bind fun v8 =>
        ((if v8 = a1 then
            (gR st a0 11 28).bind fun v10 =>
            (aI st v10 a6).bind fun v11 =>
            (isO st a0 11).bind fun q13 =>
            (F_X11_marginOf n st a0 v11).bind fun v12 =>
            ((if v12 ≤ (0 : Int32) then
                if v12 = (0 : Int32) then
                  some (1 : Int32)
                else
                  some (0 : Int32)
              else
                some (3 : Int32)) : Option (Int32)).bind fun q14 =>
            ((if a3 ≤ a4 then
                some (-q14)
              else
                some q14) : Option (Int32)).bind fun q15 =>
            (some (a5 + q15)).bind fun v16 =>
            (some (a4 + (1 : Int32))).bind fun v17 =>
            some (v17, v16)
          else
            some (a4, a5)) : Option (Int32 × Int32)).bind fun q18 =>
        (some (a6 + (1 : Int32))).bind fun v19 =>
        F_X11_fresh_L40 n k st a0 a1 a3 q18.1 q18.2 v19
def F_X11_fresh (n : Nat) (st : xS) (a0 : Option Nat) (a1 : Int32) (a2 : Int32) (a3 : Int32) : Option (Int32 × xS) :=
  (F_X11_isIn n st a1 (0 : Int32) (7 : Int32)).bind fun v1 =>
  if v1 = (0 : Int32) then
    some ((-1000000 : Int32), st)
  else
    (F_X11_isIn n st a3 (1 : Int32) (40 : Int32)).bind fun v2 =>
    if v2 = (0 : Int32) then
      some ((-1000000 : Int32), st)
    else
      (isO st a0 11).bind fun q4 =>
      (F_X11_orders n st a0 a2 (59 : Int32)).bind fun s3 =>
      (F_X11_fresh_L40 n n s3 a0 a1 a3 (0 : Int32) (0 : Int32) (0 : Int32)).bind fun q20 =>
      ((if ((2 : Int32) * a3) ≤ q20.1 then
          some q20.2
        else
          some (-1000000 : Int32)) : Option (Int32)).bind fun q21 =>
      some (q21, s3)
def F_X11_films (n : Nat) (st : xS) (a0 : Option Nat) (a1 : Int32) (a2 : Int32) (a3 : Int32) (a4 : Int32) : Option (Int32 × xS) :=
  (F_X11_isIn n st a1 (0 : Int32) (7 : Int32)).bind fun v1 =>
  if v1 = (0 : Int32) then
    (rz (0 : Int32)).bind fun v2 =>
    some (v2, st)
  else
    (F_X11_isIn n st a3 (0 : Int32) (30 : Int32)).bind fun v3 =>
    if v3 = (0 : Int32) then
      (rz (0 : Int32)).bind fun v4 =>
      some (v4, st)
    else
      (F_X11_isIn n st a4 (0 : Int32) a3).bind fun v5 =>
      if v5 = (0 : Int32) then
        (rz (0 : Int32)).bind fun v6 =>
        some (v6, st)
      else
        (gR st a0 11 0).bind fun v7 =>
        ((if a2 = (0 : Int32) then
            some (0 : Int32)
          else
            some (2 : Int32)) : Option (Int32)).bind fun q8 =>
        (sS 0 st v7 (((2530 : Int32) + ((4 : Int32) * a1)) + q8) a3).bind fun s9 =>
        (gR s9 a0 11 0).bind fun v10 =>
        ((if a2 = (0 : Int32) then
            some (1 : Int32)
          else
            some (3 : Int32)) : Option (Int32)).bind fun q11 =>
        (sS 0 s9 v10 (((2530 : Int32) + ((4 : Int32) * a1)) + q11) a4).bind fun s12 =>
        (rz (1 : Int32)).bind fun v13 =>
        some (v13, s12)
def F_X11_looser (n : Nat) (st : xS) (a0 : Option Nat) (a1 : Int32) (a2 : Int32) : Option (Int64 × xS) :=
  (F_X11_isIn n st a1 (0 : Int32) (7 : Int32)).bind fun v1 =>
  if v1 = (0 : Int32) then
    some ((-1 : Int64), st)
  else
    (some ((2530 : Int32) + ((4 : Int32) * a1))).bind fun v2 =>
    (gR st a0 11 0).bind fun v3 =>
    (aI st v3 v2).bind fun v4 =>
    (gR st a0 11 0).bind fun v5 =>
    (aI st v5 (v2 + (2 : Int32))).bind fun v6 =>
    (some (v4 + v6)).bind fun v7 =>
    ((if a2 = (0 : Int32) then
        (gR st a0 11 0).bind fun v8 =>
        (aI st v8 (v2 + (1 : Int32))).bind fun v9 =>
        (gR st a0 11 0).bind fun v10 =>
        (aI st v10 (v2 + (3 : Int32))).bind fun v11 =>
        (gR st a0 11 0).bind fun v12 =>
        (aI st v12 v2).bind fun v13 =>
        (gR st a0 11 0).bind fun v14 =>
        (aI st v14 (v2 + (1 : Int32))).bind fun v15 =>
        (isO st a0 11).bind fun q17 =>
        (F_X11_atLeast n st a0 v7 (v9 + v11) v13 v15).bind fun p16 =>
        some (p16.1, p16.2)
      else
        (gR st a0 11 0).bind fun v18 =>
        (aI st v18 v2).bind fun v19 =>
        (isO st a0 11).bind fun q21 =>
        (F_X11_choose n st a0 v7 v19).bind fun p20 =>
        some (p20.1, p20.2)) : Option (Int64 × xS)).bind fun q22 =>
    some (q22.1, q22.2)
def F_X11_isPrice (n : Nat) (st : xS) (a0 : Int32) : Option (Int32) :=
  (F_X11_isIn n st a0 (101 : Int32) (999 : Int32)).bind fun v1 =>
  (rz v1).bind fun v2 =>
  some v2
def F_X11_had (n : Nat) (st : xS) (a0 : Option Nat) (a1 : Int32) (a2 : Int32) (a3 : Int32) : Option (Int32) :=
  (F_X11_isPrice n st a3).bind fun v1 =>
  if v1 = (0 : Int32) then
    some (-1000000 : Int32)
  else
    (isO st a0 11).bind fun q3 =>
    (F_X11_sum n st a0 a1 a2 (1 : Int32)).bind fun v2 =>
    (isO st a0 11).bind fun q5 =>
    (F_X11_sum n st a0 a1 a2 (0 : Int32)).bind fun v4 =>
    some ((v2 * a3) - ((100 : Int32) * v4))
def F_X11_fixed_L33 (n : Nat) : Nat → xS → Option Nat → Int32 → Int32 → Int32 → Int32 → Option (Int32 × xS)
  | 0 => fun _ _ _ _ _ _ => none
  | k + 1 => fun st a0 a3 a4 a5 a6 =>
    (gI st a0 11 29).bind fun v5 =>
    if v5 ≤ a6 then
      (gI st a0 11 29).bind fun v6 =>
      some (v6, st)
    else
      (gR st a0 11 28).bind fun v7 =>
      (aI st v7 a6).bind fun v8 =>
      (isO st a0 11).bind fun q10 =>
      (F_X11_marginOf n st a0 v8).bind fun v9 =>
      ((if v9 ≤ (0 : Int32) then
          some (-100 : Int32)
        else
          some (a3 - (100 : Int32))) : Option (Int32)).bind fun q11 =>
      (some (a5 + q11)).bind fun v12 =>
      if (-a4) ≤ v12 then
        (some (a6 + (1 : Int32))).bind fun v13 =>
        F_X11_fixed_L33 n k st a0 a3 a4 v12 v13
      else
        some (a6 + (1 : Int32), st)
def F_X11_fixed (n : Nat) (st : xS) (a0 : Option Nat) (a1 : Int32) (a2 : Int32) (a3 : Int32) (a4 : Int32) : Option (Int32 × xS) :=
  (F_X11_isPrice n st a3).bind fun v1 =>
  if v1 = (0 : Int32) then
    some ((-1 : Int32), st)
  else
    (F_X11_isIn n st a4 (0 : Int32) (9999 : Int32)).bind fun v2 =>
    if v2 = (0 : Int32) then
      some ((-1 : Int32), st)
    else
      (isO st a0 11).bind fun q4 =>
      (F_X11_orders n st a0 a1 a2).bind fun s3 =>
      F_X11_fixed_L33 n n s3 a0 a3 a4 (0 : Int32) (0 : Int32)
def F_X11_milesOf (n : Nat) (st : xS) (a0 : Option Nat) (a1 : Int32) (a2 : Int32) (a3 : Int32) : Option (Int32) :=
  (gR st a0 11 0).bind fun v1 =>
  (aI st v1 (((a1 + (50 : Int32)) + ((10 : Int32) * a2)) + a3)).bind fun v2 =>
  some v2
def F_X11_plays (n : Nat) (st : xS) (a0 : Option Nat) (a1 : Int32) (a2 : Int32) (a3 : Int32) : Option (Int32) :=
  (isO st a0 11).bind fun q2 =>
  (F_X11_gameOf n st a0 a1 a2 (0 : Int32)).bind fun v1 =>
  ((if v1 = a3 then
      some (1 : Int32)
    else
      (isO st a0 11).bind fun q4 =>
      (F_X11_gameOf n st a0 a1 a2 (1 : Int32)).bind fun v3 =>
      if v3 = a3 then
        some (1 : Int32)
      else
        some (0 : Int32)) : Option (Int32)).bind fun q5 =>
  (rz q5).bind fun v6 =>
  some v6
def F_X11_travelOf_L14 (n : Nat) : Nat → xS → Option Nat → Int32 → Int32 → Int32 → Int32 → Int32 → Int32 → Option ((Int32 × Int32))
  | 0 => fun _ _ _ _ _ _ _ _ => none
  | k + 1 => fun st a0 a1 a2 a3 a4 a5 a6 =>
    (isO st a0 11).bind fun q4 =>
    (F_X11_gamesOf n st a0 a2).bind fun v3 =>
    if v3 ≤ a6 then
      some (a4, a5)
    else
      (isO st a0 11).bind fun q6 =>
      (F_X11_plays n st a0 a2 a6 a3).bind fun v5 =>
      ((if v5 = (0 : Int32) then
          some (a4, a5)
        else
          (isO st a0 11).bind fun q8 =>
          (F_X11_groundOf n st a0 a1 a2 a6).bind fun v7 =>
          (isO st a0 11).bind fun q10 =>
          (F_X11_milesOf n st a0 a1 a4 v7).bind fun v9 =>
          (some (a5 + v9)).bind fun v11 =>
          some (v7, v11)) : Option (Int32 × Int32)).bind fun q12 =>
      (some (a6 + (1 : Int32))).bind fun v13 =>
      F_X11_travelOf_L14 n k st a0 a1 a2 a3 q12.1 q12.2 v13
def F_X11_travelOf (n : Nat) (st : xS) (a0 : Option Nat) (a1 : Int32) (a2 : Int32) (a3 : Int32) : Option (Int32) :=
  (isO st a0 11).bind fun q2 =>
  (F_X11_ownOf n st a0 a1 a3).bind fun v1 =>
  (F_X11_travelOf_L14 n n st a0 a1 a2 a3 v1 (0 : Int32) (0 : Int32)).bind fun q14 =>
  (isO st a0 11).bind fun q16 =>
  (F_X11_ownOf n st a0 a1 a3).bind fun v15 =>
  (isO st a0 11).bind fun q18 =>
  (F_X11_milesOf n st a0 a1 q14.1 v15).bind fun v17 =>
  some (q14.2 + v17)
def F_X11_travelAll_L5 (n : Nat) : Nat → xS → Option Nat → Int32 → Int32 → Int32 → Int32 → Option ((Int32))
  | 0 => fun _ _ _ _ _ _ => none
  | k + 1 => fun st a0 a1 a2 a3 a4 =>
    (gR st a0 11 0).bind fun v1 =>
    (aI st v1 (a1 + (1 : Int32))).bind fun v2 =>
    if v2 ≤ a4 then
      some a3
    else
      (isO st a0 11).bind fun q4 =>
      (F_X11_travelOf n st a0 a1 a2 a4).bind fun v3 =>
      (some (a3 + v3)).bind fun v5 =>
      (some (a4 + (1 : Int32))).bind fun v6 =>
      F_X11_travelAll_L5 n k st a0 a1 a2 v5 v6
def F_X11_travelAll (n : Nat) (st : xS) (a0 : Option Nat) (a1 : Int32) (a2 : Int32) : Option (Int32) :=
  (F_X11_travelAll_L5 n n st a0 a1 a2 (0 : Int32) (0 : Int32)).bind fun q7 =>
  some q7
def F_X11_travel (n : Nat) (st : xS) (a0 : Option Nat) (a1 : Int32) (a2 : Int32) (a3 : Int32) : Option (Int32) :=
  (isO st a0 11).bind fun q2 =>
  (F_X11_goes n st a0 a1 a2).bind fun v1 =>
  if v1 = (0 : Int32) then
    some (-1 : Int32)
  else
    (gR st a0 11 0).bind fun v3 =>
    (F_X11_placeOf n st (0 : Int32) a1).bind fun v4 =>
    (aI st v3 (v4 + (1 : Int32))).bind fun v5 =>
    (F_X11_isIn n st a3 (0 : Int32) (v5 - (1 : Int32))).bind fun v6 =>
    if v6 = (0 : Int32) then
      some (-1 : Int32)
    else
      (F_X11_placeOf n st (0 : Int32) a1).bind fun v7 =>
      (isO st a0 11).bind fun q9 =>
      (F_X11_travelOf n st a0 v7 a2 a3).bind fun v8 =>
      some v8
def F_X11_runs_L30 (n : Nat) : Nat → xS → Option Nat → Int32 → Int32 → Int32 → Int32 → Int32 → Int32 → Option ((Int32))
  | 0 => fun _ _ _ _ _ _ _ _ => none
  | k + 1 => fun st a0 a1 a2 a3 a4 a5 a6 =>
    (isO st a0 11).bind fun q5 =>
    (F_X11_gamesOf n st a0 a1).bind fun v4 =>
    if v4 ≤ a6 then
      some a5
    else
      (isO st a0 11).bind fun q7 =>
      (F_X11_plays n st a0 a1 a6 a2).bind fun v6 =>
      ((if v6 = (0 : Int32) then
          some (a4, a5)
        else
          (isO st a0 11).bind fun q9 =>
          (F_X11_gameOf n st a0 a1 a6 (0 : Int32)).bind fun v8 =>
          ((if v8 = a2 then
              some (1 : Int32)
            else
              some (0 : Int32)) : Option (Int32)).bind fun q10 =>
          ((if q10 = a3 then
              some (a4 + (1 : Int32))
            else
              some (0 : Int32)) : Option (Int32)).bind fun q11 =>
          ((if q11 ≤ a5 then
              some a5
            else
              some q11) : Option (Int32)).bind fun q12 =>
          some (q11, q12)) : Option (Int32 × Int32)).bind fun q13 =>
      (some (a6 + (1 : Int32))).bind fun v14 =>
      F_X11_runs_L30 n k st a0 a1 a2 a3 q13.1 q13.2 v14
def F_X11_runs (n : Nat) (st : xS) (a0 : Option Nat) (a1 : Int32) (a2 : Int32) (a3 : Int32) : Option (Int32) :=
  (isO st a0 11).bind fun q2 =>
  (F_X11_isOf n st a0 (2 : Int32) a1).bind fun v1 =>
  if v1 = (0 : Int32) then
    some (-1 : Int32)
  else
    (F_X11_isIn n st a2 (0 : Int32) (7 : Int32)).bind fun v3 =>
    if v3 = (0 : Int32) then
      some (-1 : Int32)
    else
      (F_X11_runs_L30 n n st a0 a1 a2 a3 (0 : Int32) (0 : Int32) (0 : Int32)).bind fun q15 =>
      some q15
def F_X11_early_L39 (n : Nat) : Nat → xS → Option Nat → Int32 → Int32 → Int32 → Int32 → Int32 → Option ((Int32))
  | 0 => fun _ _ _ _ _ _ _ => none
  | k + 1 => fun st a0 a2 a3 a4 a5 a6 =>
    if a3 ≤ a6 then
      some a5
    else
      (gR st a0 11 0).bind fun v7 =>
      (isO st a0 11).bind fun q9 =>
      (F_X11_gameOf n st a0 a2 a6 (0 : Int32)).bind fun v8 =>
      (aI st v7 ((a4 + (40 : Int32)) + v8)).bind fun v10 =>
      (gR st a0 11 0).bind fun v11 =>
      (isO st a0 11).bind fun q13 =>
      (F_X11_gameOf n st a0 a2 a6 (1 : Int32)).bind fun v12 =>
      (aI st v11 ((a4 + (40 : Int32)) + v12)).bind fun v14 =>
      (some (a5 + (v10 - v14))).bind fun v15 =>
      (some (a6 + (1 : Int32))).bind fun v16 =>
      F_X11_early_L39 n k st a0 a2 a3 a4 v15 v16
def F_X11_early (n : Nat) (st : xS) (a0 : Option Nat) (a1 : Int32) (a2 : Int32) (a3 : Int32) : Option (Int32) :=
  (isO st a0 11).bind fun q2 =>
  (F_X11_goes n st a0 a1 a2).bind fun v1 =>
  if v1 = (0 : Int32) then
    some (-1000000 : Int32)
  else
    (isO st a0 11).bind fun q4 =>
    (F_X11_gamesOf n st a0 a2).bind fun v3 =>
    (F_X11_isIn n st a3 (0 : Int32) v3).bind fun v5 =>
    if v5 = (0 : Int32) then
      some (-1000000 : Int32)
    else
      (F_X11_placeOf n st (0 : Int32) a1).bind fun v6 =>
      (F_X11_early_L39 n n st a0 a2 a3 v6 (0 : Int32) (0 : Int32)).bind fun q17 =>
      some q17
def F_X11_uneven_L36 (n : Nat) : Nat → xS → Option Nat → Int32 → Int32 → Int32 → Int32 → Int32 → Int32 → Option ((Int32))
  | 0 => fun _ _ _ _ _ _ _ _ => none
  | k + 1 => fun st a0 a1 a2 a3 a4 a5 a6 =>
    (isO st a0 11).bind fun q4 =>
    (F_X11_gamesOf n st a0 a1).bind fun v3 =>
    if v3 ≤ a6 then
      some a5
    else
      (isO st a0 11).bind fun q6 =>
      (F_X11_plays n st a0 a1 a6 a3).bind fun v5 =>
      ((if v5 = (0 : Int32) then
          some a5
        else
          (isO st a0 11).bind fun q8 =>
          (F_X11_plays n st a0 a1 a6 a4).bind fun v7 =>
          if v7 = (0 : Int32) then
            some a5
          else
            (isO st a0 11).bind fun q10 =>
            (F_X11_gameOf n st a0 a1 a6 (0 : Int32)).bind fun v9 =>
            ((if v9 = a3 then
                some (1 : Int32)
              else
                some (-1 : Int32)) : Option (Int32)).bind fun q11 =>
            (some (a5 + q11)).bind fun v12 =>
            some v12) : Option (Int32)).bind fun q13 =>
      (some (a6 + (1 : Int32))).bind fun v14 =>
      F_X11_uneven_L36 n k st a0 a1 a2 a3 a4 q13 v14
def F_X11_uneven_L24 (n : Nat) : Nat → xS → Option Nat → Int32 → Int32 → Int32 → Int32 → Option ((Int32))
  | 0 => fun _ _ _ _ _ _ => none
  | k + 1 => fun st a0 a1 a2 a3 a4 =>
    if a3 ≤ a4 then
      some a2
    else
      (F_X11_uneven_L36 n n st a0 a1 a2 a3 a4 (0 : Int32) (0 : Int32)).bind fun q15 =>
      ((if q15 = (0 : Int32) then
          some (0 : Int32)
        else
          some (1 : Int32)) : Option (Int32)).bind fun q16 =>
      (some (a2 + q16)).bind fun v17 =>
      (some (a4 + (1 : Int32))).bind fun v18 =>
      F_X11_uneven_L24 n k st a0 a1 v17 a3 v18
def F_X11_uneven_L15 (n : Nat) : Nat → xS → Option Nat → Int32 → Int32 → Int32 → Option ((Int32))
  | 0 => fun _ _ _ _ _ => none
  | k + 1 => fun st a0 a1 a2 a3 =>
    if (8 : Int32) ≤ a3 then
      some a2
    else
      (F_X11_uneven_L24 n n st a0 a1 a2 a3 (0 : Int32)).bind fun q19 =>
      (some (a3 + (1 : Int32))).bind fun v20 =>
      F_X11_uneven_L15 n k st a0 a1 q19 v20
def F_X11_uneven (n : Nat) (st : xS) (a0 : Option Nat) (a1 : Int32) : Option (Int32) :=
  (isO st a0 11).bind fun q2 =>
  (F_X11_isOf n st a0 (2 : Int32) a1).bind fun v1 =>
  if v1 = (0 : Int32) then
    some (-1 : Int32)
  else
    (F_X11_uneven_L15 n n st a0 a1 (0 : Int32) (0 : Int32)).bind fun q21 =>
    some q21
def F_X11_exchanges (n : Nat) (st : xS) (a0 : Option Nat) (a1 : Int32) (a2 : Int32) : Option (xS) :=
  (F_X11_placeOf n st (2 : Int32) a1).bind fun v1 =>
  (some ((v1 + (1 : Int32)) + ((6 : Int32) * a2))).bind fun v2 =>
  (gR st a0 11 0).bind fun v3 =>
  (aI st v3 v2).bind fun v4 =>
  (gR st a0 11 0).bind fun v5 =>
  (gR st a0 11 0).bind fun v6 =>
  (aI st v6 (v2 + (1 : Int32))).bind fun v7 =>
  (sS 0 st v5 v2 v7).bind fun s8 =>
  (gR s8 a0 11 0).bind fun v9 =>
  (sS 0 s8 v9 (v2 + (1 : Int32)) v4).bind fun s10 =>
  some s10
def F_X11_turned_L31 (n : Nat) : Nat → xS → Option Nat → Int32 → Int32 → Int32 → Int32 → Int32 → Option ((Int32 × xS))
  | 0 => fun _ _ _ _ _ _ _ => none
  | k + 1 => fun st a0 a2 a3 a4 a5 a6 =>
    (isO st a0 11).bind fun q7 =>
    (F_X11_gamesOf n st a0 a2).bind fun v6 =>
    if v6 ≤ a6 then
      some (a4, st)
    else
      (isO st a0 11).bind fun q9 =>
      (F_X11_exchanges n st a0 a2 a6).bind fun s8 =>
      (isO s8 a0 11).bind fun q11 =>
      (F_X11_travelAll n s8 a0 a3 a2).bind fun v10 =>
      (isO s8 a0 11).bind fun q13 =>
      (F_X11_exchanges n s8 a0 a2 a6).bind fun s12 =>
      ((if v10 < a5 then
          some (a6, v10)
        else
          some (a4, a5)) : Option (Int32 × Int32)).bind fun q14 =>
      (some (a6 + (1 : Int32))).bind fun v15 =>
      F_X11_turned_L31 n k s12 a0 a2 a3 q14.1 q14.2 v15
def F_X11_turned (n : Nat) (st : xS) (a0 : Option Nat) (a1 : Int32) (a2 : Int32) : Option (Int32 × xS) :=
  (isO st a0 11).bind fun q2 =>
  (F_X11_goes n st a0 a1 a2).bind fun v1 =>
  if v1 = (0 : Int32) then
    some ((-1 : Int32), st)
  else
    (F_X11_placeOf n st (0 : Int32) a1).bind fun v3 =>
    (isO st a0 11).bind fun q5 =>
    (F_X11_travelAll n st a0 v3 a2).bind fun v4 =>
    (F_X11_turned_L31 n n st a0 a2 v3 (-1 : Int32) v4 (0 : Int32)).bind fun q16 =>
    some (q16.1, q16.2)
def F_X11_isPart (n : Nat) (st : xS) (a0 : Option Nat) (a1 : Int32) (a2 : Int32) (a3 : Int32) (a4 : Int32) : Option (Int32) :=
  (isO st a0 11).bind fun q2 =>
  (F_X11_goes n st a0 a1 a3).bind fun v1 =>
  ((if v1 = (0 : Int32) then
      some (0 : Int32)
    else
      (isO st a0 11).bind fun q4 =>
      (F_X11_isOf n st a0 (1 : Int32) a2).bind fun v3 =>
      if v3 = (0 : Int32) then
        some (0 : Int32)
      else
        (F_X11_isIn n st a4 (0 : Int32) (5 : Int32)).bind fun v5 =>
        if v5 = (0 : Int32) then
          some (0 : Int32)
        else
          some (1 : Int32)) : Option (Int32)).bind fun q6 =>
  (rz q6).bind fun v7 =>
  some v7
def F_X11_isAwake (n : Nat) (st : xS) (a0 : Option Nat) (a1 : Int32) (a2 : Int32) (a3 : Int32) (a4 : Int32) (a5 : Int32) : Option (Int32) :=
  (isO st a0 11).bind fun q2 =>
  (F_X11_partOf n st a0 a1 a2 a3 a4 a5).bind fun v1 =>
  ((if v1 ≤ (0 : Int32) then
      some (0 : Int32)
    else
      some (1 : Int32)) : Option (Int32)).bind fun q3 =>
  (rz q3).bind fun v4 =>
  some v4
def F_X11_like_L47 (n : Nat) : Nat → xS → Option Nat → Int32 → Int32 → Int32 → Int32 → Int32 → Int32 → Int32 → Int32 → Option ((Int32))
  | 0 => fun _ _ _ _ _ _ _ _ _ _ => none
  | k + 1 => fun st a0 a3 a4 a5 a6 a7 a8 a9 a10 =>
    (isO st a0 11).bind fun q6 =>
    (F_X11_gamesOf n st a0 a3).bind fun v5 =>
    if v5 ≤ a10 then
      some a9
    else
      ((if a9 = (0 : Int32) then
          some (0 : Int32)
        else
          (isO st a0 11).bind fun q8 =>
          (F_X11_isAwake n st a0 a5 a6 a3 a10 a4).bind fun v7 =>
          (isO st a0 11).bind fun q10 =>
          (F_X11_isAwake n st a0 a5 a6 a3 a10 a8).bind fun v9 =>
          if v7 = v9 then
            some (1 : Int32)
          else
            some (0 : Int32)) : Option (Int32)).bind fun q11 =>
      (some (a10 + (1 : Int32))).bind fun v12 =>
      F_X11_like_L47 n k st a0 a3 a4 a5 a6 a7 a8 q11 v12
def F_X11_like_L34 (n : Nat) : Nat → xS → Option Nat → Int32 → Int32 → Int32 → Int32 → Int32 → Int32 → Option ((Int32))
  | 0 => fun _ _ _ _ _ _ _ _ => none
  | k + 1 => fun st a0 a3 a4 a5 a6 a7 a8 =>
    if (6 : Int32) ≤ a8 then
      some a7
    else
      (F_X11_like_L47 n n st a0 a3 a4 a5 a6 a7 a8 (1 : Int32) (0 : Int32)).bind fun q13 =>
      ((if q13 = (0 : Int32) then
          some (0 : Int32)
        else
          some ((1 : Int32) <<< (a8 &&& 31))) : Option (Int32)).bind fun q14 =>
      (some (a7 ||| q14)).bind fun v15 =>
      (some (a8 + (1 : Int32))).bind fun v16 =>
      F_X11_like_L34 n k st a0 a3 a4 a5 a6 v15 v16
def F_X11_like (n : Nat) (st : xS) (a0 : Option Nat) (a1 : Int32) (a2 : Int32) (a3 : Int32) (a4 : Int32) : Option (Int32) :=
  (isO st a0 11).bind fun q2 =>
  (F_X11_isPart n st a0 a1 a2 a3 a4).bind fun v1 =>
  if v1 = (0 : Int32) then
    some (-1 : Int32)
  else
    (F_X11_placeOf n st (0 : Int32) a1).bind fun v3 =>
    (F_X11_placeOf n st (1 : Int32) a2).bind fun v4 =>
    (F_X11_like_L34 n n st a0 a3 a4 v3 v4 (0 : Int32) (0 : Int32)).bind fun q17 =>
    some q17
def F_X11_wakes_L24 (n : Nat) : Nat → xS → Option Nat → Int32 → Int32 → Int32 → Int32 → Int32 → Option ((xS))
  | 0 => fun _ _ _ _ _ _ _ => none
  | k + 1 => fun st a0 a1 a2 a3 a4 a5 =>
    if (6 : Int32) ≤ a5 then
      some st
    else
      (gR st a0 11 30).bind fun v5 =>
      (aI st v5 a4).bind fun v6 =>
      (F_X11_placeOf n st (0 : Int32) a1).bind fun v7 =>
      (F_X11_placeOf n st (1 : Int32) a2).bind fun v8 =>
      (isO st a0 11).bind fun q10 =>
      (F_X11_isAwake n st a0 v7 v8 a3 a4 a5).bind fun v9 =>
      ((if v9 = (0 : Int32) then
          some (0 : Int32)
        else
          some ((1 : Int32) <<< (a5 &&& 31))) : Option (Int32)).bind fun q11 =>
      (sS 0 st v5 a4 (v6 ||| q11)).bind fun s12 =>
      (some (a5 + (1 : Int32))).bind fun v13 =>
      F_X11_wakes_L24 n k s12 a0 a1 a2 a3 a4 v13
def F_X11_wakes_L3 (n : Nat) : Nat → xS → Option Nat → Int32 → Int32 → Int32 → Int32 → Option ((xS))
  | 0 => fun _ _ _ _ _ _ => none
  | k + 1 => fun st a0 a1 a2 a3 a4 =>
    (isO st a0 11).bind fun q2 =>
    (F_X11_gamesOf n st a0 a3).bind fun v1 =>
    if v1 ≤ a4 then
      some st
    else
      (gR st a0 11 30).bind fun v3 =>
      (sS 0 st v3 a4 (0 : Int32)).bind fun s4 =>
      (F_X11_wakes_L24 n n s4 a0 a1 a2 a3 a4 (0 : Int32)).bind fun q14 =>
      (some (a4 + (1 : Int32))).bind fun v15 =>
      F_X11_wakes_L3 n k q14 a0 a1 a2 a3 v15
def F_X11_wakes (n : Nat) (st : xS) (a0 : Option Nat) (a1 : Int32) (a2 : Int32) (a3 : Int32) : Option (xS) :=
  (F_X11_wakes_L3 n n st a0 a1 a2 a3 (0 : Int32)).bind fun q16 =>
  some q16
def F_X11_single_L40 (n : Nat) : Nat → xS → Option Nat → Int32 → Int32 → Int32 → Int32 → Int32 → Option ((Int32))
  | 0 => fun _ _ _ _ _ _ _ => none
  | k + 1 => fun st a0 a3 a4 a5 a6 a7 =>
    if a6 ≤ a7 then
      some a5
    else
      (gR st a0 11 30).bind fun v7 =>
      (aI st v7 a6).bind fun v8 =>
      (gR st a0 11 30).bind fun v9 =>
      (aI st v9 a7).bind fun v10 =>
      ((if (v8 ^^^ v10) = ((1 : Int32) <<< (a4 &&& 31)) then
          some (1 : Int32)
        else
          some (0 : Int32)) : Option (Int32)).bind fun q11 =>
      (some (a5 + q11)).bind fun v12 =>
      (some (a7 + (1 : Int32))).bind fun v13 =>
      F_X11_single_L40 n k st a0 a3 a4 v12 a6 v13
def F_X11_single_L27 (n : Nat) : Nat → xS → Option Nat → Int32 → Int32 → Int32 → Int32 → Option ((Int32))
  | 0 => fun _ _ _ _ _ _ => none
  | k + 1 => fun st a0 a3 a4 a5 a6 =>
    (isO st a0 11).bind fun q6 =>
    (F_X11_gamesOf n st a0 a3).bind fun v5 =>
    if v5 ≤ a6 then
      some a5
    else
      (F_X11_single_L40 n n st a0 a3 a4 a5 a6 (0 : Int32)).bind fun q14 =>
      (some (a6 + (1 : Int32))).bind fun v15 =>
      F_X11_single_L27 n k st a0 a3 a4 q14 v15
def F_X11_single (n : Nat) (st : xS) (a0 : Option Nat) (a1 : Int32) (a2 : Int32) (a3 : Int32) (a4 : Int32) : Option (Int32 × xS) :=
  (isO st a0 11).bind fun q2 =>
  (F_X11_isPart n st a0 a1 a2 a3 a4).bind fun v1 =>
  if v1 = (0 : Int32) then
    some ((-1 : Int32), st)
  else
    (isO st a0 11).bind fun q4 =>
    (F_X11_wakes n st a0 a1 a2 a3).bind fun s3 =>
    (F_X11_single_L27 n n s3 a0 a3 a4 (0 : Int32) (0 : Int32)).bind fun q16 =>
    some (q16, s3)
def F_X11_felt_L69 (n : Nat) : Nat → xS → Option Nat → Int32 → Int32 → Int32 → Int32 → Int32 → Int32 → Int32 → Option ((Int32 × Int32))
  | 0 => fun _ _ _ _ _ _ _ _ _ => none
  | k + 1 => fun st a0 a3 a4 a6 a7 a8 a9 a10 =>
    (isO st a0 11).bind fun q13 =>
    (F_X11_gamesOf n st a0 a3).bind fun v12 =>
    if v12 ≤ a10 then
      some (a7, a8)
    else
      (gR st a0 11 30).bind fun v14 =>
      (aI st v14 a9).bind fun v15 =>
      (gR st a0 11 30).bind fun v16 =>
      (aI st v16 a10).bind fun v17 =>
      ((if (v15 ^^^ v17) = ((1 : Int32) <<< (a4 &&& 31)) then
          (gR st a0 11 30).bind fun v18 =>
          (aI st v18 a9).bind fun v19 =>
          if ((v19 >>> (a4 &&& 31)) &&& (1 : Int32)) = (0 : Int32) then
            some (a7, a8)
          else
            (some (a7 + (1 : Int32))).bind fun v20 =>
            (gR st a0 11 28).bind fun v21 =>
            (aI st v21 a9).bind fun v22 =>
            (isO st a0 11).bind fun q24 =>
            (F_X11_marginOf n st a0 v22).bind fun v23 =>
            (gR st a0 11 28).bind fun v25 =>
            (aI st v25 a10).bind fun v26 =>
            (isO st a0 11).bind fun q28 =>
            (F_X11_marginOf n st a0 v26).bind fun v27 =>
            (some (a8 + (v23 - v27))).bind fun v29 =>
            some (v20, v29)
        else
          some (a7, a8)) : Option (Int32 × Int32)).bind fun q30 =>
      (some (a10 + (1 : Int32))).bind fun v31 =>
      F_X11_felt_L69 n k st a0 a3 a4 a6 q30.1 q30.2 a9 v31
def F_X11_felt_L56 (n : Nat) : Nat → xS → Option Nat → Int32 → Int32 → Int32 → Int32 → Int32 → Int32 → Option ((Int32 × Int32))
  | 0 => fun _ _ _ _ _ _ _ _ => none
  | k + 1 => fun st a0 a3 a4 a6 a7 a8 a9 =>
    (isO st a0 11).bind fun q11 =>
    (F_X11_gamesOf n st a0 a3).bind fun v10 =>
    if v10 ≤ a9 then
      some (a7, a8)
    else
      (F_X11_felt_L69 n n st a0 a3 a4 a6 a7 a8 a9 (0 : Int32)).bind fun q32 =>
      (some (a9 + (1 : Int32))).bind fun v33 =>
      F_X11_felt_L56 n k st a0 a3 a4 a6 q32.1 q32.2 v33
def F_X11_felt (n : Nat) (st : xS) (a0 : Option Nat) (a1 : Int32) (a2 : Int32) (a3 : Int32) (a4 : Int32) (a5 : Int32) (a6 : Int32) : Option (Int32 × xS) :=
  (isO st a0 11).bind fun q2 =>
  (F_X11_isPart n st a0 a1 a2 a3 a4).bind fun v1 =>
  if v1 = (0 : Int32) then
    some ((-1000000 : Int32), st)
  else
    (isO st a0 11).bind fun q4 =>
    (F_X11_orders n st a0 a5 a5).bind fun s3 =>
    (gI s3 a0 11 29).bind fun v5 =>
    (isO s3 a0 11).bind fun q7 =>
    (F_X11_gamesOf n s3 a0 a3).bind fun v6 =>
    if v6 ≤ v5 then
      (isO s3 a0 11).bind fun q9 =>
      (F_X11_wakes n s3 a0 a1 a2 a3).bind fun s8 =>
      (F_X11_felt_L56 n n s8 a0 a3 a4 a6 (0 : Int32) (0 : Int32) (0 : Int32)).bind fun q34 =>
      ((if q34.1 = (0 : Int32) then
          some (-1000000 : Int32)
        else
          (F_X11_least n s8 q34.2.toInt64 q34.1.toInt64 a6).bind fun v35 =>
          some v35.toInt32) : Option (Int32)).bind fun q36 =>
      some (q36, s8)
    else
      some ((-1000000 : Int32), s3)
def F_X11_hopes_L6 (n : Nat) : Nat → xS → Option Nat → Int32 → Int32 → Int32 → Int64 → Int32 → Option ((Int64))
  | 0 => fun _ _ _ _ _ _ _ => none
  | k + 1 => fun st a0 a1 a2 a3 a4 a6 =>
    (isO st a0 11).bind fun q2 =>
    (F_X11_gamesOf n st a0 a3).bind fun v1 =>
    if v1 ≤ a6 then
      some a4
    else
      (isO st a0 11).bind fun q4 =>
      (F_X11_hopeOf n st a0 a1 a2 a3 a6).bind fun v3 =>
      (some (a4 + v3)).bind fun v5 =>
      (some (a6 + (1 : Int32))).bind fun v6 =>
      F_X11_hopes_L6 n k st a0 a1 a2 a3 v5 v6
def F_X11_hopes (n : Nat) (st : xS) (a0 : Option Nat) (a1 : Int32) (a2 : Int32) (a3 : Int32) : Option (Int64) :=
  (F_X11_hopes_L6 n n st a0 a1 a2 a3 (0 : Int64) (0 : Int32)).bind fun q7 =>
  some q7
def F_X11_rule (n : Nat) (st : xS) (a0 : Option Nat) (a1 : Int32) (a2 : Int32) (a3 : Int32) (a4 : Int32) : Option (Int64) :=
  (isO st a0 11).bind fun q2 =>
  (F_X11_goes n st a0 a1 a4).bind fun v1 =>
  if v1 = (0 : Int32) then
    some (-9223372036854775808 : Int64)
  else
    (isO st a0 11).bind fun q4 =>
    (F_X11_isOf n st a0 (1 : Int32) a2).bind fun v3 =>
    if v3 = (0 : Int32) then
      some (-9223372036854775808 : Int64)
    else
      (isO st a0 11).bind fun q6 =>
      (F_X11_isOf n st a0 (1 : Int32) a3).bind fun v5 =>
      if v5 = (0 : Int32) then
        some (-9223372036854775808 : Int64)
      else
        (F_X11_placeOf n st (0 : Int32) a1).bind fun v7 =>
        (F_X11_placeOf n st (1 : Int32) a2).bind fun v8 =>
        (isO st a0 11).bind fun q10 =>
        (F_X11_hopes n st a0 v7 v8 a4).bind fun v9 =>
        (F_X11_placeOf n st (0 : Int32) a1).bind fun v11 =>
        (F_X11_placeOf n st (1 : Int32) a3).bind fun v12 =>
        (isO st a0 11).bind fun q14 =>
        (F_X11_hopes n st a0 v11 v12 a4).bind fun v13 =>
        some (v9 - v13)
def F_X11_less (n : Nat) (st : xS) (a0 : Option Nat) (a1 : Int32) (a2 : Int32) (a3 : Int32) (a4 : Int32) : Option (Int64 × xS) :=
  (isO st a0 11).bind fun q2 =>
  (F_X11_isPart n st a0 a1 a2 a3 a4).bind fun v1 =>
  if v1 = (0 : Int32) then
    some ((-9223372036854775808 : Int64), st)
  else
    (F_X11_placeOf n st (0 : Int32) a1).bind fun v3 =>
    (F_X11_placeOf n st (1 : Int32) a2).bind fun v4 =>
    (isO st a0 11).bind fun q6 =>
    (F_X11_hopes n st a0 v3 v4 a3).bind fun v5 =>
    (pF st a0 11 15 (.int a4)).bind fun s7 =>
    (F_X11_placeOf n s7 (0 : Int32) a1).bind fun v8 =>
    (F_X11_placeOf n s7 (1 : Int32) a2).bind fun v9 =>
    (isO s7 a0 11).bind fun q11 =>
    (F_X11_hopes n s7 a0 v8 v9 a3).bind fun v10 =>
    (pF s7 a0 11 15 (.int (-1 : Int32))).bind fun s12 =>
    some (v10 - v5, s12)
def F_X11_betOf (n : Nat) (st : xS) (a0 : Option Nat) (a1 : Int32) (a2 : Int32) (a3 : Int32) (a4 : Int32) (a5 : Int32) : Option (Int64) :=
  (isO st a0 11).bind fun q2 =>
  (F_X11_chanceOf n st a0 a1 a2 a3 a4 (0 : Int32)).bind fun v1 =>
  some ((v1 * a5.toInt64) - (100000000000000 : Int64))
def F_X11_bet (n : Nat) (st : xS) (a0 : Option Nat) (a1 : Int32) (a2 : Int32) (a3 : Int32) (a4 : Int32) (a5 : Int32) : Option (Int64) :=
  (isO st a0 11).bind fun q2 =>
  (F_X11_isGame n st a0 a1 a2 a3 a4).bind fun v1 =>
  ((if v1 = (0 : Int32) then
      some (-9223372036854775808 : Int64)
    else
      (F_X11_isPrice n st a5).bind fun v3 =>
      if v3 = (0 : Int32) then
        some (-9223372036854775808 : Int64)
      else
        (F_X11_placeOf n st (0 : Int32) a1).bind fun v4 =>
        (F_X11_placeOf n st (1 : Int32) a2).bind fun v5 =>
        (isO st a0 11).bind fun q7 =>
        (F_X11_betOf n st a0 v4 v5 a3 a4 a5).bind fun v6 =>
        some v6) : Option (Int64)).bind fun q8 =>
  some q8
def F_X11_best_L37 (n : Nat) : Nat → xS → Option Nat → Int32 → Int32 → Int32 → Int32 → Int32 → Int64 → Int32 → Option ((Int32))
  | 0 => fun _ _ _ _ _ _ _ _ _ => none
  | k + 1 => fun st a0 a1 a2 a3 a4 a5 a6 a8 =>
    (isO st a0 11).bind fun q7 =>
    (F_X11_gamesOf n st a0 a3).bind fun v6 =>
    if v6 ≤ a8 then
      some a5
    else
      (F_X11_placeOf n st (0 : Int32) a1).bind fun v8 =>
      (F_X11_placeOf n st (1 : Int32) a2).bind fun v9 =>
      (isO st a0 11).bind fun q11 =>
      (F_X11_betOf n st a0 v8 v9 a3 a8 a4).bind fun v10 =>
      ((if (0 : Int32) < (lg_cmp v10 a6) then
          some (a8, v10)
        else
          some (a5, a6)) : Option (Int32 × Int64)).bind fun q12 =>
      (some (a8 + (1 : Int32))).bind fun v13 =>
      F_X11_best_L37 n k st a0 a1 a2 a3 a4 q12.1 q12.2 v13
def F_X11_best (n : Nat) (st : xS) (a0 : Option Nat) (a1 : Int32) (a2 : Int32) (a3 : Int32) (a4 : Int32) : Option (Int32) :=
  (isO st a0 11).bind fun q2 =>
  (F_X11_goes n st a0 a1 a3).bind fun v1 =>
  if v1 = (0 : Int32) then
    some (-1 : Int32)
  else
    (isO st a0 11).bind fun q4 =>
    (F_X11_isOf n st a0 (1 : Int32) a2).bind fun v3 =>
    if v3 = (0 : Int32) then
      some (-1 : Int32)
    else
      (F_X11_isPrice n st a4).bind fun v5 =>
      if v5 = (0 : Int32) then
        some (-1 : Int32)
      else
        (F_X11_best_L37 n n st a0 a1 a2 a3 a4 (-1 : Int32) (0 : Int64) (0 : Int32)).bind fun q14 =>
        some q14
def F_X11_fair_L18 (n : Nat) : Nat → xS → Option Nat → Int32 → Int32 → Int32 → Int32 → Int32 → Option (Int32)
  | 0 => fun _ _ _ _ _ _ _ => none
  | k + 1 => fun st a0 a1 a2 a3 a4 a5 =>
    if (1000 : Int32) ≤ a5 then
      some (-1 : Int32)
    else
      (F_X11_placeOf n st (0 : Int32) a1).bind fun v3 =>
      (F_X11_placeOf n st (1 : Int32) a2).bind fun v4 =>
      (isO st a0 11).bind fun q6 =>
      (F_X11_betOf n st a0 v3 v4 a3 a4 a5).bind fun v5 =>
      if (lg_cmp v5 (0 : Int64)) < (0 : Int32) then
        (some (a5 + (1 : Int32))).bind fun v7 =>
        F_X11_fair_L18 n k st a0 a1 a2 a3 a4 v7
      else
        some a5
def F_X11_fair (n : Nat) (st : xS) (a0 : Option Nat) (a1 : Int32) (a2 : Int32) (a3 : Int32) (a4 : Int32) : Option (Int32) :=
  (isO st a0 11).bind fun q2 =>
  (F_X11_isGame n st a0 a1 a2 a3 a4).bind fun v1 =>
  if v1 = (0 : Int32) then
    some (-1 : Int32)
  else
    F_X11_fair_L18 n n st a0 a1 a2 a3 a4 (101 : Int32)
def F_X11_count (n : Nat) (st : xS) (a0 : Option Nat) (a1 : Int32) : Option (Int32) :=
  (F_X11_isIn n st a1 (0 : Int32) (3 : Int32)).bind fun v1 =>
  ((if v1 = (0 : Int32) then
      some (-2 : Int32)
    else
      (gR st a0 11 0).bind fun v2 =>
      (aI st v2 a1).bind fun v3 =>
      some v3) : Option (Int32)).bind fun q4 =>
  some q4
def F_X11_image_L20 (n : Nat) : Nat → xS → Option Nat → Int32 → Int32 → Option ((xS))
  | 0 => fun _ _ _ _ => none
  | k + 1 => fun st a0 a1 a2 =>
    if (2562 : Int32) ≤ a2 then
      some st
    else
      (gR st a0 11 0).bind fun v5 =>
      (gR st a0 11 0).bind fun v6 =>
      (aI st v6 a2).bind fun v7 =>
      (sS 0 st v5 (((2562 : Int32) * (a1 + (1 : Int32))) + a2) v7).bind fun s8 =>
      (some (a2 + (1 : Int32))).bind fun v9 =>
      F_X11_image_L20 n k s8 a0 a1 v9
def F_X11_image (n : Nat) (st : xS) (a0 : Option Nat) (a1 : Int32) : Option (Int32 × xS) :=
  (F_X11_isIn n st a1 (0 : Int32) (2 : Int32)).bind fun v1 =>
  if v1 = (0 : Int32) then
    (rz (0 : Int32)).bind fun v2 =>
    some (v2, st)
  else
    (gR st a0 11 1).bind fun v3 =>
    (sS 3 st v3 a1 (vp_nar .boolean (1 : Int32))).bind fun s4 =>
    (F_X11_image_L20 n n s4 a0 a1 (0 : Int32)).bind fun q10 =>
    (rz (1 : Int32)).bind fun v11 =>
    some (v11, q10)
def F_X11_again_L22 (n : Nat) : Nat → xS → Option Nat → Int32 → Int32 → Option ((xS))
  | 0 => fun _ _ _ _ => none
  | k + 1 => fun st a0 a1 a2 =>
    if (2562 : Int32) ≤ a2 then
      some st
    else
      (gR st a0 11 0).bind fun v6 =>
      (gR st a0 11 0).bind fun v7 =>
      (aI st v7 (((2562 : Int32) * (a1 + (1 : Int32))) + a2)).bind fun v8 =>
      (sS 0 st v6 a2 v8).bind fun s9 =>
      (some (a2 + (1 : Int32))).bind fun v10 =>
      F_X11_again_L22 n k s9 a0 a1 v10
def F_X11_again (n : Nat) (st : xS) (a0 : Option Nat) (a1 : Int32) : Option (Int32 × xS) :=
  (F_X11_isIn n st a1 (0 : Int32) (2 : Int32)).bind fun v1 =>
  if v1 = (0 : Int32) then
    (rz (0 : Int32)).bind fun v2 =>
    some (v2, st)
  else
    (gR st a0 11 1).bind fun v3 =>
    (aS 3 st v3 a1).bind fun v4 =>
    if v4 = (0 : Int32) then
      (rz (0 : Int32)).bind fun v5 =>
      some (v5, st)
    else
      (F_X11_again_L22 n n st a0 a1 (0 : Int32)).bind fun q11 =>
      (rz (1 : Int32)).bind fun v12 =>
      some (v12, q11)
