/-! ===== trees of answers: what each method answers and leaves, out of its bytecode by program; none: an index out of its row, or no end within the fuel ===== -/
def f_J0_length_8abf5 (i : Nat) : Option Int32 := if i < 21 then some (nI (txN.getD i 0)) else none
def f_J0_charAt_5068e (i : Nat) (k : Int32) : Option Int32 := if i < 21 then (if k < 0 ∨ txN.getD i 0 ≤ k.toNatClampNeg then none else some ((txB.getD i []).getD k.toNatClampNeg 0)) else none
theorem sx_J0_len {i : Nat} {q : Int32} (h : f_J0_length_8abf5 i = some q) : i < 21 := by
  unfold f_J0_length_8abf5 at h
  by_cases c : i < 21
  · exact c
  · rw [if_neg c] at h
    cases h
theorem sx_J0_cha {i : Nat} {k q : Int32} (h : f_J0_charAt_5068e i k = some q) : i < 21 := by
  unfold f_J0_charAt_5068e at h
  by_cases c : i < 21
  · exact c
  · rw [if_neg c] at h
    cases h
def f_X5_within (x0 : Int32) (x1 : Int32) (x2 : Int32) : Option Int32 :=
  if x0 < x1 then
    some 0
  else
    if x2 < x0 then
      some 0
    else
      some 1
def f_X2_append (x1 : Int32) (a : St) : Option St :=
  if (200 : Int32) ≤ a 1 1 then
    some a
  else
    if a 1 1 < 0 ∨ 200 ≤ (a 1 1).toNatClampNeg then none else
    some (up (up a 2 ((a 1 1).toNatClampNeg) x1) 1 1 (((up a 2 ((a 1 1).toNatClampNeg) x1) 1 1) + 1))
def L_X5_write_34 (n : Nat) (x1 : Int64) (x3 : Int32) : Nat → Int32 → St → Option (Int32 × St)
  | 0, _, _ => none
  | j + 1, x4, a =>
    if x3 ≤ x4 then
      some (a 1 1, a)
    else
      (f_X2_append (((x1 >>> (((8 : Int32) * x4).toInt64 &&& 63)) &&& 255).toInt32) a).bind fun q2 =>
      L_X5_write_34 n x1 x3 j (x4 + 1) q2
def f_X5_write (n : Nat) (x1 : Int64) (x3 : Int32) (a : St) : Option (Int32 × St) :=
  (f_X5_within x3 1 8).bind fun q1 =>
  if q1 = 0 then
    some ((-3), a)
  else
    if (a 1 1) + x3 ≤ 200 then
      L_X5_write_34 n x1 x3 n 0 a
    else
      some ((-5), a)
def f_X2_empty (a : St) : Option (Int32 × St) :=
  some (a 1 1, up a 1 1 0)
def f_X5_erase (a : St) : Option (Int32 × St) :=
  (f_X2_empty a).bind fun q1 =>
  some (q1.1, q1.2)
def f_X2_sortOf (x0 : Int32) : Option Int32 :=
  (f_X5_within x0 97 122).bind fun q1 =>
  if q1 = 0 then
    (f_X5_within x0 48 57).bind fun q2 =>
    if q2 = 0 then
      some 2
    else
      some 1
  else
    some 0
def L_X2_readToken_89 (n : Nat) (x1 : Int32) : Nat → St → Option St
  | 0, _ => none
  | j + 1, a =>
    if x1 = 2 then
      some a
    else
      if a 1 1 ≤ a 1 3 then
        some a
      else
        if a 1 3 < 0 ∨ 200 ≤ (a 1 3).toNatClampNeg then none else
        (f_X2_sortOf (a 2 ((a 1 3).toNatClampNeg))).bind fun q2 =>
        if q2 = x1 then
          L_X2_readToken_89 n x1 j (up a 1 3 ((a 1 3) + 1))
        else
          some a
def B_X2_readToken_46 (n : Nat) (a : St) : Option St :=
  if (up a 1 3 (a 1 2)) 1 2 = (up a 1 3 (a 1 2)) 1 1 then
    some (up a 1 3 (a 1 2))
  else
    if (up a 1 3 (a 1 2)) 1 2 < 0 ∨ 200 ≤ ((up a 1 3 (a 1 2)) 1 2).toNatClampNeg then none else
    (f_X2_sortOf ((up a 1 3 (a 1 2)) 2 (((up a 1 3 (a 1 2)) 1 2).toNatClampNeg))).bind fun q1 =>
    L_X2_readToken_89 n q1 n (up (up a 1 3 (a 1 2)) 1 3 (((up a 1 3 (a 1 2)) 1 3) + 1))
def L_X2_readToken_8 (n : Nat) : Nat → St → Option St
  | 0, _ => none
  | j + 1, a =>
    if a 1 1 ≤ a 1 2 then
      B_X2_readToken_46 n a
    else
      if a 1 2 < 0 ∨ 200 ≤ (a 1 2).toNatClampNeg then none else
      if a 2 ((a 1 2).toNatClampNeg) = 32 then
        L_X2_readToken_8 n j (up a 1 2 ((a 1 2) + 1))
      else
        B_X2_readToken_46 n a
def f_X2_readToken (n : Nat) (a : St) : Option St :=
  L_X2_readToken_8 n n (up a 1 2 (a 1 3))
def f_X2_spellingOf (x0 : Int32) : Option Nat :=
  if x0 = 0 then
    some 0
  else
  if x0 = 1 then
    some 1
  else
  if x0 = 2 then
    some 2
  else
  if x0 = 3 then
    some 3
  else
  if x0 = 4 then
    some 4
  else
  if x0 = 5 then
    some 5
  else
  if x0 = 6 then
    some 6
  else
  if x0 = 7 then
    some 7
  else
  if x0 = 8 then
    some 8
  else
  if x0 = 9 then
    some 9
  else
  if x0 = 10 then
    some 10
  else
  if x0 = 11 then
    some 11
  else
    some 12
def L_X2_spells_20 (n : Nat) (x1 : Nat) (a : St) : Nat → Int32 → Option Int32
  | 0, _ => none
  | j + 1, x2 =>
    (f_J0_length_8abf5 x1).bind fun q2 =>
    if q2 ≤ x2 then
      some 1
    else
      if (a 1 2) + x2 < 0 ∨ 200 ≤ ((a 1 2) + x2).toNatClampNeg then none else
      (f_J0_charAt_5068e x1 x2).bind fun q3 =>
      if a 2 (((a 1 2) + x2).toNatClampNeg) = q3 then
        L_X2_spells_20 n x1 a j (x2 + 1)
      else
        some 0
def f_X2_spells (n : Nat) (x1 : Nat) (a : St) : Option Int32 :=
  (f_J0_length_8abf5 x1).bind fun q1 =>
  if (a 1 3) - (a 1 2) = q1 then
    L_X2_spells_20 n x1 a n 0
  else
    some 0
def L_X2_wordRead_2 (n : Nat) (a : St) : Nat → Int32 → Option Int32
  | 0, _ => none
  | j + 1, x1 =>
    if (12 : Int32) < x1 then
      some (-1)
    else
      (f_X2_spellingOf x1).bind fun q1 =>
      (f_X2_spells n q1 a).bind fun q2 =>
      if q2 = 0 then
        L_X2_wordRead_2 n a j (x1 + 1)
      else
        some x1
def f_X2_wordRead (n : Nat) (a : St) : Option Int32 :=
  L_X2_wordRead_2 n a n 0
def f_X2_formOf (x0 : Int32) : Option Nat :=
  if x0 = 4 then
    some 13
  else
  if x0 = 5 then
    some 14
  else
  if x0 = 6 then
    some 15
  else
  if x0 = 7 then
    some 16
  else
  if x0 = 8 then
    some 17
  else
  if x0 = 9 then
    some 15
  else
  if x0 = 10 then
    some 18
  else
  if x0 = 11 then
    some 19
  else
  if x0 = 12 then
    some 19
  else
    some 20
def L_X2_numberRead_42 (n : Nat) (a : St) : Nat → Int32 → Int32 → Option Int32
  | 0, _, _ => none
  | j + 1, x1, x2 =>
    if a 1 3 ≤ x2 then
      some x1
    else
      if x2 < 0 ∨ 200 ≤ x2.toNatClampNeg then none else
      L_X2_numberRead_42 n a j (((x1 * 10) + (a 2 x2.toNatClampNeg)) - 48) (x2 + 1)
def f_X2_numberRead (n : Nat) (a : St) : Option Int32 :=
  (f_X5_within ((a 1 3) - (a 1 2)) 1 2).bind fun q1 =>
  if q1 = 0 then
    some (-1)
  else
    if a 1 2 < 0 ∨ 200 ≤ (a 1 2).toNatClampNeg then none else
    (f_X2_sortOf (a 2 ((a 1 2).toNatClampNeg))).bind fun q2 =>
    if q2 = 1 then
      L_X2_numberRead_42 n a n 0 (a 1 2)
    else
      some (-1)
def f_X2_leastOf (x0 : Int32) : Option Int32 :=
  if x0 = 78 then
    some 2
  else
    some 0
def f_X2_mostOf (x1 : Int32) (a : St) : Option Int32 :=
  if x1 = 65 then
    some ((a 1 4) - 1)
  else
  if x1 = 68 then
    some ((a 1 5) - 1)
  else
  if x1 = 78 then
    some 8
  else
  if x1 = 83 then
    some 15
  else
    some 9
def f_X2_number (x1 : Int32) (x2 : Int32) (a : St) : Option Int32 :=
  if (x1 * 4) + x2 < 0 ∨ 40 ≤ ((x1 * 4) + x2).toNatClampNeg then none else
  some (a 4 (((x1 * 4) + x2).toNatClampNeg))
def B_X2_readLine_140 (n : Nat) (x1 : Int32) (a : St) : Option (Int32 × St) :=
  if x1 = 4 then
    (f_X2_number (a 1 8) 0 a).bind fun q5 =>
    some (1, up (up a 1 4 q5) 1 5 0)
  else
    if (3 : Int32) < x1 then
      some (1, a)
    else
      some (1, up a 1 5 ((a 1 5) + 1))
def L_X2_readLine_47 (n : Nat) (x1 : Int32) (x2 : Nat) : Nat → Int32 → St → Option (Int32 × St)
  | 0, _, _ => none
  | j + 1, x3, a =>
    (f_J0_length_8abf5 x2).bind fun q4 =>
    if q4 ≤ x3 then
      B_X2_readLine_140 n x1 a
    else
      (f_X2_readToken n a).bind fun q6 =>
      (f_X2_numberRead n q6).bind fun q7 =>
      (f_J0_charAt_5068e x2 x3).bind fun q8 =>
      (f_X2_leastOf q8).bind fun q9 =>
      (f_J0_charAt_5068e x2 x3).bind fun q10 =>
      (f_X2_mostOf q10 q6).bind fun q11 =>
      (f_X5_within q7 q9 q11).bind fun q12 =>
      if q12 = 0 then
        some (0, q6)
      else
        if x1 = 10 then
          if x3 = 1 then
            (f_X2_number (q6 1 8) 0 q6).bind fun q13 =>
            if q7 = q13 then
              some (0, q6)
            else
              if ((q6 1 8) * 4) + x3 < 0 ∨ 40 ≤ (((q6 1 8) * 4) + x3).toNatClampNeg then none else
              L_X2_readLine_47 n x1 x2 j (x3 + 1) (up q6 4 ((((q6 1 8) * 4) + x3).toNatClampNeg) q7)
          else
            if ((q6 1 8) * 4) + x3 < 0 ∨ 40 ≤ (((q6 1 8) * 4) + x3).toNatClampNeg then none else
            L_X2_readLine_47 n x1 x2 j (x3 + 1) (up q6 4 ((((q6 1 8) * 4) + x3).toNatClampNeg) q7)
        else
          if ((q6 1 8) * 4) + x3 < 0 ∨ 40 ≤ (((q6 1 8) * 4) + x3).toNatClampNeg then none else
          L_X2_readLine_47 n x1 x2 j (x3 + 1) (up q6 4 ((((q6 1 8) * 4) + x3).toNatClampNeg) q7)
def f_X2_readLine (n : Nat) (a : St) : Option (Int32 × St) :=
  (f_X2_readToken n a).bind fun q1 =>
  (f_X2_wordRead n q1).bind fun q2 =>
  if q2 = (-1) then
    some (0, q1)
  else
    if (3 : Int32) < q2 then
      if q1 1 8 < 0 ∨ 10 ≤ (q1 1 8).toNatClampNeg then none else
      (f_X2_formOf q2).bind fun q3 =>
      L_X2_readLine_47 n q2 q3 n 0 (up q1 3 ((q1 1 8).toNatClampNeg) q2)
    else
      if q1 1 5 = 6 then
        some (0, q1)
      else
        if q1 1 8 < 0 ∨ 10 ≤ (q1 1 8).toNatClampNeg then none else
        (f_X2_formOf q2).bind fun q14 =>
        L_X2_readLine_47 n q2 q14 n 0 (up q1 3 ((q1 1 8).toNatClampNeg) q2)
def L_X2_faultPlace_20 (n : Nat) : Nat → St → Option (Int32 × St)
  | 0, _ => none
  | j + 1, a =>
    if (10 : Int32) ≤ a 1 8 then
      some (a 1 2, a)
    else
      (f_X2_readLine n a).bind fun q1 =>
      if q1.1 = 0 then
        some (q1.2 1 2, q1.2)
      else
        (f_X2_readToken n (up q1.2 1 8 ((q1.2 1 8) + 1))).bind fun q2 =>
        if q2 1 2 = q2 1 1 then
          some ((-1), q2)
        else
          if q2 1 2 < 0 ∨ 200 ≤ (q2 1 2).toNatClampNeg then none else
          if q2 2 ((q2 1 2).toNatClampNeg) = 59 then
            L_X2_faultPlace_20 n j q2
          else
            some (q2 1 2, q2)
def f_X2_faultPlace (n : Nat) (x1 : Int32) (x2 : Int32) (a : St) : Option (Int32 × St) :=
  L_X2_faultPlace_20 n n (up (up (up (up a 1 4 x1) 1 5 x2) 1 8 0) 1 3 0)
def f_X5_fault (n : Nat) (a : St) : Option (Int32 × St) :=
  (f_X2_faultPlace n (a 5 0) (a 5 1) a).bind fun q1 =>
  some (q1.1, q1.2)
def L_X4_restart_45 (n : Nat) : Nat → Int32 → St → Option St
  | 0, _, _ => none
  | j + 1, x2, a =>
    if (64 : Int32) ≤ x2 then
      some a
    else
      if x2 < 0 ∨ 64 ≤ x2.toNatClampNeg then none else
      L_X4_restart_45 n j (x2 + 1) (up a 8 x2.toNatClampNeg 0)
def B_X4_restart_43 (n : Nat) (a : St) : Option St :=
  L_X4_restart_45 n n 0 a
def L_X4_restart_17 (n : Nat) : Nat → Int32 → St → Option St
  | 0, _, _ => none
  | j + 1, x2, a =>
    if (8 : Int32) ≤ x2 then
      B_X4_restart_43 n a
    else
      if x2 < 0 ∨ 8 ≤ x2.toNatClampNeg then none else
      if x2 < 0 ∨ 8 ≤ x2.toNatClampNeg then none else
      L_X4_restart_17 n j (x2 + 1) (up (up a 6 x2.toNatClampNeg (-1)) 7 x2.toNatClampNeg 0)
def f_X4_restart (n : Nat) (x1 : Int32) (a : St) : Option St :=
  L_X4_restart_17 n n 0 (up (up (up a 5 0 x1) 5 1 0) 5 2 0)
def L_X0_idleAll_2 (n : Nat) (o : Nat) : Nat → Int32 → St → Option St
  | 0, _, _ => none
  | j + 1, x1, a =>
    if (8 : Int32) ≤ x1 then
      some a
    else
      if x1 < 0 ∨ 8 ≤ x1.toNatClampNeg then none else
      L_X0_idleAll_2 n o j (x1 + 1) (up a (o + 1) x1.toNatClampNeg (-1))
def f_X0_idleAll (n : Nat) (o : Nat) (a : St) : Option St :=
  L_X0_idleAll_2 n o n 0 a
def f_X5_has (x0 : Int32) (x1 : Int32) : Option Int32 :=
  if (x0 >>> (x1 &&& 31)) &&& 1 = 0 then
    some 0
  else
    some 1
def f_X4_missing (x1 : Int32) (x2 : Int32) (a : St) : Option Int32 :=
  if x2 < 0 ∨ 6 ≤ x2.toNatClampNeg then none else
  if x1 < 0 ∨ 8 ≤ x1.toNatClampNeg then none else
  some ((a 10 x2.toNatClampNeg) &&& ((a 7 x1.toNatClampNeg) ^^^ (-1)))
def f_X4_can (x1 : Int32) (x2 : Int32) (x3 : Int32) (a : St) : Option Int32 :=
  (f_X5_has x3 x2).bind fun q1 =>
  if q1 = 0 then
    if x2 < 0 ∨ 6 ≤ x2.toNatClampNeg then none else
    if a 9 x2.toNatClampNeg = 0 then
      some 1
    else
    if a 9 x2.toNatClampNeg = 1 then
      (f_X4_missing x1 x2 a).bind fun q2 =>
      if q2 = 0 then
        some 1
      else
        some 0
    else
    if a 9 x2.toNatClampNeg = 2 then
      if x2 < 0 ∨ 6 ≤ x2.toNatClampNeg then none else
      if x1 < 0 ∨ 8 ≤ x1.toNatClampNeg then none else
      if (a 10 x2.toNatClampNeg) &&& (a 7 x1.toNatClampNeg) = 0 then
        some 0
      else
        some 1
    else
    if a 9 x2.toNatClampNeg = 3 then
      if x2 < 0 ∨ 6 ≤ x2.toNatClampNeg then none else
      if a 11 x2.toNatClampNeg = x1 then
        some 1
      else
        (f_X4_missing x1 x2 a).bind fun q3 =>
        if q3 = 0 then
          some 1
        else
          some 0
    else
      (f_X4_missing x1 x2 a).bind fun q4 =>
      if q4 = 0 then
        some 1
      else
        some 0
  else
    if x2 < 0 ∨ 6 ≤ x2.toNatClampNeg then none else
    if a 11 x2.toNatClampNeg = x1 then
      if x2 < 0 ∨ 6 ≤ x2.toNatClampNeg then none else
      if a 9 x2.toNatClampNeg = 0 then
        some 1
      else
      if a 9 x2.toNatClampNeg = 1 then
        (f_X4_missing x1 x2 a).bind fun q5 =>
        if q5 = 0 then
          some 1
        else
          some 0
      else
      if a 9 x2.toNatClampNeg = 2 then
        if x2 < 0 ∨ 6 ≤ x2.toNatClampNeg then none else
        if x1 < 0 ∨ 8 ≤ x1.toNatClampNeg then none else
        if (a 10 x2.toNatClampNeg) &&& (a 7 x1.toNatClampNeg) = 0 then
          some 0
        else
          some 1
      else
      if a 9 x2.toNatClampNeg = 3 then
        if x2 < 0 ∨ 6 ≤ x2.toNatClampNeg then none else
        if a 11 x2.toNatClampNeg = x1 then
          some 1
        else
          (f_X4_missing x1 x2 a).bind fun q6 =>
          if q6 = 0 then
            some 1
          else
            some 0
      else
        (f_X4_missing x1 x2 a).bind fun q7 =>
        if q7 = 0 then
          some 1
        else
          some 0
    else
      some 0
def f_X4_setLiking (x1 : Int32) (x2 : Int32) (x3 : Int32) (a : St) : Option St :=
  if (x1 * 8) + x2 < 0 ∨ 64 ≤ ((x1 * 8) + x2).toNatClampNeg then none else
  if (x2 * 8) + x1 < 0 ∨ 64 ≤ ((x2 * 8) + x1).toNatClampNeg then none else
  some (up (up a 8 (((x1 * 8) + x2).toNatClampNeg) x3) 8 (((x2 * 8) + x1).toNatClampNeg) x3)
def f_X4_addDeed (x1 : Int32) (x2 : Int32) (x3 : Int32) (x4 : Int32) (x5 : Int32) (a : St) : Option St :=
  if (6 : Int32) ≤ a 5 1 then
    some a
  else
    if a 5 1 < 0 ∨ 6 ≤ (a 5 1).toNatClampNeg then none else
    if (up a 9 ((a 5 1).toNatClampNeg) x1) 5 1 < 0 ∨ 6 ≤ ((up a 9 ((a 5 1).toNatClampNeg) x1) 5 1).toNatClampNeg then none else
    if (up (up a 9 ((a 5 1).toNatClampNeg) x1) 10 (((up a 9 ((a 5 1).toNatClampNeg) x1) 5 1).toNatClampNeg) x2) 5 1 < 0 ∨ 6 ≤ ((up (up a 9 ((a 5 1).toNatClampNeg) x1) 10 (((up a 9 ((a 5 1).toNatClampNeg) x1) 5 1).toNatClampNeg) x2) 5 1).toNatClampNeg then none else
    if (up (up (up a 9 ((a 5 1).toNatClampNeg) x1) 10 (((up a 9 ((a 5 1).toNatClampNeg) x1) 5 1).toNatClampNeg) x2) 11 (((up (up a 9 ((a 5 1).toNatClampNeg) x1) 10 (((up a 9 ((a 5 1).toNatClampNeg) x1) 5 1).toNatClampNeg) x2) 5 1).toNatClampNeg) x3) 5 1 < 0 ∨ 6 ≤ ((up (up (up a 9 ((a 5 1).toNatClampNeg) x1) 10 (((up a 9 ((a 5 1).toNatClampNeg) x1) 5 1).toNatClampNeg) x2) 11 (((up (up a 9 ((a 5 1).toNatClampNeg) x1) 10 (((up a 9 ((a 5 1).toNatClampNeg) x1) 5 1).toNatClampNeg) x2) 5 1).toNatClampNeg) x3) 5 1).toNatClampNeg then none else
    if (up (up (up (up a 9 ((a 5 1).toNatClampNeg) x1) 10 (((up a 9 ((a 5 1).toNatClampNeg) x1) 5 1).toNatClampNeg) x2) 11 (((up (up a 9 ((a 5 1).toNatClampNeg) x1) 10 (((up a 9 ((a 5 1).toNatClampNeg) x1) 5 1).toNatClampNeg) x2) 5 1).toNatClampNeg) x3) 12 (((up (up (up a 9 ((a 5 1).toNatClampNeg) x1) 10 (((up a 9 ((a 5 1).toNatClampNeg) x1) 5 1).toNatClampNeg) x2) 11 (((up (up a 9 ((a 5 1).toNatClampNeg) x1) 10 (((up a 9 ((a 5 1).toNatClampNeg) x1) 5 1).toNatClampNeg) x2) 5 1).toNatClampNeg) x3) 5 1).toNatClampNeg) x4) 5 1 < 0 ∨ 6 ≤ ((up (up (up (up a 9 ((a 5 1).toNatClampNeg) x1) 10 (((up a 9 ((a 5 1).toNatClampNeg) x1) 5 1).toNatClampNeg) x2) 11 (((up (up a 9 ((a 5 1).toNatClampNeg) x1) 10 (((up a 9 ((a 5 1).toNatClampNeg) x1) 5 1).toNatClampNeg) x2) 5 1).toNatClampNeg) x3) 12 (((up (up (up a 9 ((a 5 1).toNatClampNeg) x1) 10 (((up a 9 ((a 5 1).toNatClampNeg) x1) 5 1).toNatClampNeg) x2) 11 (((up (up a 9 ((a 5 1).toNatClampNeg) x1) 10 (((up a 9 ((a 5 1).toNatClampNeg) x1) 5 1).toNatClampNeg) x2) 5 1).toNatClampNeg) x3) 5 1).toNatClampNeg) x4) 5 1).toNatClampNeg then none else
    some (up (up (up (up (up (up a 9 ((a 5 1).toNatClampNeg) x1) 10 (((up a 9 ((a 5 1).toNatClampNeg) x1) 5 1).toNatClampNeg) x2) 11 (((up (up a 9 ((a 5 1).toNatClampNeg) x1) 10 (((up a 9 ((a 5 1).toNatClampNeg) x1) 5 1).toNatClampNeg) x2) 5 1).toNatClampNeg) x3) 12 (((up (up (up a 9 ((a 5 1).toNatClampNeg) x1) 10 (((up a 9 ((a 5 1).toNatClampNeg) x1) 5 1).toNatClampNeg) x2) 11 (((up (up a 9 ((a 5 1).toNatClampNeg) x1) 10 (((up a 9 ((a 5 1).toNatClampNeg) x1) 5 1).toNatClampNeg) x2) 5 1).toNatClampNeg) x3) 5 1).toNatClampNeg) x4) 13 (((up (up (up (up a 9 ((a 5 1).toNatClampNeg) x1) 10 (((up a 9 ((a 5 1).toNatClampNeg) x1) 5 1).toNatClampNeg) x2) 11 (((up (up a 9 ((a 5 1).toNatClampNeg) x1) 10 (((up a 9 ((a 5 1).toNatClampNeg) x1) 5 1).toNatClampNeg) x2) 5 1).toNatClampNeg) x3) 12 (((up (up (up a 9 ((a 5 1).toNatClampNeg) x1) 10 (((up a 9 ((a 5 1).toNatClampNeg) x1) 5 1).toNatClampNeg) x2) 11 (((up (up a 9 ((a 5 1).toNatClampNeg) x1) 10 (((up a 9 ((a 5 1).toNatClampNeg) x1) 5 1).toNatClampNeg) x2) 5 1).toNatClampNeg) x3) 5 1).toNatClampNeg) x4) 5 1).toNatClampNeg) x5) 5 1 (((up (up (up (up (up a 9 ((a 5 1).toNatClampNeg) x1) 10 (((up a 9 ((a 5 1).toNatClampNeg) x1) 5 1).toNatClampNeg) x2) 11 (((up (up a 9 ((a 5 1).toNatClampNeg) x1) 10 (((up a 9 ((a 5 1).toNatClampNeg) x1) 5 1).toNatClampNeg) x2) 5 1).toNatClampNeg) x3) 12 (((up (up (up a 9 ((a 5 1).toNatClampNeg) x1) 10 (((up a 9 ((a 5 1).toNatClampNeg) x1) 5 1).toNatClampNeg) x2) 11 (((up (up a 9 ((a 5 1).toNatClampNeg) x1) 10 (((up a 9 ((a 5 1).toNatClampNeg) x1) 5 1).toNatClampNeg) x2) 5 1).toNatClampNeg) x3) 5 1).toNatClampNeg) x4) 13 (((up (up (up (up a 9 ((a 5 1).toNatClampNeg) x1) 10 (((up a 9 ((a 5 1).toNatClampNeg) x1) 5 1).toNatClampNeg) x2) 11 (((up (up a 9 ((a 5 1).toNatClampNeg) x1) 10 (((up a 9 ((a 5 1).toNatClampNeg) x1) 5 1).toNatClampNeg) x2) 5 1).toNatClampNeg) x3) 12 (((up (up (up a 9 ((a 5 1).toNatClampNeg) x1) 10 (((up a 9 ((a 5 1).toNatClampNeg) x1) 5 1).toNatClampNeg) x2) 11 (((up (up a 9 ((a 5 1).toNatClampNeg) x1) 10 (((up a 9 ((a 5 1).toNatClampNeg) x1) 5 1).toNatClampNeg) x2) 5 1).toNatClampNeg) x3) 5 1).toNatClampNeg) x4) 5 1).toNatClampNeg) x5) 5 1) + 1))
def f_X5_perform (n : Nat) (x1 : Int32) (a : St) : Option St :=
  (f_X2_number x1 0 a).bind fun q1 =>
  (f_X2_number x1 1 a).bind fun q2 =>
  (f_X2_number x1 2 a).bind fun q3 =>
  (f_X2_number x1 3 a).bind fun q4 =>
  if x1 < 0 ∨ 10 ≤ x1.toNatClampNeg then none else
  if a 3 x1.toNatClampNeg = 4 then
    (f_X4_restart n q1 a).bind fun q5 =>
    (f_X0_idleAll n 15 q5).bind fun q6 =>
    some q6
  else
  if a 3 x1.toNatClampNeg = 5 then
    if q1 < 0 ∨ 8 ≤ q1.toNatClampNeg then none else
    some (up a 6 q1.toNatClampNeg q2)
  else
  if a 3 x1.toNatClampNeg = 6 then
    if q1 < 0 ∨ 8 ≤ q1.toNatClampNeg then none else
    some (up a 6 q1.toNatClampNeg (-1))
  else
  if a 3 x1.toNatClampNeg = 7 then
    if q1 < 0 ∨ 8 ≤ q1.toNatClampNeg then none else
    some (up a 7 q1.toNatClampNeg q2)
  else
  if a 3 x1.toNatClampNeg = 8 then
    (f_X4_can q1 q2 (a 5 2) a).bind fun q7 =>
    if q7 = 0 then
      if q1 < 0 ∨ 8 ≤ q1.toNatClampNeg then none else
      some (up a 16 q1.toNatClampNeg (-1))
    else
      if q1 < 0 ∨ 8 ≤ q1.toNatClampNeg then none else
      some (up a 16 q1.toNatClampNeg q2)
  else
  if a 3 x1.toNatClampNeg = 9 then
    if q1 < 0 ∨ 8 ≤ q1.toNatClampNeg then none else
    some (up a 16 q1.toNatClampNeg (-1))
  else
  if a 3 x1.toNatClampNeg = 10 then
    (f_X4_setLiking q1 q2 q3 a).bind fun q8 =>
    some q8
  else
  if a 3 x1.toNatClampNeg = 11 then
    some (up a 5 2 ((a 5 2) ||| ((1 : Int32) <<< (q1 &&& 31))))
  else
  if a 3 x1.toNatClampNeg = 12 then
    some (up a 5 2 ((a 5 2) &&& (((1 : Int32) <<< (q1 &&& 31)) ^^^ (-1))))
  else
    (f_X4_addDeed (a 3 x1.toNatClampNeg) q1 q2 q3 q4 a).bind fun q9 =>
    some q9
def L_X0_restart_7 (n : Nat) (o : Nat) : Nat → Int32 → St → Option St
  | 0, _, _ => none
  | j + 1, x1, a =>
    if (8 : Int32) ≤ x1 then
      some a
    else
      if x1 < 0 ∨ 8 ≤ x1.toNatClampNeg then none else
      L_X0_restart_7 n o j (x1 + 1) (up a (o + 2) x1.toNatClampNeg 0)
def f_X0_restart (n : Nat) (o : Nat) (a : St) : Option St :=
  L_X0_restart_7 n o n 0 (up a o 2 0)
def f_X3_clear (o : Nat) (a : St) : Option (Int32 × St) :=
  some (a o 3, up a o 3 0)
def L_X5_street_77 (n : Nat) : Nat → Int32 → St → Option (Int32 × St)
  | 0, _, _ => none
  | j + 1, x1, a =>
    if (2 : Int32) ≤ x1 then
      (f_X2_empty a).bind fun q5 =>
      some (q5.2 1 8, q5.2)
    else
      if x1 < 0 ∨ 2 ≤ x1.toNatClampNeg then none else
      if x1.toNatClampNeg = 0 then
        L_X5_street_77 n j (x1 + 1) (up a 19 3 0)
      else
        L_X5_street_77 n j (x1 + 1) (up a 22 3 0)
def B_X5_street_52 (n : Nat) (a : St) : Option (Int32 × St) :=
  (f_X0_restart n 15 a).bind fun q2 =>
  (f_X3_clear 25 q2).bind fun q3 =>
  (f_X3_clear 29 q3.2).bind fun q4 =>
  L_X5_street_77 n n 0 q4.2
def L_X5_street_30 (n : Nat) : Nat → Int32 → St → Option (Int32 × St)
  | 0, _, _ => none
  | j + 1, x1, a =>
    if a 1 8 ≤ x1 then
      B_X5_street_52 n a
    else
      (f_X5_perform n x1 a).bind fun q6 =>
      L_X5_street_30 n j (x1 + 1) q6
def f_X5_street (n : Nat) (a : St) : Option (Int32 × St) :=
  (f_X2_faultPlace n (a 5 0) (a 5 1) a).bind fun q1 =>
  if q1.1 = (-1) then
    L_X5_street_30 n n 0 q1.2
  else
    some ((-4), q1.2)
def f_X4_hasHouse (x1 : Int32) (a : St) : Option Int32 :=
  (f_X5_within x1 0 ((a 5 0) - 1)).bind fun q1 =>
  if q1 = 0 ∨ q1 = 1 then some q1 else none
def f_X5_house (x1 : Int32) (x2 : Int32) (a : St) : Option Int32 :=
  (f_X4_hasHouse x1 a).bind fun q1 =>
  if q1 = 0 then
    some (-2)
  else
    if x2 = 0 then
      if x1 < 0 ∨ 8 ≤ x1.toNatClampNeg then none else
      some (a 6 x1.toNatClampNeg)
    else
    if x2 = 1 then
      if x1 < 0 ∨ 8 ≤ x1.toNatClampNeg then none else
      some (a 7 x1.toNatClampNeg)
    else
    if x2 = 2 then
      if x1 < 0 ∨ 8 ≤ x1.toNatClampNeg then none else
      some (a 16 x1.toNatClampNeg)
    else
    if x2 = 3 then
      if x1 < 0 ∨ 8 ≤ x1.toNatClampNeg then none else
      some (a 17 x1.toNatClampNeg)
    else
      some (-3)
def f_X4_hasDeed (x1 : Int32) (a : St) : Option Int32 :=
  (f_X5_within x1 0 ((a 5 1) - 1)).bind fun q1 =>
  if q1 = 0 ∨ q1 = 1 then some q1 else none
def f_X5_deed (x1 : Int32) (x2 : Int32) (a : St) : Option Int32 :=
  (f_X4_hasDeed x1 a).bind fun q1 =>
  if q1 = 0 then
    some (-2)
  else
    if x2 = 0 then
      if x1 < 0 ∨ 6 ≤ x1.toNatClampNeg then none else
      some (a 9 x1.toNatClampNeg)
    else
    if x2 = 1 then
      if x1 < 0 ∨ 6 ≤ x1.toNatClampNeg then none else
      some (a 10 x1.toNatClampNeg)
    else
    if x2 = 2 then
      if x1 < 0 ∨ 6 ≤ x1.toNatClampNeg then none else
      some (a 11 x1.toNatClampNeg)
    else
    if x2 = 3 then
      if x1 < 0 ∨ 6 ≤ x1.toNatClampNeg then none else
      some (a 12 x1.toNatClampNeg)
    else
    if x2 = 4 then
      if x1 < 0 ∨ 6 ≤ x1.toNatClampNeg then none else
      some (a 13 x1.toNatClampNeg)
    else
    if x2 = 5 then
      (f_X5_has (a 5 2) x1).bind fun q2 =>
      if q2 = 0 then
        some 0
      else
        some 1
    else
      some (-3)
def f_X4_isOfKind (x1 : Int32) (x2 : Int32) (a : St) : Option Int32 :=
  if x2 = 0 then
    some 1
  else
    if x2 = 2 then
      if x1 < 0 ∨ 6 ≤ x1.toNatClampNeg then none else
      if a 9 x1.toNatClampNeg = 0 then
        if x1 < 0 ∨ 6 ≤ x1.toNatClampNeg then none else
        if (a 9 x1.toNatClampNeg) + 1 = x2 then
          some 1
        else
          some 0
      else
        some 1
    else
      if x1 < 0 ∨ 6 ≤ x1.toNatClampNeg then none else
      if (a 9 x1.toNatClampNeg) + 1 = x2 then
        some 1
      else
        some 0
def L_X4_doers_4 (n : Nat) (x1 : Int32) (a : St) : Nat → Int32 → Int32 → Option Int32
  | 0, _, _ => none
  | j + 1, x2, x3 =>
    if a 5 0 ≤ x3 then
      some x2
    else
      (f_X4_can x3 x1 (a 5 2) a).bind fun q1 =>
      if q1 = 0 then
        L_X4_doers_4 n x1 a j x2 (x3 + 1)
      else
        L_X4_doers_4 n x1 a j (x2 ||| ((1 : Int32) <<< (x3 &&& 31))) (x3 + 1)
def f_X4_doers (n : Nat) (x1 : Int32) (a : St) : Option Int32 :=
  L_X4_doers_4 n x1 a n 0 0
def f_X5_as (n : Nat) (x1 : Int32) (x2 : Int32) (a : St) : Option Int32 :=
  (f_X4_hasDeed x1 a).bind fun q1 =>
  if q1 = 0 then
    some (-2)
  else
    (f_X5_within x2 0 4).bind fun q2 =>
    if q2 = 0 then
      some (-3)
    else
      (f_X4_isOfKind x1 x2 a).bind fun q3 =>
      if q3 = 0 then
        some (-4)
      else
        (f_X4_doers n x1 a).bind fun q4 =>
        some q4
def f_X5_isDeedOrNone (x1 : Int32) (a : St) : Option Int32 :=
  if x1 = (-1) then
    some 1
  else
    (f_X4_hasDeed x1 a).bind fun q1 =>
    if q1 = 0 then
      some 0
    else
      some 1
def f_X5_set (x1 : Int32) (x2 : Int32) (a : St) : Option (Int32 × St) :=
  (f_X4_hasHouse x1 a).bind fun q1 =>
  if q1 = 0 then
    some ((-2), a)
  else
    (f_X5_isDeedOrNone x2 a).bind fun q2 =>
    if q2 = 0 then
      some ((-2), a)
    else
      if x2 = (-1) then
        if x1 < 0 ∨ 8 ≤ x1.toNatClampNeg then none else
        if x1 < 0 ∨ 8 ≤ x1.toNatClampNeg then none else
        some (a 16 x1.toNatClampNeg, up a 16 x1.toNatClampNeg x2)
      else
        (f_X4_can x1 x2 (a 5 2) a).bind fun q3 =>
        if q3 = 0 then
          some ((-4), a)
        else
          if x1 < 0 ∨ 8 ≤ x1.toNatClampNeg then none else
          if x1 < 0 ∨ 8 ≤ x1.toNatClampNeg then none else
          some (a 16 x1.toNatClampNeg, up a 16 x1.toNatClampNeg x2)
def L_X0_noteDoers_2 (n : Nat) (o : Nat) : Nat → Int32 → St → Option St
  | 0, _, _ => none
  | j + 1, x1, a =>
    if (8 : Int32) ≤ x1 then
      some a
    else
      if x1 < 0 ∨ 8 ≤ x1.toNatClampNeg then none else
      if a (o + 1) x1.toNatClampNeg = (-1) then
        L_X0_noteDoers_2 n o j (x1 + 1) a
      else
        if x1 < 0 ∨ 8 ≤ x1.toNatClampNeg then none else
        if x1 < 0 ∨ 8 ≤ x1.toNatClampNeg then none else
        L_X0_noteDoers_2 n o j (x1 + 1) (up a (o + 2) x1.toNatClampNeg ((a (o + 2) x1.toNatClampNeg) + 1))
def f_X0_noteDoers (n : Nat) (o : Nat) (a : St) : Option St :=
  L_X0_noteDoers_2 n o n 0 a
def f_X4_mirrored (o1 : Nat) (x2 : Int32) (x3 : Int32) (a : St) : Option Int32 :=
  if x2 < 0 ∨ 8 ≤ x2.toNatClampNeg then none else
  if a 6 x2.toNatClampNeg = (-1) then
    some (-1)
  else
    if x2 < 0 ∨ 8 ≤ x2.toNatClampNeg then none else
    if a 6 x2.toNatClampNeg < 0 ∨ 8 ≤ (a 6 x2.toNatClampNeg).toNatClampNeg then none else
    if a o1 ((a 6 x2.toNatClampNeg).toNatClampNeg) = (-1) then
      some (-1)
    else
      (f_X4_can x2 (a o1 ((a 6 x2.toNatClampNeg).toNatClampNeg)) x3 a).bind fun q1 =>
      if q1 = 0 then
        some (-1)
      else
        some (a o1 ((a 6 x2.toNatClampNeg).toNatClampNeg))
def B_X4_passDay_29 (n : Nat) (o1 : Nat) (a : St) : Option St :=
  if (0 : Int32) < 0 ∨ (0 : Int32) < 0 ∨ (a 5 0 : Int32) < 0 ∨ 8 < (0 : Int32).toNatClampNeg + (a 5 0).toNatClampNeg ∨ 8 < (0 : Int32).toNatClampNeg + (a 5 0).toNatClampNeg then none else
  some (uprow a o1 (va_cpy (a 14) (a o1) ((0 : Int32).toNatClampNeg) ((0 : Int32).toNatClampNeg) ((a 5 0).toNatClampNeg)))
def L_X4_passDay_2 (n : Nat) (o1 : Nat) (x2 : Int32) : Nat → Int32 → St → Option St
  | 0, _, _ => none
  | j + 1, x3, a =>
    if a 5 0 ≤ x3 then
      B_X4_passDay_29 n o1 a
    else
      (f_X4_mirrored o1 x3 x2 a).bind fun q1 =>
      if x3 < 0 ∨ 8 ≤ x3.toNatClampNeg then none else
      L_X4_passDay_2 n o1 x2 j (x3 + 1) (up a 14 x3.toNatClampNeg q1)
def f_X4_passDay (n : Nat) (o1 : Nat) (x2 : Int32) (a : St) : Option St :=
  L_X4_passDay_2 n o1 x2 n 0 a
def B_X5_go_72 (n : Nat) (x1 : Int32) (a : St) : Option (Int32 × St) :=
  some ((up a 15 2 ((a 15 2) + x1)) 15 2, up a 15 2 ((a 15 2) + x1))
def L_X5_go_33 (n : Nat) (x1 : Int32) : Nat → Int32 → St → Option (Int32 × St)
  | 0, _, _ => none
  | j + 1, x2, a =>
    if x1 ≤ x2 then
      B_X5_go_72 n x1 a
    else
      (f_X0_noteDoers n 15 a).bind fun q2 =>
      (f_X4_passDay n 16 (q2 5 2) q2).bind fun q3 =>
      L_X5_go_33 n x1 j (x2 + 1) q3
def f_X5_go (n : Nat) (x1 : Int32) (a : St) : Option (Int32 × St) :=
  (f_X5_within x1 1 99).bind fun q1 =>
  if q1 = 0 then
    some ((-3), a)
  else
    if (a 15 2) + x1 ≤ 9999 then
      L_X5_go_33 n x1 n 0 a
    else
      some ((-5), a)
def L_X5_foresee_20 (n : Nat) (x1 : Int32) : Nat → Int32 → St → Option St
  | 0, _, _ => none
  | j + 1, x2, a =>
    if x1 ≤ x2 then
      some a
    else
      (f_X4_passDay n 33 (a 5 2) a).bind fun q1 =>
      L_X5_foresee_20 n x1 j (x2 + 1) q1
def f_X5_foresee (n : Nat) (x1 : Int32) (a : St) : Option St :=
  if (0 : Int32) < 0 ∨ (0 : Int32) < 0 ∨ (8 : Int32) < 0 ∨ 8 < (0 : Int32).toNatClampNeg + (8 : Int32).toNatClampNeg ∨ 8 < (0 : Int32).toNatClampNeg + (8 : Int32).toNatClampNeg then none else
  L_X5_foresee_20 n x1 n 0 (uprow a 33 (va_cpy (a 16) (a 33) ((0 : Int32).toNatClampNeg) ((0 : Int32).toNatClampNeg) ((8 : Int32).toNatClampNeg)))
def f_X5_later (n : Nat) (x1 : Int32) (x2 : Int32) (a : St) : Option (Int32 × St) :=
  (f_X4_hasHouse x1 a).bind fun q1 =>
  if q1 = 0 then
    some ((-2), a)
  else
    (f_X5_within x2 0 99).bind fun q2 =>
    if q2 = 0 then
      some ((-3), a)
    else
      (f_X5_foresee n x2 a).bind fun q3 =>
      if x1 < 0 ∨ 8 ≤ x1.toNatClampNeg then none else
      some (q3 33 x1.toNatClampNeg, q3)
def B_X5_foreseeStates_48 (n : Nat) (k7 : Int32 → St → Option St) (x1 : Int32) (x2 : Int32) (a : St) : Option St :=
  if x1 < 0 ∨ 32 ≤ x1.toNatClampNeg then none else
  (f_X4_passDay n 33 ((up a 36 x1.toNatClampNeg x2) 5 2) (up a 36 x1.toNatClampNeg x2)).bind fun q2 =>
  k7 (x1 + 1) q2
def L_X5_foreseeStates_17 (n : Nat) (k7 : Int32 → St → Option St) (x1 : Int32) : Nat → Int32 → Int32 → St → Option St
  | 0, _, _, _ => none
  | j + 1, x2, x3, a =>
    if a 5 0 ≤ x3 then
      B_X5_foreseeStates_48 n k7 x1 x2 a
    else
      if x3 < 0 ∨ 8 ≤ x3.toNatClampNeg then none else
      L_X5_foreseeStates_17 n k7 x1 j (((x2 * 7) + (a 33 x3.toNatClampNeg)) + 1) (x3 + 1) a
def L_X5_foreseeStates_7 (n : Nat) : Nat → Int32 → St → Option St
  | 0, _, _ => none
  | j + 1, x1, a =>
    if (32 : Int32) ≤ x1 then
      some a
    else
      L_X5_foreseeStates_17 n (L_X5_foreseeStates_7 n j) x1 n 0 0 a
def f_X5_foreseeStates (n : Nat) (a : St) : Option St :=
  (f_X5_foresee n 0 a).bind fun q1 =>
  L_X5_foreseeStates_7 n n 0 q1
def B_X5_again_67 (n : Nat) (k18 : Int32 → St → Option (Int32 × St)) (x1 : Int32) (x2 : Int32) (a : St) : Option (Int32 × St) :=
  k18 (x2 + 1) a
def B_X5_again_49 (n : Nat) (x1 : Int32) (x2 : Int32) (x3 : Int32) (a : St) : Option (Int32 × St) :=
  if x1 = 0 then
    some (x2, a)
  else
    some (x3 - x2, a)
def L_X5_again_28 (n : Nat) (k18 : Int32 → St → Option (Int32 × St)) (x1 : Int32) (x2 : Int32) : Nat → Int32 → St → Option (Int32 × St)
  | 0, _, _ => none
  | j + 1, x3, a =>
    if (32 : Int32) ≤ x3 then
      B_X5_again_67 n k18 x1 x2 a
    else
      if x2 < 0 ∨ 32 ≤ x2.toNatClampNeg then none else
      if x3 < 0 ∨ 32 ≤ x3.toNatClampNeg then none else
      if a 36 x2.toNatClampNeg = a 36 x3.toNatClampNeg then
        B_X5_again_49 n x1 x2 x3 a
      else
        L_X5_again_28 n k18 x1 x2 j (x3 + 1) a
def L_X5_again_18 (n : Nat) (x1 : Int32) : Nat → Int32 → St → Option (Int32 × St)
  | 0, _, _ => none
  | j + 1, x2, a =>
    if (32 : Int32) ≤ x2 then
      some ((-1), a)
    else
      L_X5_again_28 n (L_X5_again_18 n x1 j) x1 x2 n (x2 + 1) a
def f_X5_again (n : Nat) (x1 : Int32) (a : St) : Option (Int32 × St) :=
  (f_X5_within x1 0 1).bind fun q1 =>
  if q1 = 0 then
    some ((-3), a)
  else
    (f_X5_foreseeStates n a).bind fun q2 =>
    L_X5_again_18 n x1 n 0 q2
def f_X5_refusalOf (x1 : Int32) (x2 : Int32) (x3 : Int32) (a : St) : Option Int32 :=
  (f_X4_hasHouse x1 a).bind fun q1 =>
  if q1 = 0 then
    some (-2)
  else
    (f_X4_hasDeed x2 a).bind fun q2 =>
    if q2 = 0 then
      some (-2)
    else
      (f_X5_within x3 0 99).bind fun q3 =>
      if q3 = 0 then
        some (-3)
      else
        some 0
def L_X4_abilities_4 (n : Nat) (x1 : Int32) (a : St) : Nat → Int32 → Int32 → Option Int32
  | 0, _, _ => none
  | j + 1, x2, x3 =>
    if a 5 1 ≤ x3 then
      some x2
    else
      (f_X4_can x1 x3 (a 5 2) a).bind fun q1 =>
      if q1 = 0 then
        L_X4_abilities_4 n x1 a j x2 (x3 + 1)
      else
        L_X4_abilities_4 n x1 a j (x2 ||| ((1 : Int32) <<< (x3 &&& 31))) (x3 + 1)
def f_X4_abilities (n : Nat) (x1 : Int32) (a : St) : Option Int32 :=
  L_X4_abilities_4 n x1 a n 0 0
def L_X4_passing_9 (n : Nat) (x2 : Int32) (a : St) : Nat → Int32 → Int32 → Int32 → Option Int32
  | 0, _, _, _ => none
  | j + 1, x3, x4, x5 =>
    if x2 < x5 then
      some x4
    else
      if x3 = (-1) then
        some 0
      else
        (f_X4_abilities n x3 a).bind fun q1 =>
        if x3 < 0 ∨ 8 ≤ x3.toNatClampNeg then none else
        L_X4_passing_9 n x2 a j (a 6 x3.toNatClampNeg) (x4 &&& q1) (x5 + 1)
def f_X4_passing (n : Nat) (x1 : Int32) (x2 : Int32) (a : St) : Option Int32 :=
  L_X4_passing_9 n x2 a n x1 63 0
def L_X4_wayEnd_5 (n : Nat) (x2 : Int32) (a : St) : Nat → Int32 → Int32 → Option Int32
  | 0, _, _ => none
  | j + 1, x3, x4 =>
    if x2 ≤ x4 then
      some x3
    else
      if x3 = (-1) then
        some x3
      else
        if x3 < 0 ∨ 8 ≤ x3.toNatClampNeg then none else
        L_X4_wayEnd_5 n x2 a j (a 6 x3.toNatClampNeg) (x4 + 1)
def f_X4_wayEnd (n : Nat) (x1 : Int32) (x2 : Int32) (a : St) : Option Int32 :=
  L_X4_wayEnd_5 n x2 a n x1 0
def f_X5_first (n : Nat) (x1 : Int32) (x2 : Int32) (x3 : Int32) (a : St) : Option Int32 :=
  (f_X5_refusalOf x1 x2 x3 a).bind fun q1 =>
  if q1 = 0 then
    (f_X4_passing n x1 x3 a).bind fun q2 =>
    (f_X5_has q2 x2).bind fun q3 =>
    if q3 = 0 then
      some (-1)
    else
      (f_X4_wayEnd n x1 x3 a).bind fun q4 =>
      some q4
  else
    some q1
def f_J6_bitCount_0f7a4 (x0 : Int32) : Option Int32 :=
  some ((((((((x0 - (((x0.toUInt32 >>> ((1 : Int32).toUInt32 &&& Int32.toUInt32 31)).toInt32) &&& 1431655765)) &&& 858993459) + ((((x0 - (((x0.toUInt32 >>> ((1 : Int32).toUInt32 &&& Int32.toUInt32 31)).toInt32) &&& 1431655765)).toUInt32 >>> ((2 : Int32).toUInt32 &&& Int32.toUInt32 31)).toInt32) &&& 858993459)) + (((((x0 - (((x0.toUInt32 >>> ((1 : Int32).toUInt32 &&& Int32.toUInt32 31)).toInt32) &&& 1431655765)) &&& 858993459) + ((((x0 - (((x0.toUInt32 >>> ((1 : Int32).toUInt32 &&& Int32.toUInt32 31)).toInt32) &&& 1431655765)).toUInt32 >>> ((2 : Int32).toUInt32 &&& Int32.toUInt32 31)).toInt32) &&& 858993459)).toUInt32 >>> ((4 : Int32).toUInt32 &&& Int32.toUInt32 31)).toInt32)) &&& 252645135) + (((((((x0 - (((x0.toUInt32 >>> ((1 : Int32).toUInt32 &&& Int32.toUInt32 31)).toInt32) &&& 1431655765)) &&& 858993459) + ((((x0 - (((x0.toUInt32 >>> ((1 : Int32).toUInt32 &&& Int32.toUInt32 31)).toInt32) &&& 1431655765)).toUInt32 >>> ((2 : Int32).toUInt32 &&& Int32.toUInt32 31)).toInt32) &&& 858993459)) + (((((x0 - (((x0.toUInt32 >>> ((1 : Int32).toUInt32 &&& Int32.toUInt32 31)).toInt32) &&& 1431655765)) &&& 858993459) + ((((x0 - (((x0.toUInt32 >>> ((1 : Int32).toUInt32 &&& Int32.toUInt32 31)).toInt32) &&& 1431655765)).toUInt32 >>> ((2 : Int32).toUInt32 &&& Int32.toUInt32 31)).toInt32) &&& 858993459)).toUInt32 >>> ((4 : Int32).toUInt32 &&& Int32.toUInt32 31)).toInt32)) &&& 252645135).toUInt32 >>> ((8 : Int32).toUInt32 &&& Int32.toUInt32 31)).toInt32)) + ((((((((x0 - (((x0.toUInt32 >>> ((1 : Int32).toUInt32 &&& Int32.toUInt32 31)).toInt32) &&& 1431655765)) &&& 858993459) + ((((x0 - (((x0.toUInt32 >>> ((1 : Int32).toUInt32 &&& Int32.toUInt32 31)).toInt32) &&& 1431655765)).toUInt32 >>> ((2 : Int32).toUInt32 &&& Int32.toUInt32 31)).toInt32) &&& 858993459)) + (((((x0 - (((x0.toUInt32 >>> ((1 : Int32).toUInt32 &&& Int32.toUInt32 31)).toInt32) &&& 1431655765)) &&& 858993459) + ((((x0 - (((x0.toUInt32 >>> ((1 : Int32).toUInt32 &&& Int32.toUInt32 31)).toInt32) &&& 1431655765)).toUInt32 >>> ((2 : Int32).toUInt32 &&& Int32.toUInt32 31)).toInt32) &&& 858993459)).toUInt32 >>> ((4 : Int32).toUInt32 &&& Int32.toUInt32 31)).toInt32)) &&& 252645135) + (((((((x0 - (((x0.toUInt32 >>> ((1 : Int32).toUInt32 &&& Int32.toUInt32 31)).toInt32) &&& 1431655765)) &&& 858993459) + ((((x0 - (((x0.toUInt32 >>> ((1 : Int32).toUInt32 &&& Int32.toUInt32 31)).toInt32) &&& 1431655765)).toUInt32 >>> ((2 : Int32).toUInt32 &&& Int32.toUInt32 31)).toInt32) &&& 858993459)) + (((((x0 - (((x0.toUInt32 >>> ((1 : Int32).toUInt32 &&& Int32.toUInt32 31)).toInt32) &&& 1431655765)) &&& 858993459) + ((((x0 - (((x0.toUInt32 >>> ((1 : Int32).toUInt32 &&& Int32.toUInt32 31)).toInt32) &&& 1431655765)).toUInt32 >>> ((2 : Int32).toUInt32 &&& Int32.toUInt32 31)).toInt32) &&& 858993459)).toUInt32 >>> ((4 : Int32).toUInt32 &&& Int32.toUInt32 31)).toInt32)) &&& 252645135).toUInt32 >>> ((8 : Int32).toUInt32 &&& Int32.toUInt32 31)).toInt32)).toUInt32 >>> ((16 : Int32).toUInt32 &&& Int32.toUInt32 31)).toInt32)) &&& 63)
def f_X4_lacking (x1 : Int32) (x2 : Int32) (a : St) : Option Int32 :=
  if x2 < 0 ∨ 6 ≤ x2.toNatClampNeg then none else
  if a 9 x2.toNatClampNeg = 0 then
    some 0
  else
  if a 9 x2.toNatClampNeg = 1 then
    (f_X4_missing x1 x2 a).bind fun q1 =>
    (f_J6_bitCount_0f7a4 q1).bind fun q2 =>
    some q2
  else
  if a 9 x2.toNatClampNeg = 2 then
    if x2 < 0 ∨ 6 ≤ x2.toNatClampNeg then none else
    if a 10 x2.toNatClampNeg = 0 then
      some 0
    else
      (f_X4_missing x1 x2 a).bind fun q3 =>
      if x2 < 0 ∨ 6 ≤ x2.toNatClampNeg then none else
      if q3 = a 10 x2.toNatClampNeg then
        some 1
      else
        some 0
  else
  if a 9 x2.toNatClampNeg = 3 then
    if x2 < 0 ∨ 6 ≤ x2.toNatClampNeg then none else
    if a 11 x2.toNatClampNeg = x1 then
      some 0
    else
      (f_X4_missing x1 x2 a).bind fun q4 =>
      (f_J6_bitCount_0f7a4 q4).bind fun q5 =>
      some q5
  else
    (f_X4_missing x1 x2 a).bind fun q6 =>
    (f_J6_bitCount_0f7a4 q6).bind fun q7 =>
    some q7
def L_X5_lack_29 (n : Nat) (x2 : Int32) (x3 : Int32) (a : St) : Nat → Int32 → Int32 → Int32 → Int32 → Option Int32
  | 0, _, _, _, _ => none
  | j + 1, x5, x6, x7, x8 =>
    if x3 < x8 then
      some x7
    else
      if x5 = (-1) then
        some (-1)
      else
        (f_X5_has x6 x5).bind fun q2 =>
        if q2 = 0 then
          (f_X4_lacking x5 x2 a).bind fun q3 =>
          if x5 < 0 ∨ 8 ≤ x5.toNatClampNeg then none else
          L_X5_lack_29 n x2 x3 a j (a 6 x5.toNatClampNeg) (x6 ||| ((1 : Int32) <<< (x5 &&& 31))) (x7 + q3) (x8 + 1)
        else
          if x5 < 0 ∨ 8 ≤ x5.toNatClampNeg then none else
          L_X5_lack_29 n x2 x3 a j (a 6 x5.toNatClampNeg) (x6 ||| ((1 : Int32) <<< (x5 &&& 31))) x7 (x8 + 1)
def f_X5_lack (n : Nat) (x1 : Int32) (x2 : Int32) (x3 : Int32) (a : St) : Option Int32 :=
  (f_X5_refusalOf x1 x2 x3 a).bind fun q1 =>
  if q1 = 0 then
    L_X5_lack_29 n x2 x3 a n x1 0 0 0
  else
    some q1
def f_X3_add (o : Nat) (x1 : Int32) (x2 : Int32) (x3 : Int32) (a : St) : Option (Int32 × St) :=
  if a o 3 < 8 then
    if a o 3 < 0 ∨ 8 ≤ (a o 3).toNatClampNeg then none else
    if (up a (o + 1) ((a o 3).toNatClampNeg) x1) o 3 < 0 ∨ 8 ≤ ((up a (o + 1) ((a o 3).toNatClampNeg) x1) o 3).toNatClampNeg then none else
    if (up (up a (o + 1) ((a o 3).toNatClampNeg) x1) (o + 2) (((up a (o + 1) ((a o 3).toNatClampNeg) x1) o 3).toNatClampNeg) x2) o 3 < 0 ∨ 8 ≤ ((up (up a (o + 1) ((a o 3).toNatClampNeg) x1) (o + 2) (((up a (o + 1) ((a o 3).toNatClampNeg) x1) o 3).toNatClampNeg) x2) o 3).toNatClampNeg then none else
    some ((up (up (up (up a (o + 1) ((a o 3).toNatClampNeg) x1) (o + 2) (((up a (o + 1) ((a o 3).toNatClampNeg) x1) o 3).toNatClampNeg) x2) (o + 3) (((up (up a (o + 1) ((a o 3).toNatClampNeg) x1) (o + 2) (((up a (o + 1) ((a o 3).toNatClampNeg) x1) o 3).toNatClampNeg) x2) o 3).toNatClampNeg) x3) o 3 (((up (up (up a (o + 1) ((a o 3).toNatClampNeg) x1) (o + 2) (((up a (o + 1) ((a o 3).toNatClampNeg) x1) o 3).toNatClampNeg) x2) (o + 3) (((up (up a (o + 1) ((a o 3).toNatClampNeg) x1) (o + 2) (((up a (o + 1) ((a o 3).toNatClampNeg) x1) o 3).toNatClampNeg) x2) o 3).toNatClampNeg) x3) o 3) + 1)) o 3, up (up (up (up a (o + 1) ((a o 3).toNatClampNeg) x1) (o + 2) (((up a (o + 1) ((a o 3).toNatClampNeg) x1) o 3).toNatClampNeg) x2) (o + 3) (((up (up a (o + 1) ((a o 3).toNatClampNeg) x1) (o + 2) (((up a (o + 1) ((a o 3).toNatClampNeg) x1) o 3).toNatClampNeg) x2) o 3).toNatClampNeg) x3) o 3 (((up (up (up a (o + 1) ((a o 3).toNatClampNeg) x1) (o + 2) (((up a (o + 1) ((a o 3).toNatClampNeg) x1) o 3).toNatClampNeg) x2) (o + 3) (((up (up a (o + 1) ((a o 3).toNatClampNeg) x1) (o + 2) (((up a (o + 1) ((a o 3).toNatClampNeg) x1) o 3).toNatClampNeg) x2) o 3).toNatClampNeg) x3) o 3) + 1))
  else
    some ((-5), a)
def f_X5_wish (x1 : Int32) (x2 : Int32) (x3 : Int32) (a : St) : Option (Int32 × St) :=
  (f_X5_refusalOf x1 x2 x3 a).bind fun q1 =>
  if q1 = 0 then
    (f_X3_add 25 x1 x2 x3 a).bind fun q2 =>
    some (q2.1, q2.2)
  else
    some (q1, a)
def f_X5_drop (a : St) : Option (Int32 × St) :=
  (f_X3_clear 25 a).bind fun q1 =>
  some (q1.1, q1.2)
def f_X5_narrow (n : Nat) (x1 : Int32) (x2 : Int32) (x3 : Int32) (a : St) : Option St :=
  (f_X4_wayEnd n x1 x3 a).bind fun q1 =>
  if q1 = (-1) then
    if x2 = (-1) then
      some a
    else
      if x1 < 0 ∨ 8 ≤ x1.toNatClampNeg then none else
      some (up a 35 x1.toNatClampNeg 0)
  else
    (f_X4_passing n x1 x3 a).bind fun q2 =>
    if q1 < 0 ∨ 8 ≤ q1.toNatClampNeg then none else
    if x2 = (-1) then
      if q1 < 0 ∨ 8 ≤ q1.toNatClampNeg then none else
      some (up a 35 q1.toNatClampNeg ((a 35 q1.toNatClampNeg) &&& (q2 ^^^ (-1))))
    else
      if q1 < 0 ∨ 8 ≤ q1.toNatClampNeg then none else
      some (up a 35 q1.toNatClampNeg ((a 35 q1.toNatClampNeg) &&& (q2 &&& ((1 : Int32) <<< (x2 &&& 31)))))
def L_X5_rowsThatFit_78 (n : Nat) (o1 : Nat) : Nat → Int32 → Int32 → St → Option (Int32 × St)
  | 0, _, _, _ => none
  | j + 1, x2, x3, a =>
    if a 5 0 ≤ x3 then
      some (x2, a)
    else
      if x3 < 0 ∨ 8 ≤ x3.toNatClampNeg then none else
      (f_J6_bitCount_0f7a4 (a 35 x3.toNatClampNeg)).bind fun q1 =>
      L_X5_rowsThatFit_78 n o1 j (x2 * q1) (x3 + 1) a
def B_X5_rowsThatFit_74 (n : Nat) (o1 : Nat) (a : St) : Option (Int32 × St) :=
  L_X5_rowsThatFit_78 n o1 n 1 0 a
def L_X5_rowsThatFit_38 (n : Nat) (o1 : Nat) : Nat → Int32 → St → Option (Int32 × St)
  | 0, _, _ => none
  | j + 1, x2, a =>
    if a o1 3 ≤ x2 then
      B_X5_rowsThatFit_74 n o1 a
    else
      if x2 < 0 ∨ 8 ≤ x2.toNatClampNeg then none else
      if x2 < 0 ∨ 8 ≤ x2.toNatClampNeg then none else
      if x2 < 0 ∨ 8 ≤ x2.toNatClampNeg then none else
      (f_X5_narrow n (a (o1 + 1) x2.toNatClampNeg) (a (o1 + 2) x2.toNatClampNeg) (a (o1 + 3) x2.toNatClampNeg) a).bind fun q2 =>
      L_X5_rowsThatFit_38 n o1 j (x2 + 1) q2
def B_X5_rowsThatFit_36 (n : Nat) (o1 : Nat) (a : St) : Option (Int32 × St) :=
  L_X5_rowsThatFit_38 n o1 n 0 a
def L_X5_rowsThatFit_2 (n : Nat) (o1 : Nat) : Nat → Int32 → St → Option (Int32 × St)
  | 0, _, _ => none
  | j + 1, x2, a =>
    if a 5 0 ≤ x2 then
      B_X5_rowsThatFit_36 n o1 a
    else
      (f_X4_abilities n x2 a).bind fun q3 =>
      if x2 < 0 ∨ 8 ≤ x2.toNatClampNeg then none else
      L_X5_rowsThatFit_2 n o1 j (x2 + 1) (up a 35 x2.toNatClampNeg (q3 ||| 64))
def f_X5_rowsThatFit (n : Nat) (o1 : Nat) (a : St) : Option (Int32 × St) :=
  L_X5_rowsThatFit_2 n o1 n 0 a
def f_X5_ways (n : Nat) (a : St) : Option (Int32 × St) :=
  (f_X5_rowsThatFit n 25 a).bind fun q1 =>
  some (q1.1, q1.2)
def L_X1_clear_2 (n : Nat) (o : Nat) : Nat → Int32 → St → Option St
  | 0, _, _ => none
  | j + 1, x1, a =>
    if (6 : Int32) ≤ x1 then
      some a
    else
      if x1 < 0 ∨ 6 ≤ x1.toNatClampNeg then none else
      if x1 < 0 ∨ 6 ≤ x1.toNatClampNeg then none else
      L_X1_clear_2 n o j (x1 + 1) (up (up a (o + 1) x1.toNatClampNeg 0) (o + 2) x1.toNatClampNeg 0)
def f_X1_clear (n : Nat) (o : Nat) (a : St) : Option St :=
  L_X1_clear_2 n o n 0 a
def f_X1_note (o : Nat) (x2 : Int32) (x3 : Int32) (a : St) : Option St :=
  if x3 < 0 ∨ 6 ≤ x3.toNatClampNeg then none else
  if x3 < 0 ∨ 6 ≤ x3.toNatClampNeg then none else
  if x3 < 0 ∨ 6 ≤ x3.toNatClampNeg then none else
  if x3 < 0 ∨ 6 ≤ x3.toNatClampNeg then none else
  if (up a (o + 1) x3.toNatClampNeg ((a (o + 1) x3.toNatClampNeg) + (a 12 x3.toNatClampNeg))) 11 x3.toNatClampNeg = x2 then
    some (up a (o + 1) x3.toNatClampNeg ((a (o + 1) x3.toNatClampNeg) + (a 12 x3.toNatClampNeg)))
  else
    if x3 < 0 ∨ 6 ≤ x3.toNatClampNeg then none else
    if x3 < 0 ∨ 6 ≤ x3.toNatClampNeg then none else
    if x3 < 0 ∨ 6 ≤ x3.toNatClampNeg then none else
    some (up (up a (o + 1) x3.toNatClampNeg ((a (o + 1) x3.toNatClampNeg) + (a 12 x3.toNatClampNeg))) (o + 2) x3.toNatClampNeg (((up a (o + 1) x3.toNatClampNeg ((a (o + 1) x3.toNatClampNeg) + (a 12 x3.toNatClampNeg))) (o + 2) x3.toNatClampNeg) + ((up a (o + 1) x3.toNatClampNeg ((a (o + 1) x3.toNatClampNeg) + (a 12 x3.toNatClampNeg))) 13 x3.toNatClampNeg)))
def B_X5_tally_67 (n : Nat) (o1 : Nat) (k12 : Int32 → St → Option St) (x2 : Int32) (x3 : Int32) (x4 : Int32) (a : St) : Option St :=
  (f_X4_passDay n 33 x3 a).bind fun q3 =>
  k12 (x4 + 1) q3
def L_X5_tally_21 (n : Nat) (o1 : Nat) (k12 : Int32 → St → Option St) (x2 : Int32) (x3 : Int32) (x4 : Int32) : Nat → Int32 → St → Option St
  | 0, _, _ => none
  | j + 1, x5, a =>
    if a 5 0 ≤ x5 then
      B_X5_tally_67 n o1 k12 x2 x3 x4 a
    else
      if x5 < 0 ∨ 8 ≤ x5.toNatClampNeg then none else
      if a 33 x5.toNatClampNeg = (-1) then
        L_X5_tally_21 n o1 k12 x2 x3 x4 j (x5 + 1) a
      else
        if x5 < 0 ∨ 8 ≤ x5.toNatClampNeg then none else
        (f_X1_note o1 x5 (a 33 x5.toNatClampNeg) a).bind fun q4 =>
        L_X5_tally_21 n o1 k12 x2 x3 x4 j (x5 + 1) q4
def L_X5_tally_12 (n : Nat) (o1 : Nat) (x2 : Int32) (x3 : Int32) : Nat → Int32 → St → Option St
  | 0, _, _ => none
  | j + 1, x4, a =>
    if x2 ≤ x4 then
      some a
    else
      L_X5_tally_21 n o1 (L_X5_tally_12 n o1 x2 x3 j) x2 x3 x4 n 0 a
def f_X5_tally (n : Nat) (o1 : Nat) (x2 : Int32) (x3 : Int32) (a : St) : Option St :=
  (f_X1_clear n o1 a).bind fun q1 =>
  (f_X5_foresee n 0 q1).bind fun q2 =>
  L_X5_tally_12 n o1 x2 x3 n 0 q2
def L_X5_sum_43 (n : Nat) (x2 : Int32) : Nat → Int32 → Int32 → St → Option (Int32 × St)
  | 0, _, _, _ => none
  | j + 1, x3, x4, a =>
    if a 5 1 ≤ x4 then
      some (x3, a)
    else
      if x2 = 0 then
        if x4 < 0 ∨ 6 ≤ x4.toNatClampNeg then none else
        L_X5_sum_43 n x2 j (x3 + (a 39 x4.toNatClampNeg)) (x4 + 1) a
      else
        if x4 < 0 ∨ 6 ≤ x4.toNatClampNeg then none else
        L_X5_sum_43 n x2 j (x3 + (a 40 x4.toNatClampNeg)) (x4 + 1) a
def f_X5_sum (n : Nat) (x1 : Int32) (x2 : Int32) (a : St) : Option (Int32 × St) :=
  (f_X5_within x1 1 99).bind fun q1 =>
  if q1 = 0 then
    some ((-3), a)
  else
    (f_X5_within x2 0 1).bind fun q2 =>
    if q2 = 0 then
      some ((-3), a)
    else
      (f_X5_tally n 38 x1 (a 5 2) a).bind fun q3 =>
      L_X5_sum_43 n x2 n 0 0 q3
def B_X5_council_180 (n : Nat) (x3 : Int32) (x4 : Int32) (x5 : Int32) (a : St) : Option (Int32 × St) :=
  if x3 = 0 then
    some (x5, a)
  else
    some (x4, a)
def B_X5_council_153 (n : Nat) (k63 : Int32 → Int32 → Int32 → St → Option (Int32 × St)) (x2 : Int32) (x3 : Int32) (x4 : Int32) (x5 : Int32) (x6 : Int32) (x7 : Int32) (x8 : Int32) (a : St) : Option (Int32 × St) :=
  if x2 < x8 then
    k63 x4 x5 (x6 + 1) a
  else
    if x7 ≤ x4 then
      k63 x4 x5 (x6 + 1) a
    else
      k63 x7 x6 (x6 + 1) a
def L_X5_council_86 (n : Nat) (k63 : Int32 → Int32 → Int32 → St → Option (Int32 × St)) (x2 : Int32) (x3 : Int32) (x4 : Int32) (x5 : Int32) (x6 : Int32) : Nat → Int32 → Int32 → Int32 → St → Option (Int32 × St)
  | 0, _, _, _, _ => none
  | j + 1, x7, x8, x9, a =>
    if a 5 1 ≤ x9 then
      B_X5_council_153 n k63 x2 x3 x4 x5 x6 x7 x8 a
    else
      (f_X5_has x6 x9).bind fun q6 =>
      if q6 = 0 then
        if x9 < 0 ∨ 6 ≤ x9.toNatClampNeg then none else
        if x9 < 0 ∨ 6 ≤ x9.toNatClampNeg then none else
        L_X5_council_86 n k63 x2 x3 x4 x5 x6 j (x7 + (a 39 x9.toNatClampNeg)) (x8 + (a 40 x9.toNatClampNeg)) (x9 + 1) a
      else
        if x9 < 0 ∨ 6 ≤ x9.toNatClampNeg then none else
        if x9 < 0 ∨ 6 ≤ x9.toNatClampNeg then none else
        L_X5_council_86 n k63 x2 x3 x4 x5 x6 j (x7 + (a 42 x9.toNatClampNeg)) (x8 + (a 43 x9.toNatClampNeg)) (x9 + 1) a
def L_X5_council_63 (n : Nat) (x2 : Int32) (x3 : Int32) : Nat → Int32 → Int32 → Int32 → St → Option (Int32 × St)
  | 0, _, _, _, _ => none
  | j + 1, x4, x5, x6, a =>
    if (1 : Int32) <<< ((a 5 1) &&& 31) ≤ x6 then
      B_X5_council_180 n x3 x4 x5 a
    else
      L_X5_council_86 n (L_X5_council_63 n x2 x3 j) x2 x3 x4 x5 x6 n 0 0 0 a
def f_X5_council (n : Nat) (x1 : Int32) (x2 : Int32) (x3 : Int32) (a : St) : Option (Int32 × St) :=
  (f_X5_within x1 1 99).bind fun q1 =>
  if q1 = 0 then
    some ((-3), a)
  else
    (f_X5_within x2 0 9999).bind fun q2 =>
    if q2 = 0 then
      some ((-3), a)
    else
      (f_X5_within x3 0 1).bind fun q3 =>
      if q3 = 0 then
        some ((-3), a)
      else
        (f_X5_tally n 38 x1 0 a).bind fun q4 =>
        (f_X5_tally n 41 x1 63 q4).bind fun q5 =>
        L_X5_council_63 n x2 x3 n (-1) (-1) 0 q5
def L_X5_idle_121 (n : Nat) : Nat → Int32 → Int32 → St → Option (Int32 × St)
  | 0, _, _, _ => none
  | j + 1, x4, x5, a =>
    if a 5 0 ≤ x5 then
      some (x4, a)
    else
      if x5 < 0 ∨ 8 ≤ x5.toNatClampNeg then none else
      if x5 < 0 ∨ 8 ≤ x5.toNatClampNeg then none else
      if a 33 x5.toNatClampNeg = a 34 x5.toNatClampNeg then
        L_X5_idle_121 n j x4 (x5 + 1) a
      else
        L_X5_idle_121 n j (x4 ||| ((1 : Int32) <<< (x5 &&& 31))) (x5 + 1) a
def B_X5_idle_115 (n : Nat) (a : St) : Option (Int32 × St) :=
  L_X5_idle_121 n n 0 0 a
def L_X5_idle_67 (n : Nat) (x3 : Int32) : Nat → Int32 → St → Option (Int32 × St)
  | 0, _, _ => none
  | j + 1, x4, a =>
    if x3 ≤ x4 then
      B_X5_idle_115 n a
    else
      (f_X4_passDay n 33 (a 5 2) a).bind fun q5 =>
      (f_X4_passDay n 34 (q5 5 2) q5).bind fun q6 =>
      L_X5_idle_67 n x3 j (x4 + 1) q6
def f_X5_idle (n : Nat) (x1 : Int32) (x2 : Int32) (x3 : Int32) (a : St) : Option (Int32 × St) :=
  (f_X4_hasHouse x1 a).bind fun q1 =>
  if q1 = 0 then
    some ((-2), a)
  else
    (f_X5_within x2 0 99).bind fun q2 =>
    if q2 = 0 then
      some ((-3), a)
    else
      (f_X5_within x3 0 99).bind fun q3 =>
      if q3 = 0 then
        some ((-3), a)
      else
        (f_X5_foresee n x2 a).bind fun q4 =>
        if (0 : Int32) < 0 ∨ (0 : Int32) < 0 ∨ (8 : Int32) < 0 ∨ 8 < (0 : Int32).toNatClampNeg + (8 : Int32).toNatClampNeg ∨ 8 < (0 : Int32).toNatClampNeg + (8 : Int32).toNatClampNeg then none else
        if x1 < 0 ∨ 8 ≤ x1.toNatClampNeg then none else
        L_X5_idle_67 n x3 n 0 (up (uprow q4 34 (va_cpy (q4 33) (q4 34) ((0 : Int32).toNatClampNeg) ((0 : Int32).toNatClampNeg) ((8 : Int32).toNatClampNeg))) 34 x1.toNatClampNeg (-1))
def L_X5_power_5 (n : Nat) (x0 : Int64) (x2 : Int32) : Nat → Int64 → Int32 → Option Int64
  | 0, _, _ => none
  | j + 1, x3, x5 =>
    if x2 ≤ x5 then
      some x3
    else
      L_X5_power_5 n x0 x2 j (x3 * x0) (x5 + 1)
def f_X5_power (n : Nat) (x0 : Int64) (x2 : Int32) : Option Int64 :=
  L_X5_power_5 n x0 x2 n 1 0
def f_X5_odds (n : Nat) (x1 : Int32) (x2 : Int32) (x3 : Int32) (x4 : Int32) (a : St) : Option (Int64 × St) :=
  (f_X4_hasHouse x1 a).bind fun q1 =>
  if q1 = 0 then
    some ((-2), a)
  else
    (f_X5_within x2 0 9).bind fun q2 =>
    if q2 = 0 then
      some ((-3), a)
    else
      (f_X5_within x3 0 10).bind fun q3 =>
      if q3 = 0 then
        some ((-3), a)
      else
        (f_X5_within x4 0 1).bind fun q4 =>
        if q4 = 0 then
          some ((-3), a)
        else
          (f_X5_foresee n x2 a).bind fun q5 =>
          if x1 < 0 ∨ 8 ≤ x1.toNatClampNeg then none else
          if q5 33 x1.toNatClampNeg = (-1) then
            if x4 = 0 then
              (f_X5_power n ((((0 : Int32) / 2) / 5).toInt64) (x2 + 1)).bind fun q15 =>
              some (q15, q5)
            else
              (f_X5_power n ((((10 : Int32) / 2) / 5).toInt64) (x2 + 1)).bind fun q14 =>
              some (q14, q5)
          else
            if ((10 : Int32) - x3) - ((10 : Int32) - x3) / 2 * 2 = 0 then
              if (((10 : Int32) - x3) / 2) - (((10 : Int32) - x3) / 2) / 5 * 5 = 0 then
                if x4 = 0 then
                  (f_X5_power n (((((10 : Int32) - x3) / 2) / 5).toInt64) (x2 + 1)).bind fun q13 =>
                  some (q13, q5)
                else
                  (f_X5_power n ((((10 : Int32) / 2) / 5).toInt64) (x2 + 1)).bind fun q12 =>
                  some (q12, q5)
              else
                if x4 = 0 then
                  (f_X5_power n ((((10 : Int32) - x3) / 2).toInt64) (x2 + 1)).bind fun q11 =>
                  some (q11, q5)
                else
                  (f_X5_power n (((10 : Int32) / 2).toInt64) (x2 + 1)).bind fun q10 =>
                  some (q10, q5)
            else
              if ((10 : Int32) - x3) - ((10 : Int32) - x3) / 5 * 5 = 0 then
                if x4 = 0 then
                  (f_X5_power n ((((10 : Int32) - x3) / 5).toInt64) (x2 + 1)).bind fun q9 =>
                  some (q9, q5)
                else
                  (f_X5_power n (((10 : Int32) / 5).toInt64) (x2 + 1)).bind fun q8 =>
                  some (q8, q5)
              else
                if x4 = 0 then
                  (f_X5_power n (((10 : Int32) - x3).toInt64) (x2 + 1)).bind fun q7 =>
                  some (q7, q5)
                else
                  (f_X5_power n ((10 : Int32).toInt64) (x2 + 1)).bind fun q6 =>
                  some (q6, q5)
def f_J6_numberOfTrailingZeros_0f7a4 (x0 : Int32) : Option Int32 :=
  if (0 : Int32) < (x0 ^^^ (-1)) &&& (x0 - 1) then
    if (x0 ^^^ (-1)) &&& (x0 - 1) ≤ 65536 then
      if (x0 ^^^ (-1)) &&& (x0 - 1) ≤ 256 then
        if (x0 ^^^ (-1)) &&& (x0 - 1) ≤ 16 then
          if (x0 ^^^ (-1)) &&& (x0 - 1) ≤ 4 then
            some ((1 : Int32) + ((((x0 ^^^ (-1)) &&& (x0 - 1)).toUInt32 >>> ((1 : Int32).toUInt32 &&& Int32.toUInt32 31)).toInt32))
          else
            some ((1 + 2) + ((((((x0 ^^^ (-1)) &&& (x0 - 1)).toUInt32 >>> ((2 : Int32).toUInt32 &&& Int32.toUInt32 31)).toInt32).toUInt32 >>> ((1 : Int32).toUInt32 &&& Int32.toUInt32 31)).toInt32))
        else
          if (((x0 ^^^ (-1)) &&& (x0 - 1)).toUInt32 >>> ((4 : Int32).toUInt32 &&& Int32.toUInt32 31)).toInt32 ≤ 4 then
            some ((1 + 4) + ((((((x0 ^^^ (-1)) &&& (x0 - 1)).toUInt32 >>> ((4 : Int32).toUInt32 &&& Int32.toUInt32 31)).toInt32).toUInt32 >>> ((1 : Int32).toUInt32 &&& Int32.toUInt32 31)).toInt32))
          else
            some (((1 + 4) + 2) + ((((((((x0 ^^^ (-1)) &&& (x0 - 1)).toUInt32 >>> ((4 : Int32).toUInt32 &&& Int32.toUInt32 31)).toInt32).toUInt32 >>> ((2 : Int32).toUInt32 &&& Int32.toUInt32 31)).toInt32).toUInt32 >>> ((1 : Int32).toUInt32 &&& Int32.toUInt32 31)).toInt32))
      else
        if (((x0 ^^^ (-1)) &&& (x0 - 1)).toUInt32 >>> ((8 : Int32).toUInt32 &&& Int32.toUInt32 31)).toInt32 ≤ 16 then
          if (((x0 ^^^ (-1)) &&& (x0 - 1)).toUInt32 >>> ((8 : Int32).toUInt32 &&& Int32.toUInt32 31)).toInt32 ≤ 4 then
            some ((1 + 8) + ((((((x0 ^^^ (-1)) &&& (x0 - 1)).toUInt32 >>> ((8 : Int32).toUInt32 &&& Int32.toUInt32 31)).toInt32).toUInt32 >>> ((1 : Int32).toUInt32 &&& Int32.toUInt32 31)).toInt32))
          else
            some (((1 + 8) + 2) + ((((((((x0 ^^^ (-1)) &&& (x0 - 1)).toUInt32 >>> ((8 : Int32).toUInt32 &&& Int32.toUInt32 31)).toInt32).toUInt32 >>> ((2 : Int32).toUInt32 &&& Int32.toUInt32 31)).toInt32).toUInt32 >>> ((1 : Int32).toUInt32 &&& Int32.toUInt32 31)).toInt32))
        else
          if (((((x0 ^^^ (-1)) &&& (x0 - 1)).toUInt32 >>> ((8 : Int32).toUInt32 &&& Int32.toUInt32 31)).toInt32).toUInt32 >>> ((4 : Int32).toUInt32 &&& Int32.toUInt32 31)).toInt32 ≤ 4 then
            some (((1 + 8) + 4) + ((((((((x0 ^^^ (-1)) &&& (x0 - 1)).toUInt32 >>> ((8 : Int32).toUInt32 &&& Int32.toUInt32 31)).toInt32).toUInt32 >>> ((4 : Int32).toUInt32 &&& Int32.toUInt32 31)).toInt32).toUInt32 >>> ((1 : Int32).toUInt32 &&& Int32.toUInt32 31)).toInt32))
          else
            some ((((1 + 8) + 4) + 2) + ((((((((((x0 ^^^ (-1)) &&& (x0 - 1)).toUInt32 >>> ((8 : Int32).toUInt32 &&& Int32.toUInt32 31)).toInt32).toUInt32 >>> ((4 : Int32).toUInt32 &&& Int32.toUInt32 31)).toInt32).toUInt32 >>> ((2 : Int32).toUInt32 &&& Int32.toUInt32 31)).toInt32).toUInt32 >>> ((1 : Int32).toUInt32 &&& Int32.toUInt32 31)).toInt32))
    else
      if (((x0 ^^^ (-1)) &&& (x0 - 1)).toUInt32 >>> ((16 : Int32).toUInt32 &&& Int32.toUInt32 31)).toInt32 ≤ 256 then
        if (((x0 ^^^ (-1)) &&& (x0 - 1)).toUInt32 >>> ((16 : Int32).toUInt32 &&& Int32.toUInt32 31)).toInt32 ≤ 16 then
          if (((x0 ^^^ (-1)) &&& (x0 - 1)).toUInt32 >>> ((16 : Int32).toUInt32 &&& Int32.toUInt32 31)).toInt32 ≤ 4 then
            some ((1 + 16) + ((((((x0 ^^^ (-1)) &&& (x0 - 1)).toUInt32 >>> ((16 : Int32).toUInt32 &&& Int32.toUInt32 31)).toInt32).toUInt32 >>> ((1 : Int32).toUInt32 &&& Int32.toUInt32 31)).toInt32))
          else
            some (((1 + 16) + 2) + ((((((((x0 ^^^ (-1)) &&& (x0 - 1)).toUInt32 >>> ((16 : Int32).toUInt32 &&& Int32.toUInt32 31)).toInt32).toUInt32 >>> ((2 : Int32).toUInt32 &&& Int32.toUInt32 31)).toInt32).toUInt32 >>> ((1 : Int32).toUInt32 &&& Int32.toUInt32 31)).toInt32))
        else
          if (((((x0 ^^^ (-1)) &&& (x0 - 1)).toUInt32 >>> ((16 : Int32).toUInt32 &&& Int32.toUInt32 31)).toInt32).toUInt32 >>> ((4 : Int32).toUInt32 &&& Int32.toUInt32 31)).toInt32 ≤ 4 then
            some (((1 + 16) + 4) + ((((((((x0 ^^^ (-1)) &&& (x0 - 1)).toUInt32 >>> ((16 : Int32).toUInt32 &&& Int32.toUInt32 31)).toInt32).toUInt32 >>> ((4 : Int32).toUInt32 &&& Int32.toUInt32 31)).toInt32).toUInt32 >>> ((1 : Int32).toUInt32 &&& Int32.toUInt32 31)).toInt32))
          else
            some ((((1 + 16) + 4) + 2) + ((((((((((x0 ^^^ (-1)) &&& (x0 - 1)).toUInt32 >>> ((16 : Int32).toUInt32 &&& Int32.toUInt32 31)).toInt32).toUInt32 >>> ((4 : Int32).toUInt32 &&& Int32.toUInt32 31)).toInt32).toUInt32 >>> ((2 : Int32).toUInt32 &&& Int32.toUInt32 31)).toInt32).toUInt32 >>> ((1 : Int32).toUInt32 &&& Int32.toUInt32 31)).toInt32))
      else
        if (((((x0 ^^^ (-1)) &&& (x0 - 1)).toUInt32 >>> ((16 : Int32).toUInt32 &&& Int32.toUInt32 31)).toInt32).toUInt32 >>> ((8 : Int32).toUInt32 &&& Int32.toUInt32 31)).toInt32 ≤ 16 then
          if (((((x0 ^^^ (-1)) &&& (x0 - 1)).toUInt32 >>> ((16 : Int32).toUInt32 &&& Int32.toUInt32 31)).toInt32).toUInt32 >>> ((8 : Int32).toUInt32 &&& Int32.toUInt32 31)).toInt32 ≤ 4 then
            some (((1 + 16) + 8) + ((((((((x0 ^^^ (-1)) &&& (x0 - 1)).toUInt32 >>> ((16 : Int32).toUInt32 &&& Int32.toUInt32 31)).toInt32).toUInt32 >>> ((8 : Int32).toUInt32 &&& Int32.toUInt32 31)).toInt32).toUInt32 >>> ((1 : Int32).toUInt32 &&& Int32.toUInt32 31)).toInt32))
          else
            some ((((1 + 16) + 8) + 2) + ((((((((((x0 ^^^ (-1)) &&& (x0 - 1)).toUInt32 >>> ((16 : Int32).toUInt32 &&& Int32.toUInt32 31)).toInt32).toUInt32 >>> ((8 : Int32).toUInt32 &&& Int32.toUInt32 31)).toInt32).toUInt32 >>> ((2 : Int32).toUInt32 &&& Int32.toUInt32 31)).toInt32).toUInt32 >>> ((1 : Int32).toUInt32 &&& Int32.toUInt32 31)).toInt32))
        else
          if (((((((x0 ^^^ (-1)) &&& (x0 - 1)).toUInt32 >>> ((16 : Int32).toUInt32 &&& Int32.toUInt32 31)).toInt32).toUInt32 >>> ((8 : Int32).toUInt32 &&& Int32.toUInt32 31)).toInt32).toUInt32 >>> ((4 : Int32).toUInt32 &&& Int32.toUInt32 31)).toInt32 ≤ 4 then
            some ((((1 + 16) + 8) + 4) + ((((((((((x0 ^^^ (-1)) &&& (x0 - 1)).toUInt32 >>> ((16 : Int32).toUInt32 &&& Int32.toUInt32 31)).toInt32).toUInt32 >>> ((8 : Int32).toUInt32 &&& Int32.toUInt32 31)).toInt32).toUInt32 >>> ((4 : Int32).toUInt32 &&& Int32.toUInt32 31)).toInt32).toUInt32 >>> ((1 : Int32).toUInt32 &&& Int32.toUInt32 31)).toInt32))
          else
            some (((((1 + 16) + 8) + 4) + 2) + ((((((((((((x0 ^^^ (-1)) &&& (x0 - 1)).toUInt32 >>> ((16 : Int32).toUInt32 &&& Int32.toUInt32 31)).toInt32).toUInt32 >>> ((8 : Int32).toUInt32 &&& Int32.toUInt32 31)).toInt32).toUInt32 >>> ((4 : Int32).toUInt32 &&& Int32.toUInt32 31)).toInt32).toUInt32 >>> ((2 : Int32).toUInt32 &&& Int32.toUInt32 31)).toInt32).toUInt32 >>> ((1 : Int32).toUInt32 &&& Int32.toUInt32 31)).toInt32))
  else
    some (((x0 ^^^ (-1)) &&& (x0 - 1)) &&& 32)
def f_X5_likingWith (x1 : Int32) (x2 : Int32) (x3 : Int32) (a : St) : Option Int32 :=
  if (x1 * 8) + x2 < 0 ∨ 64 ≤ ((x1 * 8) + x2).toNatClampNeg then none else
  if x3 &&& (((1 : Int32) <<< (x2 &&& 31)) ^^^ (-1)) < 0 ∨ 256 ≤ (x3 &&& (((1 : Int32) <<< (x2 &&& 31)) ^^^ (-1))).toNatClampNeg then none else
  some ((a 8 (((x1 * 8) + x2).toNatClampNeg)) + (a 37 ((x3 &&& (((1 : Int32) <<< (x2 &&& 31)) ^^^ (-1))).toNatClampNeg)))
def B_X5_likeBest_104 (n : Nat) (k9 : Int32 → St → Option St) (x1 : Int32) (x4 : Int32) (a : St) : Option St :=
  if x1 < 0 ∨ 256 ≤ x1.toNatClampNeg then none else
  k9 (x1 + 1) (up a 37 x1.toNatClampNeg x4)
def L_X5_likeBest_62 (n : Nat) (k9 : Int32 → St → Option St) (x1 : Int32) (x2 : Int32) (x3 : Int32) : Nat → Int32 → Int32 → St → Option St
  | 0, _, _, _ => none
  | j + 1, x4, x5, a =>
    if a 5 0 ≤ x5 then
      B_X5_likeBest_104 n k9 x1 x4 a
    else
      (f_X5_has x3 x5).bind fun q3 =>
      if q3 = 0 then
        L_X5_likeBest_62 n k9 x1 x2 x3 j x4 (x5 + 1) a
      else
        (f_X5_likingWith x2 x5 x3 a).bind fun q4 =>
        L_X5_likeBest_62 n k9 x1 x2 x3 j (if x4 < q4 then q4 else x4) (x5 + 1) a
def L_X5_likeBest_9 (n : Nat) : Nat → Int32 → St → Option St
  | 0, _, _ => none
  | j + 1, x1, a =>
    if (1 : Int32) <<< ((a 5 0) &&& 31) ≤ x1 then
      some a
    else
      (f_J6_numberOfTrailingZeros_0f7a4 x1).bind fun q1 =>
      (f_J6_bitCount_0f7a4 x1).bind fun q2 =>
      if q2 - q2 / 2 * 2 = 1 then
        if x1 &&& (((1 : Int32) <<< (q1 &&& 31)) ^^^ (-1)) < 0 ∨ 256 ≤ (x1 &&& (((1 : Int32) <<< (q1 &&& 31)) ^^^ (-1))).toNatClampNeg then none else
        L_X5_likeBest_62 n (L_X5_likeBest_9 n j) x1 q1 (x1 &&& (((1 : Int32) <<< (q1 &&& 31)) ^^^ (-1))) n (a 37 ((x1 &&& (((1 : Int32) <<< (q1 &&& 31)) ^^^ (-1))).toNatClampNeg)) (q1 + 1) a
      else
        L_X5_likeBest_62 n (L_X5_likeBest_9 n j) x1 q1 (x1 &&& (((1 : Int32) <<< (q1 &&& 31)) ^^^ (-1))) n (-1) (q1 + 1) a
def f_X5_likeBest (n : Nat) (a : St) : Option St :=
  L_X5_likeBest_9 n n 1 (up a 37 ((0 : Int32).toNatClampNeg) 0)
def L_X5_leastPartner_13 (n : Nat) (x1 : Int32) (x2 : Int32) (x3 : Int32) (a : St) : Nat → Int32 → Option Int32
  | 0, _ => none
  | j + 1, x4 =>
    if a 5 0 ≤ x4 then
      some (-1)
    else
      (f_X5_has x3 x4).bind fun q1 =>
      if q1 = 0 then
        L_X5_leastPartner_13 n x1 x2 x3 a j (x4 + 1)
      else
        (f_X5_likingWith x1 x4 x3 a).bind fun q2 =>
        if x2 < 0 ∨ 256 ≤ x2.toNatClampNeg then none else
        if q2 = a 37 x2.toNatClampNeg then
          some x4
        else
          L_X5_leastPartner_13 n x1 x2 x3 a j (x4 + 1)
def f_X5_leastPartner (n : Nat) (x1 : Int32) (x2 : Int32) (a : St) : Option Int32 :=
  L_X5_leastPartner_13 n x1 x2 (x2 &&& (((1 : Int32) <<< (x1 &&& 31)) ^^^ (-1))) a n (x1 + 1)
def L_X5_bestPartner_14 (n : Nat) (x1 : Int32) (a : St) : Nat → Int32 → Int32 → Option Int32
  | 0, _, _ => none
  | j + 1, x2, x3 =>
    if a 5 0 ≤ x3 then
      some (-1)
    else
      (f_X5_has x2 x3).bind fun q1 =>
      if q1 = 0 then
        L_X5_bestPartner_14 n x1 a j x2 (x3 + 1)
      else
        (f_X5_leastPartner n x3 x2 a).bind fun q2 =>
        if x3 = x1 then
          some q2
        else
          if q2 = x1 then
            some x3
          else
            if q2 = (-1) then
              L_X5_bestPartner_14 n x1 a j (x2 &&& (((1 : Int32) <<< (x3 &&& 31)) ^^^ (-1))) (x3 + 1)
            else
              L_X5_bestPartner_14 n x1 a j ((x2 &&& (((1 : Int32) <<< (x3 &&& 31)) ^^^ (-1))) &&& (((1 : Int32) <<< (q2 &&& 31)) ^^^ (-1))) (x3 + 1)
def f_X5_bestPartner (n : Nat) (x1 : Int32) (a : St) : Option Int32 :=
  L_X5_bestPartner_14 n x1 a n (((1 : Int32) <<< ((a 5 0) &&& 31)) - 1) 0
def f_X5_pair (n : Nat) (x1 : Int32) (a : St) : Option (Int32 × St) :=
  if x1 = (-1) then
    (f_X5_likeBest n a).bind fun q1 =>
    if x1 = (-1) then
      if ((1 : Int32) <<< ((q1 5 0) &&& 31)) - 1 < 0 ∨ 256 ≤ (((1 : Int32) <<< ((q1 5 0) &&& 31)) - 1).toNatClampNeg then none else
      some (q1 37 ((((1 : Int32) <<< ((q1 5 0) &&& 31)) - 1).toNatClampNeg), q1)
    else
      (f_X5_bestPartner n x1 q1).bind fun q2 =>
      some (q2, q1)
  else
    (f_X4_hasHouse x1 a).bind fun q3 =>
    if q3 = 0 then
      some ((-2), a)
    else
      (f_X5_likeBest n a).bind fun q4 =>
      if x1 = (-1) then
        if ((1 : Int32) <<< ((q4 5 0) &&& 31)) - 1 < 0 ∨ 256 ≤ (((1 : Int32) <<< ((q4 5 0) &&& 31)) - 1).toNatClampNeg then none else
        some (q4 37 ((((1 : Int32) <<< ((q4 5 0) &&& 31)) - 1).toNatClampNeg), q4)
      else
        (f_X5_bestPartner n x1 q4).bind fun q5 =>
        some (q5, q4)
def L_X4_roundOf_7 (n : Nat) (x1 : Int32) (a : St) : Nat → Int32 → Int32 → Int32 → Option Int32
  | 0, _, _, _ => none
  | j + 1, x2, x3, x4 =>
    if a 5 0 ≤ x4 then
      some 0
    else
      if x2 = (-1) then
        some 0
      else
        if x2 < 0 ∨ 8 ≤ x2.toNatClampNeg then none else
        if a 6 x2.toNatClampNeg = x1 then
          some (x3 ||| ((1 : Int32) <<< (x2 &&& 31)))
        else
          L_X4_roundOf_7 n x1 a j (a 6 x2.toNatClampNeg) (x3 ||| ((1 : Int32) <<< (x2 &&& 31))) (x4 + 1)
def f_X4_roundOf (n : Nat) (x1 : Int32) (a : St) : Option Int32 :=
  L_X4_roundOf_7 n x1 a n x1 0 0
def B_X5_town_108 (n : Nat) (x1 : Int32) (x2 : Int32) (x3 : Int32) (x4 : Int32) (a : St) : Option Int32 :=
  if x1 = 0 then
    some x2
  else
    if x1 = 1 then
      some x3
    else
      some x4
def L_X5_town_22 (n : Nat) (x1 : Int32) (a : St) : Nat → Int32 → Int32 → Int32 → Int32 → Option Int32
  | 0, _, _, _, _ => none
  | j + 1, x2, x3, x4, x5 =>
    if a 5 0 ≤ x5 then
      B_X5_town_108 n x1 x2 x3 x4 a
    else
      (f_X4_roundOf n x5 a).bind fun q2 =>
      if q2 = 0 then
        (f_X4_wayEnd n x5 (a 5 0) a).bind fun q3 =>
        if q3 = (-1) then
          L_X5_town_22 n x1 a j x2 x3 (x4 ||| ((1 : Int32) <<< (x5 &&& 31))) (x5 + 1)
        else
          L_X5_town_22 n x1 a j x2 x3 x4 (x5 + 1)
      else
        (f_J6_numberOfTrailingZeros_0f7a4 q2).bind fun q4 =>
        if q4 = x5 then
          (f_J6_bitCount_0f7a4 q2).bind fun q6 =>
          (f_X4_wayEnd n x5 (a 5 0) a).bind fun q7 =>
          if q7 = (-1) then
            L_X5_town_22 n x1 a j (x2 + 1) (if x3 < q6 then q6 else x3) (x4 ||| ((1 : Int32) <<< (x5 &&& 31))) (x5 + 1)
          else
            L_X5_town_22 n x1 a j (x2 + 1) (if x3 < q6 then q6 else x3) x4 (x5 + 1)
        else
          (f_X4_wayEnd n x5 (a 5 0) a).bind fun q5 =>
          if q5 = (-1) then
            L_X5_town_22 n x1 a j x2 x3 (x4 ||| ((1 : Int32) <<< (x5 &&& 31))) (x5 + 1)
          else
            L_X5_town_22 n x1 a j x2 x3 x4 (x5 + 1)
def f_X5_town (n : Nat) (x1 : Int32) (a : St) : Option Int32 :=
  (f_X5_within x1 0 2).bind fun q1 =>
  if q1 = 0 then
    some (-3)
  else
    L_X5_town_22 n x1 a n 0 0 0 0
def f_X5_seen (x1 : Int32) (x2 : Int32) (x3 : Int32) (a : St) : Option (Int32 × St) :=
  (f_X4_hasHouse x1 a).bind fun q1 =>
  if q1 = 0 then
    some ((-2), a)
  else
    (f_X5_isDeedOrNone x2 a).bind fun q2 =>
    if q2 = 0 then
      some ((-2), a)
    else
      (f_X5_within x3 0 99).bind fun q3 =>
      if q3 = 0 then
        some ((-3), a)
      else
        (f_X3_add 29 x1 x2 x3 a).bind fun q4 =>
        some (q4.1, q4.2)
def f_X5_forget (a : St) : Option (Int32 × St) :=
  (f_X3_clear 29 a).bind fun q1 =>
  some (q1.1, q1.2)
def f_X5_fits (n : Nat) (x1 : Int32) (a : St) : Option (Int32 × St) :=
  if x1 = (-1) then
    (f_X5_rowsThatFit n 29 a).bind fun q1 =>
    if x1 = (-1) then
      some (q1.1, q1.2)
    else
      if q1.1 = 0 then
        some (q1.1, q1.2)
      else
        if x1 < 0 ∨ 8 ≤ x1.toNatClampNeg then none else
        some (q1.2 35 x1.toNatClampNeg, q1.2)
  else
    (f_X4_hasHouse x1 a).bind fun q2 =>
    if q2 = 0 then
      some ((-2), a)
    else
      (f_X5_rowsThatFit n 29 a).bind fun q3 =>
      if x1 = (-1) then
        some (q3.1, q3.2)
      else
        if q3.1 = 0 then
          some (q3.1, q3.2)
        else
          if x1 < 0 ∨ 8 ≤ x1.toNatClampNeg then none else
          some (q3.2 35 x1.toNatClampNeg, q3.2)
def f_X0_copy (o : Nat) (o1 : Nat) (a : St) : Option St :=
  if (0 : Int32) < 0 ∨ (0 : Int32) < 0 ∨ (8 : Int32) < 0 ∨ 8 < (0 : Int32).toNatClampNeg + (8 : Int32).toNatClampNeg ∨ 8 < (0 : Int32).toNatClampNeg + (8 : Int32).toNatClampNeg then none else
  if (0 : Int32) < 0 ∨ (0 : Int32) < 0 ∨ (8 : Int32) < 0 ∨ 8 < (0 : Int32).toNatClampNeg + (8 : Int32).toNatClampNeg ∨ 8 < (0 : Int32).toNatClampNeg + (8 : Int32).toNatClampNeg then none else
  some (uprow (uprow (up a o 2 (a o1 2)) (o + 1) (va_cpy ((up a o 2 (a o1 2)) (o1 + 1)) ((up a o 2 (a o1 2)) (o + 1)) ((0 : Int32).toNatClampNeg) ((0 : Int32).toNatClampNeg) ((8 : Int32).toNatClampNeg))) (o + 2) (va_cpy ((uprow (up a o 2 (a o1 2)) (o + 1) (va_cpy ((up a o 2 (a o1 2)) (o1 + 1)) ((up a o 2 (a o1 2)) (o + 1)) ((0 : Int32).toNatClampNeg) ((0 : Int32).toNatClampNeg) ((8 : Int32).toNatClampNeg))) (o1 + 2)) ((uprow (up a o 2 (a o1 2)) (o + 1) (va_cpy ((up a o 2 (a o1 2)) (o1 + 1)) ((up a o 2 (a o1 2)) (o + 1)) ((0 : Int32).toNatClampNeg) ((0 : Int32).toNatClampNeg) ((8 : Int32).toNatClampNeg))) (o + 2)) ((0 : Int32).toNatClampNeg) ((0 : Int32).toNatClampNeg) ((8 : Int32).toNatClampNeg)))
def f_X5_keep (x1 : Int32) (a : St) : Option (Int32 × St) :=
  (f_X5_within x1 0 1).bind fun q1 =>
  if q1 = 0 then
    some ((-2), a)
  else
    if x1 < 0 ∨ 2 ≤ x1.toNatClampNeg then none else
    if x1.toNatClampNeg = 0 then
      (f_X0_copy 19 15 a).bind fun q2 =>
      if x1 < 0 ∨ 2 ≤ x1.toNatClampNeg then none else
      if x1.toNatClampNeg = 0 then
        some ((up q2 19 3 1) 15 2, up q2 19 3 1)
      else
        some ((up q2 22 3 1) 15 2, up q2 22 3 1)
    else
      (f_X0_copy 22 15 a).bind fun q3 =>
      if x1 < 0 ∨ 2 ≤ x1.toNatClampNeg then none else
      if x1.toNatClampNeg = 0 then
        some ((up q3 19 3 1) 15 2, up q3 19 3 1)
      else
        some ((up q3 22 3 1) 15 2, up q3 22 3 1)
def f_X5_back (x1 : Int32) (a : St) : Option (Int32 × St) :=
  (f_X5_within x1 0 1).bind fun q1 =>
  if q1 = 0 then
    some ((-2), a)
  else
    if x1 < 0 ∨ 2 ≤ x1.toNatClampNeg then none else
    if x1.toNatClampNeg = 0 then
      if a 19 3 = 0 then
        some ((-4), a)
      else
        if x1 < 0 ∨ 2 ≤ x1.toNatClampNeg then none else
        if x1.toNatClampNeg = 0 then
          (f_X0_copy 15 19 a).bind fun q2 =>
          some (q2 15 2, q2)
        else
          (f_X0_copy 15 22 a).bind fun q3 =>
          some (q3 15 2, q3)
    else
      if a 22 3 = 0 then
        some ((-4), a)
      else
        if x1 < 0 ∨ 2 ≤ x1.toNatClampNeg then none else
        if x1.toNatClampNeg = 0 then
          (f_X0_copy 15 19 a).bind fun q4 =>
          some (q4 15 2, q4)
        else
          (f_X0_copy 15 22 a).bind fun q5 =>
          some (q5 15 2, q5)
def f_X5_count (x1 : Int32) (a : St) : Option Int32 :=
  if x1 = 0 then
    some (a 5 0)
  else
  if x1 = 1 then
    some (a 5 1)
  else
  if x1 = 2 then
    some (a 15 2)
  else
  if x1 = 3 then
    some (a 25 3)
  else
  if x1 = 4 then
    some (a 29 3)
  else
  if x1 = 5 then
    some (a 1 1)
  else
    some (-3)
def f_X6_in (x0 : Int64) (x2 : Int64) (x4 : Int64) : Option Int32 :=
  if lg_cmp x0 x2 < 0 then
    some 0
  else
    if (0 : Int32) < lg_cmp x0 x4 then
      some 0
    else
      some 1
def L_X6_write_33 (n : Nat) (x1 : Int64) (x3 : Int32) : Nat → Int32 → St → Option (Int32 × St)
  | 0, _, _ => none
  | j + 1, x4, a =>
    if x3 ≤ x4 then
      some (a 0 3, a)
    else
      if a 0 3 < 0 ∨ 200 ≤ (a 0 3).toNatClampNeg then none else
      L_X6_write_33 n x1 x3 j (x4 + 1) (up (up a 3 ((a 0 3).toNatClampNeg) (((x1 >>> (((8 : Int32) * x4).toInt64 &&& 63)) &&& 255).toInt32)) 0 3 (((up a 3 ((a 0 3).toNatClampNeg) (((x1 >>> (((8 : Int32) * x4).toInt64 &&& 63)) &&& 255).toInt32)) 0 3) + 1))
def f_X6_write (n : Nat) (x1 : Int64) (x3 : Int32) (a : St) : Option (Int32 × St) :=
  (f_X6_in x3.toInt64 1 8).bind fun q1 =>
  if q1 = 0 then
    some ((-3), a)
  else
    if (a 0 3) + x3 ≤ 200 then
      L_X6_write_33 n x1 x3 n 0 a
    else
      some ((-5), a)
def f_X6_erase (a : St) : Option (Int32 × St) :=
  some (a 0 3, up a 0 3 0)
def f_X6_sort (x0 : Int32) : Option Int32 :=
  if x0 < 97 then
    if x0 < 48 then
      some 0
    else
      if (57 : Int32) < x0 then
        some 0
      else
        some 2
  else
    if (122 : Int32) < x0 then
      if x0 < 48 then
        some 0
      else
        if (57 : Int32) < x0 then
          some 0
        else
          some 2
    else
      some 1
def L_X6_token_71 (n : Nat) : Nat → St → Option St
  | 0, _ => none
  | j + 1, a =>
    if a 0 3 ≤ a 0 12 then
      some (up a 0 14 (a 0 12))
    else
      if a 0 13 < 0 ∨ 200 ≤ (a 0 13).toNatClampNeg then none else
      (f_X6_sort (a 3 ((a 0 13).toNatClampNeg))).bind fun q1 =>
      if q1 ≤ 0 then
        some (up a 0 14 (a 0 12))
      else
        if a 0 12 < 0 ∨ 200 ≤ (a 0 12).toNatClampNeg then none else
        (f_X6_sort (a 3 ((a 0 12).toNatClampNeg))).bind fun q2 =>
        if a 0 13 < 0 ∨ 200 ≤ (a 0 13).toNatClampNeg then none else
        (f_X6_sort (a 3 ((a 0 13).toNatClampNeg))).bind fun q3 =>
        if q2 = q3 then
          L_X6_token_71 n j (up a 0 12 ((a 0 12) + 1))
        else
          some (up a 0 14 (a 0 12))
def B_X6_token_38 (n : Nat) (a : St) : Option St :=
  if (up a 0 13 (a 0 12)) 0 3 ≤ (up a 0 13 (a 0 12)) 0 12 then
    L_X6_token_71 n n (up (up a 0 13 (a 0 12)) 0 12 (((up a 0 13 (a 0 12)) 0 12) + 0))
  else
    L_X6_token_71 n n (up (up a 0 13 (a 0 12)) 0 12 (((up a 0 13 (a 0 12)) 0 12) + 1))
def L_X6_token_0 (n : Nat) : Nat → St → Option St
  | 0, _ => none
  | j + 1, a =>
    if a 0 3 ≤ a 0 12 then
      B_X6_token_38 n a
    else
      if a 0 12 < 0 ∨ 200 ≤ (a 0 12).toNatClampNeg then none else
      if a 3 ((a 0 12).toNatClampNeg) = 32 then
        L_X6_token_0 n j (up a 0 12 ((a 0 12) + 1))
      else
        B_X6_token_38 n a
def f_X6_token (n : Nat) (a : St) : Option St :=
  L_X6_token_0 n n a
def L_X6_isWord_22 (n : Nat) (x1 : Int32) (x2 : Int32) (a : St) : Nat → Int32 → Int32 → Option Int32
  | 0, _, _ => none
  | j + 1, x3, x4 =>
    if x3 = 0 then
      if x3 = 0 ∨ x3 = 1 then some x3 else none
    else
      if x2 ≤ x4 then
        if x3 = 0 ∨ x3 = 1 then some x3 else none
      else
        if (a 0 13) + x4 < 0 ∨ 200 ≤ ((a 0 13) + x4).toNatClampNeg then none else
        if a 3 (((a 0 13) + x4).toNatClampNeg) = (96 : Int32) + ((x1 >>> (((5 : Int32) * x4) &&& 31)) &&& 31) then
          L_X6_isWord_22 n x1 x2 a j 1 (x4 + 1)
        else
          L_X6_isWord_22 n x1 x2 a j 0 (x4 + 1)
def f_X6_isWord (n : Nat) (x1 : Int32) (x2 : Int32) (a : St) : Option Int32 :=
  if (a 0 14) - (a 0 13) = x2 then
    L_X6_isWord_22 n x1 x2 a n 1 0
  else
    L_X6_isWord_22 n x1 x2 a n 0 0
def f_X6_deedWord (n : Nat) (a : St) : Option Int32 :=
  (f_X6_isWord n 14976400 5 a).bind fun q1 =>
  if q1 = 0 then
    (f_X6_isWord n 139869684 6 a).bind fun q2 =>
    if q2 = 0 then
      (f_X6_isWord n 609505573 6 a).bind fun q3 =>
      if q3 = 0 then
        (f_X6_isWord n 21169731 5 a).bind fun q4 =>
        if q4 = 0 then
          some (-1)
        else
          some 7
      else
        some 6
    else
      some 5
  else
    some 4
def f_X6_houseWord (n : Nat) (a : St) : Option Int32 :=
  (f_X6_isWord n 676514451 6 a).bind fun q1 =>
  if q1 = 0 then
    (f_X6_isWord n 657967201 6 a).bind fun q2 =>
    if q2 = 0 then
      (f_X6_isWord n 16423 3 a).bind fun q3 =>
      if q3 = 0 then
        (f_X6_isWord n 20332020 5 a).bind fun q4 =>
        if q4 = 0 then
          some (-1)
        else
          some 3
      else
        some 2
    else
      some 1
  else
    some 0
def f_X6_wordOf (n : Nat) (a : St) : Option Int32 :=
  (f_X6_deedWord n a).bind fun q1 =>
  (f_X6_houseWord n a).bind fun q2 =>
  if q1 = (-1) then
    if q2 = (-1) then
      (f_X6_isWord n 628196 4 a).bind fun q3 =>
      if q3 = 0 then
        (f_X6_isWord n 176265 4 a).bind fun q4 =>
        if q4 = 0 then
          (f_X6_isWord n 175404 4 a).bind fun q5 =>
          if q5 = 0 then
            (f_X6_isWord n 143739366 6 a).bind fun q6 =>
            if q6 = 0 then
              (f_X6_isWord n 24621441 5 a).bind fun q7 =>
              if q7 = 0 then
                some (-1)
              else
                some 12
            else
              some 11
          else
            some 10
        else
          some 9
      else
        some 8
    else
      some q2
  else
    some q1
def f_X6_isDeedLine (x0 : Int32) : Option Int32 :=
  (f_X6_in x0.toInt64 4 7).bind fun q1 =>
  if q1 = 0 ∨ q1 = 1 then some q1 else none
def B_X6_reads_84 (n : Nat) (x1 : Int32) (x2 : Int32) (x3 : Int32) (x4 : Int32) (x5 : Int32) (a : St) : Option (Int32 × St) :=
  (f_X6_in x5.toInt64 x2.toInt64 x3.toInt64).bind fun q2 =>
  if q2 = 0 then
    some (0, a)
  else
    if x5 = x4 then
      some (0, a)
    else
      if (((5 : Int32) * (a 0 5)) + 1) + x1 < 0 ∨ 50 ≤ ((((5 : Int32) * (a 0 5)) + 1) + x1).toNatClampNeg then none else
      (f_X6_token n (up a 4 (((((5 : Int32) * (a 0 5)) + 1) + x1).toNatClampNeg) x5)).bind fun q3 =>
      some (1, q3)
def L_X6_reads_51 (n : Nat) (x1 : Int32) (x2 : Int32) (x3 : Int32) (x4 : Int32) : Nat → Int32 → Int32 → St → Option (Int32 × St)
  | 0, _, _, _ => none
  | j + 1, x5, x6, a =>
    if a 0 14 ≤ x6 then
      B_X6_reads_84 n x1 x2 x3 x4 x5 a
    else
      if x6 < 0 ∨ 200 ≤ x6.toNatClampNeg then none else
      L_X6_reads_51 n x1 x2 x3 x4 j ((((10 : Int32) * x5) + (a 3 x6.toNatClampNeg)) - 48) (x6 + 1) a
def f_X6_reads (n : Nat) (x1 : Int32) (x2 : Int32) (x3 : Int32) (x4 : Int32) (a : St) : Option (Int32 × St) :=
  if a 0 13 = a 0 3 then
    some (0, a)
  else
    if a 0 13 < 0 ∨ 200 ≤ (a 0 13).toNatClampNeg then none else
    (f_X6_sort (a 3 ((a 0 13).toNatClampNeg))).bind fun q1 =>
    if q1 = 2 then
      if (a 0 14) - (a 0 13) ≤ 2 then
        L_X6_reads_51 n x1 x2 x3 x4 n 0 (a 0 13) a
      else
        some (0, a)
    else
      some (0, a)
def f_X6_readsRest (n : Nat) (x1 : Int32) (a : St) : Option (Int32 × St) :=
  if x1 = 0 then
    (f_X6_reads n 0 2 8 (-1) a).bind fun q1 =>
    if q1.1 = 0 ∨ q1.1 = 1 then some (q1.1, q1.2) else none
  else
  if x1 = 1 then
    (f_X6_reads n 0 0 ((a 0 15) - 1) (-1) a).bind fun q2 =>
    if q2.1 = 0 then
      some (0, q2.2)
    else
      (f_X6_reads n 1 0 ((a 0 15) - 1) (-1) q2.2).bind fun q3 =>
      if q3.1 = 0 then
        some (0, q3.2)
      else
        some (1, q3.2)
  else
  if x1 = 2 then
    (f_X6_reads n 0 0 ((a 0 15) - 1) (-1) a).bind fun q4 =>
    if q4.1 = 0 ∨ q4.1 = 1 then some (q4.1, q4.2) else none
  else
  if x1 = 3 then
    (f_X6_reads n 0 0 ((a 0 15) - 1) (-1) a).bind fun q5 =>
    if q5.1 = 0 then
      some (0, q5.2)
    else
      (f_X6_reads n 1 0 15 (-1) q5.2).bind fun q6 =>
      if q6.1 = 0 then
        some (0, q6.2)
      else
        some (1, q6.2)
  else
  if x1 = 4 then
    (f_X6_reads n 0 0 15 (-1) a).bind fun q7 =>
    if q7.1 = 0 then
      some (0, q7.2)
    else
      (f_X6_reads n 1 0 ((a 0 15) - 1) (-1) q7.2).bind fun q8 =>
      if q8.1 = 0 then
        some (0, q8.2)
      else
        (f_X6_reads n 2 0 9 (-1) q8.2).bind fun q9 =>
        if q9.1 = 0 then
          some (0, q9.2)
        else
          (f_X6_reads n 3 0 9 (-1) q9.2).bind fun q10 =>
          if q10.1 = 0 then
            some (0, q10.2)
          else
            some (1, q10.2)
  else
  if x1 = 5 then
    (f_X6_reads n 0 0 15 (-1) a).bind fun q11 =>
    if q11.1 = 0 then
      some (0, q11.2)
    else
      (f_X6_reads n 1 0 ((a 0 15) - 1) (-1) q11.2).bind fun q12 =>
      if q12.1 = 0 then
        some (0, q12.2)
      else
        (f_X6_reads n 2 0 9 (-1) q12.2).bind fun q13 =>
        if q13.1 = 0 then
          some (0, q13.2)
        else
          (f_X6_reads n 3 0 9 (-1) q13.2).bind fun q14 =>
          if q14.1 = 0 then
            some (0, q14.2)
          else
            some (1, q14.2)
  else
  if x1 = 6 then
    (f_X6_reads n 0 0 15 (-1) a).bind fun q15 =>
    if q15.1 = 0 then
      some (0, q15.2)
    else
      (f_X6_reads n 1 0 ((a 0 15) - 1) (-1) q15.2).bind fun q16 =>
      if q16.1 = 0 then
        some (0, q16.2)
      else
        (f_X6_reads n 2 0 9 (-1) q16.2).bind fun q17 =>
        if q17.1 = 0 then
          some (0, q17.2)
        else
          (f_X6_reads n 3 0 9 (-1) q17.2).bind fun q18 =>
          if q18.1 = 0 then
            some (0, q18.2)
          else
            some (1, q18.2)
  else
  if x1 = 7 then
    (f_X6_reads n 0 0 15 (-1) a).bind fun q19 =>
    if q19.1 = 0 then
      some (0, q19.2)
    else
      (f_X6_reads n 1 0 ((a 0 15) - 1) (-1) q19.2).bind fun q20 =>
      if q20.1 = 0 then
        some (0, q20.2)
      else
        (f_X6_reads n 2 0 9 (-1) q20.2).bind fun q21 =>
        if q21.1 = 0 then
          some (0, q21.2)
        else
          (f_X6_reads n 3 0 9 (-1) q21.2).bind fun q22 =>
          if q22.1 = 0 then
            some (0, q22.2)
          else
            some (1, q22.2)
  else
  if x1 = 8 then
    (f_X6_reads n 0 0 ((a 0 15) - 1) (-1) a).bind fun q23 =>
    if q23.1 = 0 then
      some (0, q23.2)
    else
      (f_X6_reads n 1 0 ((a 0 16) - 1) (-1) q23.2).bind fun q24 =>
      if q24.1 = 0 then
        some (0, q24.2)
      else
        some (1, q24.2)
  else
  if x1 = 9 then
    (f_X6_reads n 0 0 ((a 0 15) - 1) (-1) a).bind fun q25 =>
    if q25.1 = 0 ∨ q25.1 = 1 then some (q25.1, q25.2) else none
  else
  if x1 = 10 then
    (f_X6_reads n 0 0 ((a 0 15) - 1) (-1) a).bind fun q26 =>
    if q26.1 = 0 then
      some (0, q26.2)
    else
      if ((5 : Int32) * (q26.2 0 5)) + 1 < 0 ∨ 50 ≤ (((5 : Int32) * (q26.2 0 5)) + 1).toNatClampNeg then none else
      (f_X6_reads n 1 0 ((a 0 15) - 1) (q26.2 4 ((((5 : Int32) * (q26.2 0 5)) + 1).toNatClampNeg)) q26.2).bind fun q27 =>
      if q27.1 = 0 then
        some (0, q27.2)
      else
        (f_X6_reads n 2 0 9 (-1) q27.2).bind fun q28 =>
        if q28.1 = 0 then
          some (0, q28.2)
        else
          some (1, q28.2)
  else
  if x1 = 11 then
    (f_X6_reads n 0 0 ((a 0 16) - 1) (-1) a).bind fun q29 =>
    if q29.1 = 0 ∨ q29.1 = 1 then some (q29.1, q29.2) else none
  else
  if x1 = 12 then
    (f_X6_reads n 0 0 ((a 0 16) - 1) (-1) a).bind fun q30 =>
    if q30.1 = 0 ∨ q30.1 = 1 then some (q30.1, q30.2) else none
  else
    (f_X6_reads n 0 0 15 (-1) a).bind fun q31 =>
    if q31.1 = 0 then
      some (0, q31.2)
    else
      (f_X6_reads n 1 0 ((a 0 15) - 1) (-1) q31.2).bind fun q32 =>
      if q32.1 = 0 then
        some (0, q32.2)
      else
        (f_X6_reads n 2 0 9 (-1) q32.2).bind fun q33 =>
        if q33.1 = 0 then
          some (0, q33.2)
        else
          (f_X6_reads n 3 0 9 (-1) q33.2).bind fun q34 =>
          if q34.1 = 0 then
            some (0, q34.2)
          else
            some (1, q34.2)
def f_X6_readsLine (n : Nat) (a : St) : Option (Int32 × St) :=
  (f_X6_wordOf n a).bind fun q1 =>
  if q1 = (-1) then
    some (0, a)
  else
    (f_X6_isDeedLine q1).bind fun q2 =>
    if q2 = 0 then
      (f_X6_token n a).bind fun q3 =>
      if (5 : Int32) * (q3 0 5) < 0 ∨ 50 ≤ ((5 : Int32) * (q3 0 5)).toNatClampNeg then none else
      (f_X6_readsRest n q1 (up q3 4 (((5 : Int32) * (q3 0 5)).toNatClampNeg) q1)).bind fun q4 =>
      if q4.1 = 0 then
        some (0, q4.2)
      else
        if q1 = 0 then
          if ((5 : Int32) * (q4.2 0 5)) + 1 < 0 ∨ 50 ≤ (((5 : Int32) * (q4.2 0 5)) + 1).toNatClampNeg then none else
          if q1 = 0 then
            some (1, up (up (up q4.2 0 15 (q4.2 4 ((((5 : Int32) * (q4.2 0 5)) + 1).toNatClampNeg))) 0 16 0) 0 5 (((up (up q4.2 0 15 (q4.2 4 ((((5 : Int32) * (q4.2 0 5)) + 1).toNatClampNeg))) 0 16 0) 0 5) + 1))
          else
            (f_X6_isDeedLine q1).bind fun q6 =>
            if q6 = 0 then
              some (1, up (up (up q4.2 0 15 (q4.2 4 ((((5 : Int32) * (q4.2 0 5)) + 1).toNatClampNeg))) 0 16 ((up q4.2 0 15 (q4.2 4 ((((5 : Int32) * (q4.2 0 5)) + 1).toNatClampNeg))) 0 16)) 0 5 (((up (up q4.2 0 15 (q4.2 4 ((((5 : Int32) * (q4.2 0 5)) + 1).toNatClampNeg))) 0 16 ((up q4.2 0 15 (q4.2 4 ((((5 : Int32) * (q4.2 0 5)) + 1).toNatClampNeg))) 0 16)) 0 5) + 1))
            else
              some (1, up (up (up q4.2 0 15 (q4.2 4 ((((5 : Int32) * (q4.2 0 5)) + 1).toNatClampNeg))) 0 16 (((up q4.2 0 15 (q4.2 4 ((((5 : Int32) * (q4.2 0 5)) + 1).toNatClampNeg))) 0 16) + 1)) 0 5 (((up (up q4.2 0 15 (q4.2 4 ((((5 : Int32) * (q4.2 0 5)) + 1).toNatClampNeg))) 0 16 (((up q4.2 0 15 (q4.2 4 ((((5 : Int32) * (q4.2 0 5)) + 1).toNatClampNeg))) 0 16) + 1)) 0 5) + 1))
        else
          if q1 = 0 then
            some (1, up (up (up q4.2 0 15 (q4.2 0 15)) 0 16 0) 0 5 (((up (up q4.2 0 15 (q4.2 0 15)) 0 16 0) 0 5) + 1))
          else
            (f_X6_isDeedLine q1).bind fun q5 =>
            if q5 = 0 then
              some (1, up (up (up q4.2 0 15 (q4.2 0 15)) 0 16 ((up q4.2 0 15 (q4.2 0 15)) 0 16)) 0 5 (((up (up q4.2 0 15 (q4.2 0 15)) 0 16 ((up q4.2 0 15 (q4.2 0 15)) 0 16)) 0 5) + 1))
            else
              some (1, up (up (up q4.2 0 15 (q4.2 0 15)) 0 16 (((up q4.2 0 15 (q4.2 0 15)) 0 16) + 1)) 0 5 (((up (up q4.2 0 15 (q4.2 0 15)) 0 16 (((up q4.2 0 15 (q4.2 0 15)) 0 16) + 1)) 0 5) + 1))
    else
      if a 0 16 = 6 then
        some (0, a)
      else
        (f_X6_token n a).bind fun q7 =>
        if (5 : Int32) * (q7 0 5) < 0 ∨ 50 ≤ ((5 : Int32) * (q7 0 5)).toNatClampNeg then none else
        (f_X6_readsRest n q1 (up q7 4 (((5 : Int32) * (q7 0 5)).toNatClampNeg) q1)).bind fun q8 =>
        if q8.1 = 0 then
          some (0, q8.2)
        else
          if q1 = 0 then
            if ((5 : Int32) * (q8.2 0 5)) + 1 < 0 ∨ 50 ≤ (((5 : Int32) * (q8.2 0 5)) + 1).toNatClampNeg then none else
            if q1 = 0 then
              some (1, up (up (up q8.2 0 15 (q8.2 4 ((((5 : Int32) * (q8.2 0 5)) + 1).toNatClampNeg))) 0 16 0) 0 5 (((up (up q8.2 0 15 (q8.2 4 ((((5 : Int32) * (q8.2 0 5)) + 1).toNatClampNeg))) 0 16 0) 0 5) + 1))
            else
              (f_X6_isDeedLine q1).bind fun q10 =>
              if q10 = 0 then
                some (1, up (up (up q8.2 0 15 (q8.2 4 ((((5 : Int32) * (q8.2 0 5)) + 1).toNatClampNeg))) 0 16 ((up q8.2 0 15 (q8.2 4 ((((5 : Int32) * (q8.2 0 5)) + 1).toNatClampNeg))) 0 16)) 0 5 (((up (up q8.2 0 15 (q8.2 4 ((((5 : Int32) * (q8.2 0 5)) + 1).toNatClampNeg))) 0 16 ((up q8.2 0 15 (q8.2 4 ((((5 : Int32) * (q8.2 0 5)) + 1).toNatClampNeg))) 0 16)) 0 5) + 1))
              else
                some (1, up (up (up q8.2 0 15 (q8.2 4 ((((5 : Int32) * (q8.2 0 5)) + 1).toNatClampNeg))) 0 16 (((up q8.2 0 15 (q8.2 4 ((((5 : Int32) * (q8.2 0 5)) + 1).toNatClampNeg))) 0 16) + 1)) 0 5 (((up (up q8.2 0 15 (q8.2 4 ((((5 : Int32) * (q8.2 0 5)) + 1).toNatClampNeg))) 0 16 (((up q8.2 0 15 (q8.2 4 ((((5 : Int32) * (q8.2 0 5)) + 1).toNatClampNeg))) 0 16) + 1)) 0 5) + 1))
          else
            if q1 = 0 then
              some (1, up (up (up q8.2 0 15 (q8.2 0 15)) 0 16 0) 0 5 (((up (up q8.2 0 15 (q8.2 0 15)) 0 16 0) 0 5) + 1))
            else
              (f_X6_isDeedLine q1).bind fun q9 =>
              if q9 = 0 then
                some (1, up (up (up q8.2 0 15 (q8.2 0 15)) 0 16 ((up q8.2 0 15 (q8.2 0 15)) 0 16)) 0 5 (((up (up q8.2 0 15 (q8.2 0 15)) 0 16 ((up q8.2 0 15 (q8.2 0 15)) 0 16)) 0 5) + 1))
              else
                some (1, up (up (up q8.2 0 15 (q8.2 0 15)) 0 16 (((up q8.2 0 15 (q8.2 0 15)) 0 16) + 1)) 0 5 (((up (up q8.2 0 15 (q8.2 0 15)) 0 16 (((up q8.2 0 15 (q8.2 0 15)) 0 16) + 1)) 0 5) + 1))
def L_X6_fault_42 (n : Nat) : Nat → St → Option (Int32 × St)
  | 0, _ => none
  | j + 1, a =>
    if a 0 3 ≤ a 0 13 then
      some ((-1), a)
    else
      if (a 0 14) - (a 0 13) = 1 then
        if a 0 13 < 0 ∨ 200 ≤ (a 0 13).toNatClampNeg then none else
        if a 3 ((a 0 13).toNatClampNeg) = 59 then
          if (10 : Int32) ≤ a 0 5 then
            some (a 0 13, a)
          else
            (f_X6_token n a).bind fun q3 =>
            (f_X6_readsLine n q3).bind fun q4 =>
            if q4.1 = 0 then
              some (q4.2 0 13, q4.2)
            else
              L_X6_fault_42 n j q4.2
        else
          some (a 0 13, a)
      else
        some (a 0 13, a)
def f_X6_fault (n : Nat) (a : St) : Option (Int32 × St) :=
  (f_X6_token n (up (up (up (up a 0 12 0) 0 5 0) 0 15 ((up (up a 0 12 0) 0 5 0) 0 6)) 0 16 ((up (up (up a 0 12 0) 0 5 0) 0 15 ((up (up a 0 12 0) 0 5 0) 0 6)) 0 11))).bind fun q1 =>
  (f_X6_readsLine n q1).bind fun q2 =>
  if q2.1 = 0 then
    some (q2.2 0 13, q2.2)
  else
    L_X6_fault_42 n n q2.2
def L_X6_clear_47 (n : Nat) : Nat → Int32 → St → Option St
  | 0, _, _ => none
  | j + 1, x2, a =>
    if (64 : Int32) ≤ x2 then
      some a
    else
      if x2 < 0 ∨ 64 ≤ x2.toNatClampNeg then none else
      L_X6_clear_47 n j (x2 + 1) (up a 7 x2.toNatClampNeg 0)
def B_X6_clear_45 (n : Nat) (a : St) : Option St :=
  L_X6_clear_47 n n 0 a
def L_X6_clear_12 (n : Nat) : Nat → Int32 → St → Option St
  | 0, _, _ => none
  | j + 1, x2, a =>
    if (8 : Int32) ≤ x2 then
      B_X6_clear_45 n a
    else
      if x2 < 0 ∨ 8 ≤ x2.toNatClampNeg then none else
      if x2 < 0 ∨ 8 ≤ x2.toNatClampNeg then none else
      if x2 < 0 ∨ 51 ≤ x2.toNatClampNeg then none else
      L_X6_clear_12 n j (x2 + 1) (up (up (up a 5 x2.toNatClampNeg (-1)) 6 x2.toNatClampNeg 0) 1 x2.toNatClampNeg (-1))
def f_X6_clear (n : Nat) (x1 : Int32) (a : St) : Option St :=
  L_X6_clear_12 n n 0 (up (up a 0 6 x1) 0 11 0)
def L_X6_bits_4 (n : Nat) (x0 : Int32) : Nat → Int32 → Int32 → Option Int32
  | 0, _, _ => none
  | j + 1, x1, x2 =>
    if (8 : Int32) ≤ x2 then
      some x1
    else
      L_X6_bits_4 n x0 j (x1 + ((x0 >>> (x2 &&& 31)) &&& 1)) (x2 + 1)
def f_X6_bits (n : Nat) (x0 : Int32) : Option Int32 :=
  L_X6_bits_4 n x0 n 0 0
def f_X6_lacks (n : Nat) (x1 : Int32) (x2 : Int32) (a : St) : Option Int32 :=
  if ((6 : Int32) * x2) + 0 < 0 ∨ 36 ≤ (((6 : Int32) * x2) + 0).toNatClampNeg then none else
  if ((6 : Int32) * x2) + 1 < 0 ∨ 36 ≤ (((6 : Int32) * x2) + 1).toNatClampNeg then none else
  if a 8 ((((6 : Int32) * x2) + 0).toNatClampNeg) = 0 then
    some 0
  else
    if a 8 ((((6 : Int32) * x2) + 0).toNatClampNeg) ≤ 2 then
      if a 8 ((((6 : Int32) * x2) + 0).toNatClampNeg) = 2 then
        if a 8 ((((6 : Int32) * x2) + 1).toNatClampNeg) = 0 then
          some 0
        else
          if x1 < 0 ∨ 8 ≤ x1.toNatClampNeg then none else
          if (a 8 ((((6 : Int32) * x2) + 1).toNatClampNeg)) &&& (a 6 x1.toNatClampNeg) = 0 then
            some 1
          else
            some 0
      else
        if x1 < 0 ∨ 8 ≤ x1.toNatClampNeg then none else
        (f_X6_bits n ((a 8 ((((6 : Int32) * x2) + 1).toNatClampNeg)) &&& ((a 6 x1.toNatClampNeg) ^^^ (-1)))).bind fun q1 =>
        some q1
    else
      if ((6 : Int32) * x2) + 2 < 0 ∨ 36 ≤ (((6 : Int32) * x2) + 2).toNatClampNeg then none else
      if a 8 ((((6 : Int32) * x2) + 2).toNatClampNeg) = x1 then
        some 0
      else
        if a 8 ((((6 : Int32) * x2) + 0).toNatClampNeg) = 2 then
          if a 8 ((((6 : Int32) * x2) + 1).toNatClampNeg) = 0 then
            some 0
          else
            if x1 < 0 ∨ 8 ≤ x1.toNatClampNeg then none else
            if (a 8 ((((6 : Int32) * x2) + 1).toNatClampNeg)) &&& (a 6 x1.toNatClampNeg) = 0 then
              some 1
            else
              some 0
        else
          if x1 < 0 ∨ 8 ≤ x1.toNatClampNeg then none else
          (f_X6_bits n ((a 8 ((((6 : Int32) * x2) + 1).toNatClampNeg)) &&& ((a 6 x1.toNatClampNeg) ^^^ (-1)))).bind fun q2 =>
          some q2
def f_X6_canElse (n : Nat) (x1 : Int32) (x2 : Int32) (a : St) : Option Int32 :=
  if ((6 : Int32) * x2) + 0 < 0 ∨ 36 ≤ (((6 : Int32) * x2) + 0).toNatClampNeg then none else
  if a 8 ((((6 : Int32) * x2) + 0).toNatClampNeg) = 2 then
    if ((6 : Int32) * x2) + 1 < 0 ∨ 36 ≤ (((6 : Int32) * x2) + 1).toNatClampNeg then none else
    if a 8 ((((6 : Int32) * x2) + 1).toNatClampNeg) = 0 then
      some 0
    else
      (f_X6_lacks n x1 x2 a).bind fun q2 =>
      if q2 = 0 then
        some 1
      else
        some 0
  else
    (f_X6_lacks n x1 x2 a).bind fun q1 =>
    if q1 = 0 then
      some 1
    else
      some 0
def f_X6_has (x0 : Int32) (x1 : Int32) : Option Int32 :=
  if (x0 >>> (x1 &&& 31)) &&& 1 = 1 then
    some 1
  else
    some 0
def f_X6_canBy (n : Nat) (x1 : Int32) (x2 : Int32) (x3 : Int32) (a : St) : Option Int32 :=
  (f_X6_canElse n x1 x2 a).bind fun q1 =>
  if q1 = 0 then
    some 0
  else
    (f_X6_has x3 x2).bind fun q2 =>
    if q2 = 0 then
      some 1
    else
      if ((6 : Int32) * x2) + 2 < 0 ∨ 36 ≤ (((6 : Int32) * x2) + 2).toNatClampNeg then none else
      if a 8 ((((6 : Int32) * x2) + 2).toNatClampNeg) = x1 then
        some 1
      else
        some 0
def f_X6_can (n : Nat) (x1 : Int32) (x2 : Int32) (a : St) : Option Int32 :=
  if ((6 : Int32) * x2) + 5 < 0 ∨ 36 ≤ (((6 : Int32) * x2) + 5).toNatClampNeg then none else
  (f_X6_canBy n x1 x2 ((a 8 ((((6 : Int32) * x2) + 5).toNatClampNeg)) <<< (x2 &&& 31)) a).bind fun q1 =>
  if q1 = 0 ∨ q1 = 1 then some q1 else none
def B_X6_tellDeed_61 (n : Nat) (a : St) : Option St :=
  if ((6 : Int32) * (a 0 11)) + 5 < 0 ∨ 36 ≤ (((6 : Int32) * (a 0 11)) + 5).toNatClampNeg then none else
  some (up (up a 8 ((((6 : Int32) * (a 0 11)) + 5).toNatClampNeg) 0) 0 11 (((up a 8 ((((6 : Int32) * (a 0 11)) + 5).toNatClampNeg) 0) 0 11) + 1))
def L_X6_tellDeed_24 (n : Nat) (x1 : Int32) : Nat → Int32 → St → Option St
  | 0, _, _ => none
  | j + 1, x2, a =>
    if (4 : Int32) ≤ x2 then
      B_X6_tellDeed_61 n a
    else
      if (x1 + 1) + x2 < 0 ∨ 50 ≤ ((x1 + 1) + x2).toNatClampNeg then none else
      if (((6 : Int32) * (a 0 11)) + 1) + x2 < 0 ∨ 36 ≤ ((((6 : Int32) * (a 0 11)) + 1) + x2).toNatClampNeg then none else
      L_X6_tellDeed_24 n x1 j (x2 + 1) (up a 8 (((((6 : Int32) * (a 0 11)) + 1) + x2).toNatClampNeg) (a 4 (((x1 + 1) + x2).toNatClampNeg)))
def f_X6_tellDeed (n : Nat) (x1 : Int32) (a : St) : Option St :=
  if x1 < 0 ∨ 50 ≤ x1.toNatClampNeg then none else
  if ((6 : Int32) * (a 0 11)) + 0 < 0 ∨ 36 ≤ (((6 : Int32) * (a 0 11)) + 0).toNatClampNeg then none else
  L_X6_tellDeed_24 n x1 n 0 (up a 8 ((((6 : Int32) * (a 0 11)) + 0).toNatClampNeg) ((a 4 x1.toNatClampNeg) - 4))
def f_X6_tell (n : Nat) (x1 : Int32) (a : St) : Option St :=
  if x1 + 1 < 0 ∨ 50 ≤ (x1 + 1).toNatClampNeg then none else
  if x1 + 2 < 0 ∨ 50 ≤ (x1 + 2).toNatClampNeg then none else
  if x1 < 0 ∨ 50 ≤ x1.toNatClampNeg then none else
  if a 4 x1.toNatClampNeg = 0 then
    (f_X6_clear n (a 4 ((x1 + 1).toNatClampNeg)) a).bind fun q1 =>
    some q1
  else
  if a 4 x1.toNatClampNeg = 1 then
    if a 4 ((x1 + 1).toNatClampNeg) < 0 ∨ 8 ≤ (a 4 ((x1 + 1).toNatClampNeg)).toNatClampNeg then none else
    some (up a 5 ((a 4 ((x1 + 1).toNatClampNeg)).toNatClampNeg) (a 4 ((x1 + 2).toNatClampNeg)))
  else
  if a 4 x1.toNatClampNeg = 2 then
    if a 4 ((x1 + 1).toNatClampNeg) < 0 ∨ 8 ≤ (a 4 ((x1 + 1).toNatClampNeg)).toNatClampNeg then none else
    some (up a 5 ((a 4 ((x1 + 1).toNatClampNeg)).toNatClampNeg) (-1))
  else
  if a 4 x1.toNatClampNeg = 3 then
    if a 4 ((x1 + 1).toNatClampNeg) < 0 ∨ 8 ≤ (a 4 ((x1 + 1).toNatClampNeg)).toNatClampNeg then none else
    some (up a 6 ((a 4 ((x1 + 1).toNatClampNeg)).toNatClampNeg) (a 4 ((x1 + 2).toNatClampNeg)))
  else
  if a 4 x1.toNatClampNeg = 4 then
    (f_X6_tellDeed n x1 a).bind fun q2 =>
    some q2
  else
  if a 4 x1.toNatClampNeg = 5 then
    (f_X6_tellDeed n x1 a).bind fun q3 =>
    some q3
  else
  if a 4 x1.toNatClampNeg = 6 then
    (f_X6_tellDeed n x1 a).bind fun q4 =>
    some q4
  else
  if a 4 x1.toNatClampNeg = 7 then
    (f_X6_tellDeed n x1 a).bind fun q5 =>
    some q5
  else
  if a 4 x1.toNatClampNeg = 8 then
    (f_X6_can n (a 4 ((x1 + 1).toNatClampNeg)) (a 4 ((x1 + 2).toNatClampNeg)) a).bind fun q6 =>
    if q6 = 0 then
      if a 4 ((x1 + 1).toNatClampNeg) < 0 ∨ 51 ≤ (a 4 ((x1 + 1).toNatClampNeg)).toNatClampNeg then none else
      some (up a 1 ((a 4 ((x1 + 1).toNatClampNeg)).toNatClampNeg) (-1))
    else
      if a 4 ((x1 + 1).toNatClampNeg) < 0 ∨ 51 ≤ (a 4 ((x1 + 1).toNatClampNeg)).toNatClampNeg then none else
      some (up a 1 ((a 4 ((x1 + 1).toNatClampNeg)).toNatClampNeg) (a 4 ((x1 + 2).toNatClampNeg)))
  else
  if a 4 x1.toNatClampNeg = 9 then
    if a 4 ((x1 + 1).toNatClampNeg) < 0 ∨ 51 ≤ (a 4 ((x1 + 1).toNatClampNeg)).toNatClampNeg then none else
    some (up a 1 ((a 4 ((x1 + 1).toNatClampNeg)).toNatClampNeg) (-1))
  else
  if a 4 x1.toNatClampNeg = 10 then
    if x1 + 3 < 0 ∨ 50 ≤ (x1 + 3).toNatClampNeg then none else
    if ((8 : Int32) * (a 4 ((x1 + 1).toNatClampNeg))) + (a 4 ((x1 + 2).toNatClampNeg)) < 0 ∨ 64 ≤ (((8 : Int32) * (a 4 ((x1 + 1).toNatClampNeg))) + (a 4 ((x1 + 2).toNatClampNeg))).toNatClampNeg then none else
    if x1 + 3 < 0 ∨ 50 ≤ (x1 + 3).toNatClampNeg then none else
    if ((8 : Int32) * (a 4 ((x1 + 2).toNatClampNeg))) + (a 4 ((x1 + 1).toNatClampNeg)) < 0 ∨ 64 ≤ (((8 : Int32) * (a 4 ((x1 + 2).toNatClampNeg))) + (a 4 ((x1 + 1).toNatClampNeg))).toNatClampNeg then none else
    some (up (up a 7 ((((8 : Int32) * (a 4 ((x1 + 1).toNatClampNeg))) + (a 4 ((x1 + 2).toNatClampNeg))).toNatClampNeg) (a 4 ((x1 + 3).toNatClampNeg))) 7 ((((8 : Int32) * (a 4 ((x1 + 2).toNatClampNeg))) + (a 4 ((x1 + 1).toNatClampNeg))).toNatClampNeg) ((up a 7 ((((8 : Int32) * (a 4 ((x1 + 1).toNatClampNeg))) + (a 4 ((x1 + 2).toNatClampNeg))).toNatClampNeg) (a 4 ((x1 + 3).toNatClampNeg))) 4 ((x1 + 3).toNatClampNeg)))
  else
  if a 4 x1.toNatClampNeg = 11 then
    if x1 < 0 ∨ 50 ≤ x1.toNatClampNeg then none else
    if a 4 x1.toNatClampNeg = 11 then
      if ((6 : Int32) * (a 4 ((x1 + 1).toNatClampNeg))) + 5 < 0 ∨ 36 ≤ (((6 : Int32) * (a 4 ((x1 + 1).toNatClampNeg))) + 5).toNatClampNeg then none else
      some (up a 8 ((((6 : Int32) * (a 4 ((x1 + 1).toNatClampNeg))) + 5).toNatClampNeg) 1)
    else
      if ((6 : Int32) * (a 4 ((x1 + 1).toNatClampNeg))) + 5 < 0 ∨ 36 ≤ (((6 : Int32) * (a 4 ((x1 + 1).toNatClampNeg))) + 5).toNatClampNeg then none else
      some (up a 8 ((((6 : Int32) * (a 4 ((x1 + 1).toNatClampNeg))) + 5).toNatClampNeg) 0)
  else
  if a 4 x1.toNatClampNeg = 12 then
    if x1 < 0 ∨ 50 ≤ x1.toNatClampNeg then none else
    if a 4 x1.toNatClampNeg = 11 then
      if ((6 : Int32) * (a 4 ((x1 + 1).toNatClampNeg))) + 5 < 0 ∨ 36 ≤ (((6 : Int32) * (a 4 ((x1 + 1).toNatClampNeg))) + 5).toNatClampNeg then none else
      some (up a 8 ((((6 : Int32) * (a 4 ((x1 + 1).toNatClampNeg))) + 5).toNatClampNeg) 1)
    else
      if ((6 : Int32) * (a 4 ((x1 + 1).toNatClampNeg))) + 5 < 0 ∨ 36 ≤ (((6 : Int32) * (a 4 ((x1 + 1).toNatClampNeg))) + 5).toNatClampNeg then none else
      some (up a 8 ((((6 : Int32) * (a 4 ((x1 + 1).toNatClampNeg))) + 5).toNatClampNeg) 0)
  else
    (f_X6_tellDeed n x1 a).bind fun q7 =>
    some q7
def B_X6_street_56 (n : Nat) (a : St) : Option (Int32 × St) :=
  some ((up (up (up (up (up a 0 19 0) 0 25 0) 2 ((0 : Int32).toNatClampNeg) 0) 2 ((1 : Int32).toNatClampNeg) 0) 0 3 0) 0 5, up (up (up (up (up a 0 19 0) 0 25 0) 2 ((0 : Int32).toNatClampNeg) 0) 2 ((1 : Int32).toNatClampNeg) 0) 0 3 0)
def L_X6_street_37 (n : Nat) : Nat → Int32 → St → Option (Int32 × St)
  | 0, _, _ => none
  | j + 1, x1, a =>
    if (17 : Int32) ≤ x1 then
      B_X6_street_56 n a
    else
      if x1 < 0 ∨ 51 ≤ x1.toNatClampNeg then none else
      L_X6_street_37 n j (x1 + 1) (up a 1 x1.toNatClampNeg 0)
def B_X6_street_34 (n : Nat) (a : St) : Option (Int32 × St) :=
  L_X6_street_37 n n 8 a
def L_X6_street_13 (n : Nat) : Nat → Int32 → St → Option (Int32 × St)
  | 0, _, _ => none
  | j + 1, x1, a =>
    if a 0 5 ≤ x1 then
      B_X6_street_34 n a
    else
      (f_X6_tell n ((5 : Int32) * x1) a).bind fun q2 =>
      L_X6_street_13 n j (x1 + 1) q2
def f_X6_street (n : Nat) (a : St) : Option (Int32 × St) :=
  (f_X6_fault n a).bind fun q1 =>
  if q1.1 = (-1) then
    L_X6_street_13 n n 0 q1.2
  else
    some ((-4), q1.2)
def f_X6_isHouse (x1 : Int32) (a : St) : Option Int32 :=
  (f_X6_in x1.toInt64 0 (((a 0 6) - 1).toInt64)).bind fun q1 =>
  if q1 = 0 ∨ q1 = 1 then some q1 else none
def f_X6_house (x1 : Int32) (x2 : Int32) (a : St) : Option Int32 :=
  (f_X6_isHouse x1 a).bind fun q1 =>
  if q1 = 0 then
    some (-2)
  else
    if x2 = 0 then
      if x1 < 0 ∨ 8 ≤ x1.toNatClampNeg then none else
      some (a 5 x1.toNatClampNeg)
    else
    if x2 = 1 then
      if x1 < 0 ∨ 8 ≤ x1.toNatClampNeg then none else
      some (a 6 x1.toNatClampNeg)
    else
    if x2 = 2 then
      if x1 < 0 ∨ 51 ≤ x1.toNatClampNeg then none else
      some (a 1 x1.toNatClampNeg)
    else
    if x2 = 3 then
      if (9 : Int32) + x1 < 0 ∨ 51 ≤ ((9 : Int32) + x1).toNatClampNeg then none else
      some (a 1 (((9 : Int32) + x1).toNatClampNeg))
    else
      some (-3)
def f_X6_isDeed (x1 : Int32) (a : St) : Option Int32 :=
  (f_X6_in x1.toInt64 0 (((a 0 11) - 1).toInt64)).bind fun q1 =>
  if q1 = 0 ∨ q1 = 1 then some q1 else none
def f_X6_deed (x1 : Int32) (x2 : Int32) (a : St) : Option Int32 :=
  (f_X6_isDeed x1 a).bind fun q1 =>
  if q1 = 0 then
    some (-2)
  else
    (f_X6_in x2.toInt64 0 5).bind fun q2 =>
    if q2 = 0 then
      some (-3)
    else
      if ((6 : Int32) * x1) + x2 < 0 ∨ 36 ≤ (((6 : Int32) * x1) + x2).toNatClampNeg then none else
      some (a 8 ((((6 : Int32) * x1) + x2).toNatClampNeg))
def L_X6_as_101 (n : Nat) (x1 : Int32) (a : St) : Nat → Int32 → Int32 → Option Int32
  | 0, _, _ => none
  | j + 1, x5, x6 =>
    if a 0 6 ≤ x6 then
      some x5
    else
      (f_X6_can n x6 x1 a).bind fun q3 =>
      if q3 = 0 then
        L_X6_as_101 n x1 a j (x5 ||| 0) (x6 + 1)
      else
        L_X6_as_101 n x1 a j (x5 ||| ((1 : Int32) <<< (x6 &&& 31))) (x6 + 1)
def f_X6_as (n : Nat) (x1 : Int32) (x2 : Int32) (a : St) : Option Int32 :=
  (f_X6_isDeed x1 a).bind fun q1 =>
  if q1 = 0 then
    some (-2)
  else
    (f_X6_in x2.toInt64 0 4).bind fun q2 =>
    if q2 = 0 then
      some (-3)
    else
      if ((6 : Int32) * x1) + 0 < 0 ∨ 36 ≤ (((6 : Int32) * x1) + 0).toNatClampNeg then none else
      if x2 = 0 then
        L_X6_as_101 n x1 a n 0 0
      else
        if x2 = 1 then
          if a 8 ((((6 : Int32) * x1) + 0).toNatClampNeg) = 0 then
            L_X6_as_101 n x1 a n 0 0
          else
            if x2 = 2 then
              if a 8 ((((6 : Int32) * x1) + 0).toNatClampNeg) = 0 then
                if x2 = 3 then
                  if a 8 ((((6 : Int32) * x1) + 0).toNatClampNeg) = 2 then
                    L_X6_as_101 n x1 a n 0 0
                  else
                    if x2 = 4 then
                      if a 8 ((((6 : Int32) * x1) + 0).toNatClampNeg) ≤ 2 then
                        some (-4)
                      else
                        L_X6_as_101 n x1 a n 0 0
                    else
                      some (-4)
                else
                  if x2 = 4 then
                    if a 8 ((((6 : Int32) * x1) + 0).toNatClampNeg) ≤ 2 then
                      some (-4)
                    else
                      L_X6_as_101 n x1 a n 0 0
                  else
                    some (-4)
              else
                L_X6_as_101 n x1 a n 0 0
            else
              if x2 = 3 then
                if a 8 ((((6 : Int32) * x1) + 0).toNatClampNeg) = 2 then
                  L_X6_as_101 n x1 a n 0 0
                else
                  if x2 = 4 then
                    if a 8 ((((6 : Int32) * x1) + 0).toNatClampNeg) ≤ 2 then
                      some (-4)
                    else
                      L_X6_as_101 n x1 a n 0 0
                  else
                    some (-4)
              else
                if x2 = 4 then
                  if a 8 ((((6 : Int32) * x1) + 0).toNatClampNeg) ≤ 2 then
                    some (-4)
                  else
                    L_X6_as_101 n x1 a n 0 0
                else
                  some (-4)
        else
          if x2 = 2 then
            if a 8 ((((6 : Int32) * x1) + 0).toNatClampNeg) = 0 then
              if x2 = 3 then
                if a 8 ((((6 : Int32) * x1) + 0).toNatClampNeg) = 2 then
                  L_X6_as_101 n x1 a n 0 0
                else
                  if x2 = 4 then
                    if a 8 ((((6 : Int32) * x1) + 0).toNatClampNeg) ≤ 2 then
                      some (-4)
                    else
                      L_X6_as_101 n x1 a n 0 0
                  else
                    some (-4)
              else
                if x2 = 4 then
                  if a 8 ((((6 : Int32) * x1) + 0).toNatClampNeg) ≤ 2 then
                    some (-4)
                  else
                    L_X6_as_101 n x1 a n 0 0
                else
                  some (-4)
            else
              L_X6_as_101 n x1 a n 0 0
          else
            if x2 = 3 then
              if a 8 ((((6 : Int32) * x1) + 0).toNatClampNeg) = 2 then
                L_X6_as_101 n x1 a n 0 0
              else
                if x2 = 4 then
                  if a 8 ((((6 : Int32) * x1) + 0).toNatClampNeg) ≤ 2 then
                    some (-4)
                  else
                    L_X6_as_101 n x1 a n 0 0
                else
                  some (-4)
            else
              if x2 = 4 then
                if a 8 ((((6 : Int32) * x1) + 0).toNatClampNeg) ≤ 2 then
                  some (-4)
                else
                  L_X6_as_101 n x1 a n 0 0
              else
                some (-4)
def f_X6_set (n : Nat) (x1 : Int32) (x2 : Int32) (a : St) : Option (Int32 × St) :=
  (f_X6_isHouse x1 a).bind fun q1 =>
  if q1 = 0 then
    some ((-2), a)
  else
    if x2 = (-1) then
      if x2 = (-1) then
        if x1 < 0 ∨ 51 ≤ x1.toNatClampNeg then none else
        if x1 < 0 ∨ 51 ≤ x1.toNatClampNeg then none else
        some (a 1 x1.toNatClampNeg, up a 1 x1.toNatClampNeg x2)
      else
        (f_X6_can n x1 x2 a).bind fun q2 =>
        if q2 = 0 then
          some ((-4), a)
        else
          if x1 < 0 ∨ 51 ≤ x1.toNatClampNeg then none else
          if x1 < 0 ∨ 51 ≤ x1.toNatClampNeg then none else
          some (a 1 x1.toNatClampNeg, up a 1 x1.toNatClampNeg x2)
    else
      (f_X6_isDeed x2 a).bind fun q3 =>
      if q3 = 0 then
        some ((-2), a)
      else
        if x2 = (-1) then
          if x1 < 0 ∨ 51 ≤ x1.toNatClampNeg then none else
          if x1 < 0 ∨ 51 ≤ x1.toNatClampNeg then none else
          some (a 1 x1.toNatClampNeg, up a 1 x1.toNatClampNeg x2)
        else
          (f_X6_can n x1 x2 a).bind fun q4 =>
          if q4 = 0 then
            some ((-4), a)
          else
            if x1 < 0 ∨ 51 ≤ x1.toNatClampNeg then none else
            if x1 < 0 ∨ 51 ≤ x1.toNatClampNeg then none else
            some (a 1 x1.toNatClampNeg, up a 1 x1.toNatClampNeg x2)
def L_X6_forbiddenNow_4 (n : Nat) (a : St) : Nat → Int32 → Int32 → Option Int32
  | 0, _, _ => none
  | j + 1, x1, x2 =>
    if a 0 11 ≤ x2 then
      some x1
    else
      if ((6 : Int32) * x2) + 5 < 0 ∨ 36 ≤ (((6 : Int32) * x2) + 5).toNatClampNeg then none else
      L_X6_forbiddenNow_4 n a j (x1 ||| ((a 8 ((((6 : Int32) * x2) + 5).toNatClampNeg)) <<< (x2 &&& 31))) (x2 + 1)
def f_X6_forbiddenNow (n : Nat) (a : St) : Option Int32 :=
  L_X6_forbiddenNow_4 n a n 0 0
def L_X6_layNext_2 (n : Nat) (x1 : Int32) (x2 : Int32) : Nat → Int32 → St → Option St
  | 0, _, _ => none
  | j + 1, x3, a =>
    if a 0 6 ≤ x3 then
      some a
    else
      if x3 < 0 ∨ 8 ≤ x3.toNatClampNeg then none else
      if a 5 x3.toNatClampNeg = (-1) then
        if (((8 : Int32) * x1) + 8) + x3 < 0 ∨ 1600 ≤ ((((8 : Int32) * x1) + 8) + x3).toNatClampNeg then none else
        L_X6_layNext_2 n x1 x2 j (x3 + 1) (up a 9 (((((8 : Int32) * x1) + 8) + x3).toNatClampNeg) (-1))
      else
        if x3 < 0 ∨ 8 ≤ x3.toNatClampNeg then none else
        if ((8 : Int32) * x1) + (a 5 x3.toNatClampNeg) < 0 ∨ 1600 ≤ (((8 : Int32) * x1) + (a 5 x3.toNatClampNeg)).toNatClampNeg then none else
        if a 9 ((((8 : Int32) * x1) + (a 5 x3.toNatClampNeg)).toNatClampNeg) = (-1) then
          if (((8 : Int32) * x1) + 8) + x3 < 0 ∨ 1600 ≤ ((((8 : Int32) * x1) + 8) + x3).toNatClampNeg then none else
          L_X6_layNext_2 n x1 x2 j (x3 + 1) (up a 9 (((((8 : Int32) * x1) + 8) + x3).toNatClampNeg) (-1))
        else
          (f_X6_canBy n x3 (a 9 ((((8 : Int32) * x1) + (a 5 x3.toNatClampNeg)).toNatClampNeg)) x2 a).bind fun q1 =>
          if q1 = 0 then
            if (((8 : Int32) * x1) + 8) + x3 < 0 ∨ 1600 ≤ ((((8 : Int32) * x1) + 8) + x3).toNatClampNeg then none else
            L_X6_layNext_2 n x1 x2 j (x3 + 1) (up a 9 (((((8 : Int32) * x1) + 8) + x3).toNatClampNeg) (-1))
          else
            if (((8 : Int32) * x1) + 8) + x3 < 0 ∨ 1600 ≤ ((((8 : Int32) * x1) + 8) + x3).toNatClampNeg then none else
            L_X6_layNext_2 n x1 x2 j (x3 + 1) (up a 9 (((((8 : Int32) * x1) + 8) + x3).toNatClampNeg) (a 9 ((((8 : Int32) * x1) + (a 5 x3.toNatClampNeg)).toNatClampNeg)))
def f_X6_layNext (n : Nat) (x1 : Int32) (x2 : Int32) (a : St) : Option St :=
  L_X6_layNext_2 n x1 x2 n 0 a
def L_X6_layDays_30 (n : Nat) (x1 : Int32) (x2 : Int32) : Nat → Int32 → St → Option St
  | 0, _, _ => none
  | j + 1, x3, a =>
    if x1 ≤ x3 then
      some a
    else
      (f_X6_layNext n x3 x2 a).bind fun q1 =>
      L_X6_layDays_30 n x1 x2 j (x3 + 1) q1
def B_X6_layDays_28 (n : Nat) (x1 : Int32) (x2 : Int32) (a : St) : Option St :=
  L_X6_layDays_30 n x1 x2 n 0 a
def L_X6_layDays_2 (n : Nat) (x1 : Int32) (x2 : Int32) : Nat → Int32 → St → Option St
  | 0, _, _ => none
  | j + 1, x3, a =>
    if a 0 6 ≤ x3 then
      B_X6_layDays_28 n x1 x2 a
    else
      if x3 < 0 ∨ 51 ≤ x3.toNatClampNeg then none else
      if x3 < 0 ∨ 1600 ≤ x3.toNatClampNeg then none else
      L_X6_layDays_2 n x1 x2 j (x3 + 1) (up a 9 x3.toNatClampNeg (a 1 x3.toNatClampNeg))
def f_X6_layDays (n : Nat) (x1 : Int32) (x2 : Int32) (a : St) : Option St :=
  L_X6_layDays_2 n x1 x2 n 0 a
def B_X6_go_136 (n : Nat) (x1 : Int32) (a : St) : Option (Int32 × St) :=
  some ((up a 1 ((8 : Int32).toNatClampNeg) ((a 1 ((8 : Int32).toNatClampNeg)) + x1)) 1 ((8 : Int32).toNatClampNeg), up a 1 ((8 : Int32).toNatClampNeg) ((a 1 ((8 : Int32).toNatClampNeg)) + x1))
def L_X6_go_105 (n : Nat) (x1 : Int32) : Nat → Int32 → St → Option (Int32 × St)
  | 0, _, _ => none
  | j + 1, x2, a =>
    if a 0 6 ≤ x2 then
      B_X6_go_136 n x1 a
    else
      if ((8 : Int32) * x1) + x2 < 0 ∨ 1600 ≤ (((8 : Int32) * x1) + x2).toNatClampNeg then none else
      if x2 < 0 ∨ 51 ≤ x2.toNatClampNeg then none else
      L_X6_go_105 n x1 j (x2 + 1) (up a 1 x2.toNatClampNeg (a 9 ((((8 : Int32) * x1) + x2).toNatClampNeg)))
def B_X6_go_103 (n : Nat) (x1 : Int32) (a : St) : Option (Int32 × St) :=
  L_X6_go_105 n x1 n 0 a
def B_X6_go_97 (n : Nat) (k44 : Int32 → St → Option (Int32 × St)) (x1 : Int32) (x2 : Int32) (a : St) : Option (Int32 × St) :=
  k44 (x2 + 1) a
def L_X6_go_51 (n : Nat) (k44 : Int32 → St → Option (Int32 × St)) (x1 : Int32) (x2 : Int32) : Nat → Int32 → St → Option (Int32 × St)
  | 0, _, _ => none
  | j + 1, x3, a =>
    if a 0 6 ≤ x3 then
      B_X6_go_97 n k44 x1 x2 a
    else
      if (9 : Int32) + x3 < 0 ∨ 51 ≤ ((9 : Int32) + x3).toNatClampNeg then none else
      if ((8 : Int32) * x2) + x3 < 0 ∨ 1600 ≤ (((8 : Int32) * x2) + x3).toNatClampNeg then none else
      if a 9 ((((8 : Int32) * x2) + x3).toNatClampNeg) = (-1) then
        if (9 : Int32) + x3 < 0 ∨ 51 ≤ ((9 : Int32) + x3).toNatClampNeg then none else
        L_X6_go_51 n k44 x1 x2 j (x3 + 1) (up a 1 (((9 : Int32) + x3).toNatClampNeg) ((a 1 (((9 : Int32) + x3).toNatClampNeg)) + 0))
      else
        if (9 : Int32) + x3 < 0 ∨ 51 ≤ ((9 : Int32) + x3).toNatClampNeg then none else
        L_X6_go_51 n k44 x1 x2 j (x3 + 1) (up a 1 (((9 : Int32) + x3).toNatClampNeg) ((a 1 (((9 : Int32) + x3).toNatClampNeg)) + 1))
def L_X6_go_44 (n : Nat) (x1 : Int32) : Nat → Int32 → St → Option (Int32 × St)
  | 0, _, _ => none
  | j + 1, x2, a =>
    if x1 ≤ x2 then
      B_X6_go_103 n x1 a
    else
      L_X6_go_51 n (L_X6_go_44 n x1 j) x1 x2 n 0 a
def f_X6_go (n : Nat) (x1 : Int32) (a : St) : Option (Int32 × St) :=
  (f_X6_in x1.toInt64 1 99).bind fun q1 =>
  if q1 = 0 then
    some ((-3), a)
  else
    if (a 1 ((8 : Int32).toNatClampNeg)) + x1 ≤ 9999 then
      (f_X6_forbiddenNow n a).bind fun q2 =>
      (f_X6_layDays n x1 q2 a).bind fun q3 =>
      L_X6_go_44 n x1 n 0 q3
    else
      some ((-5), a)
def f_X6_isTime (x0 : Int32) : Option Int32 :=
  (f_X6_in x0.toInt64 0 99).bind fun q1 =>
  if q1 = 0 ∨ q1 = 1 then some q1 else none
def f_X6_later (n : Nat) (x1 : Int32) (x2 : Int32) (a : St) : Option (Int32 × St) :=
  (f_X6_isHouse x1 a).bind fun q1 =>
  if q1 = 0 then
    some ((-2), a)
  else
    (f_X6_isTime x2).bind fun q2 =>
    if q2 = 0 then
      some ((-3), a)
    else
      (f_X6_forbiddenNow n a).bind fun q3 =>
      (f_X6_layDays n x2 q3 a).bind fun q4 =>
      if ((8 : Int32) * x2) + x1 < 0 ∨ 1600 ≤ (((8 : Int32) * x2) + x1).toNatClampNeg then none else
      some (q4 9 ((((8 : Int32) * x2) + x1).toNatClampNeg), q4)
def L_X6_areAlike_5 (n : Nat) (x1 : Int32) (x2 : Int32) (a : St) : Nat → Int32 → Int32 → Option Int32
  | 0, _, _ => none
  | j + 1, x3, x4 =>
    if a 0 6 ≤ x4 then
      if x3 = 0 ∨ x3 = 1 then some x3 else none
    else
      if x3 = 0 then
        L_X6_areAlike_5 n x1 x2 a j 0 (x4 + 1)
      else
        if ((8 : Int32) * x1) + x4 < 0 ∨ 1600 ≤ (((8 : Int32) * x1) + x4).toNatClampNeg then none else
        if ((8 : Int32) * x2) + x4 < 0 ∨ 1600 ≤ (((8 : Int32) * x2) + x4).toNatClampNeg then none else
        if a 9 ((((8 : Int32) * x1) + x4).toNatClampNeg) = a 9 ((((8 : Int32) * x2) + x4).toNatClampNeg) then
          L_X6_areAlike_5 n x1 x2 a j 1 (x4 + 1)
        else
          L_X6_areAlike_5 n x1 x2 a j 0 (x4 + 1)
def f_X6_areAlike (n : Nat) (x1 : Int32) (x2 : Int32) (a : St) : Option Int32 :=
  L_X6_areAlike_5 n x1 x2 a n 1 0
def B_X6_again_67 (n : Nat) (k26 : Int32 → St → Option (Int32 × St)) (x1 : Int32) (x2 : Int32) (a : St) : Option (Int32 × St) :=
  k26 (x2 + 1) a
def B_X6_again_51 (n : Nat) (x1 : Int32) (x2 : Int32) (x3 : Int32) (a : St) : Option (Int32 × St) :=
  if x1 = 0 then
    some (x2, a)
  else
    some (x3, a)
def L_X6_again_34 (n : Nat) (k26 : Int32 → St → Option (Int32 × St)) (x1 : Int32) (x2 : Int32) : Nat → Int32 → St → Option (Int32 × St)
  | 0, _, _ => none
  | j + 1, x3, a =>
    if (70 : Int32) ≤ x3 then
      B_X6_again_67 n k26 x1 x2 a
    else
      (f_X6_areAlike n x2 (x2 + x3) a).bind fun q4 =>
      if q4 = 0 then
        L_X6_again_34 n k26 x1 x2 j (x3 + 1) a
      else
        B_X6_again_51 n x1 x2 x3 a
def L_X6_again_26 (n : Nat) (x1 : Int32) : Nat → Int32 → St → Option (Int32 × St)
  | 0, _, _ => none
  | j + 1, x2, a =>
    if (70 : Int32) ≤ x2 then
      some ((-1), a)
    else
      L_X6_again_34 n (L_X6_again_26 n x1 j) x1 x2 n 1 a
def f_X6_again (n : Nat) (x1 : Int32) (a : St) : Option (Int32 × St) :=
  (f_X6_in x1.toInt64 0 1).bind fun q1 =>
  if q1 = 0 then
    some ((-3), a)
  else
    (f_X6_forbiddenNow n a).bind fun q2 =>
    (f_X6_layDays n 150 q2 a).bind fun q3 =>
    L_X6_again_26 n x1 n 0 q3
def L_X6_wayEnd_5 (n : Nat) (x2 : Int32) (a : St) : Nat → Int32 → Int32 → Option Int32
  | 0, _, _ => none
  | j + 1, x3, x4 =>
    if x2 ≤ x4 then
      some x3
    else
      if x3 = (-1) then
        some x3
      else
        if x3 < 0 ∨ 8 ≤ x3.toNatClampNeg then none else
        L_X6_wayEnd_5 n x2 a j (a 5 x3.toNatClampNeg) (x4 + 1)
def f_X6_wayEnd (n : Nat) (x1 : Int32) (x2 : Int32) (a : St) : Option Int32 :=
  L_X6_wayEnd_5 n x2 a n x1 0
def L_X6_canAll_14 (n : Nat) (x2 : Int32) (x3 : Int32) (a : St) : Nat → Int32 → Int32 → Int32 → Option Int32
  | 0, _, _, _ => none
  | j + 1, x4, x5, x6 =>
    if x2 ≤ x6 then
      if x5 = 0 ∨ x5 = 1 then some x5 else none
    else
      if x4 < 0 ∨ 8 ≤ x4.toNatClampNeg then none else
      if x5 = 0 then
        L_X6_canAll_14 n x2 x3 a j (a 5 x4.toNatClampNeg) 0 (x6 + 1)
      else
        (f_X6_can n (a 5 x4.toNatClampNeg) x3 a).bind fun q2 =>
        if q2 = 0 then
          L_X6_canAll_14 n x2 x3 a j (a 5 x4.toNatClampNeg) 0 (x6 + 1)
        else
          L_X6_canAll_14 n x2 x3 a j (a 5 x4.toNatClampNeg) 1 (x6 + 1)
def f_X6_canAll (n : Nat) (x1 : Int32) (x2 : Int32) (x3 : Int32) (a : St) : Option Int32 :=
  (f_X6_can n x1 x3 a).bind fun q1 =>
  L_X6_canAll_14 n x2 x3 a n x1 q1 0
def f_X6_firstOf (n : Nat) (x1 : Int32) (x2 : Int32) (x3 : Int32) (a : St) : Option Int32 :=
  (f_X6_wayEnd n x1 x3 a).bind fun q1 =>
  if q1 = (-1) then
    some (-1)
  else
    (f_X6_canAll n x1 x3 x2 a).bind fun q2 =>
    if q2 = 0 then
      some (-1)
    else
      some q1
def f_X6_first (n : Nat) (x1 : Int32) (x2 : Int32) (x3 : Int32) (a : St) : Option Int32 :=
  (f_X6_isHouse x1 a).bind fun q1 =>
  if q1 = 0 then
    some (-2)
  else
    (f_X6_isDeed x2 a).bind fun q2 =>
    if q2 = 0 then
      some (-2)
    else
      (f_X6_isTime x3).bind fun q3 =>
      if q3 = 0 then
        some (-3)
      else
        (f_X6_firstOf n x1 x2 x3 a).bind fun q4 =>
        some q4
def L_X6_lack_53 (n : Nat) (x2 : Int32) (x3 : Int32) (a : St) : Nat → Int32 → Int32 → Int32 → Int32 → Option Int32
  | 0, _, _, _, _ => none
  | j + 1, x4, x5, x6, x7 =>
    if x3 < x7 then
      some x5
    else
      (f_X6_has x4 x6).bind fun q5 =>
      if q5 = 0 then
        (f_X6_lacks n x6 x2 a).bind fun q6 =>
        if x3 ≤ x7 then
          L_X6_lack_53 n x2 x3 a j (x4 ||| ((1 : Int32) <<< (x6 &&& 31))) (x5 + q6) x6 (x7 + 1)
        else
          if x6 < 0 ∨ 8 ≤ x6.toNatClampNeg then none else
          L_X6_lack_53 n x2 x3 a j (x4 ||| ((1 : Int32) <<< (x6 &&& 31))) (x5 + q6) (a 5 x6.toNatClampNeg) (x7 + 1)
      else
        if x3 ≤ x7 then
          L_X6_lack_53 n x2 x3 a j (x4 ||| ((1 : Int32) <<< (x6 &&& 31))) (x5 + 0) x6 (x7 + 1)
        else
          if x6 < 0 ∨ 8 ≤ x6.toNatClampNeg then none else
          L_X6_lack_53 n x2 x3 a j (x4 ||| ((1 : Int32) <<< (x6 &&& 31))) (x5 + 0) (a 5 x6.toNatClampNeg) (x7 + 1)
def f_X6_lack (n : Nat) (x1 : Int32) (x2 : Int32) (x3 : Int32) (a : St) : Option Int32 :=
  (f_X6_isHouse x1 a).bind fun q1 =>
  if q1 = 0 then
    some (-2)
  else
    (f_X6_isDeed x2 a).bind fun q2 =>
    if q2 = 0 then
      some (-2)
    else
      (f_X6_isTime x3).bind fun q3 =>
      if q3 = 0 then
        some (-3)
      else
        (f_X6_wayEnd n x1 x3 a).bind fun q4 =>
        if q4 = (-1) then
          some (-1)
        else
          L_X6_lack_53 n x2 x3 a n 0 0 x1 0
def f_X6_wish (x1 : Int32) (x2 : Int32) (x3 : Int32) (a : St) : Option (Int32 × St) :=
  (f_X6_isHouse x1 a).bind fun q1 =>
  if q1 = 0 then
    some ((-2), a)
  else
    (f_X6_isDeed x2 a).bind fun q2 =>
    if q2 = 0 then
      some ((-2), a)
    else
      (f_X6_isTime x3).bind fun q3 =>
      if q3 = 0 then
        some ((-3), a)
      else
        if a 0 19 = 8 then
          some ((-5), a)
        else
          if (3 : Int32) * (a 0 19) < 0 ∨ 24 ≤ ((3 : Int32) * (a 0 19)).toNatClampNeg then none else
          if ((3 : Int32) * ((up a 10 (((3 : Int32) * (a 0 19)).toNatClampNeg) x1) 0 19)) + 1 < 0 ∨ 24 ≤ (((3 : Int32) * ((up a 10 (((3 : Int32) * (a 0 19)).toNatClampNeg) x1) 0 19)) + 1).toNatClampNeg then none else
          if ((3 : Int32) * ((up (up a 10 (((3 : Int32) * (a 0 19)).toNatClampNeg) x1) 10 ((((3 : Int32) * ((up a 10 (((3 : Int32) * (a 0 19)).toNatClampNeg) x1) 0 19)) + 1).toNatClampNeg) x2) 0 19)) + 2 < 0 ∨ 24 ≤ (((3 : Int32) * ((up (up a 10 (((3 : Int32) * (a 0 19)).toNatClampNeg) x1) 10 ((((3 : Int32) * ((up a 10 (((3 : Int32) * (a 0 19)).toNatClampNeg) x1) 0 19)) + 1).toNatClampNeg) x2) 0 19)) + 2).toNatClampNeg then none else
          some ((up (up (up (up a 10 (((3 : Int32) * (a 0 19)).toNatClampNeg) x1) 10 ((((3 : Int32) * ((up a 10 (((3 : Int32) * (a 0 19)).toNatClampNeg) x1) 0 19)) + 1).toNatClampNeg) x2) 10 ((((3 : Int32) * ((up (up a 10 (((3 : Int32) * (a 0 19)).toNatClampNeg) x1) 10 ((((3 : Int32) * ((up a 10 (((3 : Int32) * (a 0 19)).toNatClampNeg) x1) 0 19)) + 1).toNatClampNeg) x2) 0 19)) + 2).toNatClampNeg) x3) 0 19 (((up (up (up a 10 (((3 : Int32) * (a 0 19)).toNatClampNeg) x1) 10 ((((3 : Int32) * ((up a 10 (((3 : Int32) * (a 0 19)).toNatClampNeg) x1) 0 19)) + 1).toNatClampNeg) x2) 10 ((((3 : Int32) * ((up (up a 10 (((3 : Int32) * (a 0 19)).toNatClampNeg) x1) 10 ((((3 : Int32) * ((up a 10 (((3 : Int32) * (a 0 19)).toNatClampNeg) x1) 0 19)) + 1).toNatClampNeg) x2) 0 19)) + 2).toNatClampNeg) x3) 0 19) + 1)) 0 19, up (up (up (up a 10 (((3 : Int32) * (a 0 19)).toNatClampNeg) x1) 10 ((((3 : Int32) * ((up a 10 (((3 : Int32) * (a 0 19)).toNatClampNeg) x1) 0 19)) + 1).toNatClampNeg) x2) 10 ((((3 : Int32) * ((up (up a 10 (((3 : Int32) * (a 0 19)).toNatClampNeg) x1) 10 ((((3 : Int32) * ((up a 10 (((3 : Int32) * (a 0 19)).toNatClampNeg) x1) 0 19)) + 1).toNatClampNeg) x2) 0 19)) + 2).toNatClampNeg) x3) 0 19 (((up (up (up a 10 (((3 : Int32) * (a 0 19)).toNatClampNeg) x1) 10 ((((3 : Int32) * ((up a 10 (((3 : Int32) * (a 0 19)).toNatClampNeg) x1) 0 19)) + 1).toNatClampNeg) x2) 10 ((((3 : Int32) * ((up (up a 10 (((3 : Int32) * (a 0 19)).toNatClampNeg) x1) 10 ((((3 : Int32) * ((up a 10 (((3 : Int32) * (a 0 19)).toNatClampNeg) x1) 0 19)) + 1).toNatClampNeg) x2) 0 19)) + 2).toNatClampNeg) x3) 0 19) + 1))
def f_X6_drop (a : St) : Option (Int32 × St) :=
  some (a 0 19, up a 0 19 0)
def B_X6_layMays_59 (n : Nat) (k2 : Int32 → St → Option St) (x1 : Int32) (a : St) : Option St :=
  k2 (x1 + 1) a
def L_X6_layMays_20 (n : Nat) (k2 : Int32 → St → Option St) (x1 : Int32) : Nat → Int32 → St → Option St
  | 0, _, _ => none
  | j + 1, x2, a =>
    if a 0 11 ≤ x2 then
      B_X6_layMays_59 n k2 x1 a
    else
      if x1 < 0 ∨ 8 ≤ x1.toNatClampNeg then none else
      (f_X6_can n x1 x2 a).bind fun q1 =>
      if q1 = 0 then
        if x1 < 0 ∨ 8 ≤ x1.toNatClampNeg then none else
        L_X6_layMays_20 n k2 x1 j (x2 + 1) (up a 11 x1.toNatClampNeg ((a 11 x1.toNatClampNeg) ||| 0))
      else
        if x1 < 0 ∨ 8 ≤ x1.toNatClampNeg then none else
        L_X6_layMays_20 n k2 x1 j (x2 + 1) (up a 11 x1.toNatClampNeg ((a 11 x1.toNatClampNeg) ||| ((1 : Int32) <<< (x2 &&& 31))))
def L_X6_layMays_2 (n : Nat) : Nat → Int32 → St → Option St
  | 0, _, _ => none
  | j + 1, x1, a =>
    if a 0 6 ≤ x1 then
      some a
    else
      if x1 < 0 ∨ 8 ≤ x1.toNatClampNeg then none else
      L_X6_layMays_20 n (L_X6_layMays_2 n j) x1 n 0 (up a 11 x1.toNatClampNeg 64)
def f_X6_layMays (n : Nat) (a : St) : Option St :=
  L_X6_layMays_2 n n 0 a
def L_X6_none_2 (n : Nat) : Nat → Int32 → St → Option St
  | 0, _, _ => none
  | j + 1, x1, a =>
    if a 0 6 ≤ x1 then
      some a
    else
      if x1 < 0 ∨ 8 ≤ x1.toNatClampNeg then none else
      L_X6_none_2 n j (x1 + 1) (up a 11 x1.toNatClampNeg 0)
def f_X6_none (n : Nat) (a : St) : Option St :=
  L_X6_none_2 n n 0 a
def f_X6_bind (n : Nat) (x1 : Int32) (x2 : Int32) (x3 : Int32) (a : St) : Option St :=
  (f_X6_firstOf n x1 x2 x3 a).bind fun q1 =>
  if q1 = (-1) then
    (f_X6_none n a).bind fun q2 =>
    some q2
  else
    if q1 < 0 ∨ 8 ≤ q1.toNatClampNeg then none else
    if q1 < 0 ∨ 8 ≤ q1.toNatClampNeg then none else
    some (up a 11 q1.toNatClampNeg ((a 11 q1.toNatClampNeg) &&& ((1 : Int32) <<< (x2 &&& 31))))
def L_X6_rows_4 (n : Nat) (a : St) : Nat → Int32 → Int32 → Option Int32
  | 0, _, _ => none
  | j + 1, x1, x2 =>
    if a 0 6 ≤ x2 then
      some x1
    else
      if x2 < 0 ∨ 8 ≤ x2.toNatClampNeg then none else
      (f_X6_bits n (a 11 x2.toNatClampNeg)).bind fun q1 =>
      L_X6_rows_4 n a j (x1 * q1) (x2 + 1)
def f_X6_rows (n : Nat) (a : St) : Option Int32 :=
  L_X6_rows_4 n a n 1 0
def L_X6_ways_6 (n : Nat) : Nat → Int32 → St → Option (Int32 × St)
  | 0, _, _ => none
  | j + 1, x1, a =>
    if a 0 19 ≤ x1 then
      (f_X6_rows n a).bind fun q2 =>
      some (q2, a)
    else
      if (3 : Int32) * x1 < 0 ∨ 24 ≤ ((3 : Int32) * x1).toNatClampNeg then none else
      if ((3 : Int32) * x1) + 1 < 0 ∨ 24 ≤ (((3 : Int32) * x1) + 1).toNatClampNeg then none else
      if ((3 : Int32) * x1) + 2 < 0 ∨ 24 ≤ (((3 : Int32) * x1) + 2).toNatClampNeg then none else
      (f_X6_bind n (a 10 (((3 : Int32) * x1).toNatClampNeg)) (a 10 ((((3 : Int32) * x1) + 1).toNatClampNeg)) (a 10 ((((3 : Int32) * x1) + 2).toNatClampNeg)) a).bind fun q3 =>
      L_X6_ways_6 n j (x1 + 1) q3
def f_X6_ways (n : Nat) (a : St) : Option (Int32 × St) :=
  (f_X6_layMays n a).bind fun q1 =>
  L_X6_ways_6 n n 0 q1
def f_X6_isDays (x0 : Int32) : Option Int32 :=
  (f_X6_in x0.toInt64 1 99).bind fun q1 =>
  if q1 = 0 ∨ q1 = 1 then some q1 else none
def L_X6_laySums_12 (n : Nat) (x1 : Int32) : Nat → Int32 → St → Option St
  | 0, _, _ => none
  | j + 1, x2, a =>
    if (8 : Int32) * x1 ≤ x2 then
      some a
    else
      if a 0 6 ≤ x2 - x2 / 8 * 8 then
        L_X6_laySums_12 n x1 j (x2 + 1) (up (up a 0 21 ((a 0 21) + 0)) 0 22 (((up a 0 21 ((a 0 21) + 0)) 0 22) + 0))
      else
        if x2 < 0 ∨ 1600 ≤ x2.toNatClampNeg then none else
        if a 9 x2.toNatClampNeg = (-1) then
          if a 9 x2.toNatClampNeg = (-1) then
            L_X6_laySums_12 n x1 j (x2 + 1) (up (up a 0 21 ((a 0 21) + 0)) 0 22 (((up a 0 21 ((a 0 21) + 0)) 0 22) + 0))
          else
            if ((6 : Int32) * (a 9 x2.toNatClampNeg)) + 2 < 0 ∨ 36 ≤ (((6 : Int32) * (a 9 x2.toNatClampNeg)) + 2).toNatClampNeg then none else
            if (up a 0 21 ((a 0 21) + 0)) 8 ((((6 : Int32) * (a 9 x2.toNatClampNeg)) + 2).toNatClampNeg) = x2 - x2 / 8 * 8 then
              L_X6_laySums_12 n x1 j (x2 + 1) (up (up a 0 21 ((a 0 21) + 0)) 0 22 (((up a 0 21 ((a 0 21) + 0)) 0 22) + 0))
            else
              if ((6 : Int32) * (a 9 x2.toNatClampNeg)) + 4 < 0 ∨ 36 ≤ (((6 : Int32) * (a 9 x2.toNatClampNeg)) + 4).toNatClampNeg then none else
              L_X6_laySums_12 n x1 j (x2 + 1) (up (up a 0 21 ((a 0 21) + 0)) 0 22 (((up a 0 21 ((a 0 21) + 0)) 0 22) + ((up a 0 21 ((a 0 21) + 0)) 8 ((((6 : Int32) * (a 9 x2.toNatClampNeg)) + 4).toNatClampNeg))))
        else
          if ((6 : Int32) * (a 9 x2.toNatClampNeg)) + 3 < 0 ∨ 36 ≤ (((6 : Int32) * (a 9 x2.toNatClampNeg)) + 3).toNatClampNeg then none else
          if a 9 x2.toNatClampNeg = (-1) then
            L_X6_laySums_12 n x1 j (x2 + 1) (up (up a 0 21 ((a 0 21) + (a 8 ((((6 : Int32) * (a 9 x2.toNatClampNeg)) + 3).toNatClampNeg)))) 0 22 (((up a 0 21 ((a 0 21) + (a 8 ((((6 : Int32) * (a 9 x2.toNatClampNeg)) + 3).toNatClampNeg)))) 0 22) + 0))
          else
            if ((6 : Int32) * (a 9 x2.toNatClampNeg)) + 2 < 0 ∨ 36 ≤ (((6 : Int32) * (a 9 x2.toNatClampNeg)) + 2).toNatClampNeg then none else
            if (up a 0 21 ((a 0 21) + (a 8 ((((6 : Int32) * (a 9 x2.toNatClampNeg)) + 3).toNatClampNeg)))) 8 ((((6 : Int32) * (a 9 x2.toNatClampNeg)) + 2).toNatClampNeg) = x2 - x2 / 8 * 8 then
              L_X6_laySums_12 n x1 j (x2 + 1) (up (up a 0 21 ((a 0 21) + (a 8 ((((6 : Int32) * (a 9 x2.toNatClampNeg)) + 3).toNatClampNeg)))) 0 22 (((up a 0 21 ((a 0 21) + (a 8 ((((6 : Int32) * (a 9 x2.toNatClampNeg)) + 3).toNatClampNeg)))) 0 22) + 0))
            else
              if ((6 : Int32) * (a 9 x2.toNatClampNeg)) + 4 < 0 ∨ 36 ≤ (((6 : Int32) * (a 9 x2.toNatClampNeg)) + 4).toNatClampNeg then none else
              L_X6_laySums_12 n x1 j (x2 + 1) (up (up a 0 21 ((a 0 21) + (a 8 ((((6 : Int32) * (a 9 x2.toNatClampNeg)) + 3).toNatClampNeg)))) 0 22 (((up a 0 21 ((a 0 21) + (a 8 ((((6 : Int32) * (a 9 x2.toNatClampNeg)) + 3).toNatClampNeg)))) 0 22) + ((up a 0 21 ((a 0 21) + (a 8 ((((6 : Int32) * (a 9 x2.toNatClampNeg)) + 3).toNatClampNeg)))) 8 ((((6 : Int32) * (a 9 x2.toNatClampNeg)) + 4).toNatClampNeg))))
def f_X6_laySums (n : Nat) (x1 : Int32) (a : St) : Option St :=
  L_X6_laySums_12 n x1 n 0 (up (up a 0 21 0) 0 22 0)
def f_X6_sum (n : Nat) (x1 : Int32) (x2 : Int32) (a : St) : Option (Int32 × St) :=
  (f_X6_isDays x1).bind fun q1 =>
  if q1 = 0 then
    some ((-3), a)
  else
    (f_X6_in x2.toInt64 0 1).bind fun q2 =>
    if q2 = 0 then
      some ((-3), a)
    else
      (f_X6_forbiddenNow n a).bind fun q3 =>
      (f_X6_layDays n (x1 - 1) q3 a).bind fun q4 =>
      (f_X6_laySums n x1 q4).bind fun q5 =>
      if x2 = 0 then
        some (q5 0 21, q5)
      else
        some (q5 0 22, q5)
def B_X6_council_99 (n : Nat) (x3 : Int32) (x4 : Int32) (x5 : Int32) (a : St) : Option (Int32 × St) :=
  if x3 = 0 then
    some (x4, a)
  else
    some (x5, a)
def L_X6_council_41 (n : Nat) (x1 : Int32) (x2 : Int32) (x3 : Int32) : Nat → Int32 → Int32 → Int32 → St → Option (Int32 × St)
  | 0, _, _, _, _ => none
  | j + 1, x4, x5, x6, a =>
    if (1 : Int32) <<< ((a 0 11) &&& 31) ≤ x6 then
      B_X6_council_99 n x3 x4 x5 a
    else
      (f_X6_layDays n (x1 - 1) x6 a).bind fun q4 =>
      (f_X6_laySums n x1 q4).bind fun q5 =>
      if x2 < q5 0 22 then
        L_X6_council_41 n x1 x2 x3 j x4 x5 (x6 + 1) q5
      else
        if q5 0 21 ≤ x5 then
          L_X6_council_41 n x1 x2 x3 j x4 x5 (x6 + 1) q5
        else
          L_X6_council_41 n x1 x2 x3 j x6 (q5 0 21) (x6 + 1) q5
def f_X6_council (n : Nat) (x1 : Int32) (x2 : Int32) (x3 : Int32) (a : St) : Option (Int32 × St) :=
  (f_X6_isDays x1).bind fun q1 =>
  if q1 = 0 then
    some ((-3), a)
  else
    (f_X6_in x2.toInt64 0 9999).bind fun q2 =>
    if q2 = 0 then
      some ((-3), a)
    else
      (f_X6_in x3.toInt64 0 1).bind fun q3 =>
      if q3 = 0 then
        some ((-3), a)
      else
        L_X6_council_41 n x1 x2 x3 n (-1) (-1) 0 a
def L_X6_idle_204 (n : Nat) : Nat → Int32 → Int32 → St → Option (Int32 × St)
  | 0, _, _, _ => none
  | j + 1, x5, x6, a =>
    if a 0 6 ≤ x6 then
      some (x5, a)
    else
      if x6 < 0 ∨ 1600 ≤ x6.toNatClampNeg then none else
      if (800 : Int32) + x6 < 0 ∨ 1600 ≤ ((800 : Int32) + x6).toNatClampNeg then none else
      if a 9 x6.toNatClampNeg = a 9 (((800 : Int32) + x6).toNatClampNeg) then
        L_X6_idle_204 n j (x5 ||| 0) (x6 + 1) a
      else
        L_X6_idle_204 n j (x5 ||| ((1 : Int32) <<< (x6 &&& 31))) (x6 + 1) a
def B_X6_idle_198 (n : Nat) (a : St) : Option (Int32 × St) :=
  L_X6_idle_204 n n 0 0 a
def B_X6_idle_192 (n : Nat) (k114 : Int32 → St → Option (Int32 × St)) (x3 : Int32) (x4 : Int32) (x5 : Int32) (a : St) : Option (Int32 × St) :=
  k114 (x5 + 1) a
def L_X6_idle_138 (n : Nat) (k114 : Int32 → St → Option (Int32 × St)) (x3 : Int32) (x4 : Int32) (x5 : Int32) : Nat → Int32 → St → Option (Int32 × St)
  | 0, _, _ => none
  | j + 1, x6, a =>
    if a 0 6 ≤ x6 then
      B_X6_idle_192 n k114 x3 x4 x5 a
    else
      if (8 : Int32) + x6 < 0 ∨ 1600 ≤ ((8 : Int32) + x6).toNatClampNeg then none else
      if x6 < 0 ∨ 1600 ≤ x6.toNatClampNeg then none else
      if (808 : Int32) + x6 < 0 ∨ 1600 ≤ ((808 : Int32) + x6).toNatClampNeg then none else
      if (800 : Int32) + x6 < 0 ∨ 1600 ≤ ((800 : Int32) + x6).toNatClampNeg then none else
      L_X6_idle_138 n k114 x3 x4 x5 j (x6 + 1) (up (up a 9 x6.toNatClampNeg (a 9 (((8 : Int32) + x6).toNatClampNeg))) 9 (((800 : Int32) + x6).toNatClampNeg) ((up a 9 x6.toNatClampNeg (a 9 (((8 : Int32) + x6).toNatClampNeg))) 9 (((808 : Int32) + x6).toNatClampNeg)))
def L_X6_idle_114 (n : Nat) (x3 : Int32) (x4 : Int32) : Nat → Int32 → St → Option (Int32 × St)
  | 0, _, _ => none
  | j + 1, x5, a =>
    if x3 ≤ x5 then
      B_X6_idle_198 n a
    else
      (f_X6_layNext n 0 x4 a).bind fun q6 =>
      (f_X6_layNext n 100 x4 q6).bind fun q7 =>
      L_X6_idle_138 n (L_X6_idle_114 n x3 x4 j) x3 x4 x5 n 0 q7
def B_X6_idle_111 (n : Nat) (x3 : Int32) (x4 : Int32) (a : St) : Option (Int32 × St) :=
  L_X6_idle_114 n x3 x4 n 0 a
def L_X6_idle_44 (n : Nat) (x1 : Int32) (x2 : Int32) (x3 : Int32) (x4 : Int32) : Nat → Int32 → St → Option (Int32 × St)
  | 0, _, _ => none
  | j + 1, x5, a =>
    if a 0 6 ≤ x5 then
      B_X6_idle_111 n x3 x4 a
    else
      if x5 = x1 then
        if (800 : Int32) + x5 < 0 ∨ 1600 ≤ ((800 : Int32) + x5).toNatClampNeg then none else
        if ((8 : Int32) * x2) + x5 < 0 ∨ 1600 ≤ (((8 : Int32) * x2) + x5).toNatClampNeg then none else
        if x5 < 0 ∨ 1600 ≤ x5.toNatClampNeg then none else
        L_X6_idle_44 n x1 x2 x3 x4 j (x5 + 1) (up (up a 9 (((800 : Int32) + x5).toNatClampNeg) (-1)) 9 x5.toNatClampNeg ((up a 9 (((800 : Int32) + x5).toNatClampNeg) (-1)) 9 ((((8 : Int32) * x2) + x5).toNatClampNeg)))
      else
        if ((8 : Int32) * x2) + x5 < 0 ∨ 1600 ≤ (((8 : Int32) * x2) + x5).toNatClampNeg then none else
        if (800 : Int32) + x5 < 0 ∨ 1600 ≤ ((800 : Int32) + x5).toNatClampNeg then none else
        if ((8 : Int32) * x2) + x5 < 0 ∨ 1600 ≤ (((8 : Int32) * x2) + x5).toNatClampNeg then none else
        if x5 < 0 ∨ 1600 ≤ x5.toNatClampNeg then none else
        L_X6_idle_44 n x1 x2 x3 x4 j (x5 + 1) (up (up a 9 (((800 : Int32) + x5).toNatClampNeg) (a 9 ((((8 : Int32) * x2) + x5).toNatClampNeg))) 9 x5.toNatClampNeg ((up a 9 (((800 : Int32) + x5).toNatClampNeg) (a 9 ((((8 : Int32) * x2) + x5).toNatClampNeg))) 9 ((((8 : Int32) * x2) + x5).toNatClampNeg)))
def f_X6_idle (n : Nat) (x1 : Int32) (x2 : Int32) (x3 : Int32) (a : St) : Option (Int32 × St) :=
  (f_X6_isHouse x1 a).bind fun q1 =>
  if q1 = 0 then
    some ((-2), a)
  else
    (f_X6_isTime x2).bind fun q2 =>
    if q2 = 0 then
      some ((-3), a)
    else
      (f_X6_isTime x3).bind fun q3 =>
      if q3 = 0 then
        some ((-3), a)
      else
        (f_X6_forbiddenNow n a).bind fun q4 =>
        (f_X6_layDays n x2 q4 a).bind fun q5 =>
        L_X6_idle_44 n x1 x2 x3 q4 n 0 q5
def L_X6_divisor_6 (n : Nat) : Nat → Int64 → Int64 → Option Int64
  | 0, _, _ => none
  | j + 1, x4, x6 =>
    if lg_cmp x6 0 = 0 then
      some x4
    else
      if x6 = (0 : Int64) then none else
      L_X6_divisor_6 n j x6 (x4 - x4 / x6 * x6)
def f_X6_divisor (n : Nat) (x0 : Int64) (x2 : Int64) : Option Int64 :=
  L_X6_divisor_6 n n x0 x2
def B_X6_odds_118 (n : Nat) (x4 : Int32) (x5 : Int64) (x7 : Int64) (a : St) : Option (Int64 × St) :=
  (f_X6_divisor n x5 x7).bind fun q7 =>
  if x4 = 0 then
    if q7 = (0 : Int64) then none else
    some (x5 / q7, a)
  else
    if q7 = (0 : Int64) then none else
    some (x7 / q7, a)
def L_X6_odds_88 (n : Nat) (x2 : Int32) (x3 : Int32) (x4 : Int32) : Nat → Int64 → Int64 → Int32 → St → Option (Int64 × St)
  | 0, _, _, _, _ => none
  | j + 1, x5, x7, x9, a =>
    if x2 < x9 then
      B_X6_odds_118 n x4 x5 x7 a
    else
      L_X6_odds_88 n x2 x3 x4 j (x5 * (((10 : Int32) - x3).toInt64)) (x7 * 10) (x9 + 1) a
def f_X6_odds (n : Nat) (x1 : Int32) (x2 : Int32) (x3 : Int32) (x4 : Int32) (a : St) : Option (Int64 × St) :=
  (f_X6_isHouse x1 a).bind fun q1 =>
  if q1 = 0 then
    some ((-2), a)
  else
    (f_X6_in x2.toInt64 0 9).bind fun q2 =>
    if q2 = 0 then
      some ((-3), a)
    else
      (f_X6_in x3.toInt64 0 10).bind fun q3 =>
      if q3 = 0 then
        some ((-3), a)
      else
        (f_X6_in x4.toInt64 0 1).bind fun q4 =>
        if q4 = 0 then
          some ((-3), a)
        else
          (f_X6_forbiddenNow n a).bind fun q5 =>
          (f_X6_layDays n x2 q5 a).bind fun q6 =>
          if ((8 : Int32) * x2) + x1 < 0 ∨ 1600 ≤ (((8 : Int32) * x2) + x1).toNatClampNeg then none else
          if q6 9 ((((8 : Int32) * x2) + x1).toNatClampNeg) = (-1) then
            L_X6_odds_88 n x2 x3 x4 n 0 1 0 q6
          else
            L_X6_odds_88 n x2 x3 x4 n 1 1 0 q6
def L_X6_leastOf_2 (n : Nat) (x0 : Int32) : Nat → Int32 → Option Int32
  | 0, _ => none
  | j + 1, x1 =>
    (f_X6_has x0 x1).bind fun q1 =>
    if q1 = 0 then
      L_X6_leastOf_2 n x0 j (x1 + 1)
    else
      some x1
def f_X6_leastOf (n : Nat) (x0 : Int32) : Option Int32 :=
  L_X6_leastOf_2 n x0 n 0
def f_X6_withOf (n : Nat) (x1 : Int32) (x2 : Int32) (x3 : Int32) (a : St) : Option Int32 :=
  if x2 = x3 then
    (f_X6_bits n x1).bind fun q2 =>
    if q2 - q2 / 2 * 2 = 1 then
      if x2 = x3 then
        if x1 &&& ((((1 : Int32) <<< (x2 &&& 31)) ||| ((1 : Int32) <<< (x3 &&& 31))) ^^^ (-1)) < 0 ∨ 256 ≤ (x1 &&& ((((1 : Int32) <<< (x2 &&& 31)) ||| ((1 : Int32) <<< (x3 &&& 31))) ^^^ (-1))).toNatClampNeg then none else
        some ((0 : Int32) + (a 12 ((x1 &&& ((((1 : Int32) <<< (x2 &&& 31)) ||| ((1 : Int32) <<< (x3 &&& 31))) ^^^ (-1))).toNatClampNeg)))
      else
        if ((8 : Int32) * x2) + x3 < 0 ∨ 64 ≤ (((8 : Int32) * x2) + x3).toNatClampNeg then none else
        if x1 &&& ((((1 : Int32) <<< (x2 &&& 31)) ||| ((1 : Int32) <<< (x3 &&& 31))) ^^^ (-1)) < 0 ∨ 256 ≤ (x1 &&& ((((1 : Int32) <<< (x2 &&& 31)) ||| ((1 : Int32) <<< (x3 &&& 31))) ^^^ (-1))).toNatClampNeg then none else
        some ((a 7 ((((8 : Int32) * x2) + x3).toNatClampNeg)) + (a 12 ((x1 &&& ((((1 : Int32) <<< (x2 &&& 31)) ||| ((1 : Int32) <<< (x3 &&& 31))) ^^^ (-1))).toNatClampNeg)))
    else
      some (-1)
  else
    (f_X6_has x1 x3).bind fun q1 =>
    if q1 = 0 then
      some (-1)
    else
      if x2 = x3 then
        if x1 &&& ((((1 : Int32) <<< (x2 &&& 31)) ||| ((1 : Int32) <<< (x3 &&& 31))) ^^^ (-1)) < 0 ∨ 256 ≤ (x1 &&& ((((1 : Int32) <<< (x2 &&& 31)) ||| ((1 : Int32) <<< (x3 &&& 31))) ^^^ (-1))).toNatClampNeg then none else
        some ((0 : Int32) + (a 12 ((x1 &&& ((((1 : Int32) <<< (x2 &&& 31)) ||| ((1 : Int32) <<< (x3 &&& 31))) ^^^ (-1))).toNatClampNeg)))
      else
        if ((8 : Int32) * x2) + x3 < 0 ∨ 64 ≤ (((8 : Int32) * x2) + x3).toNatClampNeg then none else
        if x1 &&& ((((1 : Int32) <<< (x2 &&& 31)) ||| ((1 : Int32) <<< (x3 &&& 31))) ^^^ (-1)) < 0 ∨ 256 ≤ (x1 &&& ((((1 : Int32) <<< (x2 &&& 31)) ||| ((1 : Int32) <<< (x3 &&& 31))) ^^^ (-1))).toNatClampNeg then none else
        some ((a 7 ((((8 : Int32) * x2) + x3).toNatClampNeg)) + (a 12 ((x1 &&& ((((1 : Int32) <<< (x2 &&& 31)) ||| ((1 : Int32) <<< (x3 &&& 31))) ^^^ (-1))).toNatClampNeg)))
def B_X6_layBests_67 (n : Nat) (k9 : Int32 → St → Option St) (x1 : Int32) (x3 : Int32) (a : St) : Option St :=
  if x1 < 0 ∨ 256 ≤ x1.toNatClampNeg then none else
  k9 (x1 + 1) (up a 12 x1.toNatClampNeg x3)
def L_X6_layBests_29 (n : Nat) (k9 : Int32 → St → Option St) (x1 : Int32) (x2 : Int32) : Nat → Int32 → Int32 → St → Option St
  | 0, _, _, _ => none
  | j + 1, x3, x4, a =>
    if a 0 6 ≤ x4 then
      B_X6_layBests_67 n k9 x1 x3 a
    else
      (f_X6_withOf n x1 x2 x4 a).bind fun q2 =>
      if q2 ≤ x3 then
        L_X6_layBests_29 n k9 x1 x2 j x3 (x4 + 1) a
      else
        L_X6_layBests_29 n k9 x1 x2 j q2 (x4 + 1) a
def L_X6_layBests_9 (n : Nat) : Nat → Int32 → St → Option St
  | 0, _, _ => none
  | j + 1, x1, a =>
    if (1 : Int32) <<< ((a 0 6) &&& 31) ≤ x1 then
      some a
    else
      (f_X6_leastOf n x1).bind fun q1 =>
      L_X6_layBests_29 n (L_X6_layBests_9 n j) x1 q1 n (-1) q1 a
def f_X6_layBests (n : Nat) (a : St) : Option St :=
  L_X6_layBests_9 n n 1 (up a 12 ((0 : Int32).toNatClampNeg) 0)
def L_X6_partnerOf_9 (n : Nat) (x1 : Int32) (x2 : Int32) (a : St) : Nat → Int32 → Option Int32
  | 0, _ => none
  | j + 1, x3 =>
    if a 0 6 ≤ x3 then
      some x2
    else
      (f_X6_withOf n x1 x2 x3 a).bind fun q2 =>
      if x1 < 0 ∨ 256 ≤ x1.toNatClampNeg then none else
      if q2 = a 12 x1.toNatClampNeg then
        some x3
      else
        L_X6_partnerOf_9 n x1 x2 a j (x3 + 1)
def f_X6_partnerOf (n : Nat) (x1 : Int32) (a : St) : Option Int32 :=
  (f_X6_leastOf n x1).bind fun q1 =>
  L_X6_partnerOf_9 n x1 q1 a n (q1 + 1)
def B_X6_pair_68 (n : Nat) (x1 : Int32) (x3 : Int32) (x4 : Int32) (a : St) : Option (Int32 × St) :=
  if x3 = x4 then
    some ((-1), a)
  else
    if x3 = x1 then
      some (x4, a)
    else
      some (x3, a)
def L_X6_pair_41 (n : Nat) (x1 : Int32) : Nat → Int32 → St → Option (Int32 × St)
  | 0, _, _ => none
  | j + 1, x2, a =>
    if x2 = 0 then
      some ((-1), a)
    else
      (f_X6_leastOf n x2).bind fun q2 =>
      (f_X6_partnerOf n x2 a).bind fun q3 =>
      if q2 = x1 then
        B_X6_pair_68 n x1 q2 q3 a
      else
        if q3 = x1 then
          B_X6_pair_68 n x1 q2 q3 a
        else
          L_X6_pair_41 n x1 j (x2 &&& ((((1 : Int32) <<< (q2 &&& 31)) ||| ((1 : Int32) <<< (q3 &&& 31))) ^^^ (-1))) a
def f_X6_pair (n : Nat) (x1 : Int32) (a : St) : Option (Int32 × St) :=
  if x1 = (-1) then
    (f_X6_layBests n a).bind fun q1 =>
    if x1 = (-1) then
      if ((1 : Int32) <<< ((q1 0 6) &&& 31)) - 1 < 0 ∨ 256 ≤ (((1 : Int32) <<< ((q1 0 6) &&& 31)) - 1).toNatClampNeg then none else
      some (q1 12 ((((1 : Int32) <<< ((q1 0 6) &&& 31)) - 1).toNatClampNeg), q1)
    else
      L_X6_pair_41 n x1 n (((1 : Int32) <<< ((q1 0 6) &&& 31)) - 1) q1
  else
    (f_X6_isHouse x1 a).bind fun q4 =>
    if q4 = 0 then
      some ((-2), a)
    else
      (f_X6_layBests n a).bind fun q5 =>
      if x1 = (-1) then
        if ((1 : Int32) <<< ((q5 0 6) &&& 31)) - 1 < 0 ∨ 256 ≤ (((1 : Int32) <<< ((q5 0 6) &&& 31)) - 1).toNatClampNeg then none else
        some (q5 12 ((((1 : Int32) <<< ((q5 0 6) &&& 31)) - 1).toNatClampNeg), q5)
      else
        L_X6_pair_41 n x1 n (((1 : Int32) <<< ((q5 0 6) &&& 31)) - 1) q5
def B_X6_town_188 (n : Nat) (x1 : Int32) (x2 : Int32) (x3 : Int32) (x4 : Int32) (a : St) : Option Int32 :=
  if x1 = 0 then
    some x2
  else
    if x1 = 1 then
      some x3
    else
      some x4
def B_X6_town_151 (n : Nat) (k25 : Int32 → Int32 → Int32 → Int32 → Option Int32) (x1 : Int32) (x2 : Int32) (x3 : Int32) (x4 : Int32) (x5 : Int32) (x6 : Int32) (x7 : Int32) (a : St) : Option Int32 :=
  if x6 ≤ 0 then
    if x6 ≤ x3 then
      k25 (x2 + 0) x3 x4 (x5 + 1)
    else
      k25 (x2 + 0) x6 x4 (x5 + 1)
  else
    if x7 = 0 then
      if x6 ≤ x3 then
        k25 (x2 + 0) x3 x4 (x5 + 1)
      else
        k25 (x2 + 0) x6 x4 (x5 + 1)
    else
      if x6 ≤ x3 then
        k25 (x2 + 1) x3 x4 (x5 + 1)
      else
        k25 (x2 + 1) x6 x4 (x5 + 1)
def L_X6_town_113 (n : Nat) (k25 : Int32 → Int32 → Int32 → Int32 → Option Int32) (x1 : Int32) (x2 : Int32) (x3 : Int32) (x4 : Int32) (x5 : Int32) (x6 : Int32) (a : St) : Nat → Int32 → Int32 → Option Int32
  | 0, _, _ => none
  | j + 1, x7, x8 =>
    if x6 ≤ x8 then
      B_X6_town_151 n k25 x1 x2 x3 x4 x5 x6 x7 a
    else
      if x7 = 0 then
        L_X6_town_113 n k25 x1 x2 x3 x4 x5 x6 a j 0 (x8 + 1)
      else
        (f_X6_wayEnd n x5 x8 a).bind fun q3 =>
        if q3 < x5 then
          L_X6_town_113 n k25 x1 x2 x3 x4 x5 x6 a j 0 (x8 + 1)
        else
          L_X6_town_113 n k25 x1 x2 x3 x4 x5 x6 a j 1 (x8 + 1)
def B_X6_town_110 (n : Nat) (k25 : Int32 → Int32 → Int32 → Int32 → Option Int32) (x1 : Int32) (x2 : Int32) (x3 : Int32) (x4 : Int32) (x5 : Int32) (x6 : Int32) (x7 : Int32) (a : St) : Option Int32 :=
  L_X6_town_113 n k25 x1 x2 x3 x4 x5 x6 a n x7 0
def L_X6_town_73 (n : Nat) (k25 : Int32 → Int32 → Int32 → Int32 → Option Int32) (x1 : Int32) (x2 : Int32) (x3 : Int32) (x4 : Int32) (x5 : Int32) (x7 : Int32) (a : St) : Nat → Int32 → Int32 → Option Int32
  | 0, _, _ => none
  | j + 1, x6, x8 =>
    if x8 ≤ 0 then
      B_X6_town_110 n k25 x1 x2 x3 x4 x5 x6 x7 a
    else
      (f_X6_wayEnd n x5 x8 a).bind fun q4 =>
      if q4 = x5 then
        L_X6_town_73 n k25 x1 x2 x3 x4 x5 x7 a j x8 (x8 + (-1))
      else
        L_X6_town_73 n k25 x1 x2 x3 x4 x5 x7 a j x6 (x8 + (-1))
def L_X6_town_25 (n : Nat) (x1 : Int32) (a : St) : Nat → Int32 → Int32 → Int32 → Int32 → Option Int32
  | 0, _, _, _, _ => none
  | j + 1, x2, x3, x4, x5 =>
    if a 0 6 ≤ x5 then
      B_X6_town_188 n x1 x2 x3 x4 a
    else
      (f_X6_wayEnd n x5 (a 0 6) a).bind fun q2 =>
      if q2 = (-1) then
        L_X6_town_73 n (L_X6_town_25 n x1 a j) x1 x2 x3 (x4 ||| ((1 : Int32) <<< (x5 &&& 31))) x5 1 a n 0 (a 0 6)
      else
        L_X6_town_73 n (L_X6_town_25 n x1 a j) x1 x2 x3 (x4 ||| 0) x5 1 a n 0 (a 0 6)
def f_X6_town (n : Nat) (x1 : Int32) (a : St) : Option Int32 :=
  (f_X6_in x1.toInt64 0 2).bind fun q1 =>
  if q1 = 0 then
    some (-3)
  else
    L_X6_town_25 n x1 a n 0 0 0 0
def f_X6_seen (x1 : Int32) (x2 : Int32) (x3 : Int32) (a : St) : Option (Int32 × St) :=
  (f_X6_isHouse x1 a).bind fun q1 =>
  if q1 = 0 then
    some ((-2), a)
  else
    if x2 = (-1) then
      (f_X6_isTime x3).bind fun q2 =>
      if q2 = 0 then
        some ((-3), a)
      else
        if a 0 25 = 8 then
          some ((-5), a)
        else
          if (3 : Int32) * (a 0 25) < 0 ∨ 24 ≤ ((3 : Int32) * (a 0 25)).toNatClampNeg then none else
          if ((3 : Int32) * ((up a 13 (((3 : Int32) * (a 0 25)).toNatClampNeg) x1) 0 25)) + 1 < 0 ∨ 24 ≤ (((3 : Int32) * ((up a 13 (((3 : Int32) * (a 0 25)).toNatClampNeg) x1) 0 25)) + 1).toNatClampNeg then none else
          if ((3 : Int32) * ((up (up a 13 (((3 : Int32) * (a 0 25)).toNatClampNeg) x1) 13 ((((3 : Int32) * ((up a 13 (((3 : Int32) * (a 0 25)).toNatClampNeg) x1) 0 25)) + 1).toNatClampNeg) x2) 0 25)) + 2 < 0 ∨ 24 ≤ (((3 : Int32) * ((up (up a 13 (((3 : Int32) * (a 0 25)).toNatClampNeg) x1) 13 ((((3 : Int32) * ((up a 13 (((3 : Int32) * (a 0 25)).toNatClampNeg) x1) 0 25)) + 1).toNatClampNeg) x2) 0 25)) + 2).toNatClampNeg then none else
          some ((up (up (up (up a 13 (((3 : Int32) * (a 0 25)).toNatClampNeg) x1) 13 ((((3 : Int32) * ((up a 13 (((3 : Int32) * (a 0 25)).toNatClampNeg) x1) 0 25)) + 1).toNatClampNeg) x2) 13 ((((3 : Int32) * ((up (up a 13 (((3 : Int32) * (a 0 25)).toNatClampNeg) x1) 13 ((((3 : Int32) * ((up a 13 (((3 : Int32) * (a 0 25)).toNatClampNeg) x1) 0 25)) + 1).toNatClampNeg) x2) 0 25)) + 2).toNatClampNeg) x3) 0 25 (((up (up (up a 13 (((3 : Int32) * (a 0 25)).toNatClampNeg) x1) 13 ((((3 : Int32) * ((up a 13 (((3 : Int32) * (a 0 25)).toNatClampNeg) x1) 0 25)) + 1).toNatClampNeg) x2) 13 ((((3 : Int32) * ((up (up a 13 (((3 : Int32) * (a 0 25)).toNatClampNeg) x1) 13 ((((3 : Int32) * ((up a 13 (((3 : Int32) * (a 0 25)).toNatClampNeg) x1) 0 25)) + 1).toNatClampNeg) x2) 0 25)) + 2).toNatClampNeg) x3) 0 25) + 1)) 0 25, up (up (up (up a 13 (((3 : Int32) * (a 0 25)).toNatClampNeg) x1) 13 ((((3 : Int32) * ((up a 13 (((3 : Int32) * (a 0 25)).toNatClampNeg) x1) 0 25)) + 1).toNatClampNeg) x2) 13 ((((3 : Int32) * ((up (up a 13 (((3 : Int32) * (a 0 25)).toNatClampNeg) x1) 13 ((((3 : Int32) * ((up a 13 (((3 : Int32) * (a 0 25)).toNatClampNeg) x1) 0 25)) + 1).toNatClampNeg) x2) 0 25)) + 2).toNatClampNeg) x3) 0 25 (((up (up (up a 13 (((3 : Int32) * (a 0 25)).toNatClampNeg) x1) 13 ((((3 : Int32) * ((up a 13 (((3 : Int32) * (a 0 25)).toNatClampNeg) x1) 0 25)) + 1).toNatClampNeg) x2) 13 ((((3 : Int32) * ((up (up a 13 (((3 : Int32) * (a 0 25)).toNatClampNeg) x1) 13 ((((3 : Int32) * ((up a 13 (((3 : Int32) * (a 0 25)).toNatClampNeg) x1) 0 25)) + 1).toNatClampNeg) x2) 0 25)) + 2).toNatClampNeg) x3) 0 25) + 1))
    else
      (f_X6_isDeed x2 a).bind fun q3 =>
      if q3 = 0 then
        some ((-2), a)
      else
        (f_X6_isTime x3).bind fun q4 =>
        if q4 = 0 then
          some ((-3), a)
        else
          if a 0 25 = 8 then
            some ((-5), a)
          else
            if (3 : Int32) * (a 0 25) < 0 ∨ 24 ≤ ((3 : Int32) * (a 0 25)).toNatClampNeg then none else
            if ((3 : Int32) * ((up a 13 (((3 : Int32) * (a 0 25)).toNatClampNeg) x1) 0 25)) + 1 < 0 ∨ 24 ≤ (((3 : Int32) * ((up a 13 (((3 : Int32) * (a 0 25)).toNatClampNeg) x1) 0 25)) + 1).toNatClampNeg then none else
            if ((3 : Int32) * ((up (up a 13 (((3 : Int32) * (a 0 25)).toNatClampNeg) x1) 13 ((((3 : Int32) * ((up a 13 (((3 : Int32) * (a 0 25)).toNatClampNeg) x1) 0 25)) + 1).toNatClampNeg) x2) 0 25)) + 2 < 0 ∨ 24 ≤ (((3 : Int32) * ((up (up a 13 (((3 : Int32) * (a 0 25)).toNatClampNeg) x1) 13 ((((3 : Int32) * ((up a 13 (((3 : Int32) * (a 0 25)).toNatClampNeg) x1) 0 25)) + 1).toNatClampNeg) x2) 0 25)) + 2).toNatClampNeg then none else
            some ((up (up (up (up a 13 (((3 : Int32) * (a 0 25)).toNatClampNeg) x1) 13 ((((3 : Int32) * ((up a 13 (((3 : Int32) * (a 0 25)).toNatClampNeg) x1) 0 25)) + 1).toNatClampNeg) x2) 13 ((((3 : Int32) * ((up (up a 13 (((3 : Int32) * (a 0 25)).toNatClampNeg) x1) 13 ((((3 : Int32) * ((up a 13 (((3 : Int32) * (a 0 25)).toNatClampNeg) x1) 0 25)) + 1).toNatClampNeg) x2) 0 25)) + 2).toNatClampNeg) x3) 0 25 (((up (up (up a 13 (((3 : Int32) * (a 0 25)).toNatClampNeg) x1) 13 ((((3 : Int32) * ((up a 13 (((3 : Int32) * (a 0 25)).toNatClampNeg) x1) 0 25)) + 1).toNatClampNeg) x2) 13 ((((3 : Int32) * ((up (up a 13 (((3 : Int32) * (a 0 25)).toNatClampNeg) x1) 13 ((((3 : Int32) * ((up a 13 (((3 : Int32) * (a 0 25)).toNatClampNeg) x1) 0 25)) + 1).toNatClampNeg) x2) 0 25)) + 2).toNatClampNeg) x3) 0 25) + 1)) 0 25, up (up (up (up a 13 (((3 : Int32) * (a 0 25)).toNatClampNeg) x1) 13 ((((3 : Int32) * ((up a 13 (((3 : Int32) * (a 0 25)).toNatClampNeg) x1) 0 25)) + 1).toNatClampNeg) x2) 13 ((((3 : Int32) * ((up (up a 13 (((3 : Int32) * (a 0 25)).toNatClampNeg) x1) 13 ((((3 : Int32) * ((up a 13 (((3 : Int32) * (a 0 25)).toNatClampNeg) x1) 0 25)) + 1).toNatClampNeg) x2) 0 25)) + 2).toNatClampNeg) x3) 0 25 (((up (up (up a 13 (((3 : Int32) * (a 0 25)).toNatClampNeg) x1) 13 ((((3 : Int32) * ((up a 13 (((3 : Int32) * (a 0 25)).toNatClampNeg) x1) 0 25)) + 1).toNatClampNeg) x2) 13 ((((3 : Int32) * ((up (up a 13 (((3 : Int32) * (a 0 25)).toNatClampNeg) x1) 13 ((((3 : Int32) * ((up a 13 (((3 : Int32) * (a 0 25)).toNatClampNeg) x1) 0 25)) + 1).toNatClampNeg) x2) 0 25)) + 2).toNatClampNeg) x3) 0 25) + 1))
def f_X6_forget (a : St) : Option (Int32 × St) :=
  some (a 0 25, up a 0 25 0)
def L_X6_bindNothing_10 (n : Nat) (x1 : Int32) (x2 : Int32) (x3 : Int32) : Nat → Int32 → St → Option St
  | 0, _, _ => none
  | j + 1, x4, a =>
    if a 0 11 ≤ x4 then
      some a
    else
      if x3 = (-1) then
        some a
      else
        if x3 < 0 ∨ 8 ≤ x3.toNatClampNeg then none else
        (f_X6_canAll n x1 x2 x4 a).bind fun q2 =>
        if q2 = 0 then
          if x3 < 0 ∨ 8 ≤ x3.toNatClampNeg then none else
          L_X6_bindNothing_10 n x1 x2 x3 j (x4 + 1) (up a 11 x3.toNatClampNeg ((a 11 x3.toNatClampNeg) &&& (-1)))
        else
          if x3 < 0 ∨ 8 ≤ x3.toNatClampNeg then none else
          L_X6_bindNothing_10 n x1 x2 x3 j (x4 + 1) (up a 11 x3.toNatClampNeg ((a 11 x3.toNatClampNeg) &&& (((1 : Int32) <<< (x4 &&& 31)) ^^^ (-1))))
def f_X6_bindNothing (n : Nat) (x1 : Int32) (x2 : Int32) (a : St) : Option St :=
  (f_X6_wayEnd n x1 x2 a).bind fun q1 =>
  L_X6_bindNothing_10 n x1 x2 q1 n 0 a
def B_X6_fits_100 (n : Nat) (x1 : Int32) (a : St) : Option (Int32 × St) :=
  if x1 = (-1) then
    (f_X6_rows n a).bind fun q3 =>
    some (q3, a)
  else
    (f_X6_rows n a).bind fun q2 =>
    if q2 = 0 then
      some (0, a)
    else
      if x1 < 0 ∨ 8 ≤ x1.toNatClampNeg then none else
      some (a 11 x1.toNatClampNeg, a)
def L_X6_fits_22 (n : Nat) (x1 : Int32) : Nat → Int32 → St → Option (Int32 × St)
  | 0, _, _ => none
  | j + 1, x2, a =>
    if a 0 25 ≤ x2 then
      B_X6_fits_100 n x1 a
    else
      if ((3 : Int32) * x2) + 1 < 0 ∨ 24 ≤ (((3 : Int32) * x2) + 1).toNatClampNeg then none else
      if a 13 ((((3 : Int32) * x2) + 1).toNatClampNeg) = (-1) then
        if (3 : Int32) * x2 < 0 ∨ 24 ≤ ((3 : Int32) * x2).toNatClampNeg then none else
        if ((3 : Int32) * x2) + 2 < 0 ∨ 24 ≤ (((3 : Int32) * x2) + 2).toNatClampNeg then none else
        (f_X6_bindNothing n (a 13 (((3 : Int32) * x2).toNatClampNeg)) (a 13 ((((3 : Int32) * x2) + 2).toNatClampNeg)) a).bind fun q5 =>
        L_X6_fits_22 n x1 j (x2 + 1) q5
      else
        if (3 : Int32) * x2 < 0 ∨ 24 ≤ ((3 : Int32) * x2).toNatClampNeg then none else
        if ((3 : Int32) * x2) + 2 < 0 ∨ 24 ≤ (((3 : Int32) * x2) + 2).toNatClampNeg then none else
        (f_X6_bind n (a 13 (((3 : Int32) * x2).toNatClampNeg)) (a 13 ((((3 : Int32) * x2) + 1).toNatClampNeg)) (a 13 ((((3 : Int32) * x2) + 2).toNatClampNeg)) a).bind fun q4 =>
        L_X6_fits_22 n x1 j (x2 + 1) q4
def f_X6_fits (n : Nat) (x1 : Int32) (a : St) : Option (Int32 × St) :=
  if x1 = (-1) then
    (f_X6_layMays n a).bind fun q1 =>
    L_X6_fits_22 n x1 n 0 q1
  else
    (f_X6_isHouse x1 a).bind fun q6 =>
    if q6 = 0 then
      some ((-2), a)
    else
      (f_X6_layMays n a).bind fun q7 =>
      L_X6_fits_22 n x1 n 0 q7
def L_X6_copy_2 (n : Nat) (x1 : Int32) (x2 : Int32) : Nat → Int32 → St → Option St
  | 0, _, _ => none
  | j + 1, x3, a =>
    if (17 : Int32) ≤ x3 then
      some a
    else
      if ((17 : Int32) * x1) + x3 < 0 ∨ 51 ≤ (((17 : Int32) * x1) + x3).toNatClampNeg then none else
      if ((17 : Int32) * x2) + x3 < 0 ∨ 51 ≤ (((17 : Int32) * x2) + x3).toNatClampNeg then none else
      L_X6_copy_2 n x1 x2 j (x3 + 1) (up a 1 ((((17 : Int32) * x2) + x3).toNatClampNeg) (a 1 ((((17 : Int32) * x1) + x3).toNatClampNeg)))
def f_X6_copy (n : Nat) (x1 : Int32) (x2 : Int32) (a : St) : Option St :=
  L_X6_copy_2 n x1 x2 n 0 a
def f_X6_keep (n : Nat) (x1 : Int32) (a : St) : Option (Int32 × St) :=
  (f_X6_in x1.toInt64 0 1).bind fun q1 =>
  if q1 = 0 then
    some ((-2), a)
  else
    (f_X6_copy n 0 ((1 : Int32) + x1) a).bind fun q2 =>
    if x1 < 0 ∨ 2 ≤ x1.toNatClampNeg then none else
    some ((up q2 2 x1.toNatClampNeg 1) 1 ((8 : Int32).toNatClampNeg), up q2 2 x1.toNatClampNeg 1)
def f_X6_back (n : Nat) (x1 : Int32) (a : St) : Option (Int32 × St) :=
  (f_X6_in x1.toInt64 0 1).bind fun q1 =>
  if q1 = 0 then
    some ((-2), a)
  else
    if x1 < 0 ∨ 2 ≤ x1.toNatClampNeg then none else
    if a 2 x1.toNatClampNeg = 0 then
      some ((-4), a)
    else
      (f_X6_copy n ((1 : Int32) + x1) 0 a).bind fun q2 =>
      some (q2 1 ((8 : Int32).toNatClampNeg), q2)
def f_X6_count (x1 : Int32) (a : St) : Option Int32 :=
  if x1 = 0 then
    some (a 0 6)
  else
    if x1 = 1 then
      some (a 0 11)
    else
      if x1 = 2 then
        some (a 1 ((8 : Int32).toNatClampNeg))
      else
        if x1 = 3 then
          some (a 0 19)
        else
          if x1 = 4 then
            some (a 0 25)
          else
            if x1 = 5 then
              some (a 0 3)
            else
              some (-3)
