-- the program and the reference as pure functions over the memory
def Mo_byteAt (g : am_G) (x1 : Int32) : Option Int32 :=
  if (g.1 221 2) ≤ x1 then
    some (-1)
  else
  if am_in x1 200 = true then
  some (g.1 222 x1.toNatClampNeg)
  else none
def Mo_in (g : am_G) (x0 : Int32) (x1 : Int32) (x2 : Int32) : Option Bool :=
  if x0 < x1 then
    some false
  else
  if x2 < x0 then
    some false
  else
  some true
def Mo_isLetter (g : am_G) (x0 : Int32) : Option Bool :=
  (Mo_in g x0 97 122).bind fun q1 =>
  some q1
def Mo_isDigit (g : am_G) (x0 : Int32) : Option Bool :=
  (Mo_in g x0 48 57).bind fun q1 =>
  some q1
def Mo_token_L0 (n : Nat) (g : am_G) : Option (am_G) := match n with
  | 0 => none
  | n + 1 =>
    (Mo_byteAt g (g.1 221 10)).bind fun q1 =>
    if q1 = 32 then
      Mo_token_L0 n (am_wr g 221 10 ((g.1 221 10) + 1))
    else
    some g
def Mo_token_L110 (n : Nat) (g : am_G) (x1 : Int32) : Option (am_G) := match n with
  | 0 => none
  | n + 1 =>
    if (g.1 221 11) = 1 then
      (Mo_byteAt g (g.1 221 10)).bind fun q19 =>
      (Mo_isLetter g q19).bind fun q21 =>
      if q21 = true then
        Mo_token_L110 n (am_wr (am_wr g 221 13 0) 221 10 (((am_wr g 221 13 0).1 221 10) + 1)) x1
      else
      some g
    else
    some g
def Mo_token_L166 (n : Nat) (g : am_G) (x1 : Int32) : Option (am_G) := match n with
  | 0 => none
  | n + 1 =>
    (Mo_byteAt g (g.1 221 10)).bind fun q26 =>
    (Mo_isDigit g q26).bind fun q28 =>
    if q28 = true then
      (
        if x1 = 48 then
          some 1000
        else
        if (g.1 221 13) ≤ 99 then
          if am_in (g.1 221 10) 200 = true then
          some (((10 * (g.1 221 13)) + (g.1 222 (g.1 221 10).toNatClampNeg)) - 48)
          else none
        else
        some 1000).bind fun (q34 : Int32) =>
      Mo_token_L166 n (am_wr (am_wr g 221 13 q34) 221 10 (((am_wr g 221 13 q34).1 221 10) + 1)) x1
    else
    some g
def Mo_token (g : am_G) : Option am_G :=
  (Mo_token_L0 am_fuel g).bind fun q4 =>
  (Mo_byteAt (am_wr q4 221 12 (q4.1 221 10)) ((am_wr q4 221 12 (q4.1 221 10)).1 221 10)).bind fun q5 =>
  (
    if 0 ≤ q5 then
      (Mo_isLetter (am_wr q4 221 12 (q4.1 221 10)) q5).bind fun q8 =>
      if q8 = true then
        some 1
      else
      (Mo_isDigit (am_wr q4 221 12 (q4.1 221 10)) q5).bind fun q11 =>
      if q11 = true then
        some 2
      else
      if q5 = 59 then
        some 3
      else
      some 4
    else
    some 0).bind fun (q15 : Int32) =>
  (Mo_token_L110 am_fuel (if ((am_wr (am_wr (am_wr q4 221 12 (q4.1 221 10)) 221 11 q15) 221 13 q5).1 221 11) = 0 then am_wr (am_wr (am_wr q4 221 12 (q4.1 221 10)) 221 11 q15) 221 13 q5 else am_wr (am_wr (am_wr (am_wr q4 221 12 (q4.1 221 10)) 221 11 q15) 221 13 q5) 221 10 (((am_wr (am_wr (am_wr q4 221 12 (q4.1 221 10)) 221 11 q15) 221 13 q5).1 221 10) + 1)) q5).bind fun q24 =>
  if (q24.1 221 11) = 2 then
    (Mo_token_L166 am_fuel (am_wr q24 221 13 (q5 - 48)) q5).bind fun q35 =>
    some q35
  else
  some q24
def Mo_number (g : am_G) (x1 : Int32) (x2 : Int32) (x3 : Int32) : Option (am_G × Bool) :=
  (Mo_token g).bind fun q1 =>
  if am_in x1 71 = true then
  if ((am_wr q1 224 x1.toNatClampNeg (q1.1 221 13)).1 221 11) = 2 then
    (Mo_in (am_wr q1 224 x1.toNatClampNeg (q1.1 221 13)) ((am_wr q1 224 x1.toNatClampNeg (q1.1 221 13)).1 221 13) x2 x3).bind fun q5 =>
    if q5 = true then
      some (am_wr q1 224 x1.toNatClampNeg (q1.1 221 13), true)
    else
    some (am_wr q1 224 x1.toNatClampNeg (q1.1 221 13), false)
  else
  some (am_wr q1 224 x1.toNatClampNeg (q1.1 221 13), false)
  else none
def Mo_readsWalker (g : am_G) : Option (am_G × Bool) :=
  if (g.1 224 0) = 4 then
    some (g, false)
  else
  (Mo_number g (4 + (g.1 224 0)) 1 40).bind fun q2 =>
  if q2.2 = true then
    (Mo_number q2.1 (8 + (g.1 224 0)) 0 5).bind fun q5 =>
    if q5.2 = true then
      some (am_wr q5.1 224 0 ((q5.1.1 224 0) + 1), true)
    else
    some (q5.1, false)
  else
  some (q2.1, false)
def Mo_readsThing (g : am_G) : Option (am_G × Bool) :=
  if (g.1 224 1) = 7 then
    some (g, false)
  else
  (Mo_number g (12 + (g.1 224 1)) 1 20).bind fun q2 =>
  if q2.2 = true then
    (Mo_number q2.1 (19 + (g.1 224 1)) 0 9).bind fun q5 =>
    if q5.2 = true then
      (Mo_number q5.1 (26 + (g.1 224 1)) 0 1).bind fun q8 =>
      if q8.2 = true then
        (Mo_number q8.1 (33 + (g.1 224 1)) 0 3).bind fun q11 =>
        if q11.2 = true then
          (Mo_number q11.1 (40 + (g.1 224 1)) 0 ((q11.1.1 224 0) - 1)).bind fun q14 =>
          if q14.2 = true then
            some (am_wr q14.1 224 1 ((q14.1.1 224 1) + 1), true)
          else
          some (q14.1, false)
        else
        some (q11.1, false)
      else
      some (q8.1, false)
    else
    some (q5.1, false)
  else
  some (q2.1, false)
def Mo_readsStage (g : am_G) : Option (am_G × Bool) :=
  if (g.1 224 2) = 8 then
    some (g, false)
  else
  (Mo_number g (47 + (g.1 224 2)) 1 20).bind fun q2 =>
  if q2.2 = true then
    (Mo_number q2.1 (55 + (g.1 224 2)) 0 1).bind fun q5 =>
    if q5.2 = true then
      (Mo_number q5.1 (63 + (g.1 224 2)) 0 1).bind fun q8 =>
      if q8.2 = true then
        some (am_wr q8.1 224 2 ((q8.1.1 224 2) + 1), true)
      else
      some (q8.1, false)
    else
    some (q5.1, false)
  else
  some (q2.1, false)
def Mo_readsItem (g : am_G) : Option (am_G × Bool) :=
  if (if (g.1 221 11) = 1 then g.1 221 13 else 0 : Int32) = 119 then
    (Mo_readsWalker g).bind fun q4 =>
    some (q4.1, q4.2)
  else
  if (if (g.1 221 11) = 1 then g.1 221 13 else 0 : Int32) = 116 then
    (Mo_readsThing g).bind fun q7 =>
    some (q7.1, q7.2)
  else
  if (if (g.1 221 11) = 1 then g.1 221 13 else 0 : Int32) = 115 then
    (Mo_readsStage g).bind fun q10 =>
    if q10.2 = true then
      some (q10.1, true)
    else
    some (q10.1, false)
  else
  some (g, false)
def Mo_reads_L2 (n : Nat) (g : am_G) (x1 : Int32) : Option (am_G) := match n with
  | 0 => none
  | n + 1 =>
    if 71 ≤ x1 then
      some g
    else
    if am_in x1 71 = true then
    Mo_reads_L2 n (am_wr g 224 x1.toNatClampNeg 0) (x1 + 1)
    else none
def Mo_reads_L30 (n : Nat) (g : am_G) : Option (((am_G) ⊕ (am_G × Bool))) := match n with
  | 0 => none
  | n + 1 =>
    if (g.1 221 11) = 0 then
      some (.inl g)
    else
    (Mo_readsItem g).bind fun q7 =>
    if q7.2 = true then
      (Mo_token q7.1).bind fun q10 =>
      if (q10.1 221 11) = 3 then
        (Mo_token (am_wr q10 224 3 ((q10.1 224 3) + 1))).bind fun q13 =>
        Mo_reads_L30 n q13
      else
      some (.inr (q10, false))
    else
    some (.inr (q7.1, false))
def Mo_reads (g : am_G) : Option (am_G × Bool) :=
  (Mo_reads_L2 am_fuel g 0).bind fun q3 =>
  (Mo_token (am_wr q3 221 10 0)).bind fun q4 =>
  (Mo_reads_L30 am_fuel q4).bind fun q15 =>
  match q15 with
  | .inr w => some w
  | .inl w16 =>
  some (w16, true)
def Mo_tells_L2 (n : Nat) (g : am_G) (x1 : Int32) : Option (am_G) := match n with
  | 0 => none
  | n + 1 =>
    if 71 ≤ x1 then
      some g
    else
    if am_in x1 71 = true then
    Mo_tells_L2 n (am_wr g 223 x1.toNatClampNeg (g.1 224 x1.toNatClampNeg)) (x1 + 1)
    else none
def Mo_tells_L28 (n : Nat) (g : am_G) (x1 : Int32) : Option (am_G) := match n with
  | 0 => none
  | n + 1 =>
    if 320 ≤ x1 then
      some g
    else
    if am_in x1 320 = true then
    Mo_tells_L28 n (am_wr g 225 x1.toNatClampNeg 0) (x1 + 1)
    else none
def Mo_tells_L50 (n : Nat) (g : am_G) (x1 : Int32) : Option (am_G) := match n with
  | 0 => none
  | n + 1 =>
    if 7 ≤ x1 then
      some g
    else
    (
      if (g.1 223 1) ≤ x1 then
        some 9
      else
      if am_in (40 + x1) 71 = true then
      some (g.1 223 (40 + x1).toNatClampNeg)
      else none).bind fun (q10 : Int32) =>
    if am_in (8 + x1) 320 = true then
    if am_in (12 + x1) 71 = true then
    if am_in (15 + x1) 320 = true then
    Mo_tells_L50 n (am_wr (am_wr g 225 (8 + x1).toNatClampNeg q10) 225 (15 + x1).toNatClampNeg ((am_wr g 225 (8 + x1).toNatClampNeg q10).1 223 (12 + x1).toNatClampNeg)) (x1 + 1)
    else none
    else none
    else none
def Mo_tells (g : am_G) : Option am_G :=
  (Mo_tells_L2 am_fuel g 0).bind fun q3 =>
  (Mo_tells_L28 am_fuel q3 0).bind fun q6 =>
  (Mo_tells_L50 am_fuel q6 0).bind fun q14 =>
  some (am_wr (am_wr (am_wr q14 221 9 0) 227 0 0) 227 1 0)
def Tb_isWithin (g : am_G) (x0 : Int32) (x1 : Int32) (x2 : Int32) : Option Bool :=
  if x0 < x1 then
    some false
  else
  if x2 < x0 then
    some false
  else
  some true
def Tx_takes (g : am_G) (x1 : Int32) : Option (am_G × Bool) :=
  if (g.1 1 1) < 200 then
    if am_in (g.1 1 1) 200 = true then
    some (am_wr (am_wr g 2 (g.1 1 1).toNatClampNeg x1) 1 1 (((am_wr g 2 (g.1 1 1).toNatClampNeg x1).1 1 1) + 1), true)
    else none
  else
  some (g, false)
def Tb_type (g : am_G) (x1 : Int32) : Option (am_G × Int32) :=
  (Tb_isWithin g x1 0 255).bind fun q1 =>
  if q1 = true then
    (Tx_takes g x1).bind fun q4 =>
    if q4.2 = true then
      some (q4.1, q4.1.1 1 1)
    else
    some (q4.1, (-3))
  else
  some (g, (-1))
def Tb_clear (g : am_G) : Option (am_G × Int32) :=
  some (am_wr g 1 1 0, g.1 1 1)
def Tx_isLetter (g : am_G) (x0 : Int32) : Option Bool :=
  if x0 < 97 then
    some false
  else
  if 122 < x0 then
    some false
  else
  some true
def Tx_readLetters_L0 (n : Nat) (g : am_G) : Option (am_G) := match n with
  | 0 => none
  | n + 1 =>
    if (g.1 1 1) ≤ (g.1 1 4) then
      some g
    else
    if am_in (g.1 1 4) 200 = true then
    (Tx_isLetter g (g.1 2 (g.1 1 4).toNatClampNeg)).bind fun q3 =>
    if q3 = true then
      Tx_readLetters_L0 n (am_wr g 1 4 ((g.1 1 4) + 1))
    else
    some g
    else none
def Tx_readLetters (g : am_G) : Option am_G :=
  (Tx_readLetters_L0 am_fuel g).bind fun q6 =>
  if (((am_wr q6 1 2 1).1 1 4) - ((am_wr q6 1 2 1).1 1 3)) = 1 then
    if am_in ((am_wr q6 1 2 1).1 1 3) 200 = true then
    some (am_wr (am_wr q6 1 2 1) 1 5 ((am_wr q6 1 2 1).1 2 ((am_wr q6 1 2 1).1 1 3).toNatClampNeg))
    else none
  else
  some (am_wr (am_wr q6 1 2 1) 1 5 0)
def Tx_isDigit (g : am_G) (x0 : Int32) : Option Bool :=
  if x0 < 48 then
    some false
  else
  if 57 < x0 then
    some false
  else
  some true
def Tx_readNumber_L0 (n : Nat) (g : am_G) : Option (am_G) := match n with
  | 0 => none
  | n + 1 =>
    if (g.1 1 1) ≤ (g.1 1 4) then
      some g
    else
    if am_in (g.1 1 4) 200 = true then
    (Tx_isDigit g (g.1 2 (g.1 1 4).toNatClampNeg)).bind fun q3 =>
    if q3 = true then
      Tx_readNumber_L0 n (am_wr (am_wr g 1 5 (if (g.1 1 5) ≤ 99 then ((10 * (g.1 1 5)) + (g.1 2 (g.1 1 4).toNatClampNeg)) - 48 else g.1 1 5 : Int32)) 1 4 (((am_wr g 1 5 (if (g.1 1 5) ≤ 99 then ((10 * (g.1 1 5)) + (g.1 2 (g.1 1 4).toNatClampNeg)) - 48 else g.1 1 5 : Int32)).1 1 4) + 1))
    else
    some g
    else none
def Tx_readNumber (g : am_G) : Option am_G :=
  (Tx_readNumber_L0 am_fuel g).bind fun q8 =>
  if am_in (q8.1 1 3) 200 = true then
  if 99 < (q8.1 1 5) then
    some (am_wr q8 1 2 4)
  else
  if (if (q8.1 2 (q8.1 1 3).toNatClampNeg) = 48 then if ((q8.1 1 4) - (q8.1 1 3)) ≤ 1 then 0 else 1 else 0 : Int32) = 0 then
    some (am_wr q8 1 2 2)
  else
  some (am_wr q8 1 2 4)
  else none
def Tx_toNextToken_L8 (n : Nat) (g : am_G) : Option (am_G) := match n with
  | 0 => none
  | n + 1 =>
    if (g.1 1 1) ≤ (g.1 1 3) then
      some g
    else
    if am_in (g.1 1 3) 200 = true then
    if (g.1 2 (g.1 1 3).toNatClampNeg) = 32 then
      Tx_toNextToken_L8 n (am_wr g 1 3 ((g.1 1 3) + 1))
    else
    some g
    else none
def Tx_toNextToken (g : am_G) : Option am_G :=
  (Tx_toNextToken_L8 am_fuel (am_wr g 1 3 (g.1 1 4))).bind fun q4 =>
  if ((am_wr (am_wr q4 1 4 (q4.1 1 3)) 1 5 0).1 1 3) < ((am_wr (am_wr q4 1 4 (q4.1 1 3)) 1 5 0).1 1 1) then
    if am_in ((am_wr (am_wr q4 1 4 (q4.1 1 3)) 1 5 0).1 1 3) 200 = true then
    (Tx_isLetter (am_wr (am_wr q4 1 4 (q4.1 1 3)) 1 5 0) ((am_wr (am_wr q4 1 4 (q4.1 1 3)) 1 5 0).1 2 ((am_wr (am_wr q4 1 4 (q4.1 1 3)) 1 5 0).1 1 3).toNatClampNeg)).bind fun q7 =>
    if q7 = true then
      (Tx_readLetters (am_wr (am_wr q4 1 4 (q4.1 1 3)) 1 5 0)).bind fun q10 =>
      some q10
    else
    (Tx_isDigit (am_wr (am_wr q4 1 4 (q4.1 1 3)) 1 5 0) ((am_wr (am_wr q4 1 4 (q4.1 1 3)) 1 5 0).1 2 ((am_wr (am_wr q4 1 4 (q4.1 1 3)) 1 5 0).1 1 3).toNatClampNeg)).bind fun q12 =>
    if q12 = true then
      (Tx_readNumber (am_wr (am_wr q4 1 4 (q4.1 1 3)) 1 5 0)).bind fun q15 =>
      some q15
    else
    some (am_wr (am_wr (am_wr (am_wr q4 1 4 (q4.1 1 3)) 1 5 0) 1 2 (if ((am_wr (am_wr q4 1 4 (q4.1 1 3)) 1 5 0).1 2 ((am_wr (am_wr q4 1 4 (q4.1 1 3)) 1 5 0).1 1 3).toNatClampNeg) = 59 then 3 else 4 : Int32)) 1 4 (((am_wr (am_wr (am_wr q4 1 4 (q4.1 1 3)) 1 5 0) 1 2 (if ((am_wr (am_wr q4 1 4 (q4.1 1 3)) 1 5 0).1 2 ((am_wr (am_wr q4 1 4 (q4.1 1 3)) 1 5 0).1 1 3).toNatClampNeg) = 59 then 3 else 4 : Int32)).1 1 3) + 1))
    else none
  else
  some (am_wr (am_wr (am_wr q4 1 4 (q4.1 1 3)) 1 5 0) 1 2 0)
def Tx_toFirstToken (g : am_G) : Option am_G :=
  (Tx_toNextToken (am_wr g 1 4 0)).bind fun q1 =>
  some q1
def Re_number (g : am_G) (x1 : Int32) (x2 : Int32) : Option (am_G × Int32) :=
  if (g.1 14 2) = 0 then
    if (g.1 1 2) = 2 then
      (Tb_isWithin g (g.1 1 5) x1 x2).bind fun q3 =>
      if q3 = true then
        (Tx_toNextToken g).bind fun q6 =>
        some (q6, g.1 1 5)
      else
      some (am_wr g 14 2 1, 0)
    else
    some (am_wr g 14 2 1, 0)
  else
  some (am_wr g 14 2 1, 0)
def Re_endItem (g : am_G) : Option am_G :=
  if (g.1 14 2) = 0 then
    if (g.1 1 2) = 3 then
      (Tx_toNextToken g).bind fun q3 =>
      some q3
    else
    some (am_wr g 14 2 1)
  else
  some (am_wr g 14 2 1)
def Re_readStage (g : am_G) (x1 : Int32) : Option am_G :=
  (Tx_toNextToken g).bind fun q1 =>
  (Re_number q1 1 20).bind fun q3 =>
  if am_in x1 8 = true then
  (Re_number (am_wr q3.1 23 x1.toNatClampNeg q3.2) 0 1).bind fun q6 =>
  (Re_number (am_wr q6.1 24 x1.toNatClampNeg q6.2) 0 1).bind fun q8 =>
  (Re_endItem (am_wr (am_wr q8.1 25 x1.toNatClampNeg q8.2) 15 9 (((am_wr q8.1 25 x1.toNatClampNeg q8.2).1 15 9) + 1))).bind fun q10 =>
  some q10
  else none
def Re_readThing (g : am_G) (x1 : Int32) : Option am_G :=
  (Tx_toNextToken g).bind fun q1 =>
  (Re_number q1 1 20).bind fun q3 =>
  if am_in x1 7 = true then
  (Re_number (am_wr q3.1 18 x1.toNatClampNeg q3.2) 0 9).bind fun q6 =>
  (Re_number (am_wr q6.1 19 x1.toNatClampNeg q6.2) 0 1).bind fun q8 =>
  (Re_number (am_wr q8.1 20 x1.toNatClampNeg q8.2) 0 3).bind fun q10 =>
  (Re_number (am_wr q10.1 21 x1.toNatClampNeg q10.2) 0 (((am_wr q10.1 21 x1.toNatClampNeg q10.2).1 15 0) - 1)).bind fun q12 =>
  (Re_endItem (am_wr (am_wr q12.1 22 x1.toNatClampNeg q12.2) 15 3 (((am_wr q12.1 22 x1.toNatClampNeg q12.2).1 15 3) + 1))).bind fun q14 =>
  some q14
  else none
def Re_readWalker (g : am_G) (x1 : Int32) : Option am_G :=
  (Tx_toNextToken g).bind fun q1 =>
  (Re_number q1 1 40).bind fun q3 =>
  if am_in x1 4 = true then
  (Re_number (am_wr q3.1 16 x1.toNatClampNeg q3.2) 0 5).bind fun q6 =>
  (Re_endItem (am_wr (am_wr q6.1 17 x1.toNatClampNeg q6.2) 15 0 (((am_wr q6.1 17 x1.toNatClampNeg q6.2).1 15 0) + 1))).bind fun q8 =>
  some q8
  else none
def Re_readItem (g : am_G) : Option am_G :=
  if (if (g.1 1 2) = 1 then g.1 1 5 else 0 : Int32) = 119 then
    if 4 ≤ (g.1 15 0) then
      if (if (g.1 1 2) = 1 then g.1 1 5 else 0 : Int32) = 116 then
        if 7 ≤ (g.1 15 3) then
          if (if (g.1 1 2) = 1 then g.1 1 5 else 0 : Int32) = 115 then
            if 8 ≤ (g.1 15 9) then
              some (am_wr g 14 2 1)
            else
            (Re_readStage g (g.1 15 9)).bind fun q9 =>
            some q9
          else
          some (am_wr g 14 2 1)
        else
        (Re_readThing g (g.1 15 3)).bind fun q11 =>
        some q11
      else
      if (if (g.1 1 2) = 1 then g.1 1 5 else 0 : Int32) = 115 then
        if 8 ≤ (g.1 15 9) then
          some (am_wr g 14 2 1)
        else
        (Re_readStage g (g.1 15 9)).bind fun q15 =>
        some q15
      else
      some (am_wr g 14 2 1)
    else
    (Re_readWalker g (g.1 15 0)).bind fun q17 =>
    some q17
  else
  if (if (g.1 1 2) = 1 then g.1 1 5 else 0 : Int32) = 116 then
    if 7 ≤ (g.1 15 3) then
      if (if (g.1 1 2) = 1 then g.1 1 5 else 0 : Int32) = 115 then
        if 8 ≤ (g.1 15 9) then
          some (am_wr g 14 2 1)
        else
        (Re_readStage g (g.1 15 9)).bind fun q23 =>
        some q23
      else
      some (am_wr g 14 2 1)
    else
    (Re_readThing g (g.1 15 3)).bind fun q25 =>
    some q25
  else
  if (if (g.1 1 2) = 1 then g.1 1 5 else 0 : Int32) = 115 then
    if 8 ≤ (g.1 15 9) then
      some (am_wr g 14 2 1)
    else
    (Re_readStage g (g.1 15 9)).bind fun q29 =>
    some q29
  else
  some (am_wr g 14 2 1)
def Re_readAll_L40 (n : Nat) (g : am_G) (x1 : Int32) (x2 : Int32) : Option (am_G × Int32) := match n with
  | 0 => none
  | n + 1 =>
    if 200 ≤ x2 then
      some (g, x1)
    else
    if (g.1 1 2) = 0 then
      some (g, x1)
    else
    if (g.1 14 2) = 0 then
      (Re_readItem g).bind fun q6 =>
      Re_readAll_L40 n q6 (x1 + 1) (x2 + 1)
    else
    some (g, x1)
def Re_readAll (g : am_G) : Option (am_G × Int32) :=
  (Tx_toFirstToken (am_wr (am_wr (am_wr (am_wr g 15 0 0) 15 3 0) 15 9 0) 14 2 0)).bind fun q1 =>
  (Re_readAll_L40 am_fuel q1 0 0).bind fun q8 =>
  if (q8.1.1 14 2) = 0 then
    some (q8.1, q8.2)
  else
  some (q8.1, (-1))
def Ta_copyFrom (g : am_G) : Option am_G :=
  some (am_cp (am_cp (am_cp (am_wr (am_cp (am_cp (am_cp (am_cp (am_cp (am_wr (am_cp (am_cp (am_wr g 3 0 (g.1 15 0)) 16 4 0 0 4) 17 5 0 0 4) 3 3 ((am_cp (am_cp (am_wr g 3 0 (g.1 15 0)) 16 4 0 0 4) 17 5 0 0 4).1 15 3)) 18 6 0 0 7) 19 7 0 0 7) 20 8 0 0 7) 21 9 0 0 7) 22 10 0 0 7) 3 9 ((am_cp (am_cp (am_cp (am_cp (am_cp (am_wr (am_cp (am_cp (am_wr g 3 0 (g.1 15 0)) 16 4 0 0 4) 17 5 0 0 4) 3 3 ((am_cp (am_cp (am_wr g 3 0 (g.1 15 0)) 16 4 0 0 4) 17 5 0 0 4).1 15 3)) 18 6 0 0 7) 19 7 0 0 7) 20 8 0 0 7) 21 9 0 0 7) 22 10 0 0 7).1 15 9)) 23 11 0 0 8) 24 12 0 0 8) 25 13 0 0 8)
def Ca_begin_L63 (n : Nat) (g : am_G) (c : Nat) (x1 : Int32) : Option (am_G) := match n with
  | 0 => none
  | n + 1 =>
    if 4 ≤ x1 then
      some g
    else
    if am_in x1 4 = true then
    Ca_begin_L63 n (am_wr g (c + 3) x1.toNatClampNeg 0) c (x1 + 1)
    else none
def Ca_begin (g : am_G) (c : Nat) : Option am_G :=
  (Ca_begin_L63 am_fuel (am_cp (am_cp (am_wr (am_wr (am_wr (am_wr (am_wr g c 1 0) c 2 0) c 3 0) c 4 0) c 5 0) 10 (c + 1) 0 0 7) 6 (c + 2) 0 0 7) c 0).bind fun q3 =>
  some q3
def Jo_begin (g : am_G) (c : Nat) : Option am_G :=
  (Ca_begin g (c + 2)).bind fun q1 =>
  some (am_wr (am_wr q1 c 2 0) c 3 0)
def Tb_way_L62 (n : Nat) (g : am_G) (x1 : Int32) (x2 : Int32) : Option (am_G) := match n with
  | 0 => none
  | n + 1 =>
    if 2 ≤ x2 then
      some g
    else
    if am_in x2 2 = true then
    Tb_way_L62 n (am_wr g 73 x2.toNatClampNeg 0) x1 (x2 + 1)
    else none
def Tb_way (g : am_G) : Option (am_G × Int32) :=
  (Re_readAll g).bind fun q1 =>
  if 0 ≤ q1.2 then
    (Ta_copyFrom q1.1).bind fun q4 =>
    (Jo_begin (am_wr q4 1 1 0) 26).bind fun q6 =>
    (Tb_way_L62 am_fuel (am_wr q6 121 2 0) q1.2 0).bind fun q10 =>
    some (q10, q1.2)
  else
  some (q1.1, (-10) - (q1.1.1 1 3))
def Tb_isWalker (g : am_G) (x1 : Int32) : Option Bool :=
  (Tb_isWithin g x1 0 ((g.1 3 0) - 1)).bind fun q1 =>
  some q1
def Ca_isWet (g : am_G) (c : Nat) (x1 : Int32) : Option Bool :=
  if (((g.1 c 5) >>> (x1 &&& 31)) &&& 1) = 1 then
    some true
  else
  some false
def Ca_weight (g : am_G) (c : Nat) (x1 : Int32) : Option Int32 :=
  if am_in x1 7 = true then
  if (g.1 (c + 2) x1.toNatClampNeg) ≤ 0 then
    some (g.1 (c + 2) x1.toNatClampNeg)
  else
  (Ca_isWet g c x1).bind fun q3 =>
  if q3 = true then
    some ((g.1 (c + 2) x1.toNatClampNeg) + (g.1 7 x1.toNatClampNeg))
  else
  some (g.1 (c + 2) x1.toNatClampNeg)
  else none
def Ca_load_L4 (n : Nat) (g : am_G) (c : Nat) (x1 : Int32) (x2 : Int32) (x3 : Int32) : Option (Int32) := match n with
  | 0 => none
  | n + 1 =>
    if (g.1 3 3) ≤ x3 then
      some x2
    else
    if am_in x3 7 = true then
    (
      if (g.1 (c + 1) x3.toNatClampNeg) = x1 then
        (Ca_weight g c x3).bind fun q4 =>
        some (x2 + q4)
      else
      some x2).bind fun (q6 : Int32) =>
    Ca_load_L4 n g c x1 q6 (x3 + 1)
    else none
def Ca_load (g : am_G) (c : Nat) (x1 : Int32) : Option Int32 :=
  (Ca_load_L4 am_fuel g c x1 0 0).bind fun q7 =>
  some q7
def Ca_force (g : am_G) (c : Nat) (x1 : Int32) : Option Int32 :=
  if am_in x1 4 = true then
  some ((g.1 4 x1.toNatClampNeg) - (g.1 (c + 3) x1.toNatClampNeg))
  else none
def Ca_pace (g : am_G) (c : Nat) (x1 : Int32) (x2 : Int32) : Option Int32 :=
  (Ca_force g c x1).bind fun q1 =>
  some (am_mx 1 (am_mn 20 ((q1 - x2) + 10)))
def Ca_thingsWith_L4 (n : Nat) (g : am_G) (c : Nat) (x1 : Int32) (x2 : Int32) (x3 : Int32) : Option (Int32) := match n with
  | 0 => none
  | n + 1 =>
    if (g.1 3 3) ≤ x3 then
      some x2
    else
    if am_in x3 7 = true then
    Ca_thingsWith_L4 n g c x1 (if (g.1 (c + 1) x3.toNatClampNeg) = x1 then x2 ||| (1 <<< (x3 &&& 31)) else x2 : Int32) (x3 + 1)
    else none
def Ca_thingsWith (g : am_G) (c : Nat) (x1 : Int32) : Option Int32 :=
  (Ca_thingsWith_L4 am_fuel g c x1 0 0).bind fun q5 =>
  some q5
def Tb_walker (g : am_G) (x1 : Int32) (x2 : Int32) : Option Int32 :=
  (Tb_isWalker g x1).bind fun q1 =>
  if q1 = true then
    if x2 = 0 then
      if am_in x1 4 = true then
      some (g.1 4 x1.toNatClampNeg)
      else none
    else
    if x2 = 1 then
      if am_in x1 4 = true then
      some (g.1 5 x1.toNatClampNeg)
      else none
    else
    if x2 = 2 then
      if am_in x1 4 = true then
      some (g.1 (28 + 3) x1.toNatClampNeg)
      else none
    else
    if x2 = 3 then
      (Ca_load g 28 x1).bind fun q11 =>
      some q11
    else
    if x2 = 4 then
      (Ca_load g 28 x1).bind fun q14 =>
      (Ca_pace g 28 x1 q14).bind fun q16 =>
      some q16
    else
    if x2 = 5 then
      (Ca_thingsWith g 28 x1).bind fun q19 =>
      some q19
    else
    some (-1)
  else
  some (-1)
def Tb_isThing (g : am_G) (x1 : Int32) : Option Bool :=
  (Tb_isWithin g x1 0 ((g.1 3 3) - 1)).bind fun q1 =>
  some q1
def Tb_thing (g : am_G) (x1 : Int32) (x2 : Int32) : Option Int32 :=
  (Tb_isThing g x1).bind fun q1 =>
  if q1 = true then
    if x2 = 0 then
      if am_in x1 7 = true then
      some (g.1 6 x1.toNatClampNeg)
      else none
    else
    if x2 = 1 then
      if am_in x1 7 = true then
      some (g.1 7 x1.toNatClampNeg)
      else none
    else
    if x2 = 2 then
      if am_in x1 7 = true then
      some (g.1 8 x1.toNatClampNeg)
      else none
    else
    if x2 = 3 then
      if am_in x1 7 = true then
      some (g.1 9 x1.toNatClampNeg)
      else none
    else
    if x2 = 4 then
      if am_in x1 7 = true then
      some (g.1 (28 + 1) x1.toNatClampNeg)
      else none
    else
    if x2 = 5 then
      if am_in x1 7 = true then
      some (g.1 (28 + 2) x1.toNatClampNeg)
      else none
    else
    if x2 = 6 then
      (Ca_isWet g 28 x1).bind fun q17 =>
      if q17 = true then
        some 1
      else
      some 0
    else
    if x2 = 7 then
      (Ca_weight g 28 x1).bind fun q21 =>
      some q21
    else
    some (-1)
  else
  some (-1)
def Tb_stage (g : am_G) (x1 : Int32) (x2 : Int32) : Option Int32 :=
  (Tb_isWithin g x1 0 ((g.1 3 9) - 1)).bind fun q1 =>
  if q1 = true then
    if x2 = 0 then
      if am_in x1 8 = true then
      some (g.1 11 x1.toNatClampNeg)
      else none
    else
    if x2 = 1 then
      if am_in x1 8 = true then
      some (g.1 12 x1.toNatClampNeg)
      else none
    else
    if x2 = 2 then
      if am_in x1 8 = true then
      some (g.1 13 x1.toNatClampNeg)
      else none
    else
    some (-1)
  else
  some (-1)
def Ca_isCarried (g : am_G) (c : Nat) (x1 : Int32) : Option Bool :=
  if am_in x1 7 = true then
  if (g.1 (c + 1) x1.toNatClampNeg) = 9 then
    some false
  else
  some true
  else none
def Ca_canBeGiven (g : am_G) (c : Nat) (x1 : Int32) (x2 : Int32) : Option Bool :=
  (Ca_isCarried g c x1).bind fun q1 =>
  if q1 = true then
    if am_in x1 7 = true then
    if (g.1 (c + 1) x1.toNatClampNeg) = x2 then
      some false
    else
    some true
    else none
  else
  some false
def Ca_copyFrom (g : am_G) (c : Nat) (o : Nat) : Option am_G :=
  some (am_cp (am_cp (am_cp (am_wr (am_wr (am_wr (am_wr (am_wr g c 1 (g.1 o 1)) c 2 ((am_wr g c 1 (g.1 o 1)).1 o 2)) c 3 ((am_wr (am_wr g c 1 (g.1 o 1)) c 2 ((am_wr g c 1 (g.1 o 1)).1 o 2)).1 o 3)) c 4 ((am_wr (am_wr (am_wr g c 1 (g.1 o 1)) c 2 ((am_wr g c 1 (g.1 o 1)).1 o 2)) c 3 ((am_wr (am_wr g c 1 (g.1 o 1)) c 2 ((am_wr g c 1 (g.1 o 1)).1 o 2)).1 o 3)).1 o 4)) c 5 ((am_wr (am_wr (am_wr (am_wr g c 1 (g.1 o 1)) c 2 ((am_wr g c 1 (g.1 o 1)).1 o 2)) c 3 ((am_wr (am_wr g c 1 (g.1 o 1)) c 2 ((am_wr g c 1 (g.1 o 1)).1 o 2)).1 o 3)) c 4 ((am_wr (am_wr (am_wr g c 1 (g.1 o 1)) c 2 ((am_wr g c 1 (g.1 o 1)).1 o 2)) c 3 ((am_wr (am_wr g c 1 (g.1 o 1)) c 2 ((am_wr g c 1 (g.1 o 1)).1 o 2)).1 o 3)).1 o 4)).1 o 5)) (o + 1) (c + 1) 0 0 7) (o + 2) (c + 2) 0 0 7) (o + 3) (c + 3) 0 0 4)
def Jo_remember (g : am_G) (c : Nat) : Option am_G :=
  if am_in (g.1 c 3) 10 = true then
  (Ca_copyFrom g (c + 6 + 4 * (g.1 c 3).toNatClampNeg) (c + 2)).bind fun q2 =>
  some (am_wr (am_wr q2 c 3 (((q2.1 c 3) + 1) - ((q2.1 c 3) + 1) / 10 * 10)) c 2 (am_mn 10 (((am_wr q2 c 3 (((q2.1 c 3) + 1) - ((q2.1 c 3) + 1) / 10 * 10)).1 c 2) + 1)))
  else none
def Tb_gives (g : am_G) (x1 : Int32) (x2 : Int32) : Option (am_G × Int32) :=
  (Tb_isThing g x1).bind fun q1 =>
  if q1 = true then
    (Tb_isWalker g x2).bind fun q4 =>
    if q4 = true then
      (Ca_canBeGiven g 28 x1 x2).bind fun q7 =>
      if q7 = true then
        (Jo_remember g 26).bind fun q10 =>
        if am_in x1 7 = true then
        some (am_wr (am_wr q10 (28 + 1) x1.toNatClampNeg x2) 28 4 (((am_wr q10 (28 + 1) x1.toNatClampNeg x2).1 28 4) + 1), q10.1 (28 + 1) x1.toNatClampNeg)
        else none
      else
      some (g, (-2))
    else
    some (g, (-1))
  else
  some (g, (-1))
def Ca_isAtHut (g : am_G) (c : Nat) : Option Bool :=
  if (g.1 c 1) ≤ 0 then
    some true
  else
  if (g.1 3 9) < (g.1 c 1) then
    some false
  else
  if am_in ((g.1 c 1) - 1) 8 = true then
  if (g.1 13 ((g.1 c 1) - 1).toNatClampNeg) = 1 then
    some true
  else
  some false
  else none
def Tb_leaves (g : am_G) (x1 : Int32) : Option (am_G × Int32) :=
  (Tb_isThing g x1).bind fun q1 =>
  if q1 = true then
    (Ca_isCarried g 28 x1).bind fun q4 =>
    if q4 = true then
      (Ca_isAtHut g 28).bind fun q7 =>
      if q7 = true then
        (Jo_remember g 26).bind fun q10 =>
        if am_in x1 7 = true then
        some (am_wr q10 (28 + 1) x1.toNatClampNeg 9, q10.1 (28 + 1) x1.toNatClampNeg)
        else none
      else
      some (g, (-2))
    else
    some (g, (-2))
  else
  some (g, (-1))
def Ca_hasStage (g : am_G) (c : Nat) : Option Bool :=
  if (g.1 3 9) ≤ (g.1 c 1) then
    some false
  else
  some true
def Ta_rains (g : am_G) (x1 : Int32) : Option Bool :=
  if x1 < 0 then
    some false
  else
  if (g.1 3 9) ≤ x1 then
    some false
  else
  if am_in x1 8 = true then
  if (g.1 12 x1.toNatClampNeg) = 1 then
    some true
  else
  some false
  else none
def Ca_soak_L2 (n : Nat) (g : am_G) (c : Nat) (x1 : Int32) : Option (am_G) := match n with
  | 0 => none
  | n + 1 =>
    if (g.1 3 3) ≤ x1 then
      some g
    else
    (Ca_isCarried g c x1).bind fun q2 =>
    Ca_soak_L2 n (if q2 = true then am_wr g c 5 ((g.1 c 5) ||| (1 <<< (x1 &&& 31))) else g) c (x1 + 1)
def Ca_soak (g : am_G) (c : Nat) : Option am_G :=
  (Ca_soak_L2 am_fuel g c 0).bind fun q6 =>
  some q6
def Ca_minutesFor (g : am_G) (c : Nat) (x1 : Int32) (x2 : Int32) (x3 : Int32) : Option Int32 :=
  (Ca_pace g c x1 x2).bind fun q1 =>
  if 1 ≤ q1 then
    if ¬ q1 = 0 then
    some ((((60 * x3) + q1) - 1) / q1)
    else none
  else
  some 0
def Ca_tire (g : am_G) (c : Nat) (x1 : Int32) (x2 : Int32) : Option am_G :=
  (Ca_force g c x1).bind fun q1 =>
  if x2 ≤ q1 then
    if am_in x1 4 = true then
    some (am_wr g (c + 3) x1.toNatClampNeg (am_mx 0 ((g.1 (c + 3) x1.toNatClampNeg) - (g.1 5 x1.toNatClampNeg))))
    else none
  else
  if am_in x1 4 = true then
  some (am_wr g (c + 3) x1.toNatClampNeg (am_mn 20 ((g.1 (c + 3) x1.toNatClampNeg) + 2)))
  else none
def Ca_march_L20 (n : Nat) (g : am_G) (c : Nat) (x2 : Int32) (x3 : Int32) : Option (am_G × Int32) := match n with
  | 0 => none
  | n + 1 =>
    if (g.1 3 0) ≤ x3 then
      some (g, x2)
    else
    (Ca_load g c x3).bind fun q9 =>
    if am_in (g.1 c 1) 8 = true then
    (Ca_minutesFor g c x3 q9 (g.1 11 (g.1 c 1).toNatClampNeg)).bind fun q12 =>
    (Ca_tire g c x3 q9).bind fun q14 =>
    Ca_march_L20 n q14 c (am_mx x2 q12) (x3 + 1)
    else none
def Ca_march (g : am_G) (c : Nat) (x1 : Int32) : Option am_G :=
  (Ca_hasStage g c).bind fun q1 =>
  if q1 = true then
    (
      if x1 = 0 then
        some g
      else
      (Ca_soak g c).bind fun q5 =>
      some q5).bind fun (q7 : am_G) =>
    (Ca_march_L20 am_fuel q7 c 0 0).bind fun q16 =>
    some (am_wr q16.1 c 2 ((q16.1.1 c 2) + q16.2))
  else
  some g
def Ca_feed_x_L16 (n : Nat) (g : am_G) (c : Nat) (x2 : Int32) (x3 : Int32) (x4 : Int32) (x5 : Int32) : Option (am_G × Int32 × Int32) := match n with
  | 0 => none
  | n + 1 =>
    if x2 ≤ x5 then
      some (g, x3, x4)
    else
    if x3 ≤ 0 then
      some (g, x3, x4)
    else
    if am_in x5 7 = true then
    if am_in (nI x5.toNatClampNeg) 7 = true then
    (
      if (g.1 8 (nI x5.toNatClampNeg).toNatClampNeg) = 1 then
        (Ca_isCarried g c (nI x5.toNatClampNeg)).bind fun q6 =>
        if q6 = true then
          if (g.1 (c + 2) (nI x5.toNatClampNeg).toNatClampNeg) ≤ 0 then
            some (g, x3, x4)
          else
          some (am_wr g (c + 2) (nI x5.toNatClampNeg).toNatClampNeg ((g.1 (c + 2) (nI x5.toNatClampNeg).toNatClampNeg) - (am_mn x3 (g.1 (c + 2) (nI x5.toNatClampNeg).toNatClampNeg))), x3 - (am_mn x3 (g.1 (c + 2) (nI x5.toNatClampNeg).toNatClampNeg)), x5 + 1)
        else
        some (g, x3, x4)
      else
      some (g, x3, x4)).bind fun (q10 : am_G × Int32 × Int32) =>
    Ca_feed_x_L16 n q10.1 c x2 q10.2.1 q10.2.2 (x5 + 1)
    else none
    else none
def Ca_feed_x (g : am_G) (c : Nat) (x2 : Int32) : Option (am_G × Int32) :=
  (Ca_feed_x_L16 am_fuel g c x2 (2 * (g.1 3 0)) 0 0).bind fun q11 =>
  some (am_wr q11.1 c 3 ((q11.1.1 c 3) + q11.2.1), q11.2.2)
def Ca_settle (g : am_G) (c : Nat) (x1 : Int32) : Option am_G :=
  some (am_wr (if x1 = 0 then am_wr g c 5 0 else g) c 1 (((if x1 = 0 then am_wr g c 5 0 else g).1 c 1) + 1))
def Ca_pass (g : am_G) (c : Nat) (x1 : Int32) : Option am_G :=
  (Ca_march g c x1).bind fun q1 =>
  (Ca_feed_x q1 c (q1.1 3 3)).bind fun q3 =>
  (Ca_settle q3.1 c x1).bind fun q5 =>
  some q5
def Tb_goes (g : am_G) : Option (am_G × Int32) :=
  (Ca_hasStage g 28).bind fun q1 =>
  if q1 = true then
    (Jo_remember g 26).bind fun q4 =>
    (Ta_rains q4 (q4.1 28 1)).bind fun q6 =>
    (Ca_pass q4 28 (am_b q6)).bind fun q8 =>
    some (q8, (q8.1 28 2) - (q4.1 28 2))
  else
  some (g, (-2))
def Jo_takeBack (g : am_G) (c : Nat) : Option (am_G × Bool) :=
  if (g.1 c 2) = 0 then
    some (g, false)
  else
  if am_in ((am_wr (am_wr g c 3 ((((g.1 c 3) + 10) - 1) - (((g.1 c 3) + 10) - 1) / 10 * 10)) c 2 (((am_wr g c 3 ((((g.1 c 3) + 10) - 1) - (((g.1 c 3) + 10) - 1) / 10 * 10)).1 c 2) - 1)).1 c 3) 10 = true then
  (Ca_copyFrom (am_wr (am_wr g c 3 ((((g.1 c 3) + 10) - 1) - (((g.1 c 3) + 10) - 1) / 10 * 10)) c 2 (((am_wr g c 3 ((((g.1 c 3) + 10) - 1) - (((g.1 c 3) + 10) - 1) / 10 * 10)).1 c 2) - 1)) (c + 2) (c + 6 + 4 * ((am_wr (am_wr g c 3 ((((g.1 c 3) + 10) - 1) - (((g.1 c 3) + 10) - 1) / 10 * 10)) c 2 (((am_wr g c 3 ((((g.1 c 3) + 10) - 1) - (((g.1 c 3) + 10) - 1) / 10 * 10)).1 c 2) - 1)).1 c 3).toNatClampNeg)).bind fun q3 =>
  some (q3, true)
  else none
def Tb_undo (g : am_G) : Option (am_G × Int32) :=
  (Jo_takeBack g 26).bind fun q1 =>
  if q1.2 = true then
    some (q1.1, q1.1.1 26 2)
  else
  some (q1.1, (-2))
def Ca_spread_L9 (n : Nat) (g : am_G) (c : Nat) (x1 : Int32) (x2 : Int32) (x3 : Int32) (x4 : Int32) : Option (Int32 × Int32) := match n with
  | 0 => none
  | n + 1 =>
    if (g.1 3 0) ≤ x4 then
      some (x2, x3)
    else
    (
      if x1 = 0 then
        (Ca_load g c x4).bind fun q3 =>
        some q3
      else
      (Ca_load g c x4).bind fun q5 =>
      (Ca_force g c x4).bind fun q7 =>
      some (q5 - q7)).bind fun (q9 : Int32) =>
    Ca_spread_L9 n g c x1 (am_mx x2 q9) (am_mn x3 q9) (x4 + 1)
def Ca_spread (g : am_G) (c : Nat) (x1 : Int32) : Option Int32 :=
  (Ca_spread_L9 am_fuel g c x1 (-1000000000) 1000000000 0).bind fun q10 =>
  if (g.1 3 0) = 0 then
    some 0
  else
  some (q10.1 - q10.2)
def Ca_parted_L17 (n : Nat) (g : am_G) (c : Nat) (x1 : Int32) (x2 : Int32) (x3 : Int32) : Option (Int32) := match n with
  | 0 => none
  | n + 1 =>
    if x2 ≤ x3 then
      some x1
    else
    if am_in x2 7 = true then
    (
      if (g.1 9 x2.toNatClampNeg) ≤ 0 then
        some x1
      else
      if am_in x3 7 = true then
      if (g.1 9 x2.toNatClampNeg) = (g.1 9 x3.toNatClampNeg) then
        if (g.1 (c + 1) x2.toNatClampNeg) = (g.1 (c + 1) x3.toNatClampNeg) then
          some x1
        else
        some (x1 ||| (1 <<< ((g.1 9 x2.toNatClampNeg) &&& 31)))
      else
      some x1
      else none).bind fun (q8 : Int32) =>
    Ca_parted_L17 n g c q8 x2 (x3 + 1)
    else none
def Ca_parted_L4 (n : Nat) (g : am_G) (c : Nat) (x1 : Int32) (x2 : Int32) : Option (Int32) := match n with
  | 0 => none
  | n + 1 =>
    if (g.1 3 3) ≤ x2 then
      some x1
    else
    (Ca_parted_L17 am_fuel g c x1 x2 0).bind fun q9 =>
    Ca_parted_L4 n g c q9 (x2 + 1)
def Ca_parted (g : am_G) (c : Nat) : Option Int32 :=
  (Ca_parted_L4 am_fuel g c 0 0).bind fun q10 =>
  some q10
def Tb_now (g : am_G) (x1 : Int32) : Option Int32 :=
  if x1 = 0 then
    some (g.1 28 1)
  else
  if x1 = 1 then
    some (g.1 28 2)
  else
  if x1 = 2 then
    some (g.1 28 3)
  else
  if x1 = 3 then
    (Ca_isAtHut g 28).bind fun q5 =>
    if q5 = true then
      some 1
    else
    some 0
  else
  if x1 = 4 then
    (Ca_spread g 28 0).bind fun q9 =>
    some q9
  else
  if x1 = 5 then
    (Ca_spread g 28 1).bind fun q12 =>
    some q12
  else
  if x1 = 6 then
    (Ca_parted g 28).bind fun q15 =>
    some q15
  else
  if x1 = 7 then
    some (g.1 28 4)
  else
  some (-1)
def Tb_isEither (g : am_G) (x0 : Int32) : Option Bool :=
  if x0 = 0 then
    some true
  else
  if x0 = 1 then
    some true
  else
  some false
def Ah_setOut (g : am_G) : Option am_G :=
  (Ca_copyFrom g 85 28).bind fun q1 =>
  some (am_wr (am_wr q1 85 2 0) 85 3 0)
def Ah_end_L11 (n : Nat) (g : am_G) (x3 : Int32) : Option (am_G) := match n with
  | 0 => none
  | n + 1 =>
    if (g.1 3 9) ≤ x3 then
      some g
    else
    (Ta_rains g x3).bind fun q4 =>
    (Ca_pass g 85 (am_b q4)).bind fun q6 =>
    Ah_end_L11 n q6 (x3 + 1)
def Ah_end (g : am_G) : Option am_G :=
  (Ah_setOut g).bind fun q1 =>
  (Ah_end_L11 am_fuel q1 (q1.1 85 1)).bind fun q8 =>
  some q8
def Tb_rest (g : am_G) (x1 : Int32) : Option (am_G × Int32) :=
  (Tb_isEither g x1).bind fun q1 =>
  if q1 = true then
    (Ah_end g).bind fun q4 =>
    if x1 = 0 then
      some (q4, q4.1 85 2)
    else
    some (q4, q4.1 85 3)
  else
  some (g, (-1))
def Ah_findSpent_L40 (n : Nat) (g : am_G) (x3 : Int32) (x4 : Int32) : Option (((Unit) ⊕ (am_G × Bool))) := match n with
  | 0 => none
  | n + 1 =>
    if (g.1 3 0) ≤ x4 then
      some (.inl ())
    else
    (Ca_load g 85 x4).bind fun q11 =>
    (Ca_pace g 85 x4 q11).bind fun q13 =>
    if q13 = 1 then
      some (.inr (am_wr (am_wr g 81 2 x4) 81 3 x3, true))
    else
    Ah_findSpent_L40 n g x3 (x4 + 1)
def Ah_findSpent_L11 (n : Nat) (g : am_G) (x3 : Int32) : Option (((am_G) ⊕ (am_G × Bool))) := match n with
  | 0 => none
  | n + 1 =>
    if (g.1 3 9) ≤ x3 then
      some (.inl g)
    else
    (Ta_rains g x3).bind fun q4 =>
    (
      if q4 = true then
        (Ca_soak g 85).bind fun q7 =>
        some q7
      else
      some g).bind fun (q9 : am_G) =>
    (Ah_findSpent_L40 am_fuel q9 x3 0).bind fun q16 =>
    match q16 with
    | .inr w => some (.inr w)
    | .inl w17 =>
    (Ta_rains q9 x3).bind fun q18 =>
    (Ca_pass q9 85 (am_b q18)).bind fun q20 =>
    Ah_findSpent_L11 n q20 (x3 + 1)
def Ah_findSpent (g : am_G) : Option (am_G × Bool) :=
  (Ah_setOut g).bind fun q1 =>
  (Ah_findSpent_L11 am_fuel q1 (q1.1 85 1)).bind fun q22 =>
  match q22 with
  | .inr w => some w
  | .inl w23 =>
  some (w23, false)
def Tb_spent (g : am_G) (x1 : Int32) : Option (am_G × Int32) :=
  (Tb_isEither g x1).bind fun q1 =>
  if q1 = true then
    (Ah_findSpent g).bind fun q4 =>
    if q4.2 = true then
      if x1 = 0 then
        some (q4.1, q4.1.1 81 2)
      else
      some (q4.1, q4.1.1 81 3)
    else
    some (q4.1, (-9))
  else
  some (g, (-1))
def To_wake (g : am_G) : Option (am_G × Bool) :=
  (Ca_hasStage g 28).bind fun q1 =>
  if q1 = true then
    (Ca_copyFrom g 77 28).bind fun q4 =>
    (Ta_rains q4 (q4.1 77 1)).bind fun q6 =>
    (
      if q6 = true then
        (Ca_soak q4 77).bind fun q9 =>
        some q9
      else
      some q4).bind fun (q11 : am_G) =>
    if am_in (q11.1 77 1) 8 = true then
    some (am_wr q11 74 2 (q11.1 11 (q11.1 77 1).toNatClampNeg), true)
    else none
  else
  some (g, false)
def To_judge_L8 (n : Nat) (g : am_G) (x1 : Int32) (x2 : Int32) (x3 : Int32) (x4 : Int32) : Option (Int32 × Int32) := match n with
  | 0 => none
  | n + 1 =>
    if (g.1 3 0) ≤ x4 then
      some (x2, x3)
    else
    if am_in x4 4 = true then
    To_judge_L8 n g x1 (am_mx x2 (g.1 76 x4.toNatClampNeg)) (am_mn x3 (g.1 76 x4.toNatClampNeg)) (x4 + 1)
    else none
def To_judge (g : am_G) (x1 : Int32) : Option am_G :=
  (To_judge_L8 am_fuel g x1 0 1000000000 0).bind fun q3 =>
  if x1 < (g.1 74 3) then
    some (am_cp (am_wr (am_wr g 74 3 x1) 74 4 (q3.1 - q3.2)) (77 + 1) 75 0 0 7)
  else
  if x1 = (g.1 74 3) then
    if (g.1 74 4) ≤ (q3.1 - q3.2) then
      some g
    else
    some (am_cp (am_wr (am_wr g 74 3 x1) 74 4 (q3.1 - q3.2)) (77 + 1) 75 0 0 7)
  else
  some g
def To_canBeBetter (g : am_G) (x1 : Int32) (x2 : Int32) : Option Bool :=
  if x1 < (g.1 74 3) then
    some true
  else
  if x1 = (g.1 74 3) then
    if (g.1 3 0) ≤ 0 then
      some false
    else
    if ¬ (g.1 3 0) = 0 then
    if (g.1 74 4) ≤ (x2 - ((g.1 74 7) / (g.1 3 0))) then
      some false
    else
    some true
    else none
  else
  some false
def To_place_L55 (n : Nat) (rec : am_G → Int32 → Int32 → Option am_G) (g : am_G) (x1 : Int32) (x2 : Int32) (x3 : Int32) (x4 : Int32) : Option (am_G) := match n with
  | 0 => none
  | n + 1 =>
    if (g.1 3 0) ≤ x4 then
      some g
    else
    if am_in x1 7 = true then
    if am_in x4 4 = true then
    (Ca_minutesFor (am_wr (am_wr g (77 + 1) x1.toNatClampNeg x4) 76 x4.toNatClampNeg (((am_wr g (77 + 1) x1.toNatClampNeg x4).1 76 x4.toNatClampNeg) + x3)) 77 x4 ((am_wr (am_wr g (77 + 1) x1.toNatClampNeg x4) 76 x4.toNatClampNeg (((am_wr g (77 + 1) x1.toNatClampNeg x4).1 76 x4.toNatClampNeg) + x3)).1 76 x4.toNatClampNeg) ((am_wr (am_wr g (77 + 1) x1.toNatClampNeg x4) 76 x4.toNatClampNeg (((am_wr g (77 + 1) x1.toNatClampNeg x4).1 76 x4.toNatClampNeg) + x3)).1 74 2)).bind fun q13 =>
    (To_canBeBetter (am_wr (am_wr g (77 + 1) x1.toNatClampNeg x4) 76 x4.toNatClampNeg (((am_wr g (77 + 1) x1.toNatClampNeg x4).1 76 x4.toNatClampNeg) + x3)) (am_mx x2 q13) ((am_wr (am_wr g (77 + 1) x1.toNatClampNeg x4) 76 x4.toNatClampNeg (((am_wr g (77 + 1) x1.toNatClampNeg x4).1 76 x4.toNatClampNeg) + x3)).1 76 x4.toNatClampNeg)).bind fun q15 =>
    (
      if q15 = true then
        (rec (am_wr (am_wr g (77 + 1) x1.toNatClampNeg x4) 76 x4.toNatClampNeg (((am_wr g (77 + 1) x1.toNatClampNeg x4).1 76 x4.toNatClampNeg) + x3)) (x1 + 1) (am_mx x2 q13)).bind fun q18 =>
        some q18
      else
      some (am_wr (am_wr g (77 + 1) x1.toNatClampNeg x4) 76 x4.toNatClampNeg (((am_wr g (77 + 1) x1.toNatClampNeg x4).1 76 x4.toNatClampNeg) + x3))).bind fun (q20 : am_G) =>
    To_place_L55 n rec (am_wr q20 76 x4.toNatClampNeg ((q20.1 76 x4.toNatClampNeg) - x3)) x1 x2 x3 (x4 + 1)
    else none
    else none
def To_place (n : Nat) (g : am_G) (x1 : Int32) (x2 : Int32) : Option am_G := match n with
  | 0 => none
  | n + 1 =>
    if (g.1 3 3) ≤ x1 then
      (To_judge g x2).bind fun q2 =>
      some q2
    else
    if x1 < 7 then
      (Ca_isCarried g 77 x1).bind fun q5 =>
      if q5 = true then
        (Ca_weight g 77 x1).bind fun q8 =>
        (To_place_L55 am_fuel (To_place n) g x1 x2 q8 0).bind fun q21 =>
        some q21
      else
      (To_place n g (x1 + 1) x2).bind fun q22 =>
      some q22
    else
    (To_judge g x2).bind fun q24 =>
    some q24
def To_findSoonest_L29 (n : Nat) (g : am_G) (x2 : Int32) : Option (am_G) := match n with
  | 0 => none
  | n + 1 =>
    if (g.1 3 3) ≤ x2 then
      some g
    else
    (Ca_isCarried g 77 x2).bind fun q5 =>
    (
      if q5 = true then
        (Ca_weight g 77 x2).bind fun q8 =>
        some q8
      else
      some 0).bind fun (q10 : Int32) =>
    To_findSoonest_L29 n (am_wr g 74 7 ((g.1 74 7) + q10)) (x2 + 1)
def To_findSoonest_L82 (n : Nat) (g : am_G) (x2 : Int32) (x3 : Int32) : Option (am_G × Int32) := match n with
  | 0 => none
  | n + 1 =>
    if (g.1 3 0) ≤ x3 then
      some (g, x2)
    else
    if am_in x3 4 = true then
    (Ca_minutesFor (am_wr g 76 x3.toNatClampNeg 0) 77 x3 0 ((am_wr g 76 x3.toNatClampNeg 0).1 74 2)).bind fun q14 =>
    To_findSoonest_L82 n (am_wr g 76 x3.toNatClampNeg 0) (am_mx x2 q14) (x3 + 1)
    else none
def To_findSoonest (g : am_G) : Option (am_G × Bool) :=
  (To_wake g).bind fun q1 =>
  if q1.2 = true then
    (To_findSoonest_L29 am_fuel (am_wr (am_wr (am_wr q1.1 74 3 1000000000) 74 4 1000000000) 74 7 0) 0).bind fun q11 =>
    (To_findSoonest_L82 am_fuel q11 0 0).bind fun q16 =>
    (To_place 14 q16.1 0 q16.2).bind fun q17 =>
    some (q17, true)
  else
  some (q1.1, false)
def Tb_soonest (g : am_G) (x1 : Int32) : Option (am_G × Int32) :=
  (Tb_isWithin g x1 (-2) ((g.1 3 3) - 1)).bind fun q1 =>
  if q1 = true then
    if (g.1 3 0) = 0 then
      some (g, (-9))
    else
    (To_findSoonest g).bind fun q5 =>
    if q5.2 = true then
      if x1 = (-1) then
        some (q5.1, q5.1.1 74 3)
      else
      if x1 = (-2) then
        some (q5.1, q5.1.1 74 4)
      else
      if am_in x1 7 = true then
      some (q5.1, q5.1.1 75 x1.toNatClampNeg)
      else none
    else
    some (q5.1, (-9))
  else
  some (g, (-1))
def Ca_slowest_L4 (n : Nat) (g : am_G) (c : Nat) (x1 : Int32) (x2 : Int32) (x3 : Int32) : Option (Int32) := match n with
  | 0 => none
  | n + 1 =>
    if (g.1 3 0) ≤ x3 then
      some x2
    else
    (Ca_load g c x3).bind fun q2 =>
    (Ca_minutesFor g c x3 q2 x1).bind fun q4 =>
    Ca_slowest_L4 n g c x1 (am_mx x2 q4) (x3 + 1)
def Ca_slowest (g : am_G) (c : Nat) (x1 : Int32) : Option Int32 :=
  (Ca_slowest_L4 am_fuel g c x1 0 0).bind fun q6 =>
  some q6
def To_bestGift_L44 (n : Nat) (g : am_G) (x2 : Int32) (x3 : Int32) (x4 : Int32) (x5 : Int32) : Option (am_G × Int32 × Int32) := match n with
  | 0 => none
  | n + 1 =>
    if (g.1 3 0) ≤ x5 then
      some (g, x2, x3)
    else
    (Ca_canBeGiven g 28 x4 x5).bind fun q8 =>
    (
      if q8 = true then
        if am_in x4 7 = true then
        (Ca_slowest (am_wr g (77 + 1) x4.toNatClampNeg x5) 77 ((am_wr g (77 + 1) x4.toNatClampNeg x5).1 74 2)).bind fun q12 =>
        if x2 ≤ q12 then
          some (am_wr g (77 + 1) x4.toNatClampNeg x5, x2, x3)
        else
        some (am_wr g (77 + 1) x4.toNatClampNeg x5, q12, (10 * x4) + x5)
        else none
      else
      some (g, x2, x3)).bind fun (q15 : am_G × Int32 × Int32) =>
    To_bestGift_L44 n q15.1 q15.2.1 q15.2.2 x4 (x5 + 1)
def To_bestGift_L29 (n : Nat) (g : am_G) (x2 : Int32) (x3 : Int32) (x4 : Int32) : Option (am_G × Int32) := match n with
  | 0 => none
  | n + 1 =>
    if (g.1 3 3) ≤ x4 then
      some (g, x3)
    else
    (To_bestGift_L44 am_fuel g x2 x3 x4 0).bind fun q16 =>
    if am_in x4 7 = true then
    To_bestGift_L29 n (am_wr q16.1 (77 + 1) x4.toNatClampNeg (q16.1.1 (28 + 1) x4.toNatClampNeg)) q16.2.1 q16.2.2 (x4 + 1)
    else none
def To_bestGift (g : am_G) : Option (am_G × Int32) :=
  (To_wake g).bind fun q1 =>
  if q1.2 = true then
    (Ca_slowest q1.1 77 (q1.1.1 74 2)).bind fun q4 =>
    (To_bestGift_L29 am_fuel q1.1 q4 (-9) 0).bind fun q18 =>
    some (q18.1, q18.2)
  else
  some (q1.1, (-9))
def Tb_helps (g : am_G) : Option (am_G × Int32) :=
  (To_bestGift g).bind fun q1 =>
  some (q1.1, q1.2)
def Ca_leftOf_L4 (n : Nat) (g : am_G) (c : Nat) (x1 : Int32) (x2 : Int32) (x3 : Int32) : Option (Int32) := match n with
  | 0 => none
  | n + 1 =>
    if (g.1 3 3) ≤ x3 then
      some x2
    else
    (
      if ((x1 >>> (x3 &&& 31)) &&& 1) = 1 then
        if am_in x3 7 = true then
        some (x2 + (g.1 (c + 2) x3.toNatClampNeg))
        else none
      else
      some x2).bind fun (q4 : Int32) =>
    Ca_leftOf_L4 n g c x1 q4 (x3 + 1)
def Ca_leftOf (g : am_G) (c : Nat) (x1 : Int32) : Option Int32 :=
  (Ca_leftOf_L4 am_fuel g c x1 0 0).bind fun q5 =>
  some q5
def To_isQuickWithout_L3 (n : Nat) (g : am_G) (x2 : Int32) (x3 : Int32) (x4 : Int32) : Option (((am_G) ⊕ (am_G × Bool))) := match n with
  | 0 => none
  | n + 1 =>
    if (g.1 3 3) ≤ x4 then
      some (.inl g)
    else
    if (if ((x2 >>> (x4 &&& 31)) &&& 1) = 1 then 1 else 0 : Int32) = 0 then
      if am_in x4 7 = true then
      To_isQuickWithout_L3 n (am_wr g (77 + 1) x4.toNatClampNeg (g.1 (28 + 1) x4.toNatClampNeg)) x2 x3 (x4 + 1)
      else none
    else
    if am_in x4 7 = true then
    if (g.1 8 x4.toNatClampNeg) = 1 then
      some (.inr (g, false))
    else
    (Ca_isCarried g 28 x4).bind fun q9 =>
    if q9 = true then
      To_isQuickWithout_L3 n (am_wr g (77 + 1) x4.toNatClampNeg 9) x2 x3 (x4 + 1)
    else
    some (.inr (g, false))
    else none
def To_isQuickWithout (g : am_G) (x2 : Int32) (x3 : Int32) : Option (am_G × Bool) :=
  (To_isQuickWithout_L3 am_fuel g x2 x3 0).bind fun q13 =>
  match q13 with
  | .inr w => some w
  | .inl w14 =>
  (Ca_slowest w14 77 (w14.1 74 2)).bind fun q15 =>
  if x3 < q15 then
    some (w14, false)
  else
  some (w14, true)
def To_lightestSet_L21 (n : Nat) (g : am_G) (x2 : Int32) (x3 : Int32) (x4 : Int32) (x5 : Int32) : Option (am_G × Int32) := match n with
  | 0 => none
  | n + 1 =>
    if (1 <<< ((g.1 3 3) &&& 31)) ≤ x5 then
      some (g, x4)
    else
    (Ca_leftOf g 28 x5).bind fun q5 =>
    (
      if x3 ≤ q5 then
        some (g, x3, x4)
      else
      (To_isQuickWithout g x5 x2).bind fun q8 =>
      if q8.2 = true then
        some (q8.1, q5, x5)
      else
      some (q8.1, x3, x4)).bind fun (q11 : am_G × Int32 × Int32) =>
    To_lightestSet_L21 n q11.1 x2 q11.2.1 q11.2.2 (x5 + 1)
def To_lightestSet (g : am_G) (x2 : Int32) : Option (am_G × Int32) :=
  (To_wake g).bind fun q1 =>
  if q1.2 = true then
    (To_lightestSet_L21 am_fuel q1.1 x2 1000000000 (-9) 0).bind fun q12 =>
    some (q12.1, q12.2)
  else
  some (q1.1, (-9))
def Tb_leave (g : am_G) (x1 : Int32) (x2 : Int32) : Option (am_G × Int32) :=
  (Tb_isWithin g x1 0 999).bind fun q1 =>
  if q1 = true then
    (Tb_isEither g x2).bind fun q4 =>
    if q4 = true then
      (To_lightestSet g x1).bind fun q7 =>
      if q7.2 = (-9) then
        some (q7.1, q7.2)
      else
      if x2 = 0 then
        some (q7.1, q7.2)
      else
      (Ca_leftOf q7.1 28 q7.2).bind fun q11 =>
      some (q7.1, q11)
    else
    some (g, (-1))
  else
  some (g, (-1))
def Ah_lowestRow_L7 (n : Nat) (g : am_G) (x1 : Int32) : Option (am_G) := match n with
  | 0 => none
  | n + 1 =>
    if (g.1 3 3) ≤ x1 then
      some g
    else
    if am_in x1 7 = true then
    (
      if (g.1 8 x1.toNatClampNeg) = 1 then
        if am_in (g.1 81 9) 7 = true then
        some (am_wr (am_wr g 83 (g.1 81 9).toNatClampNeg x1) 81 9 (((am_wr g 83 (g.1 81 9).toNatClampNeg x1).1 81 9) + 1))
        else none
      else
      some g).bind fun (q5 : am_G) =>
    Ah_lowestRow_L7 n q5 (x1 + 1)
    else none
def Ah_lowestRow (g : am_G) : Option am_G :=
  (Ah_lowestRow_L7 am_fuel (am_wr g 81 9 0) 0).bind fun q6 =>
  some q6
def Ah_judge_L20 (n : Nat) (g : am_G) (x2 : Int32) : Option (am_G) := match n with
  | 0 => none
  | n + 1 =>
    if (g.1 81 9) ≤ x2 then
      some g
    else
    if am_in x2 7 = true then
    Ah_judge_L20 n (am_wr g 81 6 (((10 * (g.1 81 6)) + (g.1 83 x2.toNatClampNeg)) + 1)) (x2 + 1)
    else none
def Ah_judge (g : am_G) (x1 : Int32) : Option am_G :=
  if (g.1 81 7) ≤ x1 then
    some g
  else
  (Ah_judge_L20 am_fuel (am_wr (am_wr g 81 7 x1) 81 6 0) 0).bind fun q4 =>
  some q4
def Ca_feed_r_L16 (n : Nat) (g : am_G) (c : Nat) (x2 : Int32) (x3 : Int32) (x4 : Int32) (x5 : Int32) : Option (am_G × Int32 × Int32) := match n with
  | 0 => none
  | n + 1 =>
    if x2 ≤ x5 then
      some (g, x3, x4)
    else
    if x3 ≤ 0 then
      some (g, x3, x4)
    else
    if am_in x5 7 = true then
    if am_in (g.1 83 x5.toNatClampNeg) 7 = true then
    (
      if (g.1 8 (g.1 83 x5.toNatClampNeg).toNatClampNeg) = 1 then
        (Ca_isCarried g c (g.1 83 x5.toNatClampNeg)).bind fun q6 =>
        if q6 = true then
          if (g.1 (c + 2) (g.1 83 x5.toNatClampNeg).toNatClampNeg) ≤ 0 then
            some (g, x3, x4)
          else
          some (am_wr g (c + 2) (g.1 83 x5.toNatClampNeg).toNatClampNeg ((g.1 (c + 2) (g.1 83 x5.toNatClampNeg).toNatClampNeg) - (am_mn x3 (g.1 (c + 2) (g.1 83 x5.toNatClampNeg).toNatClampNeg))), x3 - (am_mn x3 (g.1 (c + 2) (g.1 83 x5.toNatClampNeg).toNatClampNeg)), x5 + 1)
        else
        some (g, x3, x4)
      else
      some (g, x3, x4)).bind fun (q10 : am_G × Int32 × Int32) =>
    Ca_feed_r_L16 n q10.1 c x2 q10.2.1 q10.2.2 (x5 + 1)
    else none
    else none
def Ca_feed_r (g : am_G) (c : Nat) (x2 : Int32) : Option (am_G × Int32) :=
  (Ca_feed_r_L16 am_fuel g c x2 (2 * (g.1 3 0)) 0 0).bind fun q11 =>
  some (am_wr q11.1 c 3 ((q11.1.1 c 3) + q11.2.1), q11.2.2)
def Ah_toldAsTurned_L18 (n : Nat) (g : am_G) (x1 : Int32) (x2 : Int32) (x3 : Int32) : Option (((Unit) ⊕ Int32)) := match n with
  | 0 => none
  | n + 1 =>
    if x2 ≤ x3 then
      some (.inl ())
    else
    (
      if x3 < (x2 - 1) then
        some 1
      else
      if am_in (x1 + 1) 9 = true then
      if am_in x3 7 = true then
      if am_in (g.1 83 x3.toNatClampNeg) 7 = true then
      if (g.1 (85 + 4 * (x1 + 1).toNatClampNeg + 2) (g.1 83 x3.toNatClampNeg).toNatClampNeg) = 0 then
        some 1
      else
      some 0
      else none
      else none
      else none).bind fun (q9 : Int32) =>
    if q9 = 0 then
      Ah_toldAsTurned_L18 n g x1 x2 (x3 + 1)
    else
    if am_in x3 7 = true then
    if am_in (x3 - 1) 7 = true then
    if (g.1 83 (x3 - 1).toNatClampNeg) ≤ (g.1 83 x3.toNatClampNeg) then
      Ah_toldAsTurned_L18 n g x1 x2 (x3 + 1)
    else
    some (.inr (x3 + 1))
    else none
    else none
def Ah_toldAsTurned (g : am_G) (x1 : Int32) : Option Int32 :=
  if am_in (x1 + 1) 9 = true then
  if am_in x1 9 = true then
  (Ah_toldAsTurned_L18 am_fuel g x1 (g.1 84 (x1 + 1).toNatClampNeg) ((g.1 84 x1.toNatClampNeg) + 1)).bind fun q14 =>
  match q14 with
  | .inr w => some w
  | .inl w15 =>
  some 0
  else none
  else none
def Ah_followRow_L25 (n : Nat) (g : am_G) (x2 : Int32) (x3 : Int32) : Option (((am_G) ⊕ (am_G × Int32))) := match n with
  | 0 => none
  | n + 1 =>
    if x2 ≤ x3 then
      some (.inl g)
    else
    if am_in (x3 + 1) 9 = true then
    if am_in x3 9 = true then
    (Ca_copyFrom g (85 + 4 * (x3 + 1).toNatClampNeg) (85 + 4 * x3.toNatClampNeg)).bind fun q4 =>
    (Ta_rains q4 (q4.1 (85 + 4 * (x3 + 1).toNatClampNeg) 1)).bind fun q6 =>
    (Ca_march q4 (85 + 4 * (x3 + 1).toNatClampNeg) (am_b q6)).bind fun q8 =>
    if (q8.1 81 7) ≤ (q8.1 (85 + 4 * (x3 + 1).toNatClampNeg) 2) then
      (Ah_judge q8 (q8.1 (85 + 4 * (x3 + 1).toNatClampNeg) 2)).bind fun q11 =>
      some (.inr (q11, q11.1 84 x3.toNatClampNeg))
    else
    if x3 = (x2 - 1) then
      (Ah_judge q8 (q8.1 (85 + 4 * (x3 + 1).toNatClampNeg) 2)).bind fun q14 =>
      some (.inr (q14, q14.1 84 x3.toNatClampNeg))
    else
    (Ca_feed_r q8 (85 + 4 * (x3 + 1).toNatClampNeg) (q8.1 81 9)).bind fun q16 =>
    (Ah_toldAsTurned (am_wr q16.1 84 (x3 + 1).toNatClampNeg (am_mx (q8.1 84 x3.toNatClampNeg) q16.2)) x3).bind fun q18 =>
    if q18 ≤ 0 then
      (Ca_settle (am_wr q16.1 84 (x3 + 1).toNatClampNeg (am_mx (q8.1 84 x3.toNatClampNeg) q16.2)) (85 + 4 * (x3 + 1).toNatClampNeg) (am_b q6)).bind fun q21 =>
      Ah_followRow_L25 n q21 x2 (x3 + 1)
    else
    some (.inr (am_wr q16.1 84 (x3 + 1).toNatClampNeg (am_mx (q8.1 84 x3.toNatClampNeg) q16.2), q18))
    else none
    else none
def Ah_followRow (g : am_G) (x1 : Int32) : Option (am_G × Int32) :=
  (Ah_followRow_L25 am_fuel g (am_mn 8 ((g.1 3 9) - (g.1 85 1))) x1).bind fun q23 =>
  match q23 with
  | .inr w => some w
  | .inl w24 =>
  (Ah_judge w24 0).bind fun q25 =>
  some (q25, 0)
def Ah_placeOfNextAbove_L6 (n : Nat) (g : am_G) (x1 : Int32) (x2 : Int32) (x3 : Int32) : Option (Int32) := match n with
  | 0 => none
  | n + 1 =>
    if (g.1 81 9) ≤ x3 then
      some x2
    else
    if am_in x3 7 = true then
    if am_in x1 7 = true then
    (
      if (g.1 83 x3.toNatClampNeg) ≤ (g.1 83 x1.toNatClampNeg) then
        some x2
      else
      if x2 < 0 then
        some x3
      else
      if am_in x2 7 = true then
      if (g.1 83 x2.toNatClampNeg) ≤ (g.1 83 x3.toNatClampNeg) then
        some x2
      else
      some x3
      else none).bind fun (q8 : Int32) =>
    Ah_placeOfNextAbove_L6 n g x1 q8 (x3 + 1)
    else none
    else none
def Ah_placeOfNextAbove (g : am_G) (x1 : Int32) : Option Int32 :=
  (Ah_placeOfNextAbove_L6 am_fuel g x1 (-1) (x1 + 1)).bind fun q9 =>
  some q9
def Ah_swap (g : am_G) (x1 : Int32) (x2 : Int32) : Option am_G :=
  if am_in x1 7 = true then
  if am_in x2 7 = true then
  some (am_wr (am_wr g 83 x1.toNatClampNeg (g.1 83 x2.toNatClampNeg)) 83 x2.toNatClampNeg (g.1 83 x1.toNatClampNeg))
  else none
  else none
def Ah_sortFrom_L14 (n : Nat) (g : am_G) (x2 : Int32) (x3 : Int32) : Option (am_G) := match n with
  | 0 => none
  | n + 1 =>
    if (g.1 81 9) ≤ x3 then
      some g
    else
    if am_in x3 7 = true then
    if am_in x2 7 = true then
    (
      if (g.1 83 x2.toNatClampNeg) ≤ (g.1 83 x3.toNatClampNeg) then
        some g
      else
      (Ah_swap g x2 x3).bind fun q6 =>
      some q6).bind fun (q8 : am_G) =>
    Ah_sortFrom_L14 n q8 x2 (x3 + 1)
    else none
    else none
def Ah_sortFrom_L2 (n : Nat) (g : am_G) (x2 : Int32) : Option (am_G) := match n with
  | 0 => none
  | n + 1 =>
    if (g.1 81 9) ≤ x2 then
      some g
    else
    (Ah_sortFrom_L14 am_fuel g x2 (x2 + 1)).bind fun q9 =>
    Ah_sortFrom_L2 n q9 (x2 + 1)
def Ah_sortFrom (g : am_G) (x1 : Int32) : Option am_G :=
  (Ah_sortFrom_L2 am_fuel g x1).bind fun q10 =>
  some q10
def Ah_nextRow_L11 (n : Nat) (g : am_G) (x2 : Int32) : Option (((Unit) ⊕ (am_G × Int32))) := match n with
  | 0 => none
  | n + 1 =>
    if x2 < 0 then
      some (.inl ())
    else
    (Ah_placeOfNextAbove g x2).bind fun q2 =>
    if q2 < 0 then
      Ah_nextRow_L11 n g (x2 + (-1))
    else
    (Ah_swap g x2 q2).bind fun q5 =>
    (Ah_sortFrom q5 (x2 + 1)).bind fun q7 =>
    some (.inr (q7, x2))
def Ah_nextRow (g : am_G) (x1 : Int32) : Option (am_G × Int32) :=
  (Ah_nextRow_L11 am_fuel g ((am_mn x1 (g.1 81 9)) - 1)).bind fun q9 =>
  match q9 with
  | .inr w => some w
  | .inl w10 =>
  some (g, (-1))
def Ah_stepBefore_L4 (n : Nat) (g : am_G) (x1 : Int32) (x2 : Int32) (x3 : Int32) : Option (Int32) := match n with
  | 0 => none
  | n + 1 =>
    if 8 < x3 then
      some x2
    else
    if x1 < 0 then
      some x2
    else
    if am_in x3 9 = true then
    Ah_stepBefore_L4 n g x1 (if x1 < (g.1 84 x3.toNatClampNeg) then x2 else if x3 = (x2 + 1) then x3 else x2 : Int32) (x3 + 1)
    else none
def Ah_stepBefore (g : am_G) (x1 : Int32) : Option Int32 :=
  (Ah_stepBefore_L4 am_fuel g x1 (-1) 0).bind fun q7 =>
  some q7
def Ah_findRow_L32 (n : Nat) (g : am_G) (x2 : Int32) (x3 : Int32) : Option (am_G) := match n with
  | 0 => none
  | n + 1 =>
    if 5040 ≤ x3 then
      some g
    else
    if x2 < 0 then
      some g
    else
    (Ah_followRow g x2).bind fun q7 =>
    (Ah_nextRow q7.1 q7.2).bind fun q9 =>
    (Ah_stepBefore q9.1 q9.2).bind fun q11 =>
    Ah_findRow_L32 n q9.1 q11 (x3 + 1)
def Ah_findRow (g : am_G) : Option am_G :=
  (Ah_lowestRow g).bind fun q1 =>
  (Ah_setOut q1).bind fun q3 =>
  (Ah_findRow_L32 am_fuel (am_wr (am_wr (am_wr q3 84 0 0) 81 6 0) 81 7 1000000000) 0 0).bind fun q13 =>
  some q13
def Tb_eat (g : am_G) (x1 : Int32) : Option (am_G × Int32) :=
  (Tb_isEither g x1).bind fun q1 =>
  if q1 = true then
    (Ah_findRow g).bind fun q4 =>
    if x1 = 0 then
      some (q4, q4.1 81 6)
    else
    some (q4, q4.1 81 7)
  else
  some (g, (-1))
def Tb_isLine (g : am_G) (x1 : Int32) (x2 : Int32) (x3 : Int32) : Option Bool :=
  (Tb_isWalker g x1).bind fun q1 =>
  if q1 = true then
    (Tb_isWithin g x2 1 20).bind fun q4 =>
    if q4 = true then
      (Tb_isWithin g x3 1 999).bind fun q7 =>
      if q7 = true then
        some true
      else
      some false
    else
    some false
  else
  some false
def Tb_truly_L27 (n : Nat) (g : am_G) (x1 : Int32) (x2 : Int32) (x3 : Int32) (x4 : Int32) (x5 : Int32) (x6 : Int32) : Option (Int32) := match n with
  | 0 => none
  | n + 1 =>
    if 99 < x6 then
      some x5
    else
    (Ca_minutesFor g 28 x1 x6 x2).bind fun q8 =>
    Tb_truly_L27 n g x1 x2 x3 x4 (if q8 = x3 then if x5 = (-9) then x6 else if x4 = 1 then x6 else x5 else x5 : Int32) (x6 + 1)
def Tb_truly (g : am_G) (x1 : Int32) (x2 : Int32) (x3 : Int32) (x4 : Int32) : Option Int32 :=
  (Tb_isLine g x1 x2 x3).bind fun q1 =>
  if q1 = true then
    (Tb_isEither g x4).bind fun q4 =>
    if q4 = true then
      (Tb_truly_L27 am_fuel g x1 x2 x3 x4 (-9) 0).bind fun q14 =>
      some q14
    else
    some (-1)
  else
  some (-1)
def Ah_stepOn (g : am_G) (x1 : Int32) (x2 : Int32) : Option am_G :=
  if am_in (x1 + 1) 9 = true then
  if am_in x1 9 = true then
  (Ca_copyFrom g (85 + 4 * (x1 + 1).toNatClampNeg) (85 + 4 * x1.toNatClampNeg)).bind fun q3 =>
  (Ca_pass q3 (85 + 4 * (x1 + 1).toNatClampNeg) x2).bind fun q5 =>
  some q5
  else none
  else none
def Ah_luckyWays (n : Nat) (g : am_G) (x1 : Int32) (x2 : Int32) (x3 : Int32) : Option (am_G × Int64) := match n with
  | 0 => none
  | n + 1 =>
    if am_in x1 9 = true then
    if (g.1 (85 + 4 * x1.toNatClampNeg) 2) ≤ x3 then
      (Ca_hasStage g (85 + 4 * x1.toNatClampNeg)).bind fun q3 =>
      if q3 = true then
        if x1 < 8 then
          (
            if x2 ≤ 0 then
              some (g, 0)
            else
            (Ah_stepOn g x1 1).bind fun q8 =>
            (Ah_luckyWays n q8 (x1 + 1) x2 x3).bind fun q10 =>
            some (q10.1, 0 + (x2.toInt64 * q10.2))).bind fun (q12 : am_G × Int64) =>
          if 10 ≤ x2 then
            some (q12.1, q12.2)
          else
          (Ah_stepOn q12.1 x1 0).bind fun q14 =>
          (Ah_luckyWays n q14 (x1 + 1) x2 x3).bind fun q16 =>
          some (q16.1, q12.2 + (((10 - x2).toInt64) * q16.2))
        else
        some (g, 1)
      else
      some (g, 1)
    else
    some (g, 0)
    else none
def Ah_shorten_L2 (n : Nat) (g : am_G) (x1 : Int32) (x2 : Int32) : Option (am_G) := match n with
  | 0 => none
  | n + 1 =>
    if 8 ≤ x2 then
      some g
    else
    (
      if x1 ≤ 1 then
        some g
      else
      if ¬ x1.toInt64 = 0 then
      if (lg_cmp ((g.2 81 4) - (g.2 81 4) / x1.toInt64 * x1.toInt64) 0) = 0 then
        if (lg_cmp ((g.2 81 5) - (g.2 81 5) / x1.toInt64 * x1.toInt64) 0) = 0 then
          some (am_wL (am_wL g 81 4 ((g.2 81 4) / x1.toInt64)) 81 5 (((am_wL g 81 4 ((g.2 81 4) / x1.toInt64)).2 81 5) / x1.toInt64))
        else
        some g
      else
      some g
      else none).bind fun (q9 : am_G) =>
    Ah_shorten_L2 n q9 x1 (x2 + 1)
def Ah_shorten (g : am_G) (x1 : Int32) : Option am_G :=
  (Ah_shorten_L2 am_fuel g x1 0).bind fun q10 =>
  some q10
def Ah_findOdds_L11 (n : Nat) (g : am_G) (x2 : Int32) (x3 : Int32) (x4 : Int32) : Option (am_G) := match n with
  | 0 => none
  | n + 1 =>
    if (g.1 3 9) ≤ x4 then
      some g
    else
    Ah_findOdds_L11 n (am_wL g 81 5 ((g.2 81 5) * 10)) x2 x3 (x4 + 1)
def Ah_findOdds (g : am_G) (x2 : Int32) (x3 : Int32) : Option am_G :=
  (Ah_findOdds_L11 am_fuel (am_wL g 81 5 1) x2 x3 ((am_wL g 81 5 1).1 28 1)).bind fun q2 =>
  (Ah_setOut q2).bind fun q3 =>
  (Ah_luckyWays 14 q3 0 x2 x3).bind fun q5 =>
  (Ah_shorten (am_wL q5.1 81 4 q5.2) 2).bind fun q7 =>
  (Ah_shorten q7 5).bind fun q9 =>
  some q9
def Tb_odds (g : am_G) (x1 : Int32) (x2 : Int32) (x3 : Int32) : Option (am_G × Int64) :=
  (Tb_isWithin g x1 0 10).bind fun q1 =>
  if q1 = true then
    (Tb_isWithin g x2 0 9999).bind fun q4 =>
    if q4 = true then
      (Tb_isEither g x3).bind fun q7 =>
      if q7 = true then
        (Ah_findOdds g x1 x2).bind fun q10 =>
        if x3 = 0 then
          some (q10, q10.2 81 4)
        else
        some (q10, q10.2 81 5)
      else
      some (g, (-1))
    else
    some (g, (-1))
  else
  some (g, (-1))
def Bo_takes (g : am_G) (x1 : Int32) (x2 : Int32) (x3 : Int32) : Option (am_G × Bool) :=
  if (g.1 121 2) < 6 then
    if am_in (g.1 121 2) 6 = true then
    if am_in ((am_wr g 122 (g.1 121 2).toNatClampNeg x1).1 121 2) 6 = true then
    if am_in ((am_wr (am_wr g 122 (g.1 121 2).toNatClampNeg x1) 123 ((am_wr g 122 (g.1 121 2).toNatClampNeg x1).1 121 2).toNatClampNeg x2).1 121 2) 6 = true then
    some (am_wr (am_wr (am_wr (am_wr g 122 (g.1 121 2).toNatClampNeg x1) 123 ((am_wr g 122 (g.1 121 2).toNatClampNeg x1).1 121 2).toNatClampNeg x2) 124 ((am_wr (am_wr g 122 (g.1 121 2).toNatClampNeg x1) 123 ((am_wr g 122 (g.1 121 2).toNatClampNeg x1).1 121 2).toNatClampNeg x2).1 121 2).toNatClampNeg x3) 121 2 (((am_wr (am_wr (am_wr g 122 (g.1 121 2).toNatClampNeg x1) 123 ((am_wr g 122 (g.1 121 2).toNatClampNeg x1).1 121 2).toNatClampNeg x2) 124 ((am_wr (am_wr g 122 (g.1 121 2).toNatClampNeg x1) 123 ((am_wr g 122 (g.1 121 2).toNatClampNeg x1).1 121 2).toNatClampNeg x2).1 121 2).toNatClampNeg x3).1 121 2) + 1), true)
    else none
    else none
    else none
  else
  some (g, false)
def Tb_book (g : am_G) (x1 : Int32) (x2 : Int32) (x3 : Int32) : Option (am_G × Int32) :=
  (Tb_isLine g x1 x2 x3).bind fun q1 =>
  if q1 = true then
    (Bo_takes g x1 x2 x3).bind fun q4 =>
    if q4.2 = true then
      some (q4.1, q4.1.1 121 2)
    else
    some (q4.1, (-3))
  else
  some (g, (-1))
def Tb_burn (g : am_G) : Option (am_G × Int32) :=
  some (am_wr g 121 2 0, g.1 121 2)
def Bo_isSo_L2 (n : Nat) (g : am_G) (x1 : Int32) : Option (((Unit) ⊕ Bool)) := match n with
  | 0 => none
  | n + 1 =>
    if (g.1 121 2) ≤ x1 then
      some (.inl ())
    else
    if am_in x1 6 = true then
    (Ca_load g 125 (g.1 122 x1.toNatClampNeg)).bind fun q3 =>
    (Ca_minutesFor g 125 (g.1 122 x1.toNatClampNeg) q3 (g.1 123 x1.toNatClampNeg)).bind fun q5 =>
    if q5 = (g.1 124 x1.toNatClampNeg) then
      Bo_isSo_L2 n g (x1 + 1)
    else
    some (.inr false)
    else none
def Bo_isSo (g : am_G) : Option Bool :=
  (Bo_isSo_L2 am_fuel g 0).bind fun q8 =>
  match q8 with
  | .inr w => some w
  | .inl w9 =>
  some true
def Bo_findGifts_L34 (n : Nat) (g : am_G) (x2 : Int32) (x3 : Int32) : Option (am_G) := match n with
  | 0 => none
  | n + 1 =>
    if (g.1 3 0) ≤ x3 then
      some g
    else
    if am_in x2 7 = true then
    (Ca_canBeGiven (am_wr g (125 + 1) x2.toNatClampNeg x3) 28 x2 x3).bind fun q6 =>
    (
      if q6 = true then
        (Bo_isSo (am_wr g (125 + 1) x2.toNatClampNeg x3)).bind fun q9 =>
        if q9 = true then
          some (am_wr (am_wr (am_wr g (125 + 1) x2.toNatClampNeg x3) 121 7 (if ((am_wr g (125 + 1) x2.toNatClampNeg x3).1 121 6) = 0 then (10 * x2) + x3 else (am_wr g (125 + 1) x2.toNatClampNeg x3).1 121 7 : Int32)) 121 6 (((am_wr (am_wr g (125 + 1) x2.toNatClampNeg x3) 121 7 (if ((am_wr g (125 + 1) x2.toNatClampNeg x3).1 121 6) = 0 then (10 * x2) + x3 else (am_wr g (125 + 1) x2.toNatClampNeg x3).1 121 7 : Int32)).1 121 6) + 1))
        else
        some (am_wr g (125 + 1) x2.toNatClampNeg x3)
      else
      some (am_wr g (125 + 1) x2.toNatClampNeg x3)).bind fun (q14 : am_G) =>
    Bo_findGifts_L34 n q14 x2 (x3 + 1)
    else none
def Bo_findGifts_L21 (n : Nat) (g : am_G) (x2 : Int32) : Option (am_G) := match n with
  | 0 => none
  | n + 1 =>
    if (g.1 3 3) ≤ x2 then
      some g
    else
    (Bo_findGifts_L34 am_fuel g x2 0).bind fun q15 =>
    if am_in x2 7 = true then
    Bo_findGifts_L21 n (am_wr q15 (125 + 1) x2.toNatClampNeg (q15.1 (28 + 1) x2.toNatClampNeg)) (x2 + 1)
    else none
def Bo_findGifts (g : am_G) : Option am_G :=
  (Ca_copyFrom (am_wr (am_wr g 121 6 0) 121 7 (-9)) 125 28).bind fun q1 =>
  (Bo_findGifts_L21 am_fuel q1 0).bind fun q17 =>
  some q17
def Tb_sacks (g : am_G) (x1 : Int32) : Option (am_G × Int32) :=
  (Tb_isEither g x1).bind fun q1 =>
  if q1 = true then
    (Bo_findGifts g).bind fun q4 =>
    if x1 = 0 then
      some (q4, q4.1 121 6)
    else
    some (q4, q4.1 121 7)
  else
  some (g, (-1))
def Tb_asLoad (g : am_G) (x1 : Int32) : Option (am_G × Int32) :=
  (Ca_weight (am_wL g 0 10 ((g.2 0 10) + 1)) 28 x1).bind fun q1 =>
  some (am_wL g 0 10 ((g.2 0 10) + 1), q1)
def Tb_asHeavy (g : am_G) (x1 : Int32) : Option (am_G × Int32) :=
  (Tb_asLoad (am_wL g 0 10 ((g.2 0 10) + 10)) x1).bind fun q1 =>
  if am_in x1 7 = true then
  some (q1.1, q1.2 + (q1.1.1 7 x1.toNatClampNeg))
  else none
def Tb_asLight (g : am_G) (x1 : Int32) : Option (am_G × Int32) :=
  (Tb_asLoad (am_wL g 0 10 ((g.2 0 10) + 100)) x1).bind fun q1 =>
  if am_in x1 7 = true then
  some (q1.1, q1.2 - (q1.1.1 6 x1.toNatClampNeg))
  else none
def Tb_asDamp (g : am_G) (x1 : Int32) : Option (am_G × Int32) :=
  (Tb_asHeavy (am_wL g 0 10 ((g.2 0 10) + 1000)) x1).bind fun q1 =>
  some (q1.1, q1.2 * 2)
def Tb_asEaten (g : am_G) (x1 : Int32) : Option (am_G × Int32) :=
  (Tb_asLight (am_wL g 0 10 ((g.2 0 10) + 10000)) x1).bind fun q1 =>
  some (q1.1, q1.2 + (q1.1.1 28 1))
def Tb_asSilent (g : am_G) (x1 : Int32) : Option (am_G × Int32) :=
  (Tb_asLoad (am_wL g 0 10 ((g.2 0 10) + 100000)) x1).bind fun q1 =>
  some (q1.1, q1.2 + (q1.1.1 28 4))
def Tb_mark (g : am_G) (x1 : Int32) (x2 : Int32) : Option (am_G × Int32) :=
  (Tb_isThing g x2).bind fun q1 =>
  if q1 = true then
    if x1 = 0 then
      (Tb_asLoad g x2).bind fun q5 =>
      some (q5.1, q5.2)
    else
    if x1 = 1 then
      (Tb_asHeavy g x2).bind fun q8 =>
      some (q8.1, q8.2)
    else
    if x1 = 2 then
      (Tb_asLight g x2).bind fun q11 =>
      some (q11.1, q11.2)
    else
    if x1 = 3 then
      (Tb_asDamp g x2).bind fun q14 =>
      some (q14.1, q14.2)
    else
    if x1 = 4 then
      (Tb_asEaten g x2).bind fun q17 =>
      some (q17.1, q17.2)
    else
    if x1 = 5 then
      (Tb_asSilent g x2).bind fun q20 =>
      some (q20.1, q20.2)
    else
    some (g, (-1000000))
  else
  some (g, (-1000000))
def Jo_copyFrom_L13 (n : Nat) (g : am_G) (c : Nat) (o : Nat) (x2 : Int32) : Option (am_G) := match n with
  | 0 => none
  | n + 1 =>
    if 10 ≤ x2 then
      some g
    else
    if am_in x2 10 = true then
    (Ca_copyFrom g (c + 6 + 4 * x2.toNatClampNeg) (o + 6 + 4 * x2.toNatClampNeg)).bind fun q5 =>
    Jo_copyFrom_L13 n q5 c o (x2 + 1)
    else none
def Jo_copyFrom (g : am_G) (c : Nat) (o : Nat) : Option am_G :=
  (Ca_copyFrom g (c + 2) (o + 2)).bind fun q1 =>
  (Jo_copyFrom_L13 am_fuel q1 c o 0).bind fun q7 =>
  some (am_wr (am_wr q7 c 2 (q7.1 o 2)) c 3 ((am_wr q7 c 2 (q7.1 o 2)).1 o 3))
def Tb_keep (g : am_G) (x1 : Int32) : Option (am_G × Int32) :=
  (Tb_isWithin g x1 0 1).bind fun q1 =>
  if q1 = true then
    if am_in x1 2 = true then
    (Jo_copyFrom g (129 + 46 * x1.toNatClampNeg) 26).bind fun q5 =>
    some (am_wr q5 73 x1.toNatClampNeg 1, (am_wr q5 73 x1.toNatClampNeg 1).1 28 1)
    else none
  else
  some (g, (-1))
def Tb_back (g : am_G) (x1 : Int32) : Option (am_G × Int32) :=
  (Tb_isWithin g x1 0 1).bind fun q1 =>
  if q1 = true then
    if am_in x1 2 = true then
    if (g.1 73 x1.toNatClampNeg) = 0 then
      some (g, (-2))
    else
    (Jo_copyFrom g 26 (129 + 46 * x1.toNatClampNeg)).bind fun q6 =>
    some (q6, q6.1 28 1)
    else none
  else
  some (g, (-1))
def Tb_count (g : am_G) (x1 : Int32) : Option Int32 :=
  if x1 = 0 then
    some (g.1 3 0)
  else
  if x1 = 1 then
    some (g.1 3 3)
  else
  if x1 = 2 then
    some (g.1 3 9)
  else
  if x1 = 3 then
    some (g.1 121 2)
  else
  if x1 = 4 then
    some (g.1 26 2)
  else
  if x1 = 5 then
    some (g.1 1 1)
  else
  some (-1)
def Tb_trace (g : am_G) : Option Int64 :=
  some (g.2 0 10)
def Mo_type (g : am_G) (x1 : Int32) : Option (am_G × Int32) :=
  (Mo_in g x1 0 255).bind fun q1 =>
  if q1 = true then
    if (g.1 221 2) = 200 then
      some (g, (-3))
    else
    if am_in (g.1 221 2) 200 = true then
    some (am_wr (am_wr g 222 (g.1 221 2).toNatClampNeg x1) 221 2 (((am_wr g 222 (g.1 221 2).toNatClampNeg x1).1 221 2) + 1), (am_wr (am_wr g 222 (g.1 221 2).toNatClampNeg x1) 221 2 (((am_wr g 222 (g.1 221 2).toNatClampNeg x1).1 221 2) + 1)).1 221 2)
    else none
  else
  some (g, (-1))
def Mo_clear (g : am_G) : Option (am_G × Int32) :=
  some (am_wr g 221 2 0, g.1 221 2)
def Mo_way (g : am_G) : Option (am_G × Int32) :=
  (Mo_reads g).bind fun q1 =>
  if q1.2 = true then
    (Mo_tells q1.1).bind fun q4 =>
    some (am_wr q4 221 2 0, (am_wr q4 221 2 0).1 223 3)
  else
  some (q1.1, (-10) - (q1.1.1 221 12))
def Mo_isWalker (g : am_G) (x1 : Int32) : Option Bool :=
  (Mo_in g x1 0 ((g.1 223 0) - 1)).bind fun q1 =>
  some q1
def Mo_weighs (g : am_G) (x1 : Int32) : Option Int32 :=
  if am_in (15 + x1) 320 = true then
  if am_in (22 + x1) 320 = true then
  if (g.1 225 (22 + x1).toNatClampNeg) = 1 then
    if (g.1 225 (15 + x1).toNatClampNeg) ≤ 0 then
      some ((g.1 225 (15 + x1).toNatClampNeg) + 0)
    else
    if am_in (19 + x1) 71 = true then
    some ((g.1 225 (15 + x1).toNatClampNeg) + (g.1 223 (19 + x1).toNatClampNeg))
    else none
  else
  some ((g.1 225 (15 + x1).toNatClampNeg) + 0)
  else none
  else none
def Mo_load_L4 (n : Nat) (g : am_G) (x1 : Int32) (x2 : Int32) (x3 : Int32) : Option (Int32) := match n with
  | 0 => none
  | n + 1 =>
    if (g.1 223 1) ≤ x3 then
      some x2
    else
    if am_in (8 + x3) 320 = true then
    (
      if (g.1 225 (8 + x3).toNatClampNeg) = x1 then
        (Mo_weighs g x3).bind fun q4 =>
        some q4
      else
      some 0).bind fun (q6 : Int32) =>
    Mo_load_L4 n g x1 (x2 + q6) (x3 + 1)
    else none
def Mo_load (g : am_G) (x1 : Int32) : Option Int32 :=
  (Mo_load_L4 am_fuel g x1 0 0).bind fun q7 =>
  some q7
def Mo_force (g : am_G) (x1 : Int32) : Option Int32 :=
  if am_in (4 + x1) 71 = true then
  if am_in (4 + x1) 320 = true then
  some ((g.1 223 (4 + x1).toNatClampNeg) - (g.1 225 (4 + x1).toNatClampNeg))
  else none
  else none
def Mo_pace (g : am_G) (x1 : Int32) (x2 : Int32) : Option Int32 :=
  (Mo_force g x1).bind fun q1 =>
  if 1 ≤ ((q1 - x2) + 10) then
    if ((q1 - x2) + 10) ≤ 20 then
      some ((q1 - x2) + 10)
    else
    some 20
  else
  some 1
def Mo_walker_L24 (n : Nat) (g : am_G) (x1 : Int32) (x2 : Int32) (x3 : Int32) (x4 : Int32) : Option (Int32) := match n with
  | 0 => none
  | n + 1 =>
    if (g.1 223 1) ≤ x4 then
      some x3
    else
    if am_in (8 + x4) 320 = true then
    Mo_walker_L24 n g x1 x2 (x3 ||| (if (g.1 225 (8 + x4).toNatClampNeg) = x1 then 1 <<< (x4 &&& 31) else 0 : Int32)) (x4 + 1)
    else none
def Mo_walker (g : am_G) (x1 : Int32) (x2 : Int32) : Option Int32 :=
  (Mo_isWalker g x1).bind fun q1 =>
  if q1 = true then
    (Mo_in g x2 0 5).bind fun q4 =>
    if q4 = true then
      (Mo_walker_L24 am_fuel g x1 x2 0 0).bind fun q11 =>
      if x2 = 0 then
        if am_in (4 + x1) 71 = true then
        some (g.1 223 (4 + x1).toNatClampNeg)
        else none
      else
      if x2 = 1 then
        if am_in (8 + x1) 71 = true then
        some (g.1 223 (8 + x1).toNatClampNeg)
        else none
      else
      if x2 = 2 then
        if am_in (4 + x1) 320 = true then
        some (g.1 225 (4 + x1).toNatClampNeg)
        else none
      else
      if x2 = 3 then
        (Mo_load g x1).bind fun q19 =>
        some q19
      else
      if x2 = 4 then
        (Mo_load g x1).bind fun q22 =>
        (Mo_pace g x1 q22).bind fun q24 =>
        some q24
      else
      some q11
    else
    some (-1)
  else
  some (-1)
def Mo_isThing (g : am_G) (x1 : Int32) : Option Bool :=
  (Mo_in g x1 0 ((g.1 223 1) - 1)).bind fun q1 =>
  some q1
def Mo_thing (g : am_G) (x1 : Int32) (x2 : Int32) : Option Int32 :=
  (Mo_isThing g x1).bind fun q1 =>
  if q1 = true then
    (Mo_in g x2 0 7).bind fun q4 =>
    if q4 = true then
      if 4 ≤ x2 then
        if x2 = 7 then
          (Mo_weighs g x1).bind fun q9 =>
          some q9
        else
        if am_in ((8 + (7 * (x2 - 4))) + x1) 320 = true then
        some (g.1 225 ((8 + (7 * (x2 - 4))) + x1).toNatClampNeg)
        else none
      else
      if am_in ((12 + (7 * x2)) + x1) 71 = true then
      some (g.1 223 ((12 + (7 * x2)) + x1).toNatClampNeg)
      else none
    else
    some (-1)
  else
  some (-1)
def Mo_stage (g : am_G) (x1 : Int32) (x2 : Int32) : Option Int32 :=
  (Mo_in g x1 0 ((g.1 223 2) - 1)).bind fun q1 =>
  if q1 = true then
    (Mo_in g x2 0 2).bind fun q4 =>
    if q4 = true then
      if am_in ((47 + (8 * x2)) + x1) 71 = true then
      some (g.1 223 ((47 + (8 * x2)) + x1).toNatClampNeg)
      else none
    else
    some (-1)
  else
  some (-1)
def Mo_keeps_L15 (n : Nat) (g : am_G) (x1 : Int32) : Option (am_G) := match n with
  | 0 => none
  | n + 1 =>
    if 291 ≤ x1 then
      some g
    else
    if am_in (x1 + 29) 320 = true then
    if am_in x1 320 = true then
    Mo_keeps_L15 n (am_wr g 225 x1.toNatClampNeg (g.1 225 (x1 + 29).toNatClampNeg)) (x1 + 1)
    else none
    else none
def Mo_keeps_L70 (n : Nat) (g : am_G) (x1 : Int32) (x2 : Int32) : Option (am_G) := match n with
  | 0 => none
  | n + 1 =>
    if 29 ≤ x2 then
      some g
    else
    if am_in x2 320 = true then
    if am_in (x1 + x2) 320 = true then
    Mo_keeps_L70 n (am_wr g 225 (x1 + x2).toNatClampNeg (g.1 225 x2.toNatClampNeg)) x1 (x2 + 1)
    else none
    else none
def Mo_keeps (g : am_G) : Option am_G :=
  (
    if (g.1 225 29) = 10 then
      (Mo_keeps_L15 am_fuel g 30).bind fun q5 =>
      some (am_wr q5 225 29 ((q5.1 225 29) - 1))
    else
    some g).bind fun (q6 : am_G) =>
  (Mo_keeps_L70 am_fuel q6 (30 + (29 * (q6.1 225 29))) 0).bind fun q10 =>
  some (am_wr q10 225 29 ((q10.1 225 29) + 1))
def Mo_gives (g : am_G) (x1 : Int32) (x2 : Int32) : Option (am_G × Int32) :=
  (Mo_isThing g x1).bind fun q1 =>
  if q1 = true then
    (Mo_isWalker g x2).bind fun q4 =>
    if q4 = true then
      if am_in (8 + x1) 320 = true then
      if (g.1 225 (8 + x1).toNatClampNeg) = 9 then
        some (g, (-2))
      else
      if (g.1 225 (8 + x1).toNatClampNeg) = x2 then
        some (g, (-2))
      else
      (Mo_keeps g).bind fun q10 =>
      some (am_wr (am_wr q10 225 (8 + x1).toNatClampNeg x2) 225 3 (((am_wr q10 225 (8 + x1).toNatClampNeg x2).1 225 3) + 1), g.1 225 (8 + x1).toNatClampNeg)
      else none
    else
    some (g, (-1))
  else
  some (g, (-1))
def Mo_isHut (g : am_G) : Option Bool :=
  if (g.1 225 0) = 0 then
    some true
  else
  if am_in ((63 + (g.1 225 0)) - 1) 71 = true then
  if (g.1 223 ((63 + (g.1 225 0)) - 1).toNatClampNeg) = 1 then
    some true
  else
  some false
  else none
def Mo_leaves (g : am_G) (x1 : Int32) : Option (am_G × Int32) :=
  (Mo_isThing g x1).bind fun q1 =>
  if q1 = true then
    if am_in (8 + x1) 320 = true then
    if (g.1 225 (8 + x1).toNatClampNeg) = 9 then
      some (g, (-2))
    else
    (Mo_isHut g).bind fun q6 =>
    if q6 = true then
      (Mo_keeps g).bind fun q9 =>
      some (am_wr q9 225 (8 + x1).toNatClampNeg 9, g.1 225 (8 + x1).toNatClampNeg)
    else
    some (g, (-2))
    else none
  else
  some (g, (-1))
def Mo_isStage (g : am_G) : Option Bool :=
  if (g.1 223 2) ≤ (g.1 225 0) then
    some false
  else
  some true
def Mo_plainOrder_L2 (n : Nat) (g : am_G) (x1 : Int32) : Option (am_G) := match n with
  | 0 => none
  | n + 1 =>
    if 7 ≤ x1 then
      some g
    else
    if am_in x1 7 = true then
    Mo_plainOrder_L2 n (am_wr g 229 x1.toNatClampNeg x1) (x1 + 1)
    else none
def Mo_plainOrder (g : am_G) : Option am_G :=
  (Mo_plainOrder_L2 am_fuel g 0).bind fun q3 =>
  some q3
def Mo_isRain (g : am_G) : Option Bool :=
  if am_in (55 + (g.1 225 0)) 71 = true then
  if (g.1 223 (55 + (g.1 225 0)).toNatClampNeg) = 1 then
    some true
  else
  some false
  else none
def Mo_rains_L2 (n : Nat) (g : am_G) (x1 : Int32) (x2 : Int32) : Option (am_G) := match n with
  | 0 => none
  | n + 1 =>
    if (g.1 223 1) ≤ x2 then
      some g
    else
    (
      if x1 = 0 then
        if am_in (22 + x2) 320 = true then
        some (g.1 225 (22 + x2).toNatClampNeg)
        else none
      else
      if am_in (8 + x2) 320 = true then
      if (g.1 225 (8 + x2).toNatClampNeg) = 9 then
        if am_in (22 + x2) 320 = true then
        some (g.1 225 (22 + x2).toNatClampNeg)
        else none
      else
      some 1
      else none).bind fun (q7 : Int32) =>
    if am_in (22 + x2) 320 = true then
    Mo_rains_L2 n (am_wr g 225 (22 + x2).toNatClampNeg q7) x1 (x2 + 1)
    else none
def Mo_rains (g : am_G) (x1 : Int32) : Option am_G :=
  (Mo_rains_L2 am_fuel g x1 0).bind fun q9 =>
  some q9
def Mo_takes (g : am_G) (x0 : Int32) (x1 : Int32) : Option Int32 :=
  if ¬ x1 = 0 then
  some ((((60 * x0) + x1) - 1) / x1)
  else none
def Mo_slowest_L4 (n : Nat) (g : am_G) (x1 : Int32) (x2 : Int32) (x3 : Int32) : Option (Int32) := match n with
  | 0 => none
  | n + 1 =>
    if (g.1 223 0) ≤ x3 then
      some x2
    else
    (Mo_load g x3).bind fun q2 =>
    (Mo_pace g x3 q2).bind fun q4 =>
    (Mo_takes g x1 q4).bind fun q6 =>
    Mo_slowest_L4 n g x1 (if q6 ≤ x2 then x2 else q6 : Int32) (x3 + 1)
def Mo_slowest (g : am_G) (x1 : Int32) : Option Int32 :=
  (Mo_slowest_L4 am_fuel g x1 0 0).bind fun q10 =>
  some q10
def Mo_eats_L11 (n : Nat) (g : am_G) (x1 : Int32) (x2 : Int32) : Option (am_G × Int32) := match n with
  | 0 => none
  | n + 1 =>
    if (g.1 223 1) ≤ x2 then
      some (g, x1)
    else
    if am_in x2 7 = true then
    if am_in (26 + (g.1 229 x2.toNatClampNeg)) 71 = true then
    (
      if (g.1 223 (26 + (g.1 229 x2.toNatClampNeg)).toNatClampNeg) = 1 then
        if am_in (8 + (g.1 229 x2.toNatClampNeg)) 320 = true then
        if (g.1 225 (8 + (g.1 229 x2.toNatClampNeg)).toNatClampNeg) = 9 then
          some 0
        else
        some 1
        else none
      else
      some 0).bind fun (q7 : Int32) =>
    (
      if q7 = 0 then
        some 0
      else
      if am_in (15 + (g.1 229 x2.toNatClampNeg)) 320 = true then
      if x1 ≤ (g.1 225 (15 + (g.1 229 x2.toNatClampNeg)).toNatClampNeg) then
        some x1
      else
      some (g.1 225 (15 + (g.1 229 x2.toNatClampNeg)).toNatClampNeg)
      else none).bind fun (q11 : Int32) =>
    if am_in (15 + (g.1 229 x2.toNatClampNeg)) 320 = true then
    Mo_eats_L11 n (am_wr g 225 (15 + (g.1 229 x2.toNatClampNeg)).toNatClampNeg ((g.1 225 (15 + (g.1 229 x2.toNatClampNeg)).toNatClampNeg) - q11)) (x1 - q11) (x2 + 1)
    else none
    else none
    else none
def Mo_eats (g : am_G) : Option am_G :=
  (Mo_eats_L11 am_fuel g (2 * (g.1 223 0)) 0).bind fun q13 =>
  some (am_wr q13.1 225 2 ((q13.1.1 225 2) + q13.2))
def Mo_stageGoes_L26 (n : Nat) (g : am_G) (x1 : Int32) (x2 : Int32) (x3 : Int32) : Option (am_G) := match n with
  | 0 => none
  | n + 1 =>
    if (g.1 223 0) ≤ x3 then
      some g
    else
    (Mo_load g x3).bind fun q7 =>
    (Mo_force g x3).bind fun q9 =>
    (
      if (if q7 ≤ q9 then 0 else 1 : Int32) = 0 then
        if am_in (4 + x3) 320 = true then
        if am_in (8 + x3) 71 = true then
        some ((g.1 225 (4 + x3).toNatClampNeg) - (g.1 223 (8 + x3).toNatClampNeg))
        else none
        else none
      else
      if am_in (4 + x3) 320 = true then
      some ((g.1 225 (4 + x3).toNatClampNeg) + 2)
      else none).bind fun (q17 : Int32) =>
    if am_in x3 4 = true then
    Mo_stageGoes_L26 n (am_wr g 230 x3.toNatClampNeg (if 0 ≤ q17 then if q17 ≤ 20 then q17 else 20 else 0 : Int32)) x1 x2 (x3 + 1)
    else none
def Mo_stageGoes_L131 (n : Nat) (g : am_G) (x1 : Int32) (x2 : Int32) (x3 : Int32) : Option (am_G) := match n with
  | 0 => none
  | n + 1 =>
    if (g.1 223 0) ≤ x3 then
      some g
    else
    if am_in x3 4 = true then
    if am_in (4 + x3) 320 = true then
    Mo_stageGoes_L131 n (am_wr g 225 (4 + x3).toNatClampNeg (g.1 230 x3.toNatClampNeg)) x1 x2 (x3 + 1)
    else none
    else none
def Mo_stageGoes_L167 (n : Nat) (g : am_G) (x1 : Int32) (x2 : Int32) (x3 : Int32) : Option (am_G) := match n with
  | 0 => none
  | n + 1 =>
    if (g.1 223 1) ≤ x3 then
      some g
    else
    (
      if x1 = 0 then
        some 0
      else
      if am_in (22 + x3) 320 = true then
      some (g.1 225 (22 + x3).toNatClampNeg)
      else none).bind fun (q32 : Int32) =>
    if am_in (22 + x3) 320 = true then
    Mo_stageGoes_L167 n (am_wr g 225 (22 + x3).toNatClampNeg q32) x1 x2 (x3 + 1)
    else none
def Mo_stageGoes (g : am_G) (x1 : Int32) : Option (am_G × Int32) :=
  (Mo_rains g x1).bind fun q1 =>
  if am_in (47 + (q1.1 225 0)) 71 = true then
  (Mo_slowest q1 (q1.1 223 (47 + (q1.1 225 0)).toNatClampNeg)).bind fun q4 =>
  (Mo_stageGoes_L26 am_fuel q1 x1 q4 0).bind fun q22 =>
  (Mo_stageGoes_L131 am_fuel q22 x1 q4 0).bind fun q26 =>
  (Mo_eats q26).bind fun q27 =>
  (Mo_stageGoes_L167 am_fuel q27 x1 q4 0).bind fun q34 =>
  some (am_wr (am_wr q34 225 1 ((q34.1 225 1) + q4)) 225 0 (((am_wr q34 225 1 ((q34.1 225 1) + q4)).1 225 0) + 1), q4)
  else none
def Mo_goes (g : am_G) : Option (am_G × Int32) :=
  (Mo_isStage g).bind fun q1 =>
  if q1 = true then
    (Mo_keeps g).bind fun q4 =>
    (Mo_plainOrder q4).bind fun q6 =>
    (Mo_isRain q6).bind fun q8 =>
    (Mo_stageGoes q6 (am_b q8)).bind fun q10 =>
    some (q10.1, q10.2)
  else
  some (g, (-2))
def Mo_undo_L40 (n : Nat) (g : am_G) (x1 : Int32) (x2 : Int32) : Option (am_G) := match n with
  | 0 => none
  | n + 1 =>
    if 29 ≤ x2 then
      some g
    else
    if am_in (x1 + x2) 320 = true then
    if am_in x2 320 = true then
    Mo_undo_L40 n (am_wr g 225 x2.toNatClampNeg (g.1 225 (x1 + x2).toNatClampNeg)) x1 (x2 + 1)
    else none
    else none
def Mo_undo (g : am_G) : Option (am_G × Int32) :=
  if (g.1 225 29) = 0 then
    some (g, (-2))
  else
  (Mo_undo_L40 am_fuel (am_wr g 225 29 ((g.1 225 29) - 1)) (30 + (29 * ((am_wr g 225 29 ((g.1 225 29) - 1)).1 225 29))) 0).bind fun q5 =>
  some (q5, q5.1 225 29)
def Mo_fair_L7 (n : Nat) (g : am_G) (x1 : Int32) (x2 : Int32) (x3 : Int32) (x4 : Int32) : Option (Int32 × Int32) := match n with
  | 0 => none
  | n + 1 =>
    if (g.1 223 0) ≤ x4 then
      some (x2, x3)
    else
    (
      if x1 = 0 then
        (Mo_load g x4).bind fun q3 =>
        some q3
      else
      (Mo_force g x4).bind fun q5 =>
      (Mo_load g x4).bind fun q7 =>
      some (q5 - q7)).bind fun (q9 : Int32) =>
    Mo_fair_L7 n g x1 (if x4 = 0 then q9 else if q9 ≤ x2 then x2 else q9 : Int32) (if x4 = 0 then q9 else if x3 ≤ q9 then x3 else q9 : Int32) (x4 + 1)
def Mo_fair (g : am_G) (x1 : Int32) : Option Int32 :=
  (Mo_fair_L7 am_fuel g x1 0 0 0).bind fun q16 =>
  some (q16.1 - q16.2)
def Mo_parted_L16 (n : Nat) (g : am_G) (x1 : Int32) (x2 : Int32) (x3 : Int32) : Option (Int32) := match n with
  | 0 => none
  | n + 1 =>
    if x2 ≤ x3 then
      some x1
    else
    if am_in (33 + x2) 71 = true then
    (
      if (g.1 223 (33 + x2).toNatClampNeg) ≤ 0 then
        some 0
      else
      if am_in (33 + x3) 71 = true then
      if (g.1 223 (33 + x2).toNatClampNeg) = (g.1 223 (33 + x3).toNatClampNeg) then
        if am_in (8 + x2) 320 = true then
        if am_in (8 + x3) 320 = true then
        if (g.1 225 (8 + x2).toNatClampNeg) = (g.1 225 (8 + x3).toNatClampNeg) then
          some 0
        else
        some 1
        else none
        else none
      else
      some 0
      else none).bind fun (q10 : Int32) =>
    Mo_parted_L16 n g (x1 ||| (if q10 = 0 then 0 else 1 <<< ((g.1 223 (33 + x2).toNatClampNeg) &&& 31) : Int32)) x2 (x3 + 1)
    else none
def Mo_parted_L4 (n : Nat) (g : am_G) (x1 : Int32) (x2 : Int32) : Option (Int32) := match n with
  | 0 => none
  | n + 1 =>
    if (g.1 223 1) ≤ x2 then
      some x1
    else
    (Mo_parted_L16 am_fuel g x1 x2 0).bind fun q13 =>
    Mo_parted_L4 n g q13 (x2 + 1)
def Mo_parted (g : am_G) : Option Int32 :=
  (Mo_parted_L4 am_fuel g 0 0).bind fun q14 =>
  some q14
def Mo_now (g : am_G) (x1 : Int32) : Option Int32 :=
  (Mo_in g x1 0 7).bind fun q1 =>
  if q1 = true then
    if 3 ≤ x1 then
      if x1 = 3 then
        (Mo_isHut g).bind fun q6 =>
        if q6 = true then
          some 1
        else
        some 0
      else
      if x1 = 4 then
        (Mo_fair g 0).bind fun q10 =>
        some q10
      else
      if x1 = 5 then
        (Mo_fair g 1).bind fun q13 =>
        some q13
      else
      if x1 = 6 then
        (Mo_parted g).bind fun q16 =>
        some q16
      else
      some (g.1 225 3)
    else
    if am_in x1 320 = true then
    some (g.1 225 x1.toNatClampNeg)
    else none
  else
  some (-1)
def Mo_holds_L2 (n : Nat) (g : am_G) (x1 : Int32) : Option (am_G) := match n with
  | 0 => none
  | n + 1 =>
    if 29 ≤ x1 then
      some g
    else
    if am_in x1 320 = true then
    if am_in x1 29 = true then
    Mo_holds_L2 n (am_wr g 231 x1.toNatClampNeg (g.1 225 x1.toNatClampNeg)) (x1 + 1)
    else none
    else none
def Mo_holds (g : am_G) : Option am_G :=
  (Mo_holds_L2 am_fuel g 0).bind fun q4 =>
  some q4
def Mo_lets_L2 (n : Nat) (g : am_G) (x1 : Int32) : Option (am_G) := match n with
  | 0 => none
  | n + 1 =>
    if 29 ≤ x1 then
      some g
    else
    if am_in x1 29 = true then
    if am_in x1 320 = true then
    Mo_lets_L2 n (am_wr g 225 x1.toNatClampNeg (g.1 231 x1.toNatClampNeg)) (x1 + 1)
    else none
    else none
def Mo_lets (g : am_G) : Option am_G :=
  (Mo_lets_L2 am_fuel g 0).bind fun q4 =>
  some q4
def Mo_rest_L19 (n : Nat) (g : am_G) (x1 : Int32) : Option (am_G) := match n with
  | 0 => none
  | n + 1 =>
    (Mo_isStage g).bind fun q8 =>
    if q8 = true then
      (Mo_isRain g).bind fun q11 =>
      (Mo_stageGoes g (am_b q11)).bind fun q13 =>
      Mo_rest_L19 n q13.1 x1
    else
    some g
def Mo_rest (g : am_G) (x1 : Int32) : Option (am_G × Int32) :=
  (Mo_in g x1 0 1).bind fun q1 =>
  if q1 = true then
    (Mo_holds g).bind fun q4 =>
    (Mo_plainOrder q4).bind fun q6 =>
    (Mo_rest_L19 am_fuel q6 x1).bind fun q15 =>
    if am_in (1 + x1) 320 = true then
    if am_in (1 + x1) 29 = true then
    (Mo_lets q15).bind fun q18 =>
    some (q18, (q15.1 225 (1 + x1).toNatClampNeg) - (q15.1 231 (1 + x1).toNatClampNeg))
    else none
    else none
  else
  some (g, (-1))
def Mo_spent_L52 (n : Nat) (g : am_G) (x1 : Int32) (x2 : Int32) (x3 : Int32) : Option (Int32) := match n with
  | 0 => none
  | n + 1 =>
    if x3 < 0 then
      some x2
    else
    (Mo_load g x3).bind fun q17 =>
    (Mo_pace g x3 q17).bind fun q19 =>
    Mo_spent_L52 n g x1 (if q19 = 1 then if x1 = 0 then x3 else g.1 225 0 else x2 : Int32) (x3 + (-1))
def Mo_spent_L22 (n : Nat) (g : am_G) (x1 : Int32) (x2 : Int32) : Option (am_G × Int32) := match n with
  | 0 => none
  | n + 1 =>
    (Mo_isStage g).bind fun q8 =>
    if q8 = true then
      if x2 = (-9) then
        (Mo_isRain g).bind fun q12 =>
        (Mo_rains g (am_b q12)).bind fun q14 =>
        (Mo_spent_L52 am_fuel q14 x1 x2 ((q14.1 223 0) - 1)).bind fun q24 =>
        if q24 = (-9) then
          (Mo_isRain q14).bind fun q26 =>
          (Mo_stageGoes q14 (am_b q26)).bind fun q28 =>
          Mo_spent_L22 n q28.1 x1 q24
        else
        Mo_spent_L22 n q14 x1 q24
      else
      some (g, x2)
    else
    some (g, x2)
def Mo_spent (g : am_G) (x1 : Int32) : Option (am_G × Int32) :=
  (Mo_in g x1 0 1).bind fun q1 =>
  if q1 = true then
    (Mo_holds g).bind fun q4 =>
    (Mo_plainOrder q4).bind fun q6 =>
    (Mo_spent_L22 am_fuel q6 x1 (-9)).bind fun q30 =>
    (Mo_lets q30.1).bind fun q31 =>
    some (q31, q30.2)
  else
  some (g, (-1))
def Mo_lays_L11 (n : Nat) (g : am_G) (x2 : Int32) (x3 : Int32) : Option (am_G) := match n with
  | 0 => none
  | n + 1 =>
    if x3 < 0 then
      some g
    else
    if am_in (8 + x3) 320 = true then
    (
      if (g.1 225 (8 + x3).toNatClampNeg) = 9 then
        some (g, x2)
      else
      if ¬ (g.1 223 0) = 0 then
      if ¬ ((am_wr g 225 (8 + x3).toNatClampNeg (x2 - x2 / (g.1 223 0) * (g.1 223 0))).1 223 0) = 0 then
      some (am_wr g 225 (8 + x3).toNatClampNeg (x2 - x2 / (g.1 223 0) * (g.1 223 0)), x2 / ((am_wr g 225 (8 + x3).toNatClampNeg (x2 - x2 / (g.1 223 0) * (g.1 223 0))).1 223 0))
      else none
      else none).bind fun (q6 : am_G × Int32) =>
    Mo_lays_L11 n q6.1 q6.2 (x3 + (-1))
    else none
def Mo_lays (g : am_G) (x1 : Int32) : Option am_G :=
  (Mo_lays_L11 am_fuel g x1 ((g.1 223 1) - 1)).bind fun q7 =>
  some q7
def Mo_soonest_L56 (n : Nat) (g : am_G) (x1 : Int32) (x2 : Int32) (x3 : Int32) : Option (Int32) := match n with
  | 0 => none
  | n + 1 =>
    if (g.1 223 1) ≤ x3 then
      some x2
    else
    if am_in (8 + x3) 320 = true then
    Mo_soonest_L56 n g x1 (x2 * (if (g.1 225 (8 + x3).toNatClampNeg) = 9 then 1 else g.1 223 0 : Int32)) (x3 + 1)
    else none
def Mo_soonest_L107 (n : Nat) (g : am_G) (x1 : Int32) (x2 : Int32) (x3 : Int32) (x4 : Int32) (x5 : Int32) : Option (am_G × Int32 × Int32) := match n with
  | 0 => none
  | n + 1 =>
    if x2 ≤ x5 then
      some (g, x3, x4)
    else
    (Mo_lays g x5).bind fun q23 =>
    if am_in (47 + (q23.1 225 0)) 71 = true then
    (Mo_slowest q23 (q23.1 223 (47 + (q23.1 225 0)).toNatClampNeg)).bind fun q26 =>
    (Mo_fair q23 0).bind fun q28 =>
    Mo_soonest_L107 n q23 x1 x2 (if x3 < 0 then (1024 * q26) + q28 else if x3 ≤ ((1024 * q26) + q28) then x3 else (1024 * q26) + q28 : Int32) (if x3 < 0 then x5 else if x3 ≤ ((1024 * q26) + q28) then x4 else x5 : Int32) (x5 + 1)
    else none
def Mo_soonest (g : am_G) (x1 : Int32) : Option (am_G × Int32) :=
  (
    if x1 = (-1) then
      some none
    else
    if x1 = (-2) then
      some none
    else
    (Mo_isThing g x1).bind fun q3 =>
    if q3 = true then
      some none
    else
    some (some (g, (-1)))).bind fun (q6 : Option (am_G × Int32)) =>
  match q6 with
  | some w => some w
  | none =>
  (Mo_isStage g).bind fun q7 =>
  if q7 = true then
    if (g.1 223 0) = 0 then
      some (g, (-9))
    else
    (Mo_holds g).bind fun q11 =>
    (Mo_isRain q11).bind fun q13 =>
    (Mo_rains q11 (am_b q13)).bind fun q15 =>
    (Mo_soonest_L56 am_fuel q15 x1 1 0).bind fun q21 =>
    (Mo_soonest_L107 am_fuel q15 x1 q21 (-1) 0 0).bind fun q36 =>
    (Mo_lays q36.1 q36.2.2).bind fun q37 =>
    (
      if 0 ≤ x1 then
        if am_in (8 + x1) 320 = true then
        some (q37.1 225 (8 + x1).toNatClampNeg)
        else none
      else
      some 0).bind fun (q41 : Int32) =>
    (Mo_lets q37).bind fun q42 =>
    if x1 = (-1) then
      some (q42, q36.2.1 / 1024)
    else
    if x1 = (-2) then
      some (q42, q36.2.1 - q36.2.1 / 1024 * 1024)
    else
    some (q42, q41)
  else
  some (g, (-9))
def Mo_helps_L75 (n : Nat) (g : am_G) (x1 : Int32) (x2 : Int32) (x3 : Int32) (x4 : Int32) (x5 : Int32) (x6 : Int32) : Option (am_G × Int32 × Int32) := match n with
  | 0 => none
  | n + 1 =>
    if (g.1 223 0) ≤ x6 then
      some (g, x2, x3)
    else
    if x5 = 9 then
      some (g, x2, x3)
    else
    if am_in (8 + x4) 320 = true then
    (Mo_slowest (am_wr g 225 (8 + x4).toNatClampNeg x6) x1).bind fun q18 =>
    Mo_helps_L75 n (am_wr g 225 (8 + x4).toNatClampNeg x6) x1 (if x2 ≤ q18 then x2 else q18 : Int32) (if x2 ≤ q18 then x3 else (10 * x4) + x6 : Int32) x4 x5 (x6 + 1)
    else none
def Mo_helps_L49 (n : Nat) (g : am_G) (x1 : Int32) (x2 : Int32) (x3 : Int32) (x4 : Int32) : Option (am_G × Int32) := match n with
  | 0 => none
  | n + 1 =>
    if (g.1 223 1) ≤ x4 then
      some (g, x3)
    else
    if am_in (8 + x4) 320 = true then
    (Mo_helps_L75 am_fuel g x1 x2 x3 x4 (g.1 225 (8 + x4).toNatClampNeg) 0).bind fun q24 =>
    if am_in (8 + x4) 320 = true then
    Mo_helps_L49 n (am_wr q24.1 225 (8 + x4).toNatClampNeg (g.1 225 (8 + x4).toNatClampNeg)) x1 q24.2.1 q24.2.2 (x4 + 1)
    else none
    else none
def Mo_helps (g : am_G) : Option (am_G × Int32) :=
  (Mo_isStage g).bind fun q1 =>
  if q1 = true then
    (Mo_holds g).bind fun q4 =>
    (Mo_isRain q4).bind fun q6 =>
    (Mo_rains q4 (am_b q6)).bind fun q8 =>
    if am_in (47 + (q8.1 225 0)) 71 = true then
    (Mo_slowest q8 (q8.1 223 (47 + (q8.1 225 0)).toNatClampNeg)).bind fun q11 =>
    (Mo_helps_L49 am_fuel q8 (q8.1 223 (47 + (q8.1 225 0)).toNatClampNeg) q11 (-9) 0).bind fun q26 =>
    (Mo_lets q26.1).bind fun q27 =>
    some (q27, q26.2)
    else none
  else
  some (g, (-9))
def Mo_leave_L75 (n : Nat) (g : am_G) (x1 : Int32) (x2 : Int32) (x3 : Int32) (x4 : Int32) (x5 : Int32) (x6 : Int32) (x7 : Int32) (x8 : Int32) : Option (am_G × Int32 × Int32) := match n with
  | 0 => none
  | n + 1 =>
    if (g.1 223 1) ≤ x8 then
      some (g, x6, x7)
    else
    (
      if x7 = 0 then
        some 0
      else
      if (if ((x5 >>> (x8 &&& 31)) &&& 1) = 1 then 1 else 0 : Int32) = 0 then
        some 1
      else
      if am_in (26 + x8) 71 = true then
      if (g.1 223 (26 + x8).toNatClampNeg) = 0 then
        if am_in (8 + x8) 29 = true then
        if (g.1 231 (8 + x8).toNatClampNeg) = 9 then
          some 0
        else
        some 1
        else none
      else
      some 0
      else none).bind fun (q26 : Int32) =>
    (
      if (if ((x5 >>> (x8 &&& 31)) &&& 1) = 1 then 1 else 0 : Int32) = 0 then
        some 0
      else
      if am_in (15 + x8) 320 = true then
      some (g.1 225 (15 + x8).toNatClampNeg)
      else none).bind fun (q29 : Int32) =>
    (
      if (if ((x5 >>> (x8 &&& 31)) &&& 1) = 1 then 1 else 0 : Int32) = 0 then
        if am_in (8 + x8) 29 = true then
        some (g.1 231 (8 + x8).toNatClampNeg)
        else none
      else
      some 9).bind fun (q32 : Int32) =>
    if am_in (8 + x8) 320 = true then
    Mo_leave_L75 n (am_wr g 225 (8 + x8).toNatClampNeg q32) x1 x2 x3 x4 x5 (x6 + q29) q26 (x8 + 1)
    else none
def Mo_leave_L53 (n : Nat) (g : am_G) (x1 : Int32) (x2 : Int32) (x3 : Int32) (x4 : Int32) (x5 : Int32) : Option (am_G × Int32 × Int32) := match n with
  | 0 => none
  | n + 1 =>
    if (1 <<< ((g.1 223 1) &&& 31)) ≤ x5 then
      some (g, x3, x4)
    else
    (Mo_leave_L75 am_fuel g x1 x2 x3 x4 x5 0 1 0).bind fun q34 =>
    (
      if q34.2.2 = 0 then
        some 0
      else
      if x3 = (-9) then
        if am_in (47 + (q34.1.1 225 0)) 71 = true then
        (Mo_slowest q34.1 (q34.1.1 223 (47 + (q34.1.1 225 0)).toNatClampNeg)).bind fun q38 =>
        if x1 < q38 then
          some 0
        else
        some 1
        else none
      else
      if x4 ≤ q34.2.1 then
        some 0
      else
      if am_in (47 + (q34.1.1 225 0)) 71 = true then
      (Mo_slowest q34.1 (q34.1.1 223 (47 + (q34.1.1 225 0)).toNatClampNeg)).bind fun q43 =>
      if x1 < q43 then
        some 0
      else
      some 1
      else none).bind fun (q46 : Int32) =>
    Mo_leave_L53 n q34.1 x1 x2 (if q46 = 0 then x3 else x5 : Int32) (if q46 = 0 then x4 else q34.2.1 : Int32) (x5 + 1)
def Mo_leave (g : am_G) (x1 : Int32) (x2 : Int32) : Option (am_G × Int32) :=
  (Mo_in g x1 0 999).bind fun q1 =>
  if q1 = true then
    (Mo_in g x2 0 1).bind fun q4 =>
    if q4 = true then
      (Mo_isStage g).bind fun q7 =>
      if q7 = true then
        (Mo_holds g).bind fun q10 =>
        (Mo_isRain q10).bind fun q12 =>
        (Mo_rains q10 (am_b q12)).bind fun q14 =>
        (Mo_leave_L53 am_fuel q14 x1 x2 (-9) 0 0).bind fun q51 =>
        (Mo_lets q51.1).bind fun q52 =>
        if q51.2.1 = (-9) then
          some (q52, (-9))
        else
        if x2 = 0 then
          some (q52, q51.2.1)
        else
        some (q52, q51.2.2)
      else
      some (g, (-9))
    else
    some (g, (-1))
  else
  some (g, (-1))
def Mo_ordered_L47 (n : Nat) (g : am_G) (x2 : Int32) (x4 : Int32) (x5 : Int32) (x6 : Int32) (x7 : Int32) (x8 : Int32) (x9 : Int32) (x10 : Int32) : Option (Int32) := match n with
  | 0 => none
  | n + 1 =>
    if am_in (26 + x10) 71 = true then
    if (g.1 223 (26 + x10).toNatClampNeg) = 0 then
      Mo_ordered_L47 n g x2 x4 x5 x6 x7 x8 (x9 - (if (g.1 223 (26 + x10).toNatClampNeg) = 1 then if ((x6 >>> (x10 &&& 31)) &&& 1) = 0 then 1 else 0 else 0 : Int32)) (x10 + 1)
    else
    if ((x6 >>> (x10 &&& 31)) &&& 1) = 1 then
      Mo_ordered_L47 n g x2 x4 x5 x6 x7 x8 (x9 - (if (g.1 223 (26 + x10).toNatClampNeg) = 1 then if ((x6 >>> (x10 &&& 31)) &&& 1) = 0 then 1 else 0 else 0 : Int32)) (x10 + 1)
    else
    if x9 ≤ 0 then
      some x10
    else
    Mo_ordered_L47 n g x2 x4 x5 x6 x7 x8 (x9 - (if (g.1 223 (26 + x10).toNatClampNeg) = 1 then if ((x6 >>> (x10 &&& 31)) &&& 1) = 0 then 1 else 0 else 0 : Int32)) (x10 + 1)
    else none
def Mo_ordered_L15 (n : Nat) (g : am_G) (x2 : Int32) (x4 : Int32) (x5 : Int32) (x6 : Int32) (x7 : Int32) (x8 : Int32) : Option (am_G × Int32 × Int32) := match n with
  | 0 => none
  | n + 1 =>
    if x2 ≤ x8 then
      some (g, x6, x7)
    else
    if ¬ (x2 - x8) = 0 then
    if ¬ (x5 / (x2 - x8)) = 0 then
    (Mo_ordered_L47 am_fuel g x2 (x4 - x4 / (x5 / (x2 - x8)) * (x5 / (x2 - x8))) (x5 / (x2 - x8)) x6 x7 x8 (x4 / (x5 / (x2 - x8))) 0).bind fun q18 =>
    if am_in x8 7 = true then
    Mo_ordered_L15 n (am_wr g 229 x8.toNatClampNeg q18) x2 (x4 - x4 / (x5 / (x2 - x8)) * (x5 / (x2 - x8))) (x5 / (x2 - x8)) (x6 ||| (1 <<< (q18 &&& 31))) (((10 * x7) + q18) + 1) (x8 + 1)
    else none
    else none
    else none
def Mo_ordered_L158 (n : Nat) (g : am_G) (x6 : Int32) (x7 : Int32) (x8 : Int32) (x9 : Int32) : Option (am_G) := match n with
  | 0 => none
  | n + 1 =>
    if 7 ≤ x9 then
      some g
    else
    (
      if ((x6 >>> (x9 &&& 31)) &&& 1) = 0 then
        if am_in x8 7 = true then
        some (am_wr g 229 x8.toNatClampNeg x9, x8 + 1)
        else none
      else
      some (g, x8)).bind fun (q24 : am_G × Int32) =>
    Mo_ordered_L158 n q24.1 x6 x7 q24.2 (x9 + 1)
def Mo_ordered (g : am_G) (x1 : Int32) (x2 : Int32) (x3 : Int32) : Option (am_G × Int32) :=
  (Mo_ordered_L15 am_fuel g x2 x1 x3 0 0 0).bind fun q20 =>
  (Mo_ordered_L158 am_fuel q20.1 q20.2.1 q20.2.2 x2 0).bind fun q25 =>
  some (q25, q20.2.2)
def Mo_eat_L15 (n : Nat) (g : am_G) (x1 : Int32) (x2 : Int32) (x3 : Int32) : Option (Int32) := match n with
  | 0 => none
  | n + 1 =>
    if (g.1 223 1) ≤ x3 then
      some x2
    else
    if am_in (26 + x3) 71 = true then
    Mo_eat_L15 n g x1 (x2 + (g.1 223 (26 + x3).toNatClampNeg)) (x3 + 1)
    else none
def Mo_eat_L48 (n : Nat) (g : am_G) (x1 : Int32) (x2 : Int32) (x3 : Int32) (x4 : Int32) : Option (Int32) := match n with
  | 0 => none
  | n + 1 =>
    if x2 < x4 then
      some x3
    else
    Mo_eat_L48 n g x1 x2 (x3 * x4) (x4 + 1)
def Mo_eat_L97 (n : Nat) (g : am_G) (x1 : Int32) (x2 : Int32) (x3 : Int32) (x4 : Int32) (x5 : Int32) (x6 : Int32) (x7 : Int32) (x8 : Int32) : Option (am_G) := match n with
  | 0 => none
  | n + 1 =>
    (Mo_isStage g).bind fun q14 =>
    if q14 = true then
      (Mo_isRain g).bind fun q17 =>
      (Mo_stageGoes g (am_b q17)).bind fun q19 =>
      Mo_eat_L97 n q19.1 x1 x2 x3 x4 x5 x6 x7 x8
    else
    some g
def Mo_eat_L81 (n : Nat) (g : am_G) (x1 : Int32) (x2 : Int32) (x3 : Int32) (x4 : Int32) (x5 : Int32) (x6 : Int32) (x7 : Int32) : Option (am_G × Int32 × Int32) := match n with
  | 0 => none
  | n + 1 =>
    if x3 ≤ x7 then
      some (g, x4, x5)
    else
    (Mo_ordered g x7 x2 x3).bind fun q12 =>
    (Mo_eat_L97 am_fuel q12.1 x1 x2 x3 x4 x5 x6 x7 q12.2).bind fun q21 =>
    (Mo_lets q21).bind fun q22 =>
    Mo_eat_L81 n q22 x1 x2 x3 (if (if x5 < 0 then 1 else if ((q21.1 225 1) - (q21.1 231 1)) < x5 then 1 else if ((q21.1 225 1) - (q21.1 231 1)) = x5 then if x6 ≤ ((q21.1 225 2) - (q21.1 231 2)) then 0 else 1 else 0 : Int32) = 0 then x4 else q12.2 : Int32) (if (if x5 < 0 then 1 else if ((q21.1 225 1) - (q21.1 231 1)) < x5 then 1 else if ((q21.1 225 1) - (q21.1 231 1)) = x5 then if x6 ≤ ((q21.1 225 2) - (q21.1 231 2)) then 0 else 1 else 0 : Int32) = 0 then x5 else (q21.1 225 1) - (q21.1 231 1) : Int32) (if (if x5 < 0 then 1 else if ((q21.1 225 1) - (q21.1 231 1)) < x5 then 1 else if ((q21.1 225 1) - (q21.1 231 1)) = x5 then if x6 ≤ ((q21.1 225 2) - (q21.1 231 2)) then 0 else 1 else 0 : Int32) = 0 then x6 else (q21.1 225 2) - (q21.1 231 2) : Int32) (x7 + 1)
def Mo_eat (g : am_G) (x1 : Int32) : Option (am_G × Int32) :=
  (Mo_in g x1 0 1).bind fun q1 =>
  if q1 = true then
    (Mo_eat_L15 am_fuel g x1 0 0).bind fun q6 =>
    (Mo_eat_L48 am_fuel g x1 q6 1 1).bind fun q8 =>
    (Mo_holds g).bind fun q9 =>
    (Mo_eat_L81 am_fuel q9 x1 q6 q8 0 (-1) 0 0).bind fun q35 =>
    if x1 = 0 then
      some (q35.1, q35.2.1)
    else
    some (q35.1, q35.2.2)
  else
  some (g, (-1))
def Mo_truly_L52 (n : Nat) (g : am_G) (x1 : Int32) (x2 : Int32) (x3 : Int32) (x4 : Int32) (x5 : Int32) (x6 : Int32) (x7 : Int32) : Option (Int32 × Int32) := match n with
  | 0 => none
  | n + 1 =>
    if 100 ≤ x7 then
      some (x5, x6)
    else
    (Mo_pace g x1 x7).bind fun q14 =>
    (Mo_takes g x2 q14).bind fun q16 =>
    Mo_truly_L52 n g x1 x2 x3 x4 (if (if q16 = x3 then 1 else 0 : Int32) = 0 then x5 else if x5 = (-9) then x7 else x5 : Int32) (if (if q16 = x3 then 1 else 0 : Int32) = 0 then x6 else x7 : Int32) (x7 + 1)
def Mo_truly (g : am_G) (x1 : Int32) (x2 : Int32) (x3 : Int32) (x4 : Int32) : Option Int32 :=
  (Mo_isWalker g x1).bind fun q1 =>
  if q1 = true then
    (Mo_in g x2 1 20).bind fun q4 =>
    if q4 = true then
      (Mo_in g x3 1 999).bind fun q7 =>
      if q7 = true then
        (Mo_in g x4 0 1).bind fun q10 =>
        if q10 = true then
          (Mo_truly_L52 am_fuel g x1 x2 x3 x4 (-9) (-9) 0).bind fun q25 =>
          if x4 = 0 then
            some q25.1
          else
          some q25.2
        else
        some (-1)
      else
      some (-1)
    else
    some (-1)
  else
  some (-1)
def Mo_odds_L58 (n : Nat) (g : am_G) (x1 : Int32) (x2 : Int32) (x3 : Int32) (x4 : Int32) (x5 : Int64) (x7 : Int64) (x9 : Int32) : Option (Int64) := match n with
  | 0 => none
  | n + 1 =>
    if x4 ≤ x9 then
      some x7
    else
    Mo_odds_L58 n g x1 x2 x3 x4 x5 (x7 * 10) (x9 + 1)
def Mo_odds_L105 (n : Nat) (g : am_G) (x1 : Int32) (x2 : Int32) (x3 : Int32) (x4 : Int32) (x5 : Int64) (x7 : Int64) (x9 : Int32) (x10 : Int64) (x12 : Int32) : Option (am_G × Int64) := match n with
  | 0 => none
  | n + 1 =>
    if x4 ≤ x12 then
      some (g, x10)
    else
    (Mo_stageGoes g (if ((x9 >>> (x12 &&& 31)) &&& 1) = 1 then 1 else 0 : Int32)).bind fun q22 =>
    Mo_odds_L105 n q22.1 x1 x2 x3 x4 x5 x7 x9 (x10 * (if (if ((x9 >>> (x12 &&& 31)) &&& 1) = 1 then 1 else 0 : Int32) = 0 then (10 - x1).toInt64 else x1.toInt64 : Int64)) (x12 + 1)
def Mo_odds_L90 (n : Nat) (g : am_G) (x1 : Int32) (x2 : Int32) (x3 : Int32) (x4 : Int32) (x5 : Int64) (x7 : Int64) (x9 : Int32) : Option (am_G × Int64) := match n with
  | 0 => none
  | n + 1 =>
    if (1 <<< (x4 &&& 31)) ≤ x9 then
      some (g, x5)
    else
    (Mo_odds_L105 am_fuel g x1 x2 x3 x4 x5 x7 x9 1 0).bind fun q24 =>
    (Mo_lets q24.1).bind fun q27 =>
    Mo_odds_L90 n q27 x1 x2 x3 x4 (x5 + (if x2 < ((q24.1.1 225 1) - (q24.1.1 231 1)) then 0 else q24.2 : Int64)) x7 (x9 + 1)
def Mo_odds_L209 (n : Nat) (g : am_G) (x3 : Int32) (x5 : Int64) (x7 : Int64) (x9 : Int64) (x11 : Int64) : Option (Int64) := match n with
  | 0 => none
  | n + 1 =>
    if (lg_cmp x11 0) = 0 then
      some x9
    else
    if ¬ x11 = 0 then
    Mo_odds_L209 n g x3 x5 x7 x11 (x9 - x9 / x11 * x11)
    else none
def Mo_odds (g : am_G) (x1 : Int32) (x2 : Int32) (x3 : Int32) : Option (am_G × Int64) :=
  (Mo_in g x1 0 10).bind fun q1 =>
  if q1 = true then
    (Mo_in g x2 0 9999).bind fun q4 =>
    if q4 = true then
      (Mo_in g x3 0 1).bind fun q7 =>
      if q7 = true then
        (Mo_odds_L58 am_fuel g x1 x2 x3 ((g.1 223 2) - (g.1 225 0)) 0 1 0).bind fun q11 =>
        (Mo_holds g).bind fun q12 =>
        (Mo_plainOrder q12).bind fun q14 =>
        (Mo_odds_L90 am_fuel q14 x1 x2 x3 ((g.1 223 2) - (g.1 225 0)) 0 q11 0).bind fun q29 =>
        (Mo_odds_L209 am_fuel q29.1 x3 q29.2 q11 q29.2 q11).bind fun q32 =>
        if x3 = 0 then
          if ¬ q32 = 0 then
          some (q29.1, q29.2 / q32)
          else none
        else
        if ¬ q32 = 0 then
        some (q29.1, q11 / q32)
        else none
      else
      some (g, (-1))
    else
    some (g, (-1))
  else
  some (g, (-1))
def Mo_book (g : am_G) (x1 : Int32) (x2 : Int32) (x3 : Int32) : Option (am_G × Int32) :=
  (Mo_isWalker g x1).bind fun q1 =>
  if q1 = true then
    (Mo_in g x2 1 20).bind fun q4 =>
    if q4 = true then
      (Mo_in g x3 1 999).bind fun q7 =>
      if q7 = true then
        if (g.1 221 9) = 6 then
          some (g, (-3))
        else
        if am_in (3 * (g.1 221 9)) 18 = true then
        if am_in ((3 * ((am_wr g 228 (3 * (g.1 221 9)).toNatClampNeg x1).1 221 9)) + 1) 18 = true then
        if am_in ((3 * ((am_wr (am_wr g 228 (3 * (g.1 221 9)).toNatClampNeg x1) 228 ((3 * ((am_wr g 228 (3 * (g.1 221 9)).toNatClampNeg x1).1 221 9)) + 1).toNatClampNeg x2).1 221 9)) + 2) 18 = true then
        some (am_wr (am_wr (am_wr (am_wr g 228 (3 * (g.1 221 9)).toNatClampNeg x1) 228 ((3 * ((am_wr g 228 (3 * (g.1 221 9)).toNatClampNeg x1).1 221 9)) + 1).toNatClampNeg x2) 228 ((3 * ((am_wr (am_wr g 228 (3 * (g.1 221 9)).toNatClampNeg x1) 228 ((3 * ((am_wr g 228 (3 * (g.1 221 9)).toNatClampNeg x1).1 221 9)) + 1).toNatClampNeg x2).1 221 9)) + 2).toNatClampNeg x3) 221 9 (((am_wr (am_wr (am_wr g 228 (3 * (g.1 221 9)).toNatClampNeg x1) 228 ((3 * ((am_wr g 228 (3 * (g.1 221 9)).toNatClampNeg x1).1 221 9)) + 1).toNatClampNeg x2) 228 ((3 * ((am_wr (am_wr g 228 (3 * (g.1 221 9)).toNatClampNeg x1) 228 ((3 * ((am_wr g 228 (3 * (g.1 221 9)).toNatClampNeg x1).1 221 9)) + 1).toNatClampNeg x2).1 221 9)) + 2).toNatClampNeg x3).1 221 9) + 1), (am_wr (am_wr (am_wr (am_wr g 228 (3 * (g.1 221 9)).toNatClampNeg x1) 228 ((3 * ((am_wr g 228 (3 * (g.1 221 9)).toNatClampNeg x1).1 221 9)) + 1).toNatClampNeg x2) 228 ((3 * ((am_wr (am_wr g 228 (3 * (g.1 221 9)).toNatClampNeg x1) 228 ((3 * ((am_wr g 228 (3 * (g.1 221 9)).toNatClampNeg x1).1 221 9)) + 1).toNatClampNeg x2).1 221 9)) + 2).toNatClampNeg x3) 221 9 (((am_wr (am_wr (am_wr g 228 (3 * (g.1 221 9)).toNatClampNeg x1) 228 ((3 * ((am_wr g 228 (3 * (g.1 221 9)).toNatClampNeg x1).1 221 9)) + 1).toNatClampNeg x2) 228 ((3 * ((am_wr (am_wr g 228 (3 * (g.1 221 9)).toNatClampNeg x1) 228 ((3 * ((am_wr g 228 (3 * (g.1 221 9)).toNatClampNeg x1).1 221 9)) + 1).toNatClampNeg x2).1 221 9)) + 2).toNatClampNeg x3).1 221 9) + 1)).1 221 9)
        else none
        else none
        else none
      else
      some (g, (-1))
    else
    some (g, (-1))
  else
  some (g, (-1))
def Mo_burn (g : am_G) : Option (am_G × Int32) :=
  some (am_wr g 221 9 0, g.1 221 9)
def Mo_isSo_L4 (n : Nat) (g : am_G) (x1 : Int32) (x2 : Int32) : Option (Int32) := match n with
  | 0 => none
  | n + 1 =>
    if (g.1 221 9) ≤ x2 then
      some x1
    else
    if am_in (3 * x2) 18 = true then
    (
      if x1 = 0 then
        some 0
      else
      if am_in ((3 * x2) + 1) 18 = true then
      (Mo_load g (g.1 228 (3 * x2).toNatClampNeg)).bind fun q5 =>
      (Mo_pace g (g.1 228 (3 * x2).toNatClampNeg) q5).bind fun q7 =>
      (Mo_takes g (g.1 228 ((3 * x2) + 1).toNatClampNeg) q7).bind fun q9 =>
      if am_in ((3 * x2) + 2) 18 = true then
      if q9 = (g.1 228 ((3 * x2) + 2).toNatClampNeg) then
        some 1
      else
      some 0
      else none
      else none).bind fun (q13 : Int32) =>
    Mo_isSo_L4 n g q13 (x2 + 1)
    else none
def Mo_isSo (g : am_G) : Option Bool :=
  (Mo_isSo_L4 am_fuel g 1 0).bind fun q14 =>
  if q14 = 0 ∨ q14 = 1 then
  some (decide (q14 = 1))
  else none
def Mo_sacks_L53 (n : Nat) (g : am_G) (x1 : Int32) (x2 : Int32) (x3 : Int32) (x4 : Int32) (x5 : Int32) (x6 : Int32) : Option (am_G × Int32 × Int32) := match n with
  | 0 => none
  | n + 1 =>
    if x6 < 0 then
      some (g, x2, x3)
    else
    (
      if x5 = 9 then
        some (g, x2, x3)
      else
      if x5 = x6 then
        some (g, x2, x3)
      else
      if am_in (8 + x4) 320 = true then
      (Mo_isSo (am_wr g 225 (8 + x4).toNatClampNeg x6)).bind fun q10 =>
      some (am_wr g 225 (8 + x4).toNatClampNeg x6, x2 + (if q10 = true then 1 else 0 : Int32), (if q10 = true then (10 * x4) + x6 else x3 : Int32))
      else none).bind fun (q16 : am_G × Int32 × Int32) =>
    Mo_sacks_L53 n q16.1 x1 q16.2.1 q16.2.2 x4 x5 (x6 + (-1))
def Mo_sacks_L26 (n : Nat) (g : am_G) (x1 : Int32) (x2 : Int32) (x3 : Int32) (x4 : Int32) : Option (am_G × Int32 × Int32) := match n with
  | 0 => none
  | n + 1 =>
    if x4 < 0 then
      some (g, x2, x3)
    else
    if am_in (8 + x4) 320 = true then
    (Mo_sacks_L53 am_fuel g x1 x2 x3 x4 (g.1 225 (8 + x4).toNatClampNeg) ((g.1 223 0) - 1)).bind fun q17 =>
    if am_in (8 + x4) 320 = true then
    Mo_sacks_L26 n (am_wr q17.1 225 (8 + x4).toNatClampNeg (g.1 225 (8 + x4).toNatClampNeg)) x1 q17.2.1 q17.2.2 (x4 + (-1))
    else none
    else none
def Mo_sacks (g : am_G) (x1 : Int32) : Option (am_G × Int32) :=
  (Mo_in g x1 0 1).bind fun q1 =>
  if q1 = true then
    (Mo_sacks_L26 am_fuel g x1 0 (-9) ((g.1 223 1) - 1)).bind fun q19 =>
    if x1 = 0 then
      some (q19.1, q19.2.1)
    else
    some (q19.1, q19.2.2)
  else
  some (g, (-1))
def Mo_mark (g : am_G) (x1 : Int32) (x2 : Int32) : Option (am_G × Int32) :=
  (Mo_in g x1 0 5).bind fun q1 =>
  if q1 = true then
    (Mo_isThing g x2).bind fun q4 =>
    if q4 = true then
      (Mo_weighs (am_wL g 221 0 ((g.2 221 0) + (if x1 = 0 then 1 else if x1 = 1 then 11 else if x1 = 2 then 101 else if x1 = 3 then 1011 else if x1 = 4 then 10101 else 100001 : Int64))) x2).bind fun q13 =>
      if am_in (19 + x2) 71 = true then
      if am_in (12 + x2) 71 = true then
      if x1 = 0 then
        some (am_wL g 221 0 ((g.2 221 0) + (if x1 = 0 then 1 else if x1 = 1 then 11 else if x1 = 2 then 101 else if x1 = 3 then 1011 else if x1 = 4 then 10101 else 100001 : Int64)), q13)
      else
      if x1 = 1 then
        some (am_wL g 221 0 ((g.2 221 0) + (if x1 = 0 then 1 else if x1 = 1 then 11 else if x1 = 2 then 101 else if x1 = 3 then 1011 else if x1 = 4 then 10101 else 100001 : Int64)), q13 + ((am_wL g 221 0 ((g.2 221 0) + (if x1 = 0 then 1 else if x1 = 1 then 11 else if x1 = 2 then 101 else if x1 = 3 then 1011 else if x1 = 4 then 10101 else 100001 : Int64))).1 223 (19 + x2).toNatClampNeg))
      else
      if x1 = 2 then
        some (am_wL g 221 0 ((g.2 221 0) + (if x1 = 0 then 1 else if x1 = 1 then 11 else if x1 = 2 then 101 else if x1 = 3 then 1011 else if x1 = 4 then 10101 else 100001 : Int64)), q13 - ((am_wL g 221 0 ((g.2 221 0) + (if x1 = 0 then 1 else if x1 = 1 then 11 else if x1 = 2 then 101 else if x1 = 3 then 1011 else if x1 = 4 then 10101 else 100001 : Int64))).1 223 (12 + x2).toNatClampNeg))
      else
      if x1 = 3 then
        some (am_wL g 221 0 ((g.2 221 0) + (if x1 = 0 then 1 else if x1 = 1 then 11 else if x1 = 2 then 101 else if x1 = 3 then 1011 else if x1 = 4 then 10101 else 100001 : Int64)), 2 * (q13 + ((am_wL g 221 0 ((g.2 221 0) + (if x1 = 0 then 1 else if x1 = 1 then 11 else if x1 = 2 then 101 else if x1 = 3 then 1011 else if x1 = 4 then 10101 else 100001 : Int64))).1 223 (19 + x2).toNatClampNeg)))
      else
      if x1 = 4 then
        some (am_wL g 221 0 ((g.2 221 0) + (if x1 = 0 then 1 else if x1 = 1 then 11 else if x1 = 2 then 101 else if x1 = 3 then 1011 else if x1 = 4 then 10101 else 100001 : Int64)), (q13 - ((am_wL g 221 0 ((g.2 221 0) + (if x1 = 0 then 1 else if x1 = 1 then 11 else if x1 = 2 then 101 else if x1 = 3 then 1011 else if x1 = 4 then 10101 else 100001 : Int64))).1 223 (12 + x2).toNatClampNeg)) + ((am_wL g 221 0 ((g.2 221 0) + (if x1 = 0 then 1 else if x1 = 1 then 11 else if x1 = 2 then 101 else if x1 = 3 then 1011 else if x1 = 4 then 10101 else 100001 : Int64))).1 225 0))
      else
      some (am_wL g 221 0 ((g.2 221 0) + (if x1 = 0 then 1 else if x1 = 1 then 11 else if x1 = 2 then 101 else if x1 = 3 then 1011 else if x1 = 4 then 10101 else 100001 : Int64)), q13 + ((am_wL g 221 0 ((g.2 221 0) + (if x1 = 0 then 1 else if x1 = 1 then 11 else if x1 = 2 then 101 else if x1 = 3 then 1011 else if x1 = 4 then 10101 else 100001 : Int64))).1 225 3))
      else none
      else none
    else
    some (g, (-1000000))
  else
  some (g, (-1000000))
def Mo_keep_L13 (n : Nat) (g : am_G) (x1 : Int32) (x2 : Int32) : Option (am_G) := match n with
  | 0 => none
  | n + 1 =>
    if 320 ≤ x2 then
      some g
    else
    if am_in x2 320 = true then
    if am_in ((320 * x1) + x2) 640 = true then
    Mo_keep_L13 n (am_wr g 226 ((320 * x1) + x2).toNatClampNeg (g.1 225 x2.toNatClampNeg)) x1 (x2 + 1)
    else none
    else none
def Mo_keep (g : am_G) (x1 : Int32) : Option (am_G × Int32) :=
  (Mo_in g x1 0 1).bind fun q1 =>
  if q1 = true then
    (Mo_keep_L13 am_fuel g x1 0).bind fun q7 =>
    if am_in x1 2 = true then
    some (am_wr q7 227 x1.toNatClampNeg 1, (am_wr q7 227 x1.toNatClampNeg 1).1 225 0)
    else none
  else
  some (g, (-1))
def Mo_back_L25 (n : Nat) (g : am_G) (x1 : Int32) (x2 : Int32) : Option (am_G) := match n with
  | 0 => none
  | n + 1 =>
    if 320 ≤ x2 then
      some g
    else
    if am_in ((320 * x1) + x2) 640 = true then
    if am_in x2 320 = true then
    Mo_back_L25 n (am_wr g 225 x2.toNatClampNeg (g.1 226 ((320 * x1) + x2).toNatClampNeg)) x1 (x2 + 1)
    else none
    else none
def Mo_back (g : am_G) (x1 : Int32) : Option (am_G × Int32) :=
  (Mo_in g x1 0 1).bind fun q1 =>
  if q1 = true then
    if am_in x1 2 = true then
    if (g.1 227 x1.toNatClampNeg) = 0 then
      some (g, (-2))
    else
    (Mo_back_L25 am_fuel g x1 0).bind fun q9 =>
    some (q9, q9.1 225 0)
    else none
  else
  some (g, (-1))
def Mo_count (g : am_G) (x1 : Int32) : Option Int32 :=
  (Mo_in g x1 0 5).bind fun q1 =>
  if q1 = true then
    if 3 ≤ x1 then
      if x1 = 3 then
        some (g.1 221 9)
      else
      if x1 = 4 then
        some (g.1 225 29)
      else
      some (g.1 221 2)
    else
    if am_in x1 71 = true then
    some (g.1 223 x1.toNatClampNeg)
    else none
  else
  some (-1)
def Mo_trace (g : am_G) : Option Int64 :=
  some (g.2 221 0)
