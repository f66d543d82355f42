/-! The ghost: functions over whole numbers beside the world (cells 129 to 137), that no machine runs here. -/
def f_Jxe99ae_isNaN_b9ae7 (a0 : UInt64) : Option (Int32) :=
  if (Op.cmpValue (FP.dcmp a0 a0) .l) = 0 then
    some (0 : Int32)
  else
    some (1 : Int32)
def f_Jxe99ae_doubleToLongBits_ccdee (a0 : UInt64) : Option (Int64) :=
  (f_Jxe99ae_isNaN_b9ae7 a0).bind fun r1 =>
  if r1 = 0 then
    some (a0.toInt64)
  else
    some (9221120237041090560 : Int64)
def f_X8_thrown (I : Nat → Nat → Int32) : Option (Int32) :=
  some (I 129 8)
def f_X8_refused (a1 : Int32) (I : Nat → Nat → Int32) : Option (Int32 × (Nat → Nat → Int32)) :=
  hlet (gup I 129 8 a1) fun I1 =>
  if a1 ≤ 0 then
    some ((0 : Int32), I1)
  else
    some ((1 : Int32), I1)
def f_X8_told (a1 : Int32) (I : Nat → Nat → Int32) : Option (Int32 × (Nat → Nat → Int32)) :=
  hlet (gup I 129 8 (0 : Int32)) fun I1 =>
  some (a1, I1)
def f_X8_in (a0 : Int32) (a1 : Int32) (a2 : Int32) : Option (Int32) :=
  if a0 < a1 then
    some (0 : Int32)
  else
    if a2 < a0 then
      some (0 : Int32)
    else
      some (1 : Int32)
def f_X8_isBird (a1 : Int32) (I : Nat → Nat → Int32) : Option (Int32) :=
  (f_X8_in a1 (0 : Int32) ((I 130 ((128 : Int32).toNatClampNeg)) - (1 : Int32))).bind fun r1 =>
  hg (gz r1) <|
  some r1
def f_X8_of (a1 : Int32) (a2 : Int32) (I : Nat → Nat → Int32) : Option (Int32) :=
  hg (gin (((16 : Int32) * a1) + a2) 151) <|
  some (I 130 ((((16 : Int32) * a1) + a2).toNatClampNeg))
def f_X8_flies (a1 : Int32) (I : Nat → Nat → Int32) : Option (Int32) :=
  (f_X8_of a1 (6 : Int32) I).bind fun r1 =>
  if r1 = (1 : Int32) then
    some (1 : Int32)
  else
    some (0 : Int32)
def f_X8_isOver (a1 : Int32) (I : Nat → Nat → Int32) : Option (Int32) :=
  (f_X8_of a1 (6 : Int32) I).bind fun r1 =>
  if r1 = (3 : Int32) then
    some (1 : Int32)
  else
    some (0 : Int32)
def f_X8_records_L52 : Nat → Int32 → (Nat → Nat → Int32) → Option (Nat → Nat → Int32)
  | 0, _, _ => none
  | fuel + 1, p2, I3 =>
    if (151 : Int32) ≤ p2 then
      some I3
    else
      hg (gin p2 151) <|
      hg (gin (((151 : Int32) * (I3 129 3)) + p2) 906) <|
      hlet (gup I3 132 ((((151 : Int32) * (I3 129 3)) + p2).toNatClampNeg) (I3 130 (p2.toNatClampNeg))) fun I8 =>
      hlet (p2 + 1) fun x9 =>
      f_X8_records_L52 fuel x9 I8
def f_X8_records_L11 : Nat → Int32 → (Nat → Nat → Int32) → Option (Nat → Nat → Int32)
  | 0, _, _ => none
  | fuel + 1, p11, I12 =>
    if (755 : Int32) ≤ p11 then
      some I12
    else
      hg (gin ((151 : Int32) + p11) 906) <|
      hg (gin p11 906) <|
      hlet (gup I12 132 (p11.toNatClampNeg) (I12 132 (((151 : Int32) + p11).toNatClampNeg))) fun I17 =>
      hlet (p11 + 1) fun x18 =>
      f_X8_records_L11 fuel x18 I17
def f_X8_records (I : Nat → Nat → Int32) : Option (Nat → Nat → Int32) :=
  (show Option (Nat → Nat → Int32) from
    if (I 129 3) = (6 : Int32) then
      (f_X8_records_L11  FU (0 : Int32) I).bind fun I13 =>
      hlet (gup I13 129 3 ((I13 129 3) - (1 : Int32))) fun I14 =>
      some I14
    else
      some I).bind fun I1 =>
  (f_X8_records_L52  FU (0 : Int32) I1).bind fun I4 =>
  hlet (gup I4 129 3 ((I4 129 3) + (1 : Int32))) fun I5 =>
  some I5
def f_X8_putAside_L2 : Nat → Int32 → (Nat → Nat → Int32) → Option (Nat → Nat → Int32)
  | 0, _, _ => none
  | fuel + 1, p1, I2 =>
    if (151 : Int32) ≤ p1 then
      some I2
    else
      hg (gin p1 151) <|
      hg (gin p1 151) <|
      hlet (gup I2 131 (p1.toNatClampNeg) (I2 130 (p1.toNatClampNeg))) fun I6 =>
      hlet (p1 + 1) fun x7 =>
      f_X8_putAside_L2 fuel x7 I6
def f_X8_putAside (I : Nat → Nat → Int32) : Option (Nat → Nat → Int32) :=
  (f_X8_putAside_L2  FU (0 : Int32) I).bind fun I3 =>
  some I3
def f_X8_putBack_L2 : Nat → Int32 → (Nat → Nat → Int32) → Option (Nat → Nat → Int32)
  | 0, _, _ => none
  | fuel + 1, p1, I2 =>
    if (151 : Int32) ≤ p1 then
      some I2
    else
      hg (gin p1 151) <|
      hg (gin p1 151) <|
      hlet (gup I2 130 (p1.toNatClampNeg) (I2 131 (p1.toNatClampNeg))) fun I6 =>
      hlet (p1 + 1) fun x7 =>
      f_X8_putBack_L2 fuel x7 I6
def f_X8_putBack (I : Nat → Nat → Int32) : Option (Nat → Nat → Int32) :=
  (f_X8_putBack_L2  FU (0 : Int32) I).bind fun I3 =>
  some I3
def f_X8_arrival_L5 (a1 : Int32) (I : Nat → Nat → Int32) : Nat → Int32 → Int32 → Option (Int32)
  | 0, _, _ => none
  | fuel + 1, p1, p2 =>
    if (I 130 ((135 : Int32).toNatClampNeg)) ≤ p2 then
      some p1
    else
      hg (gin ((136 : Int32) + p2) 151) <|
      (show Option (Int32) from
        if (I 130 (((136 : Int32) + p2).toNatClampNeg)) = a1 then
          some p2
        else
          some p1).bind fun p5 =>
      hlet (p2 + 1) fun x6 =>
      f_X8_arrival_L5 a1 I fuel p5 x6
def f_X8_arrival (a1 : Int32) (I : Nat → Nat → Int32) : Option (Int32) :=
  (f_X8_arrival_L5 a1 I FU (8 : Int32) (0 : Int32)).bind fun p3 =>
  some p3
def f_X8_isAhead (a1 : Int32) (a2 : Int32) (I : Nat → Nat → Int32) : Option (Int32) :=
  (f_X8_isOver a1 I).bind fun r1 =>
  hlet (fun (_ : Unit) => show Option (Int32) from
    (f_X8_isOver a1 I).bind fun r4 =>
    if r4 = 0 then
      some (0 : Int32)
    else
      (f_X8_isOver a2 I).bind fun r6 =>
      if r6 = 0 then
        some (1 : Int32)
      else
        (f_X8_arrival a1 I).bind fun r8 =>
        (f_X8_arrival a2 I).bind fun r10 =>
        if r10 ≤ r8 then
          some (0 : Int32)
        else
          some (1 : Int32)) fun j3 =>
  if r1 = 0 then
    (f_X8_isOver a2 I).bind fun r15 =>
    if r15 = 0 then
      (f_X8_of a1 (7 : Int32) I).bind fun r17 =>
      (f_X8_of a2 (7 : Int32) I).bind fun r19 =>
      if r17 = r19 then
        if a2 ≤ a1 then
          some (0 : Int32)
        else
          some (1 : Int32)
      else
        (f_X8_of a1 (7 : Int32) I).bind fun r22 =>
        (f_X8_of a2 (7 : Int32) I).bind fun r24 =>
        if r22 ≤ r24 then
          some (0 : Int32)
        else
          some (1 : Int32)
    else
      j3 ()
  else
    j3 ()
def f_X8_place_L4 (a1 : Int32) (I : Nat → Nat → Int32) : Nat → Int32 → Int32 → Option (Int32)
  | 0, _, _ => none
  | fuel + 1, p1, p2 =>
    if (I 130 ((128 : Int32).toNatClampNeg)) ≤ p2 then
      some p1
    else
      (show Option (Int32) from
        if p2 = a1 then
          some (0 : Int32)
        else
          (f_X8_isAhead p2 a1 I).bind fun r6 =>
          if r6 = 0 then
            some (0 : Int32)
          else
            some (1 : Int32)).bind fun p4 =>
      hlet (p2 + 1) fun x5 =>
      f_X8_place_L4 a1 I fuel (p1 + p4) x5
def f_X8_place (a1 : Int32) (I : Nat → Nat → Int32) : Option (Int32) :=
  (f_X8_place_L4 a1 I FU (0 : Int32) (0 : Int32)).bind fun p3 =>
  some p3
def f_X8_birdAt_L4 (a1 : Int32) (I : Nat → Nat → Int32) : Nat → Int32 → Int32 → Option (Int32)
  | 0, _, _ => none
  | fuel + 1, p1, p2 =>
    if (I 130 ((128 : Int32).toNatClampNeg)) ≤ p2 then
      some p1
    else
      (f_X8_place p2 I).bind fun r4 =>
      (show Option (Int32) from
        if r4 = a1 then
          some p2
        else
          some p1).bind fun p6 =>
      hlet (p2 + 1) fun x7 =>
      f_X8_birdAt_L4 a1 I fuel p6 x7
def f_X8_birdAt (a1 : Int32) (I : Nat → Nat → Int32) : Option (Int32) :=
  (f_X8_birdAt_L4 a1 I FU (-1 : Int32) (0 : Int32)).bind fun p3 =>
  some p3
def f_X8_ahead (a1 : Int32) (a2 : Int32) (I : Nat → Nat → Int32) : Option (Int32) :=
  (f_X8_of a1 (7 : Int32) I).bind fun r1 =>
  (f_X8_of a2 (7 : Int32) I).bind fun r3 =>
  if 0 ≤ ((r1 - r3) - (r1 - r3) / (400 : Int32) * (400 : Int32)) then
    some ((r1 - r3) - (r1 - r3) / (400 : Int32) * (400 : Int32))
  else
    some (((r1 - r3) - (r1 - r3) / (400 : Int32) * (400 : Int32)) + (400 : Int32))
def f_X8_gap_L5 (a1 : Int32) (a2 : Int32) (I : Nat → Nat → Int32) : Nat → Int32 → Int32 → Option (Int32)
  | 0, _, _ => none
  | fuel + 1, p1, p2 =>
    if (I 130 ((128 : Int32).toNatClampNeg)) ≤ p2 then
      some p1
    else
      (show Option (Int32) from
        if p2 = a1 then
          some p1
        else
          (f_X8_flies p2 I).bind fun r6 =>
          if r6 = 0 then
            some p1
          else
            (f_X8_of p2 (5 : Int32) I).bind fun r8 =>
            if r8 = a2 then
              (f_X8_ahead p2 a1 I).bind fun r10 =>
              (show Option (Int32) from
                if r10 = 0 then
                  some (400 : Int32)
                else
                  (f_X8_ahead p2 a1 I).bind fun r16 =>
                  some r16).bind fun p12 =>
              (show Option (Int32) from
                if p1 = 0 then
                  some p12
                else
                  if p1 ≤ p12 then
                    some p1
                  else
                    some p12).bind fun p13 =>
              some p13
            else
              some p1).bind fun p4 =>
      hlet (p2 + 1) fun x5 =>
      f_X8_gap_L5 a1 a2 I fuel p4 x5
def f_X8_gap (a1 : Int32) (a2 : Int32) (I : Nat → Nat → Int32) : Option (Int32) :=
  (f_X8_gap_L5 a1 a2 I FU (0 : Int32) (0 : Int32)).bind fun p3 =>
  some p3
def f_X8_isDrafted (a1 : Int32) (I : Nat → Nat → Int32) : Option (Int32) :=
  (f_X8_of a1 (5 : Int32) I).bind fun r1 =>
  (f_X8_gap a1 r1 I).bind fun r3 =>
  (f_X8_in r3 (1 : Int32) (8 : Int32)).bind fun r5 =>
  hg (gz r5) <|
  some r5
def f_X8_isPartnerNext_L26 (a1 : Int32) (I : Nat → Nat → Int32) (r3 : Int32) : Nat → Int32 → Int32 → Option (Int32)
  | 0, _, _ => none
  | fuel + 1, p5, p6 =>
    if p6 < 0 then
      some p5
    else
      (show Option (Int32) from
        if p6 = a1 then
          some p5
        else
          (f_X8_flies p6 I).bind fun r14 =>
          if r14 = 0 then
            some p5
          else
            (f_X8_of p6 (5 : Int32) I).bind fun r16 =>
            (f_X8_of a1 (5 : Int32) I).bind fun r18 =>
            if r16 = r18 then
              (f_X8_ahead p6 a1 I).bind fun r20 =>
              if r20 = r3 then
                some p6
              else
                some p5
            else
              some p5).bind fun p12 =>
      hlet (p6 + (-1)) fun x13 =>
      f_X8_isPartnerNext_L26 a1 I r3 fuel p12 x13
def f_X8_isPartnerNext (a1 : Int32) (I : Nat → Nat → Int32) : Option (Int32) :=
  (f_X8_of a1 (5 : Int32) I).bind fun r1 =>
  (f_X8_gap a1 r1 I).bind fun r3 =>
  (f_X8_isPartnerNext_L26 a1 I r3 FU (-1 : Int32) ((I 130 ((128 : Int32).toNatClampNeg)) - (1 : Int32))).bind fun p7 =>
  if p7 < 0 then
    some (0 : Int32)
  else
    (f_X8_of a1 (10 : Int32) I).bind fun r8 =>
    if p7 = (r8 - (1 : Int32)) then
      some (1 : Int32)
    else
      some (0 : Int32)
def f_X8_where (a1 : Int32) (I : Nat → Nat → Int32) : Option (Int32) :=
  (f_X8_of a1 (7 : Int32) I).bind fun r1 =>
  if (70 : Int32) ≤ ((r1 - r1 / (400 : Int32) * (400 : Int32)) - (r1 - r1 / (400 : Int32) * (400 : Int32)) / (100 : Int32) * (100 : Int32)) then
    some ((4 : Int32) + ((r1 - r1 / (400 : Int32) * (400 : Int32)) / (100 : Int32)))
  else
    some ((r1 - r1 / (400 : Int32) * (400 : Int32)) / (100 : Int32))
def f_X8_allowed (a1 : Int32) (I : Nat → Nat → Int32) : Option (Int32) :=
  (f_X8_where a1 I).bind fun r1 =>
  (show Option (Int32) from
    if (4 : Int32) ≤ r1 then
      hg (gin (((129 : Int32) + r1) - (4 : Int32)) 151) <|
      (f_X8_of a1 (5 : Int32) I).bind fun r14 =>
      some ((I 130 ((((129 : Int32) + r1) - (4 : Int32)).toNatClampNeg)) + ((2 : Int32) * r14))
    else
      (f_X8_of a1 (0 : Int32) I).bind fun r16 =>
      some r16).bind fun p3 =>
  (f_X8_of a1 (0 : Int32) I).bind fun r4 =>
  (show Option (Int32) from
    if p3 ≤ r4 then
      some p3
    else
      (f_X8_of a1 (0 : Int32) I).bind fun r10 =>
      some r10).bind fun p6 =>
  (f_X8_of a1 (4 : Int32) I).bind fun r7 =>
  if (4 : Int32) ≤ (p6 - (r7 / (10 : Int32))) then
    some (p6 - (r7 / (10 : Int32)))
  else
    some (4 : Int32)
def f_X8_isFree_L2 (a1 : Int32) (a2 : Int32) (I : Nat → Nat → Int32) : Nat → Int32 → Option (Int32)
  | 0, _ => none
  | fuel + 1, p1 =>
    if (I 130 ((128 : Int32).toNatClampNeg)) ≤ p1 then
      some (1 : Int32)
    else
      (f_X8_ahead p1 a1 I).bind fun r2 =>
      hlet (fun (_ : Unit) => show Option (Int32) from
        hlet (p1 + 1) fun x5 =>
        f_X8_isFree_L2 a1 a2 I fuel x5) fun j4 =>
      if p1 = a1 then
        j4 ()
      else
        (f_X8_flies p1 I).bind fun r6 =>
        if r6 = 0 then
          j4 ()
        else
          (f_X8_of p1 (5 : Int32) I).bind fun r8 =>
          if r8 = a2 then
            if r2 ≤ (3 : Int32) then
              some (0 : Int32)
            else
              if r2 < (397 : Int32) then
                j4 ()
              else
                some (0 : Int32)
          else
            j4 ()
def f_X8_isFree (a1 : Int32) (a2 : Int32) (I : Nat → Nat → Int32) : Option (Int32) :=
  f_X8_isFree_L2 a1 a2 I FU (0 : Int32)
def f_X8_atMost (a1 : Int32) (a2 : Int32) : Option (Int32) :=
  if a2 = 0 then
    some a1
  else
    if a2 ≤ a1 then
      some (a2 - (1 : Int32))
    else
      some a1
def f_X8_fly (a1 : Int32) (I : Nat → Nat → Int32) : Option (Int32 × (Nat → Nat → Int32)) :=
  hg (gin (((16 : Int32) * a1) + (7 : Int32)) 151) <|
  hg (gin (((16 : Int32) * a1) + (5 : Int32)) 151) <|
  (f_X8_gap a1 (I 130 ((((16 : Int32) * a1) + (5 : Int32)).toNatClampNeg)) I).bind fun r3 =>
  (f_X8_isDrafted a1 I).bind fun r5 =>
  (f_X8_allowed a1 I).bind fun r7 =>
  (show Option (Int32) from
    if r5 = 0 then
      some (0 : Int32)
    else
      (f_X8_isPartnerNext a1 I).bind fun r99 =>
      if r99 = 0 then
        some (1 : Int32)
      else
        some (2 : Int32)).bind fun p9 =>
  (show Option (Int32) from
    if r5 = 0 then
      some (0 : Int32)
    else
      some (1 : Int32)).bind fun p10 =>
  hlet (gup I 130 ((145 : Int32).toNatClampNeg) ((I 130 ((145 : Int32).toNatClampNeg)) + p10)) fun I11 =>
  (show Option (Int32 × (Nat → Nat → Int32)) from
    if r3 ≤ 0 then
      some ((r7 + p9), I11)
    else
      if (1 : Int32) < (r3 - (r7 + p9)) then
        some ((r7 + p9), I11)
      else
        hg (gin (((16 : Int32) * a1) + (5 : Int32)) 151) <|
        (f_X8_where a1 I11).bind fun r81 =>
        (show Option (Int32 × (Nat → Nat → Int32)) from
          if (4 : Int32) ≤ r81 then
            some (r3, I11)
          else
            (f_X8_isFree a1 ((1 : Int32) - (I11 130 ((((16 : Int32) * a1) + (5 : Int32)).toNatClampNeg))) I11).bind fun r87 =>
            if r87 = 0 then
              some (r3, I11)
            else
              hg (gin (((16 : Int32) * a1) + (5 : Int32)) 151) <|
              hlet (gup I11 130 ((((16 : Int32) * a1) + (5 : Int32)).toNatClampNeg) ((1 : Int32) - (I11 130 ((((16 : Int32) * a1) + (5 : Int32)).toNatClampNeg)))) fun I90 =>
              hlet (gup I90 130 ((146 : Int32).toNatClampNeg) ((I90 130 ((146 : Int32).toNatClampNeg)) + (1 : Int32))) fun I91 =>
              (f_X8_gap a1 ((1 : Int32) - (I11 130 ((((16 : Int32) * a1) + (5 : Int32)).toNatClampNeg))) I91).bind fun r92 =>
              some (r92, I91)).bind fun (p83, I84) =>
        (f_X8_atMost (r7 + p9) p83).bind fun r85 =>
        some (r85, I84)).bind fun (p12, I13) =>
  (show Option (Int32) from
    if r5 = 0 then
      some (((p12 * p12) / (40 : Int32)) + (1 : Int32))
    else
      some (((((p12 * p12) / (40 : Int32)) + (1 : Int32)) * (3 : Int32)) / (5 : Int32))).bind fun p14 =>
  hg (gin (((16 : Int32) * a1) + (3 : Int32)) 151) <|
  (show Option (Int32 × (Nat → Nat → Int32)) from
    if p14 ≤ (I13 130 ((((16 : Int32) * a1) + (3 : Int32)).toNatClampNeg)) then
      hg (gin (((16 : Int32) * a1) + (3 : Int32)) 151) <|
      hg (gin (((16 : Int32) * a1) + (3 : Int32)) 151) <|
      hlet (gup I13 130 ((((16 : Int32) * a1) + (3 : Int32)).toNatClampNeg) ((I13 130 ((((16 : Int32) * a1) + (3 : Int32)).toNatClampNeg)) - p14)) fun I75 =>
      some (p12, I75)
    else
      (show Option (Int32) from
        if p12 ≤ (4 : Int32) then
          some p12
        else
          some (4 : Int32)).bind fun p76 =>
      some (p76, I13)).bind fun (p16, I17) =>
  hg (gin (((16 : Int32) * a1) + (4 : Int32)) 151) <|
  (show Option (Int32) from
    if p16 < (15 : Int32) then
      some (0 : Int32)
    else
      hg (gin (((16 : Int32) * a1) + (4 : Int32)) 151) <|
      if (100 : Int32) ≤ (I17 130 ((((16 : Int32) * a1) + (4 : Int32)).toNatClampNeg)) then
        some (0 : Int32)
      else
        some (1 : Int32)).bind fun p19 =>
  hg (gin (((16 : Int32) * a1) + (4 : Int32)) 151) <|
  hlet (gup I17 130 ((((16 : Int32) * a1) + (4 : Int32)).toNatClampNeg) ((I17 130 ((((16 : Int32) * a1) + (4 : Int32)).toNatClampNeg)) + p19)) fun I21 =>
  (show Option (Int32) from
    if ((I 130 ((((16 : Int32) * a1) + (7 : Int32)).toNatClampNeg)) + p16) < ((400 : Int32) * (((I 130 ((((16 : Int32) * a1) + (7 : Int32)).toNatClampNeg)) / (400 : Int32)) + (1 : Int32))) then
      some (0 : Int32)
    else
      some (1 : Int32)).bind fun p22 =>
  (show Option (Int32) from
    if p22 = 0 then
      some (0 : Int32)
    else
      if (((I 130 ((((16 : Int32) * a1) + (7 : Int32)).toNatClampNeg)) / (400 : Int32)) + (1 : Int32)) = (I21 130 ((133 : Int32).toNatClampNeg)) then
        some (1 : Int32)
      else
        some (0 : Int32)).bind fun p23 =>
  (show Option (Int32) from
    if p22 = 0 then
      some (0 : Int32)
    else
      if p23 = 0 then
        hg (gin (((16 : Int32) * a1) + (9 : Int32)) 151) <|
        if (I21 130 ((((16 : Int32) * a1) + (9 : Int32)).toNatClampNeg)) = (1 : Int32) then
          some (1 : Int32)
        else
          some (0 : Int32)
      else
        some (0 : Int32)).bind fun p24 =>
  (show Option (Int32) from
    if p23 = 0 then
      if p24 = 0 then
        some ((I 130 ((((16 : Int32) * a1) + (7 : Int32)).toNatClampNeg)) + p16)
      else
        some ((400 : Int32) * (((I 130 ((((16 : Int32) * a1) + (7 : Int32)).toNatClampNeg)) / (400 : Int32)) + (1 : Int32)))
    else
      some ((400 : Int32) * (((I 130 ((((16 : Int32) * a1) + (7 : Int32)).toNatClampNeg)) / (400 : Int32)) + (1 : Int32)))).bind fun p25 =>
  hg (gin (((16 : Int32) * a1) + (7 : Int32)) 151) <|
  hlet (gup I21 130 ((((16 : Int32) * a1) + (7 : Int32)).toNatClampNeg) p25) fun I27 =>
  hg (gin (((16 : Int32) * a1) + (8 : Int32)) 151) <|
  hlet (gup I27 130 ((((16 : Int32) * a1) + (8 : Int32)).toNatClampNeg) (p25 - (I 130 ((((16 : Int32) * a1) + (7 : Int32)).toNatClampNeg)))) fun I29 =>
  hlet (gup I29 130 ((144 : Int32).toNatClampNeg) ((I29 130 ((144 : Int32).toNatClampNeg)) + (p25 - (I 130 ((((16 : Int32) * a1) + (7 : Int32)).toNatClampNeg))))) fun I30 =>
  (show Option (Nat → Nat → Int32) from
    if p24 = 0 then
      some I30
    else
      hg (gin (((16 : Int32) * a1) + (6 : Int32)) 151) <|
      hlet (gup I30 130 ((((16 : Int32) * a1) + (6 : Int32)).toNatClampNeg) (2 : Int32)) fun I46 =>
      hg (gin (((16 : Int32) * a1) + (12 : Int32)) 151) <|
      hlet (gup I46 130 ((((16 : Int32) * a1) + (12 : Int32)).toNatClampNeg) (12 : Int32)) fun I48 =>
      hg (gin (((16 : Int32) * a1) + (9 : Int32)) 151) <|
      hlet (gup I48 130 ((((16 : Int32) * a1) + (9 : Int32)).toNatClampNeg) (0 : Int32)) fun I50 =>
      hg (gin (((16 : Int32) * a1) + (4 : Int32)) 151) <|
      hlet (gup I50 130 ((((16 : Int32) * a1) + (4 : Int32)).toNatClampNeg) (0 : Int32)) fun I52 =>
      hg (gin (((16 : Int32) * a1) + (3 : Int32)) 151) <|
      (show Option (Int32) from
        if ((I52 130 ((((16 : Int32) * a1) + (3 : Int32)).toNatClampNeg)) + (300 : Int32)) ≤ (999 : Int32) then
          hg (gin (((16 : Int32) * a1) + (3 : Int32)) 151) <|
          some ((I52 130 ((((16 : Int32) * a1) + (3 : Int32)).toNatClampNeg)) + (300 : Int32))
        else
          some (999 : Int32)).bind fun p54 =>
      hg (gin (((16 : Int32) * a1) + (3 : Int32)) 151) <|
      hlet (gup I52 130 ((((16 : Int32) * a1) + (3 : Int32)).toNatClampNeg) p54) fun I56 =>
      hlet (gup I56 130 ((147 : Int32).toNatClampNeg) ((I56 130 ((147 : Int32).toNatClampNeg)) + (1 : Int32))) fun I57 =>
      some I57).bind fun I31 =>
  if p23 = 0 then
    hg (gz p23) <|
    some (p23, I31)
  else
    hg (gin (((16 : Int32) * a1) + (6 : Int32)) 151) <|
    hlet (gup I31 130 ((((16 : Int32) * a1) + (6 : Int32)).toNatClampNeg) (3 : Int32)) fun I33 =>
    hg (gin (((16 : Int32) * a1) + (11 : Int32)) 151) <|
    hlet (gup I33 130 ((((16 : Int32) * a1) + (11 : Int32)).toNatClampNeg) ((I33 130 ((134 : Int32).toNatClampNeg)) + (1 : Int32))) fun I35 =>
    (show Option (Int32) from
      if (I35 130 ((135 : Int32).toNatClampNeg)) = 0 then
        hg (gin (((16 : Int32) * a1) + (10 : Int32)) 151) <|
        if (I35 130 ((((16 : Int32) * a1) + (10 : Int32)).toNatClampNeg)) ≤ 0 then
          some (0 : Int32)
        else
          some (1 : Int32)
      else
        some (0 : Int32)).bind fun p36 =>
    hlet (gup I35 130 ((149 : Int32).toNatClampNeg) ((I35 130 ((149 : Int32).toNatClampNeg)) + p36)) fun I37 =>
    hg (gin ((136 : Int32) + (I37 130 ((135 : Int32).toNatClampNeg))) 151) <|
    hlet (gup I37 130 (((136 : Int32) + (I37 130 ((135 : Int32).toNatClampNeg))).toNatClampNeg) a1) fun I39 =>
    hlet (gup I39 130 ((135 : Int32).toNatClampNeg) ((I39 130 ((135 : Int32).toNatClampNeg)) + (1 : Int32))) fun I40 =>
    hg (gz p23) <|
    some (p23, I40)
def f_X8_second_L37 (I : Nat → Nat → Int32) : Nat → Int32 → Int32 → (Nat → Nat → Int32) → Option (Int32 × (Nat → Nat → Int32))
  | 0, _, _, _ => none
  | fuel + 1, p4, p5, I6 =>
    if (I 130 ((128 : Int32).toNatClampNeg)) ≤ p5 then
      some (p4, I6)
    else
      hg (gin p5 8) <|
      hg (gin (((16 : Int32) * (I6 136 (p5.toNatClampNeg))) + (8 : Int32)) 151) <|
      hlet (gup I6 130 ((((16 : Int32) * (I6 136 (p5.toNatClampNeg))) + (8 : Int32)).toNatClampNeg) (0 : Int32)) fun I15 =>
      (f_X8_of (I6 136 (p5.toNatClampNeg)) (6 : Int32) I15).bind fun r16 =>
      (show Option (Int32 × (Nat → Nat → Int32)) from
        if r16 = (2 : Int32) then
          hg (gin (((16 : Int32) * (I6 136 (p5.toNatClampNeg))) + (12 : Int32)) 151) <|
          hg (gin (((16 : Int32) * (I6 136 (p5.toNatClampNeg))) + (12 : Int32)) 151) <|
          hlet (gup I15 130 ((((16 : Int32) * (I6 136 (p5.toNatClampNeg))) + (12 : Int32)).toNatClampNeg) ((I15 130 ((((16 : Int32) * (I6 136 (p5.toNatClampNeg))) + (12 : Int32)).toNatClampNeg)) - (1 : Int32))) fun I31 =>
          (f_X8_of (I6 136 (p5.toNatClampNeg)) (12 : Int32) I31).bind fun r32 =>
          (show Option (Int32) from
            if r32 = 0 then
              some (1 : Int32)
            else
              some (2 : Int32)).bind fun p34 =>
          hg (gin (((16 : Int32) * (I6 136 (p5.toNatClampNeg))) + (6 : Int32)) 151) <|
          hlet (gup I31 130 ((((16 : Int32) * (I6 136 (p5.toNatClampNeg))) + (6 : Int32)).toNatClampNeg) p34) fun I36 =>
          some (p4, I36)
        else
          (f_X8_flies (I6 136 (p5.toNatClampNeg)) I15).bind fun r21 =>
          if r21 = 0 then
            some (p4, I15)
          else
            (f_X8_fly (I6 136 (p5.toNatClampNeg)) I15).bind fun (r24, I23) =>
            (show Option (Int32) from
              if r24 = 0 then
                some (0 : Int32)
              else
                some (1 : Int32)).bind fun p26 =>
            some ((p4 + p26), I23)).bind fun (p18, I19) =>
      hlet (p5 + 1) fun x20 =>
      f_X8_second_L37 I fuel p18 x20 I19
def f_X8_second_L13 (I : Nat → Nat → Int32) : Nat → Int32 → (Nat → Nat → Int32) → Option (Nat → Nat → Int32)
  | 0, _, _ => none
  | fuel + 1, p1, I2 =>
    if (I 130 ((128 : Int32).toNatClampNeg)) ≤ p1 then
      some I2
    else
      (f_X8_place p1 I2).bind fun r40 =>
      hg (gin r40 8) <|
      hlet (gup I2 136 (r40.toNatClampNeg) p1) fun I43 =>
      hlet (p1 + 1) fun x44 =>
      f_X8_second_L13 I fuel x44 I43
def f_X8_second (I : Nat → Nat → Int32) : Option (Int32 × (Nat → Nat → Int32)) :=
  (f_X8_second_L13 I FU (0 : Int32) I).bind fun I3 =>
  (f_X8_second_L37 I FU (0 : Int32) (0 : Int32) I3).bind fun (p7, I8) =>
  hlet (gup I8 130 ((134 : Int32).toNatClampNeg) ((I8 130 ((134 : Int32).toNatClampNeg)) + (1 : Int32))) fun I9 =>
  if (I9 130 ((135 : Int32).toNatClampNeg)) = (I 130 ((128 : Int32).toNatClampNeg)) then
    hlet (gup I9 130 ((150 : Int32).toNatClampNeg) (0 : Int32)) fun I11 =>
    some (p7, I11)
  else
    hlet (gup I9 130 ((150 : Int32).toNatClampNeg) (1 : Int32)) fun I10 =>
    some (p7, I10)
def f_X8_passes_L4 (a1 : Int32) : Nat → Int32 → Int32 → (Nat → Nat → Int32) → Option (Int32 × (Nat → Nat → Int32))
  | 0, _, _, _ => none
  | fuel + 1, p1, p2, I3 =>
    if a1 ≤ p2 then
      some (p1, I3)
    else
      if (I3 130 ((150 : Int32).toNatClampNeg)) = (1 : Int32) then
        (f_X8_second I3).bind fun (r7, I6) =>
        hlet (p2 + 1) fun x9 =>
        f_X8_passes_L4 a1 fuel (p1 + r7) x9 I6
      else
        some (p1, I3)
def f_X8_passes (a1 : Int32) (I : Nat → Nat → Int32) : Option (Int32 × (Nat → Nat → Int32)) :=
  (f_X8_passes_L4 a1 FU (0 : Int32) (0 : Int32) I).bind fun (p4, I5) =>
  some (p4, I5)
def f_X8_enter_L95 (I7 : Nat → Nat → Int32) : Nat → Int32 → (Nat → Nat → Int32) → Option (Nat → Nat → Int32)
  | 0, _, _ => none
  | fuel + 1, p9, I10 =>
    if (16 : Int32) ≤ p9 then
      some I10
    else
      hg (gin (((16 : Int32) * (I7 130 ((128 : Int32).toNatClampNeg))) + p9) 151) <|
      hlet (gup I10 130 ((((16 : Int32) * (I7 130 ((128 : Int32).toNatClampNeg))) + p9).toNatClampNeg) (0 : Int32)) fun I24 =>
      hlet (p9 + 1) fun x25 =>
      f_X8_enter_L95 I7 fuel x25 I24
def f_X8_enter (a1 : Int32) (a2 : Int32) (a3 : Int32) (I : Nat → Nat → Int32) : Option (Int32 × (Nat → Nat → Int32)) :=
  (f_X8_in a1 (10 : Int32) (40 : Int32)).bind fun r1 =>
  (show Option (Int32) from
    if r1 = 0 then
      some (1 : Int32)
    else
      (f_X8_in a2 (100 : Int32) (999 : Int32)).bind fun r28 =>
      if r28 = 0 then
        some (1 : Int32)
      else
        (f_X8_in a3 (0 : Int32) (1 : Int32)).bind fun r30 =>
        if r30 = 0 then
          some (1 : Int32)
        else
          if (I 130 ((128 : Int32).toNatClampNeg)) = (8 : Int32) then
            some (2 : Int32)
          else
            if (I 130 ((150 : Int32).toNatClampNeg)) = (1 : Int32) then
              some (2 : Int32)
            else
              some (0 : Int32)).bind fun p3 =>
  (f_X8_refused p3 I).bind fun (r5, I4) =>
  if r5 = 0 then
    (f_X8_records I4).bind fun I7 =>
    (f_X8_enter_L95 I7 FU (0 : Int32) I7).bind fun I11 =>
    hg (gin ((16 : Int32) * (I7 130 ((128 : Int32).toNatClampNeg))) 151) <|
    hlet (gup I11 130 (((16 : Int32) * (I7 130 ((128 : Int32).toNatClampNeg))).toNatClampNeg) a1) fun I13 =>
    hg (gin (((16 : Int32) * (I7 130 ((128 : Int32).toNatClampNeg))) + (1 : Int32)) 151) <|
    hlet (gup I13 130 ((((16 : Int32) * (I7 130 ((128 : Int32).toNatClampNeg))) + (1 : Int32)).toNatClampNeg) a2) fun I15 =>
    hg (gin (((16 : Int32) * (I7 130 ((128 : Int32).toNatClampNeg))) + (2 : Int32)) 151) <|
    hlet (gup I15 130 ((((16 : Int32) * (I7 130 ((128 : Int32).toNatClampNeg))) + (2 : Int32)).toNatClampNeg) a3) fun I17 =>
    hg (gin (((16 : Int32) * (I7 130 ((128 : Int32).toNatClampNeg))) + (3 : Int32)) 151) <|
    hlet (gup I17 130 ((((16 : Int32) * (I7 130 ((128 : Int32).toNatClampNeg))) + (3 : Int32)).toNatClampNeg) a2) fun I19 =>
    hg (gin (((16 : Int32) * (I7 130 ((128 : Int32).toNatClampNeg))) + (5 : Int32)) 151) <|
    hlet (gup I19 130 ((((16 : Int32) * (I7 130 ((128 : Int32).toNatClampNeg))) + (5 : Int32)).toNatClampNeg) a3) fun I21 =>
    hlet (gup I21 130 ((128 : Int32).toNatClampNeg) ((I21 130 ((128 : Int32).toNatClampNeg)) + (1 : Int32))) fun I22 =>
    some (((I22 130 ((128 : Int32).toNatClampNeg)) - (1 : Int32)), I22)
  else
    some ((0 : Int32), I4)
def f_X8_setsPace (a1 : Int32) (a2 : Int32) (I : Nat → Nat → Int32) : Option (Int32 × (Nat → Nat → Int32)) :=
  (f_X8_of a1 (0 : Int32) I).bind fun r1 =>
  hg (gin ((16 : Int32) * a1) 151) <|
  hlet (gup I 130 (((16 : Int32) * a1).toNatClampNeg) a2) fun I4 =>
  some (r1, I4)
def f_X8_setPace (a1 : Int32) (a2 : Int32) (I : Nat → Nat → Int32) : Option (Int32 × (Nat → Nat → Int32)) :=
  (f_X8_isBird a1 I).bind fun r1 =>
  (show Option (Int32) from
    if r1 = 0 then
      some (1 : Int32)
    else
      (f_X8_in a2 (10 : Int32) (40 : Int32)).bind fun r13 =>
      if r13 = 0 then
        some (2 : Int32)
      else
        some (0 : Int32)).bind fun p3 =>
  (f_X8_refused p3 I).bind fun (r5, I4) =>
  if r5 = 0 then
    (f_X8_records I4).bind fun I7 =>
    (f_X8_setsPace a1 a2 I7).bind fun (r10, I9) =>
    some (r10, I9)
  else
    some ((0 : Int32), I4)
def f_X8_calls (a1 : Int32) (I : Nat → Nat → Int32) : Option (Int32 × (Nat → Nat → Int32)) :=
  (f_X8_of a1 (9 : Int32) I).bind fun r1 =>
  hg (gin (((16 : Int32) * a1) + (9 : Int32)) 151) <|
  hlet (gup I 130 ((((16 : Int32) * a1) + (9 : Int32)).toNatClampNeg) ((1 : Int32) - r1)) fun I4 =>
  (f_X8_of a1 (9 : Int32) I4).bind fun r5 =>
  some (r5, I4)
def f_X8_callIn (a1 : Int32) (I : Nat → Nat → Int32) : Option (Int32 × (Nat → Nat → Int32)) :=
  (f_X8_isBird a1 I).bind fun r1 =>
  (show Option (Int32) from
    if r1 = 0 then
      some (1 : Int32)
    else
      (f_X8_isOver a1 I).bind fun r14 =>
      if r14 = 0 then
        some (0 : Int32)
      else
        some (2 : Int32)).bind fun p3 =>
  (f_X8_refused p3 I).bind fun (r5, I4) =>
  if r5 = 0 then
    (f_X8_records I4).bind fun I7 =>
    (f_X8_calls a1 I7).bind fun (r10, I9) =>
    if r10 = (1 : Int32) then
      some ((1 : Int32), I9)
    else
      some ((0 : Int32), I9)
  else
    some ((0 : Int32), I4)
def f_X8_leaves (a1 : Int32) (I : Nat → Nat → Int32) : Option (Nat → Nat → Int32) :=
  (f_X8_of a1 (10 : Int32) I).bind fun r1 =>
  (show Option (Nat → Nat → Int32) from
    if (r1 - (1 : Int32)) < 0 then
      some I
    else
      hg (gin (((16 : Int32) * (r1 - (1 : Int32))) + (10 : Int32)) 151) <|
      hlet (gup I 130 ((((16 : Int32) * (r1 - (1 : Int32))) + (10 : Int32)).toNatClampNeg) (0 : Int32)) fun I7 =>
      some I7).bind fun I3 =>
  hg (gin (((16 : Int32) * a1) + (10 : Int32)) 151) <|
  hlet (gup I3 130 ((((16 : Int32) * a1) + (10 : Int32)).toNatClampNeg) (0 : Int32)) fun I5 =>
  some I5
def f_X8_pair_L88 (I16 : Nat → Nat → Int32) : Nat → Int32 → Int32 → Option (Int32)
  | 0, _, _ => none
  | fuel + 1, p17, p18 =>
    if (I16 130 ((128 : Int32).toNatClampNeg)) ≤ p18 then
      some p17
    else
      (f_X8_of p18 (10 : Int32) I16).bind fun r20 =>
      (show Option (Int32) from
        if r20 ≤ 0 then
          some (0 : Int32)
        else
          some (1 : Int32)).bind fun p22 =>
      hlet (p18 + 1) fun x23 =>
      f_X8_pair_L88 I16 fuel (p17 + p22) x23
def f_X8_pair (a1 : Int32) (a2 : Int32) (I : Nat → Nat → Int32) : Option (Int32 × (Nat → Nat → Int32)) :=
  (f_X8_isBird a1 I).bind fun r1 =>
  (show Option (Int32) from
    if r1 = 0 then
      some (1 : Int32)
    else
      (f_X8_isBird a2 I).bind fun r27 =>
      if r27 = 0 then
        some (1 : Int32)
      else
        if a1 = a2 then
          some (2 : Int32)
        else
          some (0 : Int32)).bind fun p3 =>
  (f_X8_refused p3 I).bind fun (r5, I4) =>
  if r5 = 0 then
    (f_X8_records I4).bind fun I7 =>
    (f_X8_leaves a1 I7).bind fun I9 =>
    (f_X8_leaves a2 I9).bind fun I11 =>
    hg (gin (((16 : Int32) * a1) + (10 : Int32)) 151) <|
    hlet (gup I11 130 ((((16 : Int32) * a1) + (10 : Int32)).toNatClampNeg) (a2 + (1 : Int32))) fun I14 =>
    hg (gin (((16 : Int32) * a2) + (10 : Int32)) 151) <|
    hlet (gup I14 130 ((((16 : Int32) * a2) + (10 : Int32)).toNatClampNeg) (a1 + (1 : Int32))) fun I16 =>
    (f_X8_pair_L88 I16 FU (0 : Int32) (0 : Int32)).bind fun p19 =>
    some ((p19 / (2 : Int32)), I16)
  else
    some ((0 : Int32), I4)
def f_X8_sets (a1 : Int32) (a2 : Int32) (I : Nat → Nat → Int32) : Option (Int32 × (Nat → Nat → Int32)) :=
  hg (gin a1 151) <|
  hg (gin a1 151) <|
  hlet (gup I 130 (a1.toNatClampNeg) a2) fun I3 =>
  some ((I 130 (a1.toNatClampNeg)), I3)
def f_X8_setLimit (a1 : Int32) (a2 : Int32) (I : Nat → Nat → Int32) : Option (Int32 × (Nat → Nat → Int32)) :=
  (f_X8_in a1 (0 : Int32) (3 : Int32)).bind fun r1 =>
  (show Option (Int32) from
    if r1 = 0 then
      some (1 : Int32)
    else
      (f_X8_in a2 (8 : Int32) (40 : Int32)).bind fun r13 =>
      if r13 = 0 then
        some (2 : Int32)
      else
        some (0 : Int32)).bind fun p3 =>
  (f_X8_refused p3 I).bind fun (r5, I4) =>
  if r5 = 0 then
    (f_X8_records I4).bind fun I7 =>
    (f_X8_sets ((129 : Int32) + a1) a2 I7).bind fun (r10, I9) =>
    some (r10, I9)
  else
    some ((0 : Int32), I4)
def f_X8_setLaps (a1 : Int32) (I : Nat → Nat → Int32) : Option (Int32 × (Nat → Nat → Int32)) :=
  (f_X8_in a1 (1 : Int32) (9 : Int32)).bind fun r1 =>
  (show Option (Int32) from
    if r1 = 0 then
      some (1 : Int32)
    else
      if (I 130 ((150 : Int32).toNatClampNeg)) = (1 : Int32) then
        some (2 : Int32)
      else
        some (0 : Int32)).bind fun p3 =>
  (f_X8_refused p3 I).bind fun (r5, I4) =>
  if r5 = 0 then
    (f_X8_records I4).bind fun I7 =>
    (f_X8_sets (133 : Int32) a1 I7).bind fun (r10, I9) =>
    some (r10, I9)
  else
    some ((0 : Int32), I4)
def f_X8_begin_L177 : Nat → Int32 → (Nat → Nat → Int32) → Option (Nat → Nat → Int32)
  | 0, _, _ => none
  | fuel + 1, p12, I13 =>
    if (147 : Int32) < p12 then
      some I13
    else
      hg (gin p12 151) <|
      hlet (gup I13 130 (p12.toNatClampNeg) (0 : Int32)) fun I18 =>
      hlet (p12 + 1) fun x19 =>
      f_X8_begin_L177 fuel x19 I18
def f_X8_begin_L31 : Nat → Int32 → (Nat → Nat → Int32) → Option (Nat → Nat → Int32)
  | 0, _, _ => none
  | fuel + 1, p7, I8 =>
    if (I8 130 ((128 : Int32).toNatClampNeg)) ≤ p7 then
      some I8
    else
      hg (gin (((16 : Int32) * p7) + (1 : Int32)) 151) <|
      hg (gin (((16 : Int32) * p7) + (3 : Int32)) 151) <|
      hlet (gup I8 130 ((((16 : Int32) * p7) + (3 : Int32)).toNatClampNeg) (I8 130 ((((16 : Int32) * p7) + (1 : Int32)).toNatClampNeg))) fun I23 =>
      hg (gin (((16 : Int32) * p7) + (2 : Int32)) 151) <|
      hg (gin (((16 : Int32) * p7) + (5 : Int32)) 151) <|
      hlet (gup I23 130 ((((16 : Int32) * p7) + (5 : Int32)).toNatClampNeg) (I23 130 ((((16 : Int32) * p7) + (2 : Int32)).toNatClampNeg))) fun I26 =>
      hg (gin (((16 : Int32) * p7) + (4 : Int32)) 151) <|
      hlet (gup I26 130 ((((16 : Int32) * p7) + (4 : Int32)).toNatClampNeg) (0 : Int32)) fun I28 =>
      hg (gin (((16 : Int32) * p7) + (6 : Int32)) 151) <|
      hlet (gup I28 130 ((((16 : Int32) * p7) + (6 : Int32)).toNatClampNeg) (1 : Int32)) fun I30 =>
      hg (gin (((16 : Int32) * p7) + (7 : Int32)) 151) <|
      hlet (gup I30 130 ((((16 : Int32) * p7) + (7 : Int32)).toNatClampNeg) (0 : Int32)) fun I32 =>
      hg (gin (((16 : Int32) * p7) + (8 : Int32)) 151) <|
      hlet (gup I32 130 ((((16 : Int32) * p7) + (8 : Int32)).toNatClampNeg) (0 : Int32)) fun I34 =>
      hg (gin (((16 : Int32) * p7) + (9 : Int32)) 151) <|
      hlet (gup I34 130 ((((16 : Int32) * p7) + (9 : Int32)).toNatClampNeg) (0 : Int32)) fun I36 =>
      hg (gin (((16 : Int32) * p7) + (11 : Int32)) 151) <|
      hlet (gup I36 130 ((((16 : Int32) * p7) + (11 : Int32)).toNatClampNeg) (0 : Int32)) fun I38 =>
      hg (gin (((16 : Int32) * p7) + (12 : Int32)) 151) <|
      hlet (gup I38 130 ((((16 : Int32) * p7) + (12 : Int32)).toNatClampNeg) (0 : Int32)) fun I40 =>
      hlet (p7 + 1) fun x41 =>
      f_X8_begin_L31 fuel x41 I40
def f_X8_begin (I : Nat → Nat → Int32) : Option (Int32 × (Nat → Nat → Int32)) :=
  (show Option (Int32) from
    if (I 130 ((128 : Int32).toNatClampNeg)) = 0 then
      some (1 : Int32)
    else
      some (0 : Int32)).bind fun p1 =>
  (f_X8_refused p1 I).bind fun (r3, I2) =>
  if r3 = 0 then
    (f_X8_records I2).bind fun I5 =>
    (f_X8_begin_L31  FU (0 : Int32) I5).bind fun I9 =>
    hlet (gup I9 130 ((134 : Int32).toNatClampNeg) (0 : Int32)) fun I10 =>
    hlet (gup I10 130 ((135 : Int32).toNatClampNeg) (0 : Int32)) fun I11 =>
    (f_X8_begin_L177  FU (144 : Int32) I11).bind fun I14 =>
    hlet (gup I14 130 ((148 : Int32).toNatClampNeg) ((I14 130 ((148 : Int32).toNatClampNeg)) + (1 : Int32))) fun I15 =>
    hlet (gup I15 130 ((150 : Int32).toNatClampNeg) (1 : Int32)) fun I16 =>
    some ((I16 130 ((128 : Int32).toNatClampNeg)), I16)
  else
    some ((0 : Int32), I2)
def f_X8_pass (a1 : Int32) (I : Nat → Nat → Int32) : Option (Int32 × (Nat → Nat → Int32)) :=
  (f_X8_in a1 (1 : Int32) (200 : Int32)).bind fun r1 =>
  (show Option (Int32) from
    if r1 = 0 then
      some (1 : Int32)
    else
      if (I 130 ((150 : Int32).toNatClampNeg)) = (1 : Int32) then
        some (0 : Int32)
      else
        some (2 : Int32)).bind fun p3 =>
  (f_X8_refused p3 I).bind fun (r5, I4) =>
  if r5 = 0 then
    (f_X8_records I4).bind fun I7 =>
    (f_X8_passes a1 I7).bind fun (r10, I9) =>
    some (r10, I9)
  else
    some ((0 : Int32), I4)
def f_X8_append (a1 : Int32) (I : Nat → Nat → Int32) : Option (Int32 × (Nat → Nat → Int32)) :=
  (f_X8_in a1 (33 : Int32) (126 : Int32)).bind fun r1 =>
  (show Option (Int32) from
    if r1 = 0 then
      some (1 : Int32)
    else
      if (I 129 7) = (60 : Int32) then
        some (2 : Int32)
      else
        some (0 : Int32)).bind fun p3 =>
  (f_X8_refused p3 I).bind fun (r5, I4) =>
  if r5 = 0 then
    hg (gin (I4 129 7) 60) <|
    hlet (gup I4 135 ((I4 129 7).toNatClampNeg) a1) fun I8 =>
    hlet (gup I8 129 7 ((I8 129 7) + (1 : Int32))) fun I9 =>
    some ((I9 129 7), I9)
  else
    some ((0 : Int32), I4)
def f_X8_clearBuffer (I : Nat → Nat → Int32) : Option (Int32 × (Nat → Nat → Int32)) :=
  hlet (gup I 129 8 (0 : Int32)) fun I1 =>
  hlet (gup I1 129 7 (0 : Int32)) fun I2 =>
  some ((I1 129 7), I2)
def f_X8_next (I : Nat → Nat → Int32) : Option (Int32) :=
  if (I 129 7) ≤ (I 129 10) then
    some (0 : Int32)
  else
    hg (gin (I 129 10) 60) <|
    some (I 135 ((I 129 10).toNatClampNeg))
def f_X8_sign (a1 : Int32) (I : Nat → Nat → Int32) : Option (Nat → Nat → Int32) :=
  (show Option (Int32) from
    if (I 129 11) = 0 then
      if a1 = 0 then
        some (1 : Int32)
      else
        some (0 : Int32)
    else
      some (1 : Int32)).bind fun p1 =>
  hg (gz p1) <|
  hlet (gup I 129 11 p1) fun I2 =>
  if (I2 129 11) = 0 then
    hlet (gup I2 129 10 ((I2 129 10) + (1 : Int32))) fun I3 =>
    some I3
  else
    hlet (gup I2 129 10 ((I2 129 10) + (0 : Int32))) fun I4 =>
    some I4
def f_X8_digit (a1 : Int32) (a2 : Int32) (I : Nat → Nat → Int32) : Option (Int32 × (Nat → Nat → Int32)) :=
  (f_X8_next I).bind fun r1 =>
  (f_X8_in (r1 - (48 : Int32)) a1 a2).bind fun r3 =>
  (f_X8_sign r3 I).bind fun I5 =>
  some ((r1 - (48 : Int32)), I5)
def f_X8_number_L59 (a2 : Int32) (p4 : Int32) : Nat → Int32 → (Nat → Nat → Int32) → Option (Int32 × (Nat → Nat → Int32))
  | 0, _, _ => none
  | fuel + 1, p7, I8 =>
    if p4 = 0 then
      some (p7, I8)
    else
      (f_X8_next I8).bind fun r16 =>
      (f_X8_in r16 (48 : Int32) (57 : Int32)).bind fun r18 =>
      if r18 = 0 then
        some (p7, I8)
      else
        (f_X8_next I8).bind fun r20 =>
        if a2 < ((((10 : Int32) * p7) + r20) - (48 : Int32)) then
          some (p7, I8)
        else
          (f_X8_next I8).bind fun r22 =>
          hlet (gup I8 129 10 ((I8 129 10) + (1 : Int32))) fun I24 =>
          f_X8_number_L59 a2 p4 fuel ((((10 : Int32) * p7) + r22) - (48 : Int32)) I24
def f_X8_number (a1 : Int32) (a2 : Int32) (I : Nat → Nat → Int32) : Option (Int32 × (Nat → Nat → Int32)) :=
  (f_X8_digit (1 : Int32) (9 : Int32) I).bind fun (r2, I1) =>
  (show Option (Int32) from
    if (I1 129 11) = 0 then
      some (1 : Int32)
    else
      some (0 : Int32)).bind fun p4 =>
  hlet (fun (I5 : Nat → Nat → Int32) => show Option (Int32 × (Nat → Nat → Int32)) from
    (f_X8_number_L59 a2 p4 FU r2 I5).bind fun (p9, I10) =>
    if (I10 129 11) = 0 then
      if a1 ≤ p9 then
        hlet (gup I10 129 11 (0 : Int32)) fun I12 =>
        some (p9, I12)
      else
        hlet (gup I10 129 11 (1 : Int32)) fun I13 =>
        some (p9, I13)
    else
      hlet (gup I10 129 11 (1 : Int32)) fun I11 =>
      some (p9, I11)) fun j6 =>
  if (I1 129 11) = 0 then
    if a1 ≤ r2 then
      j6 I1
    else
      if ((10 : Int32) * r2) ≤ a2 then
        j6 I1
      else
        hlet (gup I1 129 11 (1 : Int32)) fun I28 =>
        hlet (gup I28 129 10 ((I28 129 10) - (1 : Int32))) fun I29 =>
        some ((0 : Int32), I29)
  else
    j6 I1
def f_X8_part (I : Nat → Nat → Int32) : Option (Nat → Nat → Int32) :=
  (f_X8_next I).bind fun r1 =>
  hlet (gup I 129 12 r1) fun I3 =>
  (show Option (Int32) from
    if (I3 129 12) = (112 : Int32) then
      some (1 : Int32)
    else
      if (I3 129 12) = (110 : Int32) then
        some (1 : Int32)
      else
        if (I3 129 12) = (99 : Int32) then
          some (1 : Int32)
        else
          if (I3 129 12) = (116 : Int32) then
            some (1 : Int32)
          else
            some (0 : Int32)).bind fun p4 =>
  (f_X8_sign p4 I3).bind fun I5 =>
  if (I5 129 12) = (116 : Int32) then
    (f_X8_number (1 : Int32) (200 : Int32) I5).bind fun (r30, I29) =>
    hlet (gup I29 129 14 r30) fun I32 =>
    some I32
  else
    (show Option (Int32) from
      if (I5 129 12) = (99 : Int32) then
        some (3 : Int32)
      else
        some (7 : Int32)).bind fun p7 =>
    (f_X8_digit (0 : Int32) p7 I5).bind fun (r9, I8) =>
    hlet (gup I8 129 13 r9) fun I11 =>
    if (I11 129 12) = (110 : Int32) then
      some I11
    else
      (f_X8_next I11).bind fun r12 =>
      (show Option (Int32) from
        if r12 = (61 : Int32) then
          some (1 : Int32)
        else
          some (0 : Int32)).bind fun p14 =>
      (f_X8_sign p14 I11).bind fun I15 =>
      (show Option (Int32 × (Nat → Nat → Int32)) from
        if (I15 129 11) = 0 then
          (show Option (Int32) from
            if (I15 129 12) = (112 : Int32) then
              some (10 : Int32)
            else
              some (8 : Int32)).bind fun p20 =>
          (f_X8_number p20 (40 : Int32) I15).bind fun (r22, I21) =>
          some (r22, I21)
        else
          some ((0 : Int32), I15)).bind fun (p17, I18) =>
      hlet (gup I18 129 14 p17) fun I19 =>
      some I19
def f_X8_isText_L14 : Nat → (Nat → Nat → Int32) → Option (Nat → Nat → Int32)
  | 0, _ => none
  | fuel + 1, I5 =>
    if (I5 129 11) = 0 then
      if (I5 129 7) ≤ (I5 129 10) then
        some I5
      else
        (f_X8_next I5).bind fun r8 =>
        (show Option (Int32) from
          if r8 = (59 : Int32) then
            some (1 : Int32)
          else
            some (0 : Int32)).bind fun p10 =>
        (f_X8_sign p10 I5).bind fun I11 =>
        (f_X8_part I11).bind fun I13 =>
        f_X8_isText_L14 fuel I13
    else
      some I5
def f_X8_isText (I : Nat → Nat → Int32) : Option (Int32 × (Nat → Nat → Int32)) :=
  hlet (gup I 129 10 (0 : Int32)) fun I1 =>
  hlet (gup I1 129 11 (0 : Int32)) fun I2 =>
  (f_X8_part I2).bind fun I3 =>
  (f_X8_isText_L14  FU I3).bind fun I6 =>
  if (I6 129 11) = 0 then
    some ((1 : Int32), I6)
  else
    some ((0 : Int32), I6)
def f_X8_firstError (I : Nat → Nat → Int32) : Option (Int32 × (Nat → Nat → Int32)) :=
  hlet (gup I 129 8 (0 : Int32)) fun I1 =>
  (f_X8_isText I1).bind fun (r3, I2) =>
  if r3 = 0 then
    some ((I2 129 10), I2)
  else
    some ((I2 129 7), I2)
def f_X8_can (I : Nat → Nat → Int32) : Option (Int32) :=
  if (I 129 12) = (99 : Int32) then
    some (1 : Int32)
  else
    if (I 129 12) = (116 : Int32) then
      if (I 130 ((150 : Int32).toNatClampNeg)) = (1 : Int32) then
        some (1 : Int32)
      else
        some (0 : Int32)
    else
      (f_X8_isBird (I 129 13) I).bind fun r1 =>
      if r1 = 0 then
        some (0 : Int32)
      else
        if (I 129 12) = (112 : Int32) then
          some (1 : Int32)
        else
          (f_X8_isOver (I 129 13) I).bind fun r3 =>
          if r3 = 0 then
            some (1 : Int32)
          else
            some (0 : Int32)
def f_X8_followsAll_L12 : Nat → Int32 → (Nat → Nat → Int32) → Option (Int32 × (Nat → Nat → Int32))
  | 0, _, _ => none
  | fuel + 1, p3, I4 =>
    if (I4 129 7) ≤ (I4 129 10) then
      some (p3, I4)
    else
      (f_X8_part I4).bind fun I5 =>
      hlet (gup I5 129 10 ((I5 129 10) + (1 : Int32))) fun I7 =>
      (f_X8_can I7).bind fun r8 =>
      if r8 = 0 then
        some ((-1 : Int32), I7)
      else
        (show Option (Int32 × (Nat → Nat → Int32)) from
          if (I7 129 12) = (112 : Int32) then
            (f_X8_setsPace (I7 129 13) (I7 129 14) I7).bind fun (r25, I24) =>
            some (r25, I24)
          else
            if (I7 129 12) = (110 : Int32) then
              (f_X8_calls (I7 129 13) I7).bind fun (r21, I20) =>
              some (r21, I20)
            else
              if (I7 129 12) = (99 : Int32) then
                (f_X8_sets ((129 : Int32) + (I7 129 13)) (I7 129 14) I7).bind fun (r17, I16) =>
                some (r17, I16)
              else
                (f_X8_passes (I7 129 14) I7).bind fun (r14, I13) =>
                some (r14, I13)).bind fun (p10, I11) =>
        hlet (p3 + 1) fun x12 =>
        f_X8_followsAll_L12 fuel x12 I11
def f_X8_followsAll (I : Nat → Nat → Int32) : Option (Int32 × (Nat → Nat → Int32)) :=
  hlet (gup I 129 10 (0 : Int32)) fun I1 =>
  hlet (gup I1 129 11 (0 : Int32)) fun I2 =>
  f_X8_followsAll_L12  FU (0 : Int32) I2
def f_X8_follow (I : Nat → Nat → Int32) : Option (Int32 × (Nat → Nat → Int32)) :=
  (f_X8_isText I).bind fun (r2, I1) =>
  (show Option (Int32) from
    if r2 = 0 then
      some (1 : Int32)
    else
      some (0 : Int32)).bind fun p4 =>
  (f_X8_refused p4 I1).bind fun (r6, I5) =>
  if r6 = 0 then
    (f_X8_putAside I5).bind fun I8 =>
    (f_X8_followsAll I8).bind fun (r11, I10) =>
    (show Option (Int32) from
      if r11 < 0 then
        some (0 : Int32)
      else
        some (1 : Int32)).bind fun p13 =>
    (f_X8_putBack I10).bind fun I14 =>
    (show Option (Int32) from
      if p13 = 0 then
        some (2 : Int32)
      else
        some (0 : Int32)).bind fun p16 =>
    (f_X8_refused p16 I14).bind fun (r18, I17) =>
    if r18 = 0 then
      (f_X8_records I17).bind fun I20 =>
      (f_X8_followsAll I20).bind fun (r23, I22) =>
      hlet (gup I22 129 7 (0 : Int32)) fun I25 =>
      some (r23, I25)
    else
      some ((0 : Int32), I17)
  else
    some ((0 : Int32), I5)
def f_X8_keep_L23 (a1 : Int32) : Nat → Int32 → (Nat → Nat → Int32) → Option (Nat → Nat → Int32)
  | 0, _, _ => none
  | fuel + 1, p7, I8 =>
    if (151 : Int32) ≤ p7 then
      some I8
    else
      hg (gin p7 151) <|
      hg (gin (((151 : Int32) * a1) + p7) 302) <|
      hlet (gup I8 133 ((((151 : Int32) * a1) + p7).toNatClampNeg) (I8 130 (p7.toNatClampNeg))) fun I14 =>
      hlet (p7 + 1) fun x15 =>
      f_X8_keep_L23 a1 fuel x15 I14
def f_X8_keep (a1 : Int32) (I : Nat → Nat → Int32) : Option (Nat → Nat → Int32) :=
  (f_X8_in a1 (0 : Int32) (1 : Int32)).bind fun r1 =>
  (show Option (Int32) from
    if r1 = 0 then
      some (1 : Int32)
    else
      some (0 : Int32)).bind fun p3 =>
  (f_X8_refused p3 I).bind fun (r5, I4) =>
  if r5 = 0 then
    (f_X8_keep_L23 a1 FU (0 : Int32) I4).bind fun I9 =>
    hg (gin a1 2) <|
    hlet (gup I9 134 (a1.toNatClampNeg) (1 : Int32)) fun I11 =>
    some I11
  else
    some I4
def f_X8_goBack_L40 (a1 : Int32) : Nat → Int32 → (Nat → Nat → Int32) → Option (Nat → Nat → Int32)
  | 0, _, _ => none
  | fuel + 1, p9, I10 =>
    if (151 : Int32) ≤ p9 then
      some I10
    else
      hg (gin (((151 : Int32) * a1) + p9) 302) <|
      hg (gin p9 151) <|
      hlet (gup I10 130 (p9.toNatClampNeg) (I10 133 ((((151 : Int32) * a1) + p9).toNatClampNeg))) fun I14 =>
      hlet (p9 + 1) fun x15 =>
      f_X8_goBack_L40 a1 fuel x15 I14
def f_X8_goBack (a1 : Int32) (I : Nat → Nat → Int32) : Option (Nat → Nat → Int32) :=
  (f_X8_in a1 (0 : Int32) (1 : Int32)).bind fun r1 =>
  (show Option (Int32) from
    if r1 = 0 then
      some (1 : Int32)
    else
      hg (gin a1 2) <|
      if (I 134 (a1.toNatClampNeg)) = 0 then
        some (2 : Int32)
      else
        some (0 : Int32)).bind fun p3 =>
  (f_X8_refused p3 I).bind fun (r5, I4) =>
  if r5 = 0 then
    (f_X8_records I4).bind fun I7 =>
    (f_X8_goBack_L40 a1 FU (0 : Int32) I7).bind fun I11 =>
    some I11
  else
    some I4
def f_X8_undo_L31 : Nat → Int32 → (Nat → Nat → Int32) → Option (Nat → Nat → Int32)
  | 0, _, _ => none
  | fuel + 1, p6, I7 =>
    if (151 : Int32) ≤ p6 then
      some I7
    else
      hg (gin (((151 : Int32) * (I7 129 3)) + p6) 906) <|
      hg (gin p6 151) <|
      hlet (gup I7 130 (p6.toNatClampNeg) (I7 132 ((((151 : Int32) * (I7 129 3)) + p6).toNatClampNeg))) fun I11 =>
      hlet (p6 + 1) fun x12 =>
      f_X8_undo_L31 fuel x12 I11
def f_X8_undo (I : Nat → Nat → Int32) : Option (Nat → Nat → Int32) :=
  (show Option (Int32) from
    if (I 129 3) = 0 then
      some (1 : Int32)
    else
      some (0 : Int32)).bind fun p1 =>
  (f_X8_refused p1 I).bind fun (r3, I2) =>
  if r3 = 0 then
    hlet (gup I2 129 3 ((I2 129 3) - (1 : Int32))) fun I5 =>
    (f_X8_undo_L31  FU (0 : Int32) I5).bind fun I8 =>
    some I8
  else
    some I2
def f_X8_savedStates (I : Nat → Nat → Int32) : Option (Int32 × (Nat → Nat → Int32)) :=
  (f_X8_told (I 129 3) I).bind fun (r2, I1) =>
  some (r2, I1)
def f_X8_sparrows (I : Nat → Nat → Int32) : Option (Int32 × (Nat → Nat → Int32)) :=
  (f_X8_told (I 130 ((128 : Int32).toNatClampNeg)) I).bind fun (r2, I1) =>
  some (r2, I1)
def f_X8_ofBird (a1 : Int32) (a2 : Int32) (I : Nat → Nat → Int32) : Option (Int32 × (Nat → Nat → Int32)) :=
  (f_X8_isBird a1 I).bind fun r1 =>
  (show Option (Int32) from
    if r1 = 0 then
      some (1 : Int32)
    else
      some (0 : Int32)).bind fun p3 =>
  (f_X8_refused p3 I).bind fun (r5, I4) =>
  if r5 = 0 then
    (f_X8_of a1 a2 I4).bind fun r7 =>
    some (r7, I4)
  else
    some ((0 : Int32), I4)
def f_X8_flown (a1 : Int32) (I : Nat → Nat → Int32) : Option (Int32 × (Nat → Nat → Int32)) :=
  (f_X8_ofBird a1 (7 : Int32) I).bind fun (r2, I1) =>
  some (r2, I1)
def f_X8_lapsOf (a1 : Int32) (I : Nat → Nat → Int32) : Option (Int32 × (Nat → Nat → Int32)) :=
  (f_X8_ofBird a1 (7 : Int32) I).bind fun (r2, I1) =>
  some ((r2 / (400 : Int32)), I1)
def f_X8_speedOf (a1 : Int32) (I : Nat → Nat → Int32) : Option (Int32 × (Nat → Nat → Int32)) :=
  (f_X8_ofBird a1 (8 : Int32) I).bind fun (r2, I1) =>
  some (r2, I1)
def f_X8_strengthOf (a1 : Int32) (I : Nat → Nat → Int32) : Option (Int32 × (Nat → Nat → Int32)) :=
  (f_X8_ofBird a1 (3 : Int32) I).bind fun (r2, I1) =>
  some (r2, I1)
def f_X8_wearOf (a1 : Int32) (I : Nat → Nat → Int32) : Option (Int32 × (Nat → Nat → Int32)) :=
  (f_X8_ofBird a1 (4 : Int32) I).bind fun (r2, I1) =>
  some (r2, I1)
def f_X8_laneOf (a1 : Int32) (I : Nat → Nat → Int32) : Option (Int32 × (Nat → Nat → Int32)) :=
  (f_X8_ofBird a1 (5 : Int32) I).bind fun (r2, I1) =>
  some (r2, I1)
def f_X8_stateOf (a1 : Int32) (I : Nat → Nat → Int32) : Option (Int32 × (Nat → Nat → Int32)) :=
  (f_X8_ofBird a1 (6 : Int32) I).bind fun (r2, I1) =>
  some (r2, I1)
def f_X8_paceOf (a1 : Int32) (I : Nat → Nat → Int32) : Option (Int32 × (Nat → Nat → Int32)) :=
  (f_X8_ofBird a1 (0 : Int32) I).bind fun (r2, I1) =>
  some (r2, I1)
def f_X8_partnerOf (a1 : Int32) (I : Nat → Nat → Int32) : Option (Int32 × (Nat → Nat → Int32)) :=
  (f_X8_isBird a1 I).bind fun r1 =>
  (show Option (Int32) from
    if r1 = 0 then
      some (1 : Int32)
    else
      (f_X8_of a1 (10 : Int32) I).bind fun r10 =>
      if r10 = 0 then
        some (2 : Int32)
      else
        some (0 : Int32)).bind fun p3 =>
  (f_X8_refused p3 I).bind fun (r5, I4) =>
  if r5 = 0 then
    (f_X8_of a1 (10 : Int32) I4).bind fun r7 =>
    some ((r7 - (1 : Int32)), I4)
  else
    some ((0 : Int32), I4)
def f_X8_isCalledIn (a1 : Int32) (I : Nat → Nat → Int32) : Option (Int32 × (Nat → Nat → Int32)) :=
  (f_X8_ofBird a1 (9 : Int32) I).bind fun (r2, I1) =>
  if r2 = (1 : Int32) then
    some ((1 : Int32), I1)
  else
    some ((0 : Int32), I1)
def f_X8_limitOf (a1 : Int32) (I : Nat → Nat → Int32) : Option (Int32 × (Nat → Nat → Int32)) :=
  (f_X8_in a1 (0 : Int32) (3 : Int32)).bind fun r1 =>
  (show Option (Int32) from
    if r1 = 0 then
      some (1 : Int32)
    else
      some (0 : Int32)).bind fun p3 =>
  (f_X8_refused p3 I).bind fun (r5, I4) =>
  if r5 = 0 then
    hg (gin ((129 : Int32) + a1) 151) <|
    some ((I4 130 (((129 : Int32) + a1).toNatClampNeg)), I4)
  else
    some ((0 : Int32), I4)
def f_X8_placeByCounting (a1 : Int32) (I : Nat → Nat → Int32) : Option (Int32 × (Nat → Nat → Int32)) :=
  (f_X8_isBird a1 I).bind fun r1 =>
  (show Option (Int32) from
    if r1 = 0 then
      some (1 : Int32)
    else
      some (0 : Int32)).bind fun p3 =>
  (f_X8_refused p3 I).bind fun (r5, I4) =>
  if r5 = 0 then
    (f_X8_place a1 I4).bind fun r7 =>
    some (r7, I4)
  else
    some ((0 : Int32), I4)
def f_X8_birdByOrder (a1 : Int32) (I : Nat → Nat → Int32) : Option (Int32 × (Nat → Nat → Int32)) :=
  (f_X8_isBird a1 I).bind fun r1 =>
  (show Option (Int32) from
    if r1 = 0 then
      some (1 : Int32)
    else
      some (0 : Int32)).bind fun p3 =>
  (f_X8_refused p3 I).bind fun (r5, I4) =>
  if r5 = 0 then
    (f_X8_birdAt a1 I4).bind fun r7 =>
    some (r7, I4)
  else
    some ((0 : Int32), I4)
def f_X8_gapAhead (a1 : Int32) (I : Nat → Nat → Int32) : Option (Int32 × (Nat → Nat → Int32)) :=
  (f_X8_isBird a1 I).bind fun r1 =>
  (show Option (Int32) from
    if r1 = 0 then
      some (1 : Int32)
    else
      some (0 : Int32)).bind fun p3 =>
  (f_X8_refused p3 I).bind fun (r5, I4) =>
  if r5 = 0 then
    (f_X8_of a1 (5 : Int32) I4).bind fun r7 =>
    (f_X8_gap a1 r7 I4).bind fun r9 =>
    some (r9, I4)
  else
    some ((0 : Int32), I4)
def f_X8_isIdle (a1 : Int32) (I : Nat → Nat → Int32) : Option (Int32 × (Nat → Nat → Int32)) :=
  (f_X8_isBird a1 I).bind fun r1 =>
  (show Option (Int32) from
    if r1 = 0 then
      some (1 : Int32)
    else
      (f_X8_flies a1 I).bind fun r7 =>
      if r7 = 0 then
        some (2 : Int32)
      else
        some (0 : Int32)).bind fun p3 =>
  (f_X8_refused p3 I).bind fun (r5, I4) =>
  hg (gz r5) <|
  some (r5, I4)
def f_X8_isDrafting (a1 : Int32) (I : Nat → Nat → Int32) : Option (Int32 × (Nat → Nat → Int32)) :=
  (f_X8_isIdle a1 I).bind fun (r2, I1) =>
  if r2 = 0 then
    (f_X8_isDrafted a1 I1).bind fun r4 =>
    if r4 = 0 then
      some ((0 : Int32), I1)
    else
      some ((1 : Int32), I1)
  else
    some ((0 : Int32), I1)
def f_X8_whereIs (a1 : Int32) (I : Nat → Nat → Int32) : Option (Int32 × (Nat → Nat → Int32)) :=
  (f_X8_isBird a1 I).bind fun r1 =>
  (show Option (Int32) from
    if r1 = 0 then
      some (1 : Int32)
    else
      some (0 : Int32)).bind fun p3 =>
  (f_X8_refused p3 I).bind fun (r5, I4) =>
  if r5 = 0 then
    (f_X8_where a1 I4).bind fun r7 =>
    some (r7, I4)
  else
    some ((0 : Int32), I4)
def f_X8_allowance (a1 : Int32) (I : Nat → Nat → Int32) : Option (Int32 × (Nat → Nat → Int32)) :=
  (f_X8_isIdle a1 I).bind fun (r2, I1) =>
  if r2 = 0 then
    (f_X8_allowed a1 I1).bind fun r4 =>
    some (r4, I1)
  else
    some ((0 : Int32), I1)
def f_X8_flownIn (a1 : Int32) (a2 : Int32) (I : Nat → Nat → Int32) : Option (Int32 × (Nat → Nat → Int32)) :=
  (f_X8_putAside I).bind fun I1 =>
  (f_X8_passes a2 I1).bind fun (r4, I3) =>
  (f_X8_of a1 (7 : Int32) I3).bind fun r6 =>
  (f_X8_putBack I3).bind fun I8 =>
  some (r6, I8)
def f_X8_wouldFly (a1 : Int32) (a2 : Int32) (I : Nat → Nat → Int32) : Option (Int32 × (Nat → Nat → Int32)) :=
  (f_X8_isBird a1 I).bind fun r1 =>
  (show Option (Int32) from
    if r1 = 0 then
      some (1 : Int32)
    else
      (f_X8_in a2 (1 : Int32) (200 : Int32)).bind fun r11 =>
      if r11 = 0 then
        some (2 : Int32)
      else
        if (I 130 ((150 : Int32).toNatClampNeg)) = (1 : Int32) then
          some (0 : Int32)
        else
          some (3 : Int32)).bind fun p3 =>
  (f_X8_refused p3 I).bind fun (r5, I4) =>
  if r5 = 0 then
    (f_X8_flownIn a1 a2 I4).bind fun (r8, I7) =>
    some (r8, I7)
  else
    some ((0 : Int32), I4)
def f_X8_nextIn_L21 : Nat → Int32 → Int32 → (Nat → Nat → Int32) → Option (Int32 × Int32 × (Nat → Nat → Int32))
  | 0, _, _, _ => none
  | fuel + 1, p3, p4, I5 =>
    if (2000 : Int32) ≤ p3 then
      some (p3, p4, I5)
    else
      if p4 = 0 then
        (f_X8_second I5).bind fun (r14, I13) =>
        (show Option (Int32) from
          if r14 ≤ 0 then
            some (0 : Int32)
          else
            some (1 : Int32)).bind fun p16 =>
        hlet (p3 + 1) fun x17 =>
        f_X8_nextIn_L21 fuel x17 p16 I13
      else
        some (p3, p4, I5)
def f_X8_nextIn (I : Nat → Nat → Int32) : Option (Int32 × (Nat → Nat → Int32)) :=
  if (I 130 ((150 : Int32).toNatClampNeg)) = 0 then
    some ((0 : Int32), I)
  else
    (f_X8_putAside I).bind fun I1 =>
    (f_X8_nextIn_L21  FU (0 : Int32) (0 : Int32) I1).bind fun (p6, p7, I8) =>
    hlet (gup I8 129 15 (I8 130 ((136 : Int32).toNatClampNeg))) fun I9 =>
    (f_X8_putBack I9).bind fun I10 =>
    if p7 = 0 then
      some ((0 : Int32), I10)
    else
      some (p6, I10)
def f_X8_first (I : Nat → Nat → Int32) : Option (Int32 × (Nat → Nat → Int32)) :=
  if 0 < (I 130 ((135 : Int32).toNatClampNeg)) then
    some ((0 : Int32), I)
  else
    (f_X8_nextIn I).bind fun (r2, I1) =>
    if r2 = 0 then
      some ((0 : Int32), I1)
    else
      some (((I1 129 15) + (1 : Int32)), I1)
def f_X8_wouldWin (I : Nat → Nat → Int32) : Option (Int32 × (Nat → Nat → Int32)) :=
  (f_X8_first I).bind fun (r2, I1) =>
  (show Option (Int32) from
    if r2 = 0 then
      some (1 : Int32)
    else
      some (0 : Int32)).bind fun p4 =>
  (f_X8_refused p4 I1).bind fun (r6, I5) =>
  if r6 = 0 then
    some ((r2 - (1 : Int32)), I5)
  else
    some ((0 : Int32), I5)
def f_X8_secondsToNext (I : Nat → Nat → Int32) : Option (Int32 × (Nat → Nat → Int32)) :=
  (f_X8_nextIn I).bind fun (r2, I1) =>
  (show Option (Int32) from
    if r2 = 0 then
      some (1 : Int32)
    else
      some (0 : Int32)).bind fun p4 =>
  (f_X8_refused p4 I1).bind fun (r6, I5) =>
  if r6 = 0 then
    some (r2, I5)
  else
    some ((0 : Int32), I5)
def f_X8_flownAt (a1 : Int32) (a2 : Int32) (I : Nat → Nat → Int32) : Option (Int32 × (Nat → Nat → Int32)) :=
  (f_X8_of a1 (0 : Int32) I).bind fun r1 =>
  hg (gin ((16 : Int32) * a1) 151) <|
  hlet (gup I 130 (((16 : Int32) * a1).toNatClampNeg) a2) fun I4 =>
  (f_X8_flownIn a1 (50 : Int32) I4).bind fun (r6, I5) =>
  hg (gin ((16 : Int32) * a1) 151) <|
  hlet (gup I5 130 (((16 : Int32) * a1).toNatClampNeg) r1) fun I9 =>
  some (r6, I9)
def f_X8_flownWithPace (a1 : Int32) (a2 : Int32) (I : Nat → Nat → Int32) : Option (Int32 × (Nat → Nat → Int32)) :=
  (f_X8_isBird a1 I).bind fun r1 =>
  (show Option (Int32) from
    if r1 = 0 then
      some (1 : Int32)
    else
      (f_X8_in a2 (10 : Int32) (40 : Int32)).bind fun r11 =>
      if r11 = 0 then
        some (2 : Int32)
      else
        if (I 130 ((150 : Int32).toNatClampNeg)) = (1 : Int32) then
          some (0 : Int32)
        else
          some (3 : Int32)).bind fun p3 =>
  (f_X8_refused p3 I).bind fun (r5, I4) =>
  if r5 = 0 then
    (f_X8_flownAt a1 a2 I4).bind fun (r8, I7) =>
    some (r8, I7)
  else
    some ((0 : Int32), I4)
def f_X8_best_L15 (a1 : Int32) : Nat → Int32 → Int32 → Int32 → (Nat → Nat → Int32) → Option (Int32 × (Nat → Nat → Int32))
  | 0, _, _, _, _ => none
  | fuel + 1, p4, p5, p6, I7 =>
    if (40 : Int32) < p6 then
      some (p4, I7)
    else
      (f_X8_flownAt a1 p6 I7).bind fun (r11, I10) =>
      (show Option (Int32) from
        if r11 ≤ p5 then
          some p4
        else
          some p6).bind fun p13 =>
      (show Option (Int32) from
        if r11 ≤ p5 then
          some p5
        else
          some r11).bind fun p14 =>
      hlet (p6 + 1) fun x15 =>
      f_X8_best_L15 a1 fuel p13 p14 x15 I10
def f_X8_best (a1 : Int32) (I : Nat → Nat → Int32) : Option (Int32 × (Nat → Nat → Int32)) :=
  (f_X8_flownAt a1 (10 : Int32) I).bind fun (r2, I1) =>
  (f_X8_best_L15 a1 FU (10 : Int32) r2 (11 : Int32) I1).bind fun (p8, I9) =>
  some (p8, I9)
def f_X8_bestPace (a1 : Int32) (I : Nat → Nat → Int32) : Option (Int32 × (Nat → Nat → Int32)) :=
  (f_X8_isBird a1 I).bind fun r1 =>
  (show Option (Int32) from
    if r1 = 0 then
      some (1 : Int32)
    else
      if (I 130 ((150 : Int32).toNatClampNeg)) = (1 : Int32) then
        some (0 : Int32)
      else
        some (2 : Int32)).bind fun p3 =>
  (f_X8_refused p3 I).bind fun (r5, I4) =>
  if r5 = 0 then
    (f_X8_best a1 I4).bind fun (r8, I7) =>
    some (r8, I7)
  else
    some ((0 : Int32), I4)
def f_X8_isRacing (I : Nat → Nat → Int32) : Option (Int32 × (Nat → Nat → Int32)) :=
  (f_X8_told (I 130 ((150 : Int32).toNatClampNeg)) I).bind fun (r2, I1) =>
  if r2 = (1 : Int32) then
    some ((1 : Int32), I1)
  else
    some ((0 : Int32), I1)
def f_X8_seconds (I : Nat → Nat → Int32) : Option (Int32 × (Nat → Nat → Int32)) :=
  (f_X8_told (I 130 ((134 : Int32).toNatClampNeg)) I).bind fun (r2, I1) =>
  some (r2, I1)
def f_X8_arrived (I : Nat → Nat → Int32) : Option (Int32 × (Nat → Nat → Int32)) :=
  (f_X8_told (I 130 ((135 : Int32).toNatClampNeg)) I).bind fun (r2, I1) =>
  some (r2, I1)
def f_X8_arrivedAt (a1 : Int32) (I : Nat → Nat → Int32) : Option (Int32 × (Nat → Nat → Int32)) :=
  (f_X8_in a1 (0 : Int32) ((I 130 ((135 : Int32).toNatClampNeg)) - (1 : Int32))).bind fun r1 =>
  (show Option (Int32) from
    if r1 = 0 then
      some (1 : Int32)
    else
      some (0 : Int32)).bind fun p3 =>
  (f_X8_refused p3 I).bind fun (r5, I4) =>
  if r5 = 0 then
    hg (gin ((136 : Int32) + a1) 151) <|
    some ((I4 130 (((136 : Int32) + a1).toNatClampNeg)), I4)
  else
    some ((0 : Int32), I4)
def f_X8_timeOf (a1 : Int32) (I : Nat → Nat → Int32) : Option (Int32 × (Nat → Nat → Int32)) :=
  (f_X8_isBird a1 I).bind fun r1 =>
  (show Option (Int32) from
    if r1 = 0 then
      some (1 : Int32)
    else
      (f_X8_isOver a1 I).bind fun r10 =>
      if r10 = 0 then
        some (2 : Int32)
      else
        some (0 : Int32)).bind fun p3 =>
  (f_X8_refused p3 I).bind fun (r5, I4) =>
  if r5 = 0 then
    (f_X8_of a1 (11 : Int32) I4).bind fun r7 =>
    some (r7, I4)
  else
    some ((0 : Int32), I4)
def f_X8_all_L4 (I : Nat → Nat → Int32) : Nat → Int32 → Int32 → Option (Int32)
  | 0, _, _ => none
  | fuel + 1, p1, p2 =>
    if (I 130 ((128 : Int32).toNatClampNeg)) ≤ p2 then
      some p1
    else
      (f_X8_of p2 (7 : Int32) I).bind fun r4 =>
      hlet (p2 + 1) fun x6 =>
      f_X8_all_L4 I fuel (p1 + r4) x6
def f_X8_all (I : Nat → Nat → Int32) : Option (Int32) :=
  (f_X8_all_L4 I FU (0 : Int32) (0 : Int32)).bind fun p3 =>
  some p3
def f_X8_flownByBirds (I : Nat → Nat → Int32) : Option (Int32 × (Nat → Nat → Int32)) :=
  (f_X8_all I).bind fun r1 =>
  (f_X8_told r1 I).bind fun (r4, I3) =>
  some (r4, I3)
def f_X8_flownByAccount (I : Nat → Nat → Int32) : Option (Int32 × (Nat → Nat → Int32)) :=
  (f_X8_told (I 130 ((144 : Int32).toNatClampNeg)) I).bind fun (r2, I1) =>
  some (r2, I1)
def f_X8_drafts (I : Nat → Nat → Int32) : Option (Int32 × (Nat → Nat → Int32)) :=
  (f_X8_told (I 130 ((145 : Int32).toNatClampNeg)) I).bind fun (r2, I1) =>
  some (r2, I1)
def f_X8_changes (I : Nat → Nat → Int32) : Option (Int32 × (Nat → Nat → Int32)) :=
  (f_X8_told (I 130 ((146 : Int32).toNatClampNeg)) I).bind fun (r2, I1) =>
  some (r2, I1)
def f_X8_rests (I : Nat → Nat → Int32) : Option (Int32 × (Nat → Nat → Int32)) :=
  (f_X8_told (I 130 ((147 : Int32).toNatClampNeg)) I).bind fun (r2, I1) =>
  some (r2, I1)
def f_X8_races (I : Nat → Nat → Int32) : Option (Int32 × (Nat → Nat → Int32)) :=
  (f_X8_told (I 130 ((148 : Int32).toNatClampNeg)) I).bind fun (r2, I1) =>
  some (r2, I1)
def f_X8_winsInPairs (I : Nat → Nat → Int32) : Option (Int32 × (Nat → Nat → Int32)) :=
  (f_X8_told (I 130 ((149 : Int32).toNatClampNeg)) I).bind fun (r2, I1) =>
  some (r2, I1)
def f_X8_mean (I : Nat → Nat → Int32) : Option (UInt64) :=
  if (I 130 ((128 : Int32).toNatClampNeg)) = 0 then
    some FP.dconst0
  else
    (f_X8_all I).bind fun r1 =>
    hg (gnn (FP.ddiv (FP.i2d r1) (FP.i2d (I 130 ((128 : Int32).toNatClampNeg))))) <|
    some (FP.ddiv (FP.i2d r1) (FP.i2d (I 130 ((128 : Int32).toNatClampNeg))))
def f_X8_meanFlown (I : Nat → Nat → Int32) : Option (UInt64 × (Nat → Nat → Int32)) :=
  hlet (gup I 129 8 (0 : Int32)) fun I1 =>
  (f_X8_mean I1).bind fun r2 =>
  some (r2, I1)
def f_X8_mixes (a1 : Int64) (J : Nat → Nat → Int64) : Option (Nat → Nat → Int64) :=
  hlet (gup J 129 16 (((31 : Int64) * (J 129 16)) + a1)) fun J1 =>
  some J1
def f_X8_mixBird (a1 : Int32) (I : Nat → Nat → Int32) (J : Nat → Nat → Int64) : Option ((Nat → Nat → Int32) × (Nat → Nat → Int64)) :=
  (f_X8_of a1 (7 : Int32) I).bind fun r1 =>
  (f_X8_mixes ((r1).toInt64) J).bind fun J3 =>
  (f_X8_of a1 (7 : Int32) I).bind fun r5 =>
  (f_X8_mixes (((r5 / (400 : Int32))).toInt64) J3).bind fun J7 =>
  (f_X8_of a1 (8 : Int32) I).bind fun r9 =>
  (f_X8_mixes ((r9).toInt64) J7).bind fun J11 =>
  (f_X8_of a1 (3 : Int32) I).bind fun r13 =>
  (f_X8_mixes ((r13).toInt64) J11).bind fun J15 =>
  (f_X8_of a1 (4 : Int32) I).bind fun r17 =>
  (f_X8_mixes ((r17).toInt64) J15).bind fun J19 =>
  (f_X8_of a1 (5 : Int32) I).bind fun r21 =>
  (f_X8_mixes ((r21).toInt64) J19).bind fun J23 =>
  (f_X8_of a1 (6 : Int32) I).bind fun r25 =>
  (f_X8_mixes ((r25).toInt64) J23).bind fun J27 =>
  (f_X8_of a1 (0 : Int32) I).bind fun r29 =>
  (f_X8_mixes ((r29).toInt64) J27).bind fun J31 =>
  (f_X8_of a1 (10 : Int32) I).bind fun r33 =>
  (f_X8_mixes ((r33).toInt64) J31).bind fun J35 =>
  (f_X8_of a1 (9 : Int32) I).bind fun r37 =>
  (f_X8_mixes ((r37).toInt64) J35).bind fun J39 =>
  (f_X8_place a1 I).bind fun r41 =>
  (f_X8_mixes ((r41).toInt64) J39).bind fun J43 =>
  (f_X8_of a1 (5 : Int32) I).bind fun r45 =>
  (f_X8_gap a1 r45 I).bind fun r47 =>
  (f_X8_mixes ((r47).toInt64) J43).bind fun J49 =>
  (f_X8_flies a1 I).bind fun r51 =>
  (show Option (Int64) from
    if r51 = 0 then
      some (0 : Int64)
    else
      (f_X8_isDrafted a1 I).bind fun r84 =>
      if r84 = 0 then
        some (0 : Int64)
      else
        some (1 : Int64)).bind fun p53 =>
  (f_X8_mixes p53 J49).bind fun J54 =>
  (f_X8_where a1 I).bind fun r56 =>
  (f_X8_mixes ((r56).toInt64) J54).bind fun J58 =>
  (f_X8_flies a1 I).bind fun r60 =>
  (show Option (Int64) from
    if r60 = 0 then
      some (0 : Int64)
    else
      (f_X8_allowed a1 I).bind fun r81 =>
      some ((r81).toInt64)).bind fun p62 =>
  (f_X8_mixes p62 J58).bind fun J63 =>
  (f_X8_isOver a1 I).bind fun r65 =>
  (show Option (Int64) from
    if r65 = 0 then
      some (0 : Int64)
    else
      (f_X8_of a1 (11 : Int32) I).bind fun r78 =>
      some ((r78).toInt64)).bind fun p67 =>
  (f_X8_mixes p67 J63).bind fun J68 =>
  (show Option (Int64 × (Nat → Nat → Int32)) from
    if (I 130 ((150 : Int32).toNatClampNeg)) = (1 : Int32) then
      (f_X8_flownIn a1 (30 : Int32) I).bind fun (r75, I74) =>
      some (((r75).toInt64), I74)
    else
      some ((0 : Int64), I)).bind fun (p70, I71) =>
  (f_X8_mixes p70 J68).bind fun J72 =>
  some (I71, J72)
def f_X8_digest_L341 (I27 : Nat → Nat → Int32) : Nat → Int32 → (Nat → Nat → Int64) → Option (Nat → Nat → Int64)
  | 0, _, _ => none
  | fuel + 1, p62, J63 =>
    if (I27 129 7) ≤ p62 then
      some J63
    else
      hg (gin p62 60) <|
      (f_X8_mixes (((I27 135 (p62.toNatClampNeg))).toInt64) J63).bind fun J66 =>
      hlet (p62 + 1) fun x68 =>
      f_X8_digest_L341 I27 fuel x68 J66
def f_X8_digest_L250 (I27 : Nat → Nat → Int32) : Nat → Int32 → (Nat → Nat → Int64) → Option (Nat → Nat → Int64)
  | 0, _, _ => none
  | fuel + 1, p43, J44 =>
    if (149 : Int32) < p43 then
      some J44
    else
      hg (gin p43 151) <|
      (f_X8_mixes (((I27 130 (p43.toNatClampNeg))).toInt64) J44).bind fun J73 =>
      hlet (p43 + 1) fun x75 =>
      f_X8_digest_L250 I27 fuel x75 J73
def f_X8_digest_L204 (I27 : Nat → Nat → Int32) : Nat → Int32 → (Nat → Nat → Int64) → Option (Nat → Nat → Int64)
  | 0, _, _ => none
  | fuel + 1, p36, J37 =>
    if (I27 130 ((135 : Int32).toNatClampNeg)) ≤ p36 then
      some J37
    else
      hg (gin ((136 : Int32) + p36) 151) <|
      (f_X8_mixes (((I27 130 (((136 : Int32) + p36).toNatClampNeg))).toInt64) J37).bind fun J78 =>
      hlet (p36 + 1) fun x80 =>
      f_X8_digest_L204 I27 fuel x80 J78
def f_X8_digest_L82 (I8 : Nat → Nat → Int32) : Nat → Int32 → (Nat → Nat → Int64) → Option (Nat → Nat → Int64)
  | 0, _, _ => none
  | fuel + 1, p13, J14 =>
    if (4 : Int32) ≤ p13 then
      some J14
    else
      hg (gin ((129 : Int32) + p13) 151) <|
      (f_X8_mixes (((I8 130 (((129 : Int32) + p13).toNatClampNeg))).toInt64) J14).bind fun J88 =>
      hlet (p13 + 1) fun x90 =>
      f_X8_digest_L82 I8 fuel x90 J88
def f_X8_digest_L52 (I8 : Nat → Nat → Int32) : Nat → Int32 → (Nat → Nat → Int64) → Option (Nat → Nat → Int64)
  | 0, _, _ => none
  | fuel + 1, p10, J11 =>
    if (I8 130 ((128 : Int32).toNatClampNeg)) ≤ p10 then
      some J11
    else
      (f_X8_birdAt p10 I8).bind fun r92 =>
      (f_X8_mixes ((r92).toInt64) J11).bind fun J94 =>
      hlet (p10 + 1) fun x96 =>
      f_X8_digest_L52 I8 fuel x96 J94
def f_X8_digest_L27 : Nat → Int32 → (Nat → Nat → Int32) → (Nat → Nat → Int64) → Option ((Nat → Nat → Int32) × (Nat → Nat → Int64))
  | 0, _, _, _ => none
  | fuel + 1, p5, I6, J7 =>
    if (I6 130 ((128 : Int32).toNatClampNeg)) ≤ p5 then
      some (I6, J7)
    else
      (f_X8_mixBird p5 I6 J7).bind fun (I98, J99) =>
      hlet (p5 + 1) fun x101 =>
      f_X8_digest_L27 fuel x101 I98 J99
def f_X8_digest (I : Nat → Nat → Int32) (J : Nat → Nat → Int64) : Option (Int64 × (Nat → Nat → Int32) × (Nat → Nat → Int64)) :=
  hlet (gup I 129 8 (0 : Int32)) fun I1 =>
  hlet (gup J 129 16 (4637 : Int64)) fun J2 =>
  (f_X8_mixes (((I1 130 ((128 : Int32).toNatClampNeg))).toInt64) J2).bind fun J3 =>
  (f_X8_digest_L27  FU (0 : Int32) I1 J3).bind fun (I8, J9) =>
  (f_X8_digest_L52 I8 FU (0 : Int32) J9).bind fun J12 =>
  (f_X8_digest_L82 I8 FU (0 : Int32) J12).bind fun J15 =>
  (f_X8_first I8).bind fun (r17, I16) =>
  (f_X8_mixes ((r17).toInt64) J15).bind fun J19 =>
  (f_X8_nextIn I16).bind fun (r22, I21) =>
  (f_X8_mixes ((r22).toInt64) J19).bind fun J24 =>
  (show Option (Int64 × (Nat → Nat → Int32)) from
    if (I21 130 ((128 : Int32).toNatClampNeg)) ≤ 0 then
      some ((0 : Int64), I21)
    else
      if (I21 130 ((150 : Int32).toNatClampNeg)) = (1 : Int32) then
        (f_X8_best (0 : Int32) I21).bind fun (r83, I82) =>
        some (((r83).toInt64), I82)
      else
        some ((0 : Int64), I21)).bind fun (p26, I27) =>
  (f_X8_mixes p26 J24).bind fun J28 =>
  (f_X8_mixes (((I27 130 ((150 : Int32).toNatClampNeg))).toInt64) J28).bind fun J30 =>
  (f_X8_mixes (((I27 130 ((134 : Int32).toNatClampNeg))).toInt64) J30).bind fun J32 =>
  (f_X8_mixes (((I27 130 ((135 : Int32).toNatClampNeg))).toInt64) J32).bind fun J34 =>
  (f_X8_digest_L204 I27 FU (0 : Int32) J34).bind fun J38 =>
  (f_X8_all I27).bind fun r39 =>
  (f_X8_mixes ((r39).toInt64) J38).bind fun J41 =>
  (f_X8_digest_L250 I27 FU (144 : Int32) J41).bind fun J45 =>
  (f_X8_mixes (((I27 129 3)).toInt64) J45).bind fun J46 =>
  (f_X8_mean I27).bind fun r48 =>
  (f_Jxe99ae_doubleToLongBits_ccdee r48).bind fun r50 =>
  (f_X8_mixes r50 J46).bind fun J52 =>
  (show Option (Int64) from
    if (I27 134 ((0 : Int32).toNatClampNeg)) = 0 then
      some (0 : Int64)
    else
      some (1 : Int64)).bind fun p54 =>
  (f_X8_mixes p54 J52).bind fun J55 =>
  (show Option (Int64) from
    if (I27 134 ((1 : Int32).toNatClampNeg)) = 0 then
      some (0 : Int64)
    else
      some (1 : Int64)).bind fun p57 =>
  (f_X8_mixes p57 J55).bind fun J58 =>
  (f_X8_mixes (((I27 129 7)).toInt64) J58).bind fun J60 =>
  (f_X8_digest_L341 I27 FU (0 : Int32) J60).bind fun J64 =>
  some ((J64 129 16), I27, J64)
def f_W_enter (a1 : Int32) (a2 : Int32) (a3 : Int32) (I : Nat → Nat → Int32) (O : Nat → Nat → Option Nat) (J : Nat → Nat → Int64) : Option (Int32 × (Nat → Nat → Int32) × (Nat → Nat → Option Nat) × (Nat → Nat → Int64)) :=
  (f_X7_enter a1 a2 a3 I O).bind fun (eq4, I1, O2) => hsum eq4 (fun k9 => 
    if k9 = 1 then
      some ((1 : Int32), I1, O2, J)
    else
    if k9 = 2 then
      some ((2 : Int32), I1, O2, J)
    else
    none) fun r3 =>
  hlet (gup J 137 ((0 : Int32).toNatClampNeg) ((r3).toInt64)) fun J5 =>
  some ((0 : Int32), I1, O2, J5)
def f_W_setPace (a1 : Int32) (a2 : Int32) (I : Nat → Nat → Int32) (O : Nat → Nat → Option Nat) (J : Nat → Nat → Int64) : Option (Int32 × (Nat → Nat → Int32) × (Nat → Nat → Option Nat) × (Nat → Nat → Int64)) :=
  (f_X7_setPace a1 a2 I O).bind fun (eq4, I1, O2) => hsum eq4 (fun k9 => 
    if k9 = 0 then
      some ((1 : Int32), I1, O2, J)
    else
    if k9 = 1 then
      some ((2 : Int32), I1, O2, J)
    else
    none) fun r3 =>
  hlet (gup J 137 ((0 : Int32).toNatClampNeg) ((r3).toInt64)) fun J5 =>
  some ((0 : Int32), I1, O2, J5)
def f_W_callIn (a1 : Int32) (I : Nat → Nat → Int32) (O : Nat → Nat → Option Nat) (J : Nat → Nat → Int64) : Option (Int32 × (Nat → Nat → Int32) × (Nat → Nat → Option Nat) × (Nat → Nat → Int64)) :=
  (f_X7_callIn a1 I O).bind fun (eq4, I1, O2) => hsum eq4 (fun k9 => 
    if k9 = 0 then
      some ((1 : Int32), I1, O2, J)
    else
    if k9 = 2 then
      some ((2 : Int32), I1, O2, J)
    else
    none) fun r3 =>
  (show Option (Int64) from
    if r3 = 0 then
      some (0 : Int64)
    else
      some (1 : Int64)).bind fun p5 =>
  hlet (gup J 137 ((0 : Int32).toNatClampNeg) p5) fun J6 =>
  some ((0 : Int32), I1, O2, J6)
def f_W_pair (a1 : Int32) (a2 : Int32) (I : Nat → Nat → Int32) (O : Nat → Nat → Option Nat) (J : Nat → Nat → Int64) : Option (Int32 × (Nat → Nat → Int32) × (Nat → Nat → Option Nat) × (Nat → Nat → Int64)) :=
  (f_X7_pair a1 a2 I O).bind fun (eq4, I1, O2) => hsum eq4 (fun k9 => 
    if k9 = 0 then
      some ((1 : Int32), I1, O2, J)
    else
    if k9 = 1 then
      some ((2 : Int32), I1, O2, J)
    else
    none) fun r3 =>
  hlet (gup J 137 ((0 : Int32).toNatClampNeg) ((r3).toInt64)) fun J5 =>
  some ((0 : Int32), I1, O2, J5)
def f_W_setLimit (a1 : Int32) (a2 : Int32) (I : Nat → Nat → Int32) (O : Nat → Nat → Option Nat) (J : Nat → Nat → Int64) : Option (Int32 × (Nat → Nat → Int32) × (Nat → Nat → Option Nat) × (Nat → Nat → Int64)) :=
  (f_X7_setLimit a1 a2 I O).bind fun (eq4, I1, O2) => hsum eq4 (fun k9 => 
    if k9 = 0 then
      some ((1 : Int32), I1, O2, J)
    else
    if k9 = 1 then
      some ((2 : Int32), I1, O2, J)
    else
    none) fun r3 =>
  hlet (gup J 137 ((0 : Int32).toNatClampNeg) ((r3).toInt64)) fun J5 =>
  some ((0 : Int32), I1, O2, J5)
def f_W_setLaps (a1 : Int32) (I : Nat → Nat → Int32) (O : Nat → Nat → Option Nat) (J : Nat → Nat → Int64) : Option (Int32 × (Nat → Nat → Int32) × (Nat → Nat → Option Nat) × (Nat → Nat → Int64)) :=
  (f_X7_setLaps a1 I O).bind fun (eq4, I1, O2) => hsum eq4 (fun k9 => 
    if k9 = 1 then
      some ((1 : Int32), I1, O2, J)
    else
    if k9 = 2 then
      some ((2 : Int32), I1, O2, J)
    else
    none) fun r3 =>
  hlet (gup J 137 ((0 : Int32).toNatClampNeg) ((r3).toInt64)) fun J5 =>
  some ((0 : Int32), I1, O2, J5)
def f_W_begin (I : Nat → Nat → Int32) (O : Nat → Nat → Option Nat) (J : Nat → Nat → Int64) : Option (Int32 × (Nat → Nat → Int32) × (Nat → Nat → Option Nat) × (Nat → Nat → Int64)) :=
  (f_X7_begin I O).bind fun (eq4, I1, O2) => hsum eq4 (fun k9 => 
    if k9 = 2 then
      some ((1 : Int32), I1, O2, J)
    else
    none) fun r3 =>
  hlet (gup J 137 ((0 : Int32).toNatClampNeg) ((r3).toInt64)) fun J5 =>
  some ((0 : Int32), I1, O2, J5)
def f_W_pass (a1 : Int32) (I : Nat → Nat → Int32) (O : Nat → Nat → Option Nat) (J : Nat → Nat → Int64) : Option (Int32 × (Nat → Nat → Int32) × (Nat → Nat → Option Nat) × (Nat → Nat → Int64)) :=
  (f_X7_pass a1 I O).bind fun (eq4, I1, O2) => hsum eq4 (fun k9 => 
    if k9 = 1 then
      some ((1 : Int32), I1, O2, J)
    else
    if k9 = 2 then
      some ((2 : Int32), I1, O2, J)
    else
    none) fun r3 =>
  hlet (gup J 137 ((0 : Int32).toNatClampNeg) ((r3).toInt64)) fun J5 =>
  some ((0 : Int32), I1, O2, J5)
def f_W_append (a1 : Int32) (I : Nat → Nat → Int32) (J : Nat → Nat → Int64) : Option (Int32 × (Nat → Nat → Int32) × (Nat → Nat → Int64)) :=
  (f_X7_append a1 I).bind fun (eq3, I1) => hsum eq3 (fun k9 => 
    if k9 = 1 then
      some ((1 : Int32), I1, J)
    else
    if k9 = 2 then
      some ((2 : Int32), I1, J)
    else
    none) fun r2 =>
  hlet (gup J 137 ((0 : Int32).toNatClampNeg) ((r2).toInt64)) fun J4 =>
  some ((0 : Int32), I1, J4)
def f_W_follow (I : Nat → Nat → Int32) (O : Nat → Nat → Option Nat) (J : Nat → Nat → Int64) : Option (Int32 × (Nat → Nat → Int32) × (Nat → Nat → Option Nat) × (Nat → Nat → Int64)) :=
  (f_X7_follow I O).bind fun (eq4, I1, O2) => hsum eq4 (fun k9 => 
    if k9 = 1 then
      some ((1 : Int32), I1, O2, J)
    else
    if k9 = 2 then
      some ((2 : Int32), I1, O2, J)
    else
    none) fun r3 =>
  hlet (gup J 137 ((0 : Int32).toNatClampNeg) ((r3).toInt64)) fun J5 =>
  some ((0 : Int32), I1, O2, J5)
def f_W_keep (a1 : Int32) (I : Nat → Nat → Int32) : Option (Int32 × (Nat → Nat → Int32)) :=
  (f_X7_keep a1 I).bind fun (eq2, I1) => hsum eq2 (fun k9 => 
    if k9 = 1 then
      some ((1 : Int32), I1)
    else
    none) fun _ =>
  some ((0 : Int32), I1)
def f_W_goBack (a1 : Int32) (I : Nat → Nat → Int32) (O : Nat → Nat → Option Nat) : Option (Int32 × (Nat → Nat → Int32) × (Nat → Nat → Option Nat)) :=
  (f_X7_goBack a1 I O).bind fun (eq3, I1, O2) => hsum eq3 (fun k9 => 
    if k9 = 1 then
      some ((1 : Int32), I1, O2)
    else
    if k9 = 2 then
      some ((2 : Int32), I1, O2)
    else
    none) fun _ =>
  some ((0 : Int32), I1, O2)
def f_W_undo (I : Nat → Nat → Int32) (O : Nat → Nat → Option Nat) : Option (Int32 × (Nat → Nat → Int32)) :=
  (f_X7_undo I O).bind fun (eq2, I1) => hsum eq2 (fun k9 => 
    if k9 = 2 then
      some ((1 : Int32), I1)
    else
    none) fun _ =>
  some ((0 : Int32), I1)
def f_W_flown (a1 : Int32) (I : Nat → Nat → Int32) (J : Nat → Nat → Int64) : Option (Int32 × (Nat → Nat → Int64)) :=
  (f_X7_flown a1 I).bind fun eq2 => hsum eq2 (fun k9 => 
    if k9 = 0 then
      some ((1 : Int32), J)
    else
    none) fun r1 =>
  hlet (gup J 137 ((0 : Int32).toNatClampNeg) ((r1).toInt64)) fun J3 =>
  some ((0 : Int32), J3)
def f_W_lapsOf (a1 : Int32) (I : Nat → Nat → Int32) (J : Nat → Nat → Int64) : Option (Int32 × (Nat → Nat → Int64)) :=
  (f_X7_lapsOf a1 I).bind fun eq2 => hsum eq2 (fun k9 => 
    if k9 = 0 then
      some ((1 : Int32), J)
    else
    none) fun r1 =>
  hlet (gup J 137 ((0 : Int32).toNatClampNeg) ((r1).toInt64)) fun J3 =>
  some ((0 : Int32), J3)
def f_W_speedOf (a1 : Int32) (I : Nat → Nat → Int32) (J : Nat → Nat → Int64) : Option (Int32 × (Nat → Nat → Int64)) :=
  (f_X7_speedOf a1 I).bind fun eq2 => hsum eq2 (fun k9 => 
    if k9 = 0 then
      some ((1 : Int32), J)
    else
    none) fun r1 =>
  hlet (gup J 137 ((0 : Int32).toNatClampNeg) ((r1).toInt64)) fun J3 =>
  some ((0 : Int32), J3)
def f_W_strengthOf (a1 : Int32) (I : Nat → Nat → Int32) (J : Nat → Nat → Int64) : Option (Int32 × (Nat → Nat → Int64)) :=
  (f_X7_strengthOf a1 I).bind fun eq2 => hsum eq2 (fun k9 => 
    if k9 = 0 then
      some ((1 : Int32), J)
    else
    none) fun r1 =>
  hlet (gup J 137 ((0 : Int32).toNatClampNeg) ((r1).toInt64)) fun J3 =>
  some ((0 : Int32), J3)
def f_W_wearOf (a1 : Int32) (I : Nat → Nat → Int32) (J : Nat → Nat → Int64) : Option (Int32 × (Nat → Nat → Int64)) :=
  (f_X7_wearOf a1 I).bind fun eq2 => hsum eq2 (fun k9 => 
    if k9 = 0 then
      some ((1 : Int32), J)
    else
    none) fun r1 =>
  hlet (gup J 137 ((0 : Int32).toNatClampNeg) ((r1).toInt64)) fun J3 =>
  some ((0 : Int32), J3)
def f_W_laneOf (a1 : Int32) (I : Nat → Nat → Int32) (J : Nat → Nat → Int64) : Option (Int32 × (Nat → Nat → Int64)) :=
  (f_X7_laneOf a1 I).bind fun eq2 => hsum eq2 (fun k9 => 
    if k9 = 0 then
      some ((1 : Int32), J)
    else
    none) fun r1 =>
  hlet (gup J 137 ((0 : Int32).toNatClampNeg) ((r1).toInt64)) fun J3 =>
  some ((0 : Int32), J3)
def f_W_stateOf (a1 : Int32) (I : Nat → Nat → Int32) (J : Nat → Nat → Int64) : Option (Int32 × (Nat → Nat → Int64)) :=
  (f_X7_stateOf a1 I).bind fun eq2 => hsum eq2 (fun k9 => 
    if k9 = 0 then
      some ((1 : Int32), J)
    else
    none) fun r1 =>
  hlet (gup J 137 ((0 : Int32).toNatClampNeg) ((r1).toInt64)) fun J3 =>
  some ((0 : Int32), J3)
def f_W_paceOf (a1 : Int32) (I : Nat → Nat → Int32) (J : Nat → Nat → Int64) : Option (Int32 × (Nat → Nat → Int64)) :=
  (f_X7_paceOf a1 I).bind fun eq2 => hsum eq2 (fun k9 => 
    if k9 = 0 then
      some ((1 : Int32), J)
    else
    none) fun r1 =>
  hlet (gup J 137 ((0 : Int32).toNatClampNeg) ((r1).toInt64)) fun J3 =>
  some ((0 : Int32), J3)
def f_W_partnerOf (a1 : Int32) (I : Nat → Nat → Int32) (J : Nat → Nat → Int64) : Option (Int32 × (Nat → Nat → Int64)) :=
  (f_X7_partnerOf a1 I).bind fun eq2 => hsum eq2 (fun k9 => 
    if k9 = 0 then
      some ((1 : Int32), J)
    else
    if k9 = 2 then
      some ((2 : Int32), J)
    else
    none) fun r1 =>
  hlet (gup J 137 ((0 : Int32).toNatClampNeg) ((r1).toInt64)) fun J3 =>
  some ((0 : Int32), J3)
def f_W_isCalledIn (a1 : Int32) (I : Nat → Nat → Int32) (J : Nat → Nat → Int64) : Option (Int32 × (Nat → Nat → Int64)) :=
  (f_X7_isCalledIn a1 I).bind fun eq2 => hsum eq2 (fun k9 => 
    if k9 = 0 then
      some ((1 : Int32), J)
    else
    none) fun r1 =>
  (show Option (Int64) from
    if r1 = 0 then
      some (0 : Int64)
    else
      some (1 : Int64)).bind fun p3 =>
  hlet (gup J 137 ((0 : Int32).toNatClampNeg) p3) fun J4 =>
  some ((0 : Int32), J4)
def f_W_limitOf (a1 : Int32) (I : Nat → Nat → Int32) (J : Nat → Nat → Int64) : Option (Int32 × (Nat → Nat → Int64)) :=
  (f_X7_limitOf a1 I).bind fun eq2 => hsum eq2 (fun k9 => 
    if k9 = 0 then
      some ((1 : Int32), J)
    else
    none) fun r1 =>
  hlet (gup J 137 ((0 : Int32).toNatClampNeg) ((r1).toInt64)) fun J3 =>
  some ((0 : Int32), J3)
def f_W_placeByCounting (a1 : Int32) (I : Nat → Nat → Int32) (J : Nat → Nat → Int64) : Option (Int32 × (Nat → Nat → Int64)) :=
  (f_X7_placeByCounting a1 I).bind fun eq2 => hsum eq2 (fun k9 => 
    if k9 = 0 then
      some ((1 : Int32), J)
    else
    none) fun r1 =>
  hlet (gup J 137 ((0 : Int32).toNatClampNeg) ((r1).toInt64)) fun J3 =>
  some ((0 : Int32), J3)
def f_W_birdByOrder (a1 : Int32) (I : Nat → Nat → Int32) (O : Nat → Nat → Option Nat) (J : Nat → Nat → Int64) : Option (Int32 × (Nat → Nat → Option Nat) × (Nat → Nat → Int64)) :=
  (f_X7_birdByOrder a1 I O).bind fun (eq3, O1) => hsum eq3 (fun k9 => 
    if k9 = 0 then
      some ((1 : Int32), O1, J)
    else
    none) fun r2 =>
  hlet (gup J 137 ((0 : Int32).toNatClampNeg) ((r2).toInt64)) fun J4 =>
  some ((0 : Int32), O1, J4)
def f_W_gapAhead (a1 : Int32) (I : Nat → Nat → Int32) (J : Nat → Nat → Int64) : Option (Int32 × (Nat → Nat → Int64)) :=
  (f_X7_gapAhead a1 I).bind fun eq2 => hsum eq2 (fun k9 => 
    if k9 = 0 then
      some ((1 : Int32), J)
    else
    none) fun r1 =>
  hlet (gup J 137 ((0 : Int32).toNatClampNeg) ((r1).toInt64)) fun J3 =>
  some ((0 : Int32), J3)
def f_W_isDrafting (a1 : Int32) (I : Nat → Nat → Int32) (J : Nat → Nat → Int64) : Option (Int32 × (Nat → Nat → Int64)) :=
  (f_X7_isDrafting a1 I).bind fun eq2 => hsum eq2 (fun k9 => 
    if k9 = 0 then
      some ((1 : Int32), J)
    else
    if k9 = 2 then
      some ((2 : Int32), J)
    else
    none) fun r1 =>
  (show Option (Int64) from
    if r1 = 0 then
      some (0 : Int64)
    else
      some (1 : Int64)).bind fun p3 =>
  hlet (gup J 137 ((0 : Int32).toNatClampNeg) p3) fun J4 =>
  some ((0 : Int32), J4)
def f_W_whereIs (a1 : Int32) (I : Nat → Nat → Int32) (J : Nat → Nat → Int64) : Option (Int32 × (Nat → Nat → Int64)) :=
  (f_X7_whereIs a1 I).bind fun eq2 => hsum eq2 (fun k9 => 
    if k9 = 0 then
      some ((1 : Int32), J)
    else
    none) fun r1 =>
  hlet (gup J 137 ((0 : Int32).toNatClampNeg) ((r1).toInt64)) fun J3 =>
  some ((0 : Int32), J3)
def f_W_allowance (a1 : Int32) (I : Nat → Nat → Int32) (J : Nat → Nat → Int64) : Option (Int32 × (Nat → Nat → Int64)) :=
  (f_X7_allowance a1 I).bind fun eq2 => hsum eq2 (fun k9 => 
    if k9 = 0 then
      some ((1 : Int32), J)
    else
    if k9 = 2 then
      some ((2 : Int32), J)
    else
    none) fun r1 =>
  hlet (gup J 137 ((0 : Int32).toNatClampNeg) ((r1).toInt64)) fun J3 =>
  some ((0 : Int32), J3)
def f_W_wouldFly (a1 : Int32) (a2 : Int32) (I : Nat → Nat → Int32) (O : Nat → Nat → Option Nat) (J : Nat → Nat → Int64) : Option (Int32 × (Nat → Nat → Int32) × (Nat → Nat → Option Nat) × (Nat → Nat → Int64)) :=
  (f_X7_wouldFly a1 a2 I O).bind fun (eq4, I1, O2) => hsum eq4 (fun k9 => 
    if k9 = 0 then
      some ((1 : Int32), I1, O2, J)
    else
    if k9 = 1 then
      some ((2 : Int32), I1, O2, J)
    else
    if k9 = 2 then
      some ((3 : Int32), I1, O2, J)
    else
    none) fun r3 =>
  hlet (gup J 137 ((0 : Int32).toNatClampNeg) ((r3).toInt64)) fun J5 =>
  some ((0 : Int32), I1, O2, J5)
def f_W_wouldWin (I : Nat → Nat → Int32) (O : Nat → Nat → Option Nat) (J : Nat → Nat → Int64) : Option (Int32 × (Nat → Nat → Int32) × (Nat → Nat → Option Nat) × (Nat → Nat → Int64)) :=
  (f_X7_wouldWin I O).bind fun (eq4, I1, O2) => hsum eq4 (fun k9 => 
    if k9 = 2 then
      some ((1 : Int32), I1, O2, J)
    else
    none) fun r3 =>
  hlet (gup J 137 ((0 : Int32).toNatClampNeg) ((r3).toInt64)) fun J5 =>
  some ((0 : Int32), I1, O2, J5)
def f_W_secondsToNext (I : Nat → Nat → Int32) (O : Nat → Nat → Option Nat) (J : Nat → Nat → Int64) : Option (Int32 × (Nat → Nat → Int32) × (Nat → Nat → Option Nat) × (Nat → Nat → Int64)) :=
  (f_X7_secondsToNext I O).bind fun (eq4, I1, O2) => hsum eq4 (fun k9 => 
    if k9 = 2 then
      some ((1 : Int32), I1, O2, J)
    else
    none) fun r3 =>
  hlet (gup J 137 ((0 : Int32).toNatClampNeg) ((r3).toInt64)) fun J5 =>
  some ((0 : Int32), I1, O2, J5)
def f_W_flownWithPace (a1 : Int32) (a2 : Int32) (I : Nat → Nat → Int32) (O : Nat → Nat → Option Nat) (J : Nat → Nat → Int64) : Option (Int32 × (Nat → Nat → Int32) × (Nat → Nat → Option Nat) × (Nat → Nat → Int64)) :=
  (f_X7_flownWithPace a1 a2 I O).bind fun (eq4, I1, O2) => hsum eq4 (fun k9 => 
    if k9 = 0 then
      some ((1 : Int32), I1, O2, J)
    else
    if k9 = 1 then
      some ((2 : Int32), I1, O2, J)
    else
    if k9 = 2 then
      some ((3 : Int32), I1, O2, J)
    else
    none) fun r3 =>
  hlet (gup J 137 ((0 : Int32).toNatClampNeg) ((r3).toInt64)) fun J5 =>
  some ((0 : Int32), I1, O2, J5)
def f_W_bestPace (a1 : Int32) (I : Nat → Nat → Int32) (O : Nat → Nat → Option Nat) (J : Nat → Nat → Int64) : Option (Int32 × (Nat → Nat → Int32) × (Nat → Nat → Option Nat) × (Nat → Nat → Int64)) :=
  (f_X7_bestPace a1 I O).bind fun (eq4, I1, O2) => hsum eq4 (fun k9 => 
    if k9 = 0 then
      some ((1 : Int32), I1, O2, J)
    else
    if k9 = 2 then
      some ((2 : Int32), I1, O2, J)
    else
    none) fun r3 =>
  hlet (gup J 137 ((0 : Int32).toNatClampNeg) ((r3).toInt64)) fun J5 =>
  some ((0 : Int32), I1, O2, J5)
def f_W_arrivedAt (a1 : Int32) (I : Nat → Nat → Int32) (J : Nat → Nat → Int64) : Option (Int32 × (Nat → Nat → Int64)) :=
  (f_X7_arrivedAt a1 I).bind fun eq2 => hsum eq2 (fun k9 => 
    if k9 = 0 then
      some ((1 : Int32), J)
    else
    none) fun r1 =>
  hlet (gup J 137 ((0 : Int32).toNatClampNeg) ((r1).toInt64)) fun J3 =>
  some ((0 : Int32), J3)
def f_W_timeOf (a1 : Int32) (I : Nat → Nat → Int32) (J : Nat → Nat → Int64) : Option (Int32 × (Nat → Nat → Int64)) :=
  (f_X7_timeOf a1 I).bind fun eq2 => hsum eq2 (fun k9 => 
    if k9 = 0 then
      some ((1 : Int32), J)
    else
    if k9 = 2 then
      some ((2 : Int32), J)
    else
    none) fun r1 =>
  hlet (gup J 137 ((0 : Int32).toNatClampNeg) ((r1).toInt64)) fun J3 =>
  some ((0 : Int32), J3)
