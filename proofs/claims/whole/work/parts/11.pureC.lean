def X8_add (v1 : Int32) (c : Mm) : Option (Int32 × Mm) :=
  if (c 1 1) < (200 : Int32) then
    m_gi (c 1 1) 200 <|
    m_bnd (m_st c 12 (m_ix (c 1 1)) v1) fun c1 =>
    m_bnd (m_st c1 1 1 ((c1 1 1) + (1 : Int32))) fun c2 =>
    some ((1 : Int32), c2)
  else
    some ((0 : Int32), c)

def X1_clear (c : Mm) : Option (Mm) :=
  m_bnd (m_st c 2 0 (0 : Int32)) fun c1 =>
  m_bnd (m_st c1 2 1 (0 : Int32)) fun c2 =>
  m_bnd (m_st c2 2 2 (4 : Int32)) fun c3 =>
  m_bnd (m_st c3 2 3 (10 : Int32)) fun c4 =>
  m_bnd (m_st c4 2 4 (2 : Int32)) fun c5 =>
  m_bnd (m_st c5 2 5 (4 : Int32)) fun c6 =>
  some c6

def X8_letterAt (v1 : Int32) (c : Mm) : Option (Int32 × Mm) :=
  if v1 < (0 : Int32) then
    some ((-4 : Int32), c)
  else
    if (c 1 1) ≤ v1 then
      some ((-4 : Int32), c)
    else
      m_gi v1 200 <|
      some (c 12 (m_ix v1), c)

def X4_numbersOf (v0 : Int32) (c : Mm) : Option (Int32 × Mm) :=
  if v0 = (98 : Int32) then
    some ((5 : Int32), c)
  else
  if v0 = (104 : Int32) then
    some ((1 : Int32), c)
  else
  if v0 = (108 : Int32) then
    some ((2 : Int32), c)
  else
  if v0 = (110 : Int32) then
    some ((2 : Int32), c)
  else
  if v0 = (121 : Int32) then
    some ((1 : Int32), c)
  else
    some ((0 : Int32), c)

def X9_isWithin (v0 : Int32) (v1 : Int32) (v2 : Int32) (c : Mm) : Option (Int32 × Mm) :=
  if v0 < v1 then
    some ((0 : Int32), c)
  else
    if v2 < v0 then
      some ((0 : Int32), c)
    else
      some ((1 : Int32), c)

def X4_figureAt (v1 : Int32) (c : Mm) : Option (Int32 × Mm) :=
  m_cal (X8_letterAt v1 c) fun r1 c2 =>
  m_cal (X9_isWithin r1 (48 : Int32) (57 : Int32) c2) fun r3 c4 =>
  if r3 = (0 : Int32) then
    some ((-4 : Int32), c4)
  else
    some (r1 - (48 : Int32), c4)

def X4_readNumber_j63 (v2 : Int32) (v3 : Int32) (v5 : Int32) (v6 : Int32) (c : Mm) : Option (Int32 × Mm) :=
  m_gi v2 5 <|
  m_bnd (m_st c 20 (m_ix v2) v5) fun c1 =>
  m_cal (X8_letterAt v6 c1) fun r2 c3 =>
  if r2 = v3 then
    some (v6 + (1 : Int32), c3)
  else
    some ((-4 : Int32), c3)
def X4_readNumber (v1 : Int32) (v2 : Int32) (v3 : Int32) (c : Mm) : Option (Int32 × Mm) :=
  m_cal (X4_figureAt v1 c) fun r4 c5 =>
  if r4 = (-4 : Int32) then
    some ((-4 : Int32), c5)
  else
    if v2 < (0 : Int32) then
      some ((-4 : Int32), c5)
    else
      if v2 < (5 : Int32) then
        m_bnd (v1 + (1 : Int32)) fun x6 =>
        m_cal (X4_figureAt x6 c5) fun r7 c8 =>
        if r7 = (-4 : Int32) then
          X4_readNumber_j63 v2 v3 r4 x6 c8
        else
          m_bnd (((10 : Int32) * r4) + r7) fun x9 =>
          m_bnd (x6 + (1 : Int32)) fun x10 =>
          X4_readNumber_j63 v2 v3 x9 x10 c8
      else
        some ((-4 : Int32), c5)

def X4_takeBoat (c : Mm) : Option (Int32 × Mm) :=
  m_bnd (c 2 0) fun x1 =>
  if (6 : Int32) ≤ x1 then
    some ((0 : Int32), c)
  else
    m_cal (X9_isWithin (c 20 0) (0 : Int32) (60 : Int32) c) fun r2 c3 =>
    if r2 = (0 : Int32) then
      some ((0 : Int32), c3)
    else
      m_cal (X9_isWithin (c3 20 1) (0 : Int32) (1 : Int32) c3) fun r4 c5 =>
      if r4 = (0 : Int32) then
        some ((0 : Int32), c5)
      else
        m_cal (X9_isWithin (c5 20 2) (1 : Int32) (3 : Int32) c5) fun r6 c7 =>
        if r6 = (0 : Int32) then
          some ((0 : Int32), c7)
        else
          m_cal (X9_isWithin (c7 20 3) (0 : Int32) (9 : Int32) c7) fun r8 c9 =>
          if r8 = (0 : Int32) then
            some ((0 : Int32), c9)
          else
            m_cal (X9_isWithin (c9 20 4) (0 : Int32) (3 : Int32) c9) fun r10 c11 =>
            if r10 = (0 : Int32) then
              some ((0 : Int32), c11)
            else
              m_gi x1 6 <|
              m_bnd (m_st c11 13 (m_ix x1) (c11 20 0)) fun c12 =>
              m_gi x1 6 <|
              m_bnd (m_st c12 14 (m_ix x1) (c12 20 1)) fun c13 =>
              m_gi x1 6 <|
              m_bnd (m_st c13 15 (m_ix x1) (c13 20 2)) fun c14 =>
              m_gi x1 6 <|
              m_bnd (m_st c14 16 (m_ix x1) (c14 20 3)) fun c15 =>
              m_gi x1 6 <|
              m_bnd (m_st c15 17 (m_ix x1) (c15 20 4)) fun c16 =>
              m_bnd (m_st c16 2 0 (x1 + (1 : Int32))) fun c17 =>
              some ((1 : Int32), c17)

def X4_takeNarrow (c : Mm) : Option (Int32 × Mm) :=
  m_bnd (c 2 1) fun x1 =>
  if (3 : Int32) ≤ x1 then
    some ((0 : Int32), c)
  else
    if (c 20 1) < (c 20 0) then
      some ((0 : Int32), c)
    else
      if (c 20 1) ≤ (60 : Int32) then
        m_gi x1 3 <|
        m_bnd (m_st c 18 (m_ix x1) (c 20 0)) fun c2 =>
        m_gi x1 3 <|
        m_bnd (m_st c2 19 (m_ix x1) (c2 20 1)) fun c3 =>
        m_bnd (m_st c3 2 1 (x1 + (1 : Int32))) fun c4 =>
        some ((1 : Int32), c4)
      else
        some ((0 : Int32), c)

def X4_takeYield (c : Mm) : Option (Int32 × Mm) :=
  m_bnd (m_st c 2 2 (c 20 0)) fun c1 =>
  m_cal (X9_isWithin (c1 20 0) (1 : Int32) (9 : Int32) c1) fun r2 c3 =>
  m_gb r2 <|
  some (r2, c3)

def X4_takeHeld (c : Mm) : Option (Int32 × Mm) :=
  m_bnd (m_st c 2 3 (c 20 0)) fun c1 =>
  m_cal (X9_isWithin (c1 20 0) (1 : Int32) (30 : Int32) c1) fun r2 c3 =>
  m_gb r2 <|
  some (r2, c3)

def X4_takeLine (c : Mm) : Option (Int32 × Mm) :=
  m_bnd (m_st c 2 4 (c 20 0)) fun c1 =>
  m_bnd (m_st c1 2 5 (c1 20 1)) fun c2 =>
  m_cal (X9_isWithin (c2 20 0) (1 : Int32) (5 : Int32) c2) fun r3 c4 =>
  if r3 = (0 : Int32) then
    some ((0 : Int32), c4)
  else
    m_cal (X9_isWithin (c4 20 1) (1 : Int32) (9 : Int32) c4) fun r5 c6 =>
    if r5 = (0 : Int32) then
      some ((0 : Int32), c6)
    else
      some ((1 : Int32), c6)

def X4_takeItem (v1 : Int32) (c : Mm) : Option (Int32 × Mm) :=
  if v1 = (98 : Int32) then
    m_cal (X4_takeBoat c) fun r1 c2 =>
    m_gb r1 <|
    some (r1, c2)
  else
  if v1 = (104 : Int32) then
    m_cal (X4_takeHeld c) fun r3 c4 =>
    m_gb r3 <|
    some (r3, c4)
  else
  if v1 = (108 : Int32) then
    m_cal (X4_takeLine c) fun r5 c6 =>
    m_gb r5 <|
    some (r5, c6)
  else
  if v1 = (110 : Int32) then
    m_cal (X4_takeNarrow c) fun r7 c8 =>
    m_gb r7 <|
    some (r7, c8)
  else
  if v1 = (121 : Int32) then
    m_cal (X4_takeYield c) fun r9 c10 =>
    m_gb r9 <|
    some (r9, c10)
  else
    some ((0 : Int32), c)

def X4_readItem_j69 (v2 : Int32) (v4 : Int32) (c : Mm) : Option (Int32 × Mm) :=
  m_cal (X4_takeItem v2 c) fun r1 c2 =>
  if r1 = (0 : Int32) then
    some ((-4 : Int32), c2)
  else
    some (v4, c2)
def X4_readItem_j48 (rc22 : Int32 → Int32 → Mm → Option (Int32 × Mm)) (v2 : Int32) (v3 : Int32) (v5 : Int32) (s1 : Int32) (s2 : Int32) (s3 : Int32) (c : Mm) : Option (Int32 × Mm) :=
  m_cal (X4_readNumber s1 s2 s3 c) fun r3 c4 =>
  if r3 = (-4 : Int32) then
    some ((-4 : Int32), c4)
  else
    m_bnd (v5 + (1 : Int32)) fun x5 =>
    rc22 r3 x5 c4
def X4_readItem_b22 (v2 : Int32) (v3 : Int32) (rc22 : Int32 → Int32 → Mm → Option (Int32 × Mm)) (v4 : Int32) (v5 : Int32) (c : Mm) : Option (Int32 × Mm) :=
  if v3 ≤ v5 then
    X4_readItem_j69 v2 v4 c
  else
    if v3 ≤ (v5 + (1 : Int32)) then
      X4_readItem_j48 rc22 v2 v3 v5 v4 v5 (59 : Int32) c
    else
      X4_readItem_j48 rc22 v2 v3 v5 v4 v5 (44 : Int32) c
def X4_readItem (v1 : Int32) (c : Mm) : Option (Int32 × Mm) :=
  m_cal (X8_letterAt v1 c) fun r6 c7 =>
  m_cal (X4_numbersOf r6 c7) fun r8 c9 =>
  m_bnd (v1 + (1 : Int32)) fun x10 =>
  m_lp2 (X4_readItem_b22 r6 r8) 1000 x10 (0 : Int32) c9

def X4_firstFault_b11 (rc11 : Int32 → Int32 → Mm → Option (Int32 × Mm)) (v1 : Int32) (v2 : Int32) (c : Mm) : Option (Int32 × Mm) :=
  if (200 : Int32) ≤ v2 then
    some ((-4 : Int32), c)
  else
    if (c 1 1) ≤ v1 then
      some ((-4 : Int32), c)
    else
      m_cal (X4_readItem v1 c) fun r1 c2 =>
      if r1 = (-4 : Int32) then
        some (v1, c2)
      else
        m_bnd (v2 + (1 : Int32)) fun x3 =>
        rc11 r1 x3 c2
def X4_firstFault (c : Mm) : Option (Int32 × Mm) :=
  m_cav (X1_clear c) fun c4 =>
  m_lp2 (X4_firstFault_b11) 1000 (0 : Int32) (0 : Int32) c4

def X1_copy (c : Mm) : Option (Mm) :=
  m_bnd (m_st c 4 0 (c 2 0)) fun c1 =>
  m_bnd (m_st c1 4 1 (c1 2 1)) fun c2 =>
  m_bnd (m_st c2 4 2 (c2 2 2)) fun c3 =>
  m_bnd (m_st c3 4 3 (c3 2 3)) fun c4 =>
  m_bnd (m_st c4 4 4 (c4 2 4)) fun c5 =>
  m_bnd (m_st c5 4 5 (c5 2 5)) fun c6 =>
  m_gc (0 : Int32) (0 : Int32) (6 : Int32) 6 6 <|
  m_bnd (m_cp c6 13 (m_ix (0 : Int32)) 21 (m_ix (0 : Int32)) (m_ix (6 : Int32))) fun c7 =>
  m_gc (0 : Int32) (0 : Int32) (6 : Int32) 6 6 <|
  m_bnd (m_cp c7 14 (m_ix (0 : Int32)) 22 (m_ix (0 : Int32)) (m_ix (6 : Int32))) fun c8 =>
  m_gc (0 : Int32) (0 : Int32) (6 : Int32) 6 6 <|
  m_bnd (m_cp c8 15 (m_ix (0 : Int32)) 23 (m_ix (0 : Int32)) (m_ix (6 : Int32))) fun c9 =>
  m_gc (0 : Int32) (0 : Int32) (6 : Int32) 6 6 <|
  m_bnd (m_cp c9 16 (m_ix (0 : Int32)) 24 (m_ix (0 : Int32)) (m_ix (6 : Int32))) fun c10 =>
  m_gc (0 : Int32) (0 : Int32) (6 : Int32) 6 6 <|
  m_bnd (m_cp c10 17 (m_ix (0 : Int32)) 25 (m_ix (0 : Int32)) (m_ix (6 : Int32))) fun c11 =>
  m_gc (0 : Int32) (0 : Int32) (3 : Int32) 3 3 <|
  m_bnd (m_cp c11 18 (m_ix (0 : Int32)) 26 (m_ix (0 : Int32)) (m_ix (3 : Int32))) fun c12 =>
  m_gc (0 : Int32) (0 : Int32) (3 : Int32) 3 3 <|
  m_bnd (m_cp c12 19 (m_ix (0 : Int32)) 27 (m_ix (0 : Int32)) (m_ix (3 : Int32))) fun c13 =>
  some c13

def X3_begin_b2 (rc2 : Int32 → Mm → Option (Mm)) (v2 : Int32) (c : Mm) : Option (Mm) :=
  if (6 : Int32) ≤ v2 then
    some c
  else
    m_gi v2 6 <|
    m_gi v2 6 <|
    m_bnd (m_st c 28 (m_ix v2) (c 24 (m_ix v2))) fun c1 =>
    m_gi v2 6 <|
    m_bnd (m_st c1 29 (m_ix v2) (0 : Int32)) fun c2 =>
    m_bnd (v2 + (1 : Int32)) fun x3 =>
    rc2 x3 c2
def X3_begin (c : Mm) : Option (Mm) :=
  m_lp1 (X3_begin_b2) 1000 (0 : Int32) c

def X6_empty (c : Mm) : Option (Int32 × Mm) :=
  m_bnd (c 10 2) fun x1 =>
  m_bnd (m_st c 10 2 (0 : Int32)) fun c2 =>
  some (x1, c2)

def X9_layText (c : Mm) : Option (Int32 × Mm) :=
  m_cal (X4_firstFault c) fun r1 c2 =>
  if r1 = (-4 : Int32) then
    if (c2 2 0) = (0 : Int32) then
      some ((0 : Int32), c2)
    else
      m_cav (X1_copy c2) fun c3 =>
      m_cav (X3_begin c3) fun c4 =>
      m_bnd (m_st c4 9 3 (0 : Int32)) fun c5 =>
      m_cal (X6_empty c5) fun r6 c7 =>
      m_bnd (m_st c7 11 2 (0 : Int32)) fun c8 =>
      some ((1 : Int32), c8)
  else
    some ((0 : Int32), c2)

def X8_empty (c : Mm) : Option (Int32 × Mm) :=
  m_bnd (c 1 1) fun x1 =>
  m_bnd (m_st c 1 1 (0 : Int32)) fun c2 =>
  some (x1, c2)

def X9_write (v1 : Int32) (c : Mm) : Option (Int32 × Mm) :=
  m_cal (X9_isWithin v1 (32 : Int32) (126 : Int32) c) fun r1 c2 =>
  if r1 = (0 : Int32) then
    some ((-1 : Int32), c2)
  else
    m_cal (X8_add v1 c2) fun r3 c4 =>
    if r3 = (0 : Int32) then
      some ((-3 : Int32), c4)
    else
      some (c4 1 1, c4)

def X9_wipe (c : Mm) : Option (Int32 × Mm) :=
  m_cal (X8_empty c) fun r1 c2 =>
  some (r1, c2)

def X9_fault (c : Mm) : Option (Int32 × Mm) :=
  m_cal (X4_firstFault c) fun r1 c2 =>
  some (r1, c2)

def X9_lay (c : Mm) : Option (Int32 × Mm) :=
  m_cal (X9_layText c) fun r1 c2 =>
  if r1 = (0 : Int32) then
    some ((-2 : Int32), c2)
  else
    some (c2 4 0, c2)

def X9_isBoat (v1 : Int32) (c : Mm) : Option (Int32 × Mm) :=
  m_cal (X9_isWithin v1 (0 : Int32) ((c 4 0) - (1 : Int32)) c) fun r1 c2 =>
  m_gb r1 <|
  some (r1, c2)

def X9_boat (v1 : Int32) (v2 : Int32) (c : Mm) : Option (Int32 × Mm) :=
  m_cal (X9_isBoat v1 c) fun r1 c2 =>
  if r1 = (0 : Int32) then
    some ((-1 : Int32), c2)
  else
    if v2 = (0 : Int32) then
      m_gi v1 6 <|
      some (c2 21 (m_ix v1), c2)
    else
    if v2 = (1 : Int32) then
      m_gi v1 6 <|
      some (c2 22 (m_ix v1), c2)
    else
    if v2 = (2 : Int32) then
      m_gi v1 6 <|
      some (c2 23 (m_ix v1), c2)
    else
    if v2 = (3 : Int32) then
      m_gi v1 6 <|
      some (c2 28 (m_ix v1), c2)
    else
    if v2 = (4 : Int32) then
      m_gi v1 6 <|
      some (c2 25 (m_ix v1), c2)
    else
    if v2 = (5 : Int32) then
      m_gi v1 6 <|
      some (c2 29 (m_ix v1), c2)
    else
      some ((-1 : Int32), c2)

def X9_isRule (v0 : Int32) (c : Mm) : Option (Int32 × Mm) :=
  m_cal (X9_isWithin v0 (0 : Int32) (3 : Int32) c) fun r1 c2 =>
  m_gb r1 <|
  some (r1, c2)

def X2_isAtEnd_j24 (s0 : Int32) (s1 : Int32) (c : Mm) : Option (Int32 × Mm) :=
  if s0 = s1 then
    some ((1 : Int32), c)
  else
    some ((0 : Int32), c)
def X2_isAtEnd (v1 : Int32) (c : Mm) : Option (Int32 × Mm) :=
  m_gi v1 6 <|
  m_gi v1 6 <|
  if (c 22 (m_ix v1)) = (0 : Int32) then
    X2_isAtEnd_j24 (c 33 (m_ix v1)) (60 : Int32) c
  else
    X2_isAtEnd_j24 (c 33 (m_ix v1)) (0 : Int32) c

def X2_arrive_j49 (rc2 : Int32 → Mm → Option (Mm)) (v1 : Int32) (v2 : Int32) (c : Mm) : Option (Mm) :=
  m_bnd (v2 + (1 : Int32)) fun x1 =>
  rc2 x1 c
def X2_arrive_b2 (v1 : Int32) (rc2 : Int32 → Mm → Option (Mm)) (v2 : Int32) (c : Mm) : Option (Mm) :=
  if (c 4 0) ≤ v2 then
    some c
  else
    m_gi v2 6 <|
    if (c 35 (m_ix v2)) = (-4 : Int32) then
      m_cal (X2_isAtEnd v2 c) fun r2 c3 =>
      if r2 = (0 : Int32) then
        X2_arrive_j49 rc2 v1 v2 c3
      else
        m_gi v2 6 <|
        m_bnd (m_st c3 35 (m_ix v2) v1) fun c4 =>
        m_bnd (m_st c4 8 10 ((c4 8 10) - (1 : Int32))) fun c5 =>
        X2_arrive_j49 rc2 v1 v2 c5
    else
      X2_arrive_j49 rc2 v1 v2 c
def X2_arrive (v1 : Int32) (c : Mm) : Option (Mm) :=
  m_lp1 (X2_arrive_b2 v1) 1000 (0 : Int32) c

def X2_begin_j108 (pk : Nat) (c : Mm) : Option (Mm) :=
  m_cav (X2_arrive (0 : Int32) c) fun c1 =>
  some c1
def X2_begin_j101 (pk : Nat) (rc23 : Int32 → Mm → Option (Mm)) (v2 : Int32) (s1 : Int32) (s2 : Int32) (c : Mm) : Option (Mm) :=
  m_gi s1 6 <|
  m_bnd (m_st c 38 (m_ix s1) s2) fun c2 =>
  m_bnd (v2 + (1 : Int32)) fun x3 =>
  rc23 x3 c2
def X2_begin_b23 (pk : Nat) (rc23 : Int32 → Mm → Option (Mm)) (v2 : Int32) (c : Mm) : Option (Mm) :=
  if (c 4 0) ≤ v2 then
    X2_begin_j108 pk c
  else
    m_gi v2 6 <|
    m_gi v2 6 <|
    m_bnd (m_st c 33 (m_ix v2) (c 21 (m_ix v2))) fun c4 =>
    m_gi v2 6 <|
    m_gi v2 6 <|
    m_bnd (m_st c4 34 (m_ix v2) (c4 (m_pD pk) (m_ix v2))) fun c5 =>
    m_gi v2 6 <|
    m_bnd (m_st c5 35 (m_ix v2) (-4 : Int32)) fun c6 =>
    m_gi v2 6 <|
    m_bnd (m_st c6 36 (m_ix v2) (0 : Int32)) fun c7 =>
    m_gi v2 6 <|
    m_bnd (m_st c7 37 (m_ix v2) (0 : Int32)) fun c8 =>
    m_cal (X2_isAtEnd v2 c8) fun r9 c10 =>
    if r9 = (0 : Int32) then
      X2_begin_j101 pk rc23 v2 v2 (1 : Int32) c10
    else
      X2_begin_j101 pk rc23 v2 v2 (0 : Int32) c10
def X2_begin (pk : Nat) (c : Mm) : Option (Mm) :=
  m_bnd (m_st c 8 11 (0 : Int32)) fun c11 =>
  m_bnd (m_st c11 8 9 (0 : Int32)) fun c12 =>
  m_bnd (m_st c12 8 10 (c12 4 0)) fun c13 =>
  m_lp1 (X2_begin_b23 pk) 1000 (0 : Int32) c13

def X2_goOn_j129 (rc2 : Int32 → Mm → Option (Mm)) (v1 : Int32) (c : Mm) : Option (Mm) :=
  m_bnd (v1 + (1 : Int32)) fun x1 =>
  rc2 x1 c
def X2_goOn_b2 (rc2 : Int32 → Mm → Option (Mm)) (v1 : Int32) (c : Mm) : Option (Mm) :=
  if (c 4 0) ≤ v1 then
    some c
  else
    m_gi v1 6 <|
    m_gi v1 6 <|
    m_bnd (m_st c 32 (m_ix v1) (c 33 (m_ix v1))) fun c2 =>
    m_gi v1 6 <|
    if (c2 35 (m_ix v1)) = (-4 : Int32) then
      m_gi v1 6 <|
      if (c2 34 (m_ix v1)) ≤ (0 : Int32) then
        m_gi v1 6 <|
        if (c2 22 (m_ix v1)) = (0 : Int32) then
          m_gi v1 6 <|
          m_gi v1 6 <|
          m_gi v1 6 <|
          m_bnd (m_st c2 33 (m_ix v1) (if (60 : Int32) < ((c2 33 (m_ix v1)) + (c2 23 (m_ix v1))) then (60 : Int32) else ((c2 33 (m_ix v1)) + (c2 23 (m_ix v1))))) fun c4 =>
          X2_goOn_j129 rc2 v1 c4
        else
          m_gi v1 6 <|
          m_gi v1 6 <|
          m_gi v1 6 <|
          m_bnd (m_st c2 33 (m_ix v1) (if ((c2 33 (m_ix v1)) - (c2 23 (m_ix v1))) < (0 : Int32) then (0 : Int32) else ((c2 33 (m_ix v1)) - (c2 23 (m_ix v1))))) fun c3 =>
          X2_goOn_j129 rc2 v1 c3
      else
        m_gi v1 6 <|
        m_gi v1 6 <|
        m_bnd (m_st c2 34 (m_ix v1) ((c2 34 (m_ix v1)) - (1 : Int32))) fun c5 =>
        X2_goOn_j129 rc2 v1 c5
    else
      X2_goOn_j129 rc2 v1 c2
def X2_goOn (c : Mm) : Option (Mm) :=
  m_lp1 (X2_goOn_b2) 1000 (0 : Int32) c

def X2_doMeet_j59 (v3 : Int32) (s0 : Int32) (c : Mm) : Option (Int32 × Mm) :=
  m_gi v3 6 <|
  m_gi s0 6 <|
  if (c 32 (m_ix s0)) ≤ (c 32 (m_ix v3)) then
    some ((0 : Int32), c)
  else
    m_gi v3 6 <|
    m_gi s0 6 <|
    if (c 33 (m_ix v3)) < (c 33 (m_ix s0)) then
      some ((0 : Int32), c)
    else
      some ((1 : Int32), c)
def X2_doMeet_j41 (v1 : Int32) (v2 : Int32) (s0 : Int32) (c : Mm) : Option (Int32 × Mm) :=
  m_gi v1 6 <|
  if (c 22 (m_ix v1)) = (0 : Int32) then
    X2_doMeet_j59 s0 v2 c
  else
    X2_doMeet_j59 s0 v1 c
def X2_doMeet (v1 : Int32) (v2 : Int32) (c : Mm) : Option (Int32 × Mm) :=
  m_gi v1 6 <|
  if (c 35 (m_ix v1)) = (-4 : Int32) then
    m_gi v2 6 <|
    if (c 35 (m_ix v2)) = (-4 : Int32) then
      m_gi v1 6 <|
      if (c 22 (m_ix v1)) = (0 : Int32) then
        X2_doMeet_j41 v1 v2 v1 c
      else
        X2_doMeet_j41 v1 v2 v2 c
    else
      some ((0 : Int32), c)
  else
    some ((0 : Int32), c)

def X5_weight (pk : Nat) (v2 : Int32) (v3 : Int32) (c : Mm) : Option (Int32 × Mm) :=
  if v2 = (1 : Int32) then
    m_gi v3 6 <|
    some (c (m_pL pk) (m_ix v3), c)
  else
  if v2 = (2 : Int32) then
    m_gi v3 6 <|
    some (c 23 (m_ix v3), c)
  else
  if v2 = (3 : Int32) then
    m_gi v3 6 <|
    m_gi v3 6 <|
    some (((c 4 2) + (c (m_pL pk) (m_ix v3))) * ((c (m_pL pk) (m_ix v3)) + (1 : Int32)), c)
  else
    some ((0 : Int32), c)

def X5_byCustom_j86 (pk : Nat) (v2 : Int32) (v3 : Int32) (v5 : Int32) (s0 : Int32) (s1 : Int32) (c : Mm) : Option (Int32 × Mm) :=
  if s0 = s1 then
    m_gi v2 6 <|
    if (c 22 (m_ix v2)) = (1 : Int32) then
      some (v2, c)
    else
      some (v3, c)
  else
    if v5 = (0 : Int32) then
      some (v3, c)
    else
      some (v2, c)
def X5_byCustom_j68 (pk : Nat) (v2 : Int32) (v3 : Int32) (s0 : Int32) (c : Mm) : Option (Int32 × Mm) :=
  m_gi v3 6 <|
  if (c (m_pL pk) (m_ix v3)) = (0 : Int32) then
    X5_byCustom_j86 pk v2 v3 s0 s0 (1 : Int32) c
  else
    X5_byCustom_j86 pk v2 v3 s0 s0 (0 : Int32) c
def X5_byCustom_j40 (pk : Nat) (v2 : Int32) (v3 : Int32) (v4 : Int32) (s0 : Int32) (s1 : Int32) (c : Mm) : Option (Int32 × Mm) :=
  if s0 = s1 then
    m_gi v2 6 <|
    if (c (m_pL pk) (m_ix v2)) = (0 : Int32) then
      X5_byCustom_j68 pk v2 v3 (1 : Int32) c
    else
      X5_byCustom_j68 pk v2 v3 (0 : Int32) c
  else
    if v4 = (0 : Int32) then
      some (v2, c)
    else
      some (v3, c)
def X5_byCustom_j18 (pk : Nat) (v2 : Int32) (v3 : Int32) (s0 : Int32) (c : Mm) : Option (Int32 × Mm) :=
  m_gi v3 6 <|
  if (c 25 (m_ix v3)) = (1 : Int32) then
    X5_byCustom_j40 pk v2 v3 s0 s0 (1 : Int32) c
  else
    X5_byCustom_j40 pk v2 v3 s0 s0 (0 : Int32) c
def X5_byCustom (pk : Nat) (v2 : Int32) (v3 : Int32) (c : Mm) : Option (Int32 × Mm) :=
  m_gi v2 6 <|
  if (c 25 (m_ix v2)) = (1 : Int32) then
    X5_byCustom_j18 pk v2 v3 (1 : Int32) c
  else
    X5_byCustom_j18 pk v2 v3 (0 : Int32) c

def X5_yielder_j117 (pk : Nat) (v2 : Int32) (v3 : Int32) (v4 : Int32) (v7 : Int32) (s0 : Int32) (s1 : Int32) (c : Mm) : Option (Int32 × Mm) :=
  if s0 = s1 then
    m_cal (X5_weight pk v2 v3 c) fun r1 c2 =>
    m_cal (X5_weight pk v2 v4 c2) fun r3 c4 =>
    if r1 = r3 then
      m_cal (X5_byCustom pk v3 v4 c4) fun r5 c6 =>
      some (r5, c6)
    else
      if r3 ≤ r1 then
        some (v4, c4)
      else
        some (v3, c4)
  else
    if v7 = (0 : Int32) then
      some (v4, c)
    else
      some (v3, c)
def X5_yielder_j94 (pk : Nat) (v2 : Int32) (v3 : Int32) (v4 : Int32) (s0 : Int32) (c : Mm) : Option (Int32 × Mm) :=
  m_gi v4 6 <|
  if (c 25 (m_ix v4)) = (3 : Int32) then
    X5_yielder_j117 pk v2 v3 v4 s0 s0 (1 : Int32) c
  else
    X5_yielder_j117 pk v2 v3 v4 s0 s0 (0 : Int32) c
def X5_yielder_j64 (pk : Nat) (v3 : Int32) (v4 : Int32) (v5 : Int32) (c : Mm) : Option (Int32 × Mm) :=
  if v5 = (0 : Int32) then
    some (v3, c)
  else
    some (v4, c)
def X5_yielder_j54 (pk : Nat) (v2 : Int32) (v3 : Int32) (v4 : Int32) (v5 : Int32) (v6 : Int32) (c : Mm) : Option (Int32 × Mm) :=
  if v5 = (0 : Int32) then
    if v6 = (0 : Int32) then
      m_gi v3 6 <|
      if (c 25 (m_ix v3)) = (3 : Int32) then
        X5_yielder_j94 pk v2 v3 v4 (1 : Int32) c
      else
        X5_yielder_j94 pk v2 v3 v4 (0 : Int32) c
    else
      X5_yielder_j64 pk v3 v4 v5 c
  else
    X5_yielder_j64 pk v3 v4 v5 c
def X5_yielder_j39 (pk : Nat) (v2 : Int32) (v3 : Int32) (v4 : Int32) (v5 : Int32) (s0 : Int32) (c : Mm) : Option (Int32 × Mm) :=
  if v5 = (0 : Int32) then
    X5_yielder_j54 pk v2 v3 v4 v5 s0 c
  else
    if s0 = (0 : Int32) then
      X5_yielder_j54 pk v2 v3 v4 v5 s0 c
    else
      some ((-4 : Int32), c)
def X5_yielder_j18 (pk : Nat) (v2 : Int32) (v3 : Int32) (v4 : Int32) (s0 : Int32) (c : Mm) : Option (Int32 × Mm) :=
  m_gi v4 6 <|
  if (c 25 (m_ix v4)) = (2 : Int32) then
    X5_yielder_j39 pk v2 v3 v4 s0 (1 : Int32) c
  else
    X5_yielder_j39 pk v2 v3 v4 s0 (0 : Int32) c
def X5_yielder (pk : Nat) (v2 : Int32) (v3 : Int32) (v4 : Int32) (c : Mm) : Option (Int32 × Mm) :=
  m_gi v3 6 <|
  if (c 25 (m_ix v3)) = (2 : Int32) then
    X5_yielder_j18 pk v2 v3 v4 (1 : Int32) c
  else
    X5_yielder_j18 pk v2 v3 v4 (0 : Int32) c

def X1_isNarrow_b2 (v1 : Int32) (rc2 : Int32 → Mm → Option (Int32 × Mm)) (v2 : Int32) (c : Mm) : Option (Int32 × Mm) :=
  if (c 4 1) ≤ v2 then
    some ((0 : Int32), c)
  else
    m_gi v2 3 <|
    m_gi v2 3 <|
    m_cal (X9_isWithin v1 (c 26 (m_ix v2)) (c 27 (m_ix v2)) c) fun r1 c2 =>
    if r1 = (0 : Int32) then
      m_bnd (v2 + (1 : Int32)) fun x3 =>
      rc2 x3 c2
    else
      some ((1 : Int32), c2)
def X1_isNarrow (v1 : Int32) (c : Mm) : Option (Int32 × Mm) :=
  m_lp1 (X1_isNarrow_b2 v1) 1000 (0 : Int32) c

def X2_makeStand_j32 (v1 : Int32) (v2 : Int32) (c : Mm) : Option (Mm) :=
  m_gi v1 6 <|
  m_gi v1 6 <|
  m_bnd (m_st c 34 (m_ix v1) ((c 34 (m_ix v1)) + v2)) fun c1 =>
  m_gi v1 6 <|
  m_gi v1 6 <|
  m_bnd (m_st c1 36 (m_ix v1) ((c1 36 (m_ix v1)) + v2)) fun c2 =>
  m_bnd (m_st c2 8 9 ((c2 8 9) + v2)) fun c3 =>
  some c3
def X2_makeStand (v1 : Int32) (v2 : Int32) (c : Mm) : Option (Mm) :=
  if (0 : Int32) < v2 then
    m_gi v1 6 <|
    if (c 34 (m_ix v1)) = (0 : Int32) then
      m_cal (X2_isAtEnd v1 c) fun r4 c5 =>
      if r4 = (0 : Int32) then
        m_gi v1 6 <|
        m_gi v1 6 <|
        m_bnd (m_st c5 38 (m_ix v1) ((c5 38 (m_ix v1)) + (1 : Int32))) fun c6 =>
        X2_makeStand_j32 v1 v2 c6
      else
        X2_makeStand_j32 v1 v2 c5
    else
      X2_makeStand_j32 v1 v2 c
  else
    some c

def X2_noteMeeting (v1 : Int32) (v2 : Int32) (v3 : Int32) (v4 : Int32) (c : Mm) : Option (Mm) :=
  if (c 8 11) < (15 : Int32) then
    m_gi (c 8 11) 15 <|
    m_bnd (m_st c 39 (m_ix (c 8 11)) v1) fun c1 =>
    m_gi (c1 8 11) 15 <|
    m_bnd (m_st c1 40 (m_ix (c1 8 11)) v2) fun c2 =>
    m_gi (c2 8 11) 15 <|
    m_bnd (m_st c2 41 (m_ix (c2 8 11)) v3) fun c3 =>
    m_gi (c3 8 11) 15 <|
    m_bnd (m_st c3 42 (m_ix (c3 8 11)) v4) fun c4 =>
    m_bnd (m_st c4 8 11 ((c4 8 11) + (1 : Int32))) fun c5 =>
    some c5
  else
    some c

def X2_meet_j205 (pk : Nat) (s1 : Int32) (s2 : Int32) (s3 : Int32) (s5 : Int32) (c : Mm) : Option (Mm) :=
  m_gi s5 6 <|
  m_cav (X2_noteMeeting s1 s2 s3 (c 33 (m_ix s5)) c) fun c1 =>
  some c1
def X2_meet_j169 (pk : Nat) (v3 : Int32) (v4 : Int32) (v5 : Int32) (v6 : Int32) (c : Mm) : Option (Mm) :=
  m_gi v4 6 <|
  if (c 22 (m_ix v4)) = (0 : Int32) then
    X2_meet_j205 pk v3 (((8 : Int32) * v4) + v5) v6 v4 c
  else
    X2_meet_j205 pk v3 (((8 : Int32) * v4) + v5) v6 v5 c
def X2_meet_j153 (pk : Nat) (v3 : Int32) (v4 : Int32) (v5 : Int32) (v6 : Int32) (v7 : Int32) (s1 : Int32) (c : Mm) : Option (Mm) :=
  m_cav (X2_makeStand s1 v7 c) fun c2 =>
  m_gi v6 6 <|
  m_gi v6 6 <|
  m_bnd (m_st c2 37 (m_ix v6) ((c2 37 (m_ix v6)) + (1 : Int32))) fun c3 =>
  X2_meet_j169 pk v3 v4 v5 v6 c3
def X2_meet_j112 (pk : Nat) (v3 : Int32) (v4 : Int32) (v5 : Int32) (v6 : Int32) (s0 : Int32) (c : Mm) : Option (Mm) :=
  m_gi v6 6 <|
  m_cav (X2_makeStand v6 (((c 4 2) + (c (m_pL pk) (m_ix v6))) + s0) c) fun c4 =>
  if v6 = v4 then
    X2_meet_j153 pk v3 v4 v5 v6 s0 v5 c4
  else
    X2_meet_j153 pk v3 v4 v5 v6 s0 v4 c4
def X2_meet_j68 (pk : Nat) (v3 : Int32) (v4 : Int32) (v5 : Int32) (v6 : Int32) (s0 : Int32) (s1 : Int32) (c : Mm) : Option (Mm) :=
  m_bnd (s0 + s1) fun x5 =>
  m_cav (X2_makeStand v4 x5 c) fun c6 =>
  m_cav (X2_makeStand v5 x5 c6) fun c7 =>
  X2_meet_j169 pk v3 v4 v5 v6 c7
def X2_meet_j63 (pk : Nat) (v3 : Int32) (v4 : Int32) (v5 : Int32) (v6 : Int32) (s0 : Int32) (c : Mm) : Option (Mm) :=
  X2_meet_j68 pk v3 v4 v5 v6 s0 (3 : Int32) c
def X2_meet (pk : Nat) (v2 : Int32) (v3 : Int32) (v4 : Int32) (v5 : Int32) (c : Mm) : Option (Mm) :=
  m_cal (X5_yielder pk v2 v4 v5 c) fun r8 c9 =>
  if r8 = (-4 : Int32) then
    m_gi v4 6 <|
    m_cal (X1_isNarrow (c9 33 (m_ix v4)) c9) fun r12 c13 =>
    if r12 = (0 : Int32) then
      m_gi v5 6 <|
      m_cal (X1_isNarrow (c13 33 (m_ix v5)) c13) fun r14 c15 =>
      if r14 = (0 : Int32) then
        X2_meet_j68 pk v3 v4 v5 r8 (c9 4 3) (0 : Int32) c15
      else
        X2_meet_j63 pk v3 v4 v5 r8 (c9 4 3) c15
    else
      X2_meet_j63 pk v3 v4 v5 r8 (c9 4 3) c13
  else
    m_gi r8 6 <|
    m_cal (X1_isNarrow (c9 33 (m_ix r8)) c9) fun r10 c11 =>
    if r10 = (0 : Int32) then
      X2_meet_j112 pk v3 v4 v5 r8 (0 : Int32) c11
    else
      X2_meet_j112 pk v3 v4 v5 r8 (3 : Int32) c11

def X2_meetAll_j84 (pk : Nat) (rc3 : Int32 → Mm → Option (Mm)) (v2 : Int32) (v3 : Int32) (v4 : Int32) (c : Mm) : Option (Mm) :=
  m_bnd (v4 + (1 : Int32)) fun x1 =>
  rc3 x1 c
def X2_meetAll_j78 (pk : Nat) (rc3 : Int32 → Mm → Option (Mm)) (rc21 : Int32 → Mm → Option (Mm)) (v2 : Int32) (v3 : Int32) (v4 : Int32) (v5 : Int32) (c : Mm) : Option (Mm) :=
  m_bnd (v5 + (1 : Int32)) fun x2 =>
  rc21 x2 c
def X2_meetAll_b21 (pk : Nat) (rc3 : Int32 → Mm → Option (Mm)) (v2 : Int32) (v3 : Int32) (v4 : Int32) (rc21 : Int32 → Mm → Option (Mm)) (v5 : Int32) (c : Mm) : Option (Mm) :=
  if (c 4 0) ≤ v5 then
    X2_meetAll_j84 pk rc3 v2 v3 v4 c
  else
    m_gi v4 6 <|
    m_gi v5 6 <|
    if (c 22 (m_ix v4)) = (c 22 (m_ix v5)) then
      X2_meetAll_j78 pk rc3 rc21 v2 v3 v4 v5 c
    else
      m_cal (X2_doMeet v4 v5 c) fun r3 c4 =>
      if r3 = (0 : Int32) then
        X2_meetAll_j78 pk rc3 rc21 v2 v3 v4 v5 c4
      else
        m_cav (X2_meet pk v2 v3 v4 v5 c4) fun c5 =>
        X2_meetAll_j78 pk rc3 rc21 v2 v3 v4 v5 c5
def X2_meetAll_b3 (pk : Nat) (v2 : Int32) (v3 : Int32) (rc3 : Int32 → Mm → Option (Mm)) (v4 : Int32) (c : Mm) : Option (Mm) :=
  if (c 4 0) ≤ v4 then
    some c
  else
    m_bnd (v4 + (1 : Int32)) fun x6 =>
    m_lp1 (X2_meetAll_b21 pk rc3 v2 v3 v4) 1000 x6 c
def X2_meetAll (pk : Nat) (v2 : Int32) (v3 : Int32) (c : Mm) : Option (Mm) :=
  m_lp1 (X2_meetAll_b3 pk v2 v3) 1000 (0 : Int32) c

def X2_run_j45 (pk : Nat) (c : Mm) : Option (Int32 × Mm) :=
  some (c 8 9, c)
def X2_run_b8 (pk : Nat) (v2 : Int32) (v3 : Int32) (rc8 : Int32 → Mm → Option (Int32 × Mm)) (v4 : Int32) (c : Mm) : Option (Int32 × Mm) :=
  if v3 < v4 then
    X2_run_j45 pk c
  else
    if (c 8 10) ≤ (0 : Int32) then
      X2_run_j45 pk c
    else
      m_cav (X2_goOn c) fun c1 =>
      m_cav (X2_meetAll pk v2 v4 c1) fun c2 =>
      m_cav (X2_arrive v4 c2) fun c3 =>
      m_bnd (v4 + (1 : Int32)) fun x4 =>
      rc8 x4 c3
def X2_run (pk : Nat) (v2 : Int32) (v3 : Int32) (c : Mm) : Option (Int32 × Mm) :=
  m_cav (X2_begin pk c) fun c5 =>
  m_lp1 (X2_run_b8 pk v2 v3) 1000 (1 : Int32) c5

def X9_where (v1 : Int32) (v2 : Int32) (v3 : Int32) (c : Mm) : Option (Int32 × Mm) :=
  m_cal (X9_isRule v1 c) fun r1 c2 =>
  if r1 = (0 : Int32) then
    some ((-1 : Int32), c2)
  else
    m_cal (X9_isBoat v2 c2) fun r3 c4 =>
    if r3 = (0 : Int32) then
      some ((-1 : Int32), c4)
    else
      m_cal (X9_isWithin v3 (0 : Int32) (120 : Int32) c4) fun r5 c6 =>
      if r5 = (0 : Int32) then
        some ((-1 : Int32), c6)
      else
        m_cal (X2_run 5 v1 v3 c6) fun r7 c8 =>
        m_gi v2 6 <|
        some (c8 33 (m_ix v2), c8)

def X9_there (v1 : Int32) (v2 : Int32) (c : Mm) : Option (Int32 × Mm) :=
  m_cal (X9_isRule v1 c) fun r1 c2 =>
  if r1 = (0 : Int32) then
    some ((-1 : Int32), c2)
  else
    m_cal (X9_isBoat v2 c2) fun r3 c4 =>
    if r3 = (0 : Int32) then
      some ((-1 : Int32), c4)
    else
      m_cal (X2_run 5 v1 (120 : Int32) c4) fun r5 c6 =>
      m_gi v2 6 <|
      some (c6 35 (m_ix v2), c6)

def X9_stands_j22 (v1 : Int32) (v2 : Int32) (c : Mm) : Option (Int32 × Mm) :=
  m_cal (X2_run 5 v1 (120 : Int32) c) fun r1 c2 =>
  if v2 = (-1 : Int32) then
    some (r1, c2)
  else
    m_gi v2 6 <|
    some (c2 36 (m_ix v2), c2)
def X9_stands (v1 : Int32) (v2 : Int32) (c : Mm) : Option (Int32 × Mm) :=
  m_cal (X9_isRule v1 c) fun r3 c4 =>
  if r3 = (0 : Int32) then
    some ((-1 : Int32), c4)
  else
    if v2 = (-1 : Int32) then
      X9_stands_j22 v1 v2 c4
    else
      m_cal (X9_isBoat v2 c4) fun r5 c6 =>
      if r5 = (0 : Int32) then
        some ((-1 : Int32), c6)
      else
        X9_stands_j22 v1 v2 c6

def X9_yields (v1 : Int32) (v2 : Int32) (c : Mm) : Option (Int32 × Mm) :=
  m_cal (X9_isRule v1 c) fun r1 c2 =>
  if r1 = (0 : Int32) then
    some ((-1 : Int32), c2)
  else
    m_cal (X9_isBoat v2 c2) fun r3 c4 =>
    if r3 = (0 : Int32) then
      some ((-1 : Int32), c4)
    else
      m_cal (X2_run 5 v1 (120 : Int32) c4) fun r5 c6 =>
      m_gi v2 6 <|
      some (c6 37 (m_ix v2), c6)

def X9_meetings (v1 : Int32) (c : Mm) : Option (Int32 × Mm) :=
  m_cal (X9_isRule v1 c) fun r1 c2 =>
  if r1 = (0 : Int32) then
    some ((-1 : Int32), c2)
  else
    m_cal (X2_run 5 v1 (120 : Int32) c2) fun r3 c4 =>
    some (c4 8 11, c4)

def X9_meeting (v1 : Int32) (v2 : Int32) (v3 : Int32) (c : Mm) : Option (Int32 × Mm) :=
  m_cal (X9_isRule v1 c) fun r1 c2 =>
  if r1 = (0 : Int32) then
    some ((-1 : Int32), c2)
  else
    m_cal (X2_run 5 v1 (120 : Int32) c2) fun r3 c4 =>
    m_cal (X9_isWithin v2 (0 : Int32) ((c4 8 11) - (1 : Int32)) c4) fun r5 c6 =>
    if r5 = (0 : Int32) then
      some ((-1 : Int32), c6)
    else
      if v3 = (0 : Int32) then
        m_gi v2 15 <|
        some (c6 39 (m_ix v2), c6)
      else
      if v3 = (1 : Int32) then
        m_gi v2 15 <|
        some (c6 40 (m_ix v2), c6)
      else
      if v3 = (2 : Int32) then
        m_gi v2 15 <|
        some (c6 41 (m_ix v2), c6)
      else
      if v3 = (3 : Int32) then
        m_gi v2 15 <|
        some (c6 42 (m_ix v2), c6)
      else
        some ((-1 : Int32), c6)

def X0_dropOldest_j56 (c : Mm) : Option (Mm) :=
  m_bnd (m_st c 9 3 (7 : Int32)) fun c1 =>
  some c1
def X0_dropOldest_b2 (rc2 : Int32 → Mm → Option (Mm)) (v1 : Int32) (c : Mm) : Option (Mm) :=
  if (8 : Int32) ≤ v1 then
    X0_dropOldest_j56 c
  else
    m_gi v1 8 <|
    m_gi (v1 - (1 : Int32)) 8 <|
    m_bnd (m_st c 43 (m_ix (v1 - (1 : Int32))) (c 43 (m_ix v1))) fun c2 =>
    m_gi v1 8 <|
    m_gi (v1 - (1 : Int32)) 8 <|
    m_bnd (m_st c2 44 (m_ix (v1 - (1 : Int32))) (vp_nar .boolean (c2 44 (m_ix v1)))) fun c3 =>
    m_gi v1 8 <|
    m_gi (v1 - (1 : Int32)) 8 <|
    m_bnd (m_st c3 45 (m_ix (v1 - (1 : Int32))) (c3 45 (m_ix v1))) fun c4 =>
    m_bnd (v1 + (1 : Int32)) fun x5 =>
    rc2 x5 c4
def X0_dropOldest (c : Mm) : Option (Mm) :=
  m_lp1 (X0_dropOldest_b2) 1000 (1 : Int32) c

def X0_note_j13 (v1 : Int32) (v2 : Int32) (v3 : Int32) (c : Mm) : Option (Mm) :=
  m_gi (c 9 3) 8 <|
  m_bnd (m_st c 43 (m_ix (c 9 3)) v1) fun c1 =>
  m_gi (c1 9 3) 8 <|
  m_bnd (m_st c1 44 (m_ix (c1 9 3)) (vp_nar .boolean v2)) fun c2 =>
  m_gi (c2 9 3) 8 <|
  m_bnd (m_st c2 45 (m_ix (c2 9 3)) v3) fun c3 =>
  m_bnd (m_st c3 9 3 ((c3 9 3) + (1 : Int32))) fun c4 =>
  some c4
def X0_note (v1 : Int32) (v2 : Int32) (v3 : Int32) (c : Mm) : Option (Mm) :=
  if (c 9 3) < (8 : Int32) then
    X0_note_j13 v1 v2 v3 c
  else
    m_cav (X0_dropOldest c) fun c5 =>
    X0_note_j13 v1 v2 v3 c5

def X9_load (v1 : Int32) (v2 : Int32) (c : Mm) : Option (Int32 × Mm) :=
  m_cal (X9_isBoat v1 c) fun r1 c2 =>
  if r1 = (0 : Int32) then
    some ((-1 : Int32), c2)
  else
    m_cal (X9_isWithin v2 (0 : Int32) (9 : Int32) c2) fun r3 c4 =>
    if r3 = (0 : Int32) then
      some ((-1 : Int32), c4)
    else
      m_gi v1 6 <|
      m_bnd (c4 28 (m_ix v1)) fun x5 =>
      m_cav (X0_note v1 (1 : Int32) x5 c4) fun c6 =>
      m_gi v1 6 <|
      m_bnd (m_st c6 28 (m_ix v1) v2) fun c7 =>
      some (x5, c7)

def X9_later (v1 : Int32) (v2 : Int32) (c : Mm) : Option (Int32 × Mm) :=
  m_cal (X9_isBoat v1 c) fun r1 c2 =>
  if r1 = (0 : Int32) then
    some ((-1 : Int32), c2)
  else
    m_cal (X9_isWithin v2 (0 : Int32) (30 : Int32) c2) fun r3 c4 =>
    if r3 = (0 : Int32) then
      some ((-1 : Int32), c4)
    else
      m_gi v1 6 <|
      m_bnd (c4 29 (m_ix v1)) fun x5 =>
      m_cav (X0_note v1 (0 : Int32) x5 c4) fun c6 =>
      m_gi v1 6 <|
      m_bnd (m_st c6 29 (m_ix v1) v2) fun c7 =>
      some (x5, c7)

def X0_takeBack (c : Mm) : Option (Int32 × Mm) :=
  if (0 : Int32) < (c 9 3) then
    m_bnd (m_st c 9 3 ((c 9 3) - (1 : Int32))) fun c1 =>
    m_gi (c1 9 3) 8 <|
    if (c1 44 (m_ix (c1 9 3))) = (0 : Int32) then
      m_gi (c1 9 3) 8 <|
      m_gi (c1 9 3) 8 <|
      m_gi (c1 43 (m_ix (c1 9 3))) 6 <|
      m_bnd (m_st c1 29 (m_ix (c1 43 (m_ix (c1 9 3)))) (c1 45 (m_ix (c1 9 3)))) fun c2 =>
      some ((1 : Int32), c2)
    else
      m_gi (c1 9 3) 8 <|
      m_gi (c1 9 3) 8 <|
      m_gi (c1 43 (m_ix (c1 9 3))) 6 <|
      m_bnd (m_st c1 28 (m_ix (c1 43 (m_ix (c1 9 3)))) (c1 45 (m_ix (c1 9 3)))) fun c3 =>
      some ((1 : Int32), c3)
  else
    some ((0 : Int32), c)

def X9_undo (c : Mm) : Option (Int32 × Mm) :=
  m_cal (X0_takeBack c) fun r1 c2 =>
  if r1 = (0 : Int32) then
    some ((-2 : Int32), c2)
  else
    some (c2 9 3, c2)

def X9_areTwo (v1 : Int32) (v2 : Int32) (c : Mm) : Option (Int32 × Mm) :=
  m_cal (X9_isBoat v1 c) fun r1 c2 =>
  if r1 = (0 : Int32) then
    some ((0 : Int32), c2)
  else
    m_cal (X9_isBoat v2 c2) fun r3 c4 =>
    if r3 = (0 : Int32) then
      some ((0 : Int32), c4)
    else
      if v1 = v2 then
        some ((0 : Int32), c4)
      else
        some ((1 : Int32), c4)

def X9_who (v1 : Int32) (v2 : Int32) (v3 : Int32) (c : Mm) : Option (Int32 × Mm) :=
  m_cal (X9_isRule v1 c) fun r1 c2 =>
  if r1 = (0 : Int32) then
    some ((-1 : Int32), c2)
  else
    m_cal (X9_areTwo v2 v3 c2) fun r3 c4 =>
    if r3 = (0 : Int32) then
      some ((-1 : Int32), c4)
    else
      m_gi v2 6 <|
      m_gi v3 6 <|
      if (c4 22 (m_ix v2)) = (c4 22 (m_ix v3)) then
        some ((-2 : Int32), c4)
      else
        m_cal (X5_yielder 5 v1 v2 v3 c4) fun r5 c6 =>
        some (r5, c6)

def X9_leastRule_j51 (rc19 : Int32 → Int32 → Int32 → Mm → Option (Int32 × Mm)) (v1 : Int32) (v2 : Int32) (v3 : Int32) (c : Mm) : Option (Int32 × Mm) :=
  m_bnd (v3 + (1 : Int32)) fun x1 =>
  rc19 v1 v2 x1 c
def X9_leastRule_b19 (rc19 : Int32 → Int32 → Int32 → Mm → Option (Int32 × Mm)) (v1 : Int32) (v2 : Int32) (v3 : Int32) (c : Mm) : Option (Int32 × Mm) :=
  if (4 : Int32) ≤ v3 then
    some (v1, c)
  else
    m_cal (X2_run 5 v3 (120 : Int32) c) fun r2 c3 =>
    if v2 ≤ r2 then
      X9_leastRule_j51 rc19 v1 v2 v3 c3
    else
      X9_leastRule_j51 rc19 v3 r2 v3 c3
def X9_leastRule (c : Mm) : Option (Int32 × Mm) :=
  m_cal (X2_run 5 (0 : Int32) (120 : Int32) c) fun r4 c5 =>
  m_lp3 (X9_leastRule_b19) 1000 (0 : Int32) r4 (1 : Int32) c5

def X9_best (v1 : Int32) (c : Mm) : Option (Int32 × Mm) :=
  m_cal (X9_isWithin v1 (0 : Int32) (1 : Int32) c) fun r1 c2 =>
  if r1 = (0 : Int32) then
    some ((-1 : Int32), c2)
  else
    m_cal (X9_leastRule c2) fun r3 c4 =>
    if v1 = (0 : Int32) then
      some (r3, c4)
    else
      m_cal (X2_run 5 r3 (120 : Int32) c4) fun r5 c6 =>
      some (r5, c6)

def X9_custom (c : Mm) : Option (Int32 × Mm) :=
  m_cal (X9_leastRule c) fun r1 c2 =>
  m_cal (X2_run 5 r1 (120 : Int32) c2) fun r3 c4 =>
  m_cal (X2_run 5 (0 : Int32) (120 : Int32) c4) fun r5 c6 =>
  some (r5 - r3, c6)

def X3_copy (c : Mm) : Option (Mm) :=
  m_gc (0 : Int32) (0 : Int32) (6 : Int32) 6 6 <|
  m_bnd (m_cp c 28 (m_ix (0 : Int32)) 30 (m_ix (0 : Int32)) (m_ix (6 : Int32))) fun c1 =>
  m_gc (0 : Int32) (0 : Int32) (6 : Int32) 6 6 <|
  m_bnd (m_cp c1 29 (m_ix (0 : Int32)) 31 (m_ix (0 : Int32)) (m_ix (6 : Int32))) fun c2 =>
  some c2

def X9_send_j124 (v3 : Int32) (v4 : Int32) (v5 : Int32) (c : Mm) : Option (Int32 × Mm) :=
  if v3 = (0 : Int32) then
    some (v4, c)
  else
    some (v5, c)
def X9_send_j118 (rc69 : Int32 → Int32 → Int32 → Mm → Option (Int32 × Mm)) (v1 : Int32) (v2 : Int32) (v3 : Int32) (v4 : Int32) (v5 : Int32) (v6 : Int32) (c : Mm) : Option (Int32 × Mm) :=
  m_bnd (v6 + (1 : Int32)) fun x1 =>
  rc69 v4 v5 x1 c
def X9_send_b69 (v1 : Int32) (v2 : Int32) (v3 : Int32) (rc69 : Int32 → Int32 → Int32 → Mm → Option (Int32 × Mm)) (v4 : Int32) (v5 : Int32) (v6 : Int32) (c : Mm) : Option (Int32 × Mm) :=
  if (30 : Int32) < v6 then
    X9_send_j124 v3 v4 v5 c
  else
    m_gi v2 6 <|
    m_bnd (m_st c 31 (m_ix v2) v6) fun c2 =>
    m_cal (X2_run 6 v1 (120 : Int32) c2) fun r3 c4 =>
    if v5 ≤ r3 then
      X9_send_j118 rc69 v1 v2 v3 v4 v5 v6 c4
    else
      X9_send_j118 rc69 v1 v2 v3 v6 r3 v6 c4
def X9_send (v1 : Int32) (v2 : Int32) (v3 : Int32) (c : Mm) : Option (Int32 × Mm) :=
  m_cal (X9_isRule v1 c) fun r5 c6 =>
  if r5 = (0 : Int32) then
    some ((-1 : Int32), c6)
  else
    m_cal (X9_isBoat v2 c6) fun r7 c8 =>
    if r7 = (0 : Int32) then
      some ((-1 : Int32), c8)
    else
      m_cal (X9_isWithin v3 (0 : Int32) (1 : Int32) c8) fun r9 c10 =>
      if r9 = (0 : Int32) then
        some ((-1 : Int32), c10)
      else
        m_cav (X3_copy c10) fun c11 =>
        m_gi v2 6 <|
        m_bnd (m_st c11 31 (m_ix v2) (0 : Int32)) fun c12 =>
        m_cal (X2_run 6 v1 (120 : Int32) c12) fun r13 c14 =>
        m_lp3 (X9_send_b69 v1 v2 v3) 1000 (0 : Int32) r13 (1 : Int32) c14

def X9_standExchanged (v1 : Int32) (v2 : Int32) (v3 : Int32) (c : Mm) : Option (Int32 × Mm) :=
  m_cav (X3_copy c) fun c1 =>
  m_gi v3 6 <|
  m_gi v2 6 <|
  m_bnd (m_st c1 30 (m_ix v2) (c1 28 (m_ix v3))) fun c2 =>
  m_gi v2 6 <|
  m_gi v3 6 <|
  m_bnd (m_st c2 30 (m_ix v3) (c2 28 (m_ix v2))) fun c3 =>
  m_cal (X2_run 6 v1 (120 : Int32) c3) fun r4 c5 =>
  some (r4, c5)

def X9_swap_j123 (v4 : Int32) (c : Mm) : Option (Int32 × Mm) :=
  some (v4, c)
def X9_swap_j112 (v2 : Int32) (v3 : Int32) (v4 : Int32) (c : Mm) : Option (Int32 × Mm) :=
  if v2 = (0 : Int32) then
    X9_swap_j123 v4 c
  else
    if v4 = (-4 : Int32) then
      X9_swap_j123 v4 c
    else
      some (v3, c)
def X9_swap_j106 (rc40 : Int32 → Int32 → Int32 → Mm → Option (Int32 × Mm)) (v1 : Int32) (v2 : Int32) (v3 : Int32) (v4 : Int32) (v5 : Int32) (c : Mm) : Option (Int32 × Mm) :=
  m_bnd (v5 + (1 : Int32)) fun x1 =>
  rc40 v3 v4 x1 c
def X9_swap_j100 (rc40 : Int32 → Int32 → Int32 → Mm → Option (Int32 × Mm)) (rc58 : Int32 → Int32 → Int32 → Mm → Option (Int32 × Mm)) (v1 : Int32) (v2 : Int32) (v3 : Int32) (v4 : Int32) (v5 : Int32) (v6 : Int32) (c : Mm) : Option (Int32 × Mm) :=
  m_bnd (v6 + (1 : Int32)) fun x2 =>
  rc58 v3 v4 x2 c
def X9_swap_b58 (rc40 : Int32 → Int32 → Int32 → Mm → Option (Int32 × Mm)) (v1 : Int32) (v2 : Int32) (v5 : Int32) (rc58 : Int32 → Int32 → Int32 → Mm → Option (Int32 × Mm)) (v3 : Int32) (v4 : Int32) (v6 : Int32) (c : Mm) : Option (Int32 × Mm) :=
  if (c 4 0) ≤ v6 then
    X9_swap_j106 rc40 v1 v2 v3 v4 v5 c
  else
    m_cal (X9_standExchanged v1 v5 v6 c) fun r3 c4 =>
    if v3 ≤ r3 then
      X9_swap_j100 rc40 rc58 v1 v2 v3 v4 v5 v6 c4
    else
      m_bnd (((8 : Int32) * v5) + v6) fun x5 =>
      X9_swap_j100 rc40 rc58 v1 v2 r3 x5 v5 v6 c4
def X9_swap_b40 (v1 : Int32) (v2 : Int32) (rc40 : Int32 → Int32 → Int32 → Mm → Option (Int32 × Mm)) (v3 : Int32) (v4 : Int32) (v5 : Int32) (c : Mm) : Option (Int32 × Mm) :=
  if (c 4 0) ≤ v5 then
    X9_swap_j112 v2 v3 v4 c
  else
    m_bnd (v5 + (1 : Int32)) fun x6 =>
    m_lp3 (X9_swap_b58 rc40 v1 v2 v5) 1000 v3 v4 x6 c
def X9_swap (v1 : Int32) (v2 : Int32) (c : Mm) : Option (Int32 × Mm) :=
  m_cal (X9_isRule v1 c) fun r7 c8 =>
  if r7 = (0 : Int32) then
    some ((-1 : Int32), c8)
  else
    m_cal (X9_isWithin v2 (0 : Int32) (1 : Int32) c8) fun r9 c10 =>
    if r9 = (0 : Int32) then
      some ((-1 : Int32), c10)
    else
      m_cal (X2_run 5 v1 (120 : Int32) c10) fun r11 c12 =>
      m_lp3 (X9_swap_b40 v1 v2) 1000 r11 (-4 : Int32) (0 : Int32) c12

def X9_minutesToSink (v1 : Int32) (c : Mm) : Option (Int32 × Mm) :=
  m_gi v1 6 <|
  m_bnd ((c 28 (m_ix v1)) + (1 : Int32)) fun x1 =>
  m_bnd (if (c 4 4) < (1 : Int32) then (1 : Int32) else (c 4 4)) fun x2 =>
  m_gz (x2) <|
  some (((x1 + x2) - (1 : Int32)) / x2, c)

def X9_fall (v1 : Int32) (v2 : Int32) (v3 : Int32) (c : Mm) : Option (Int32 × Mm) :=
  m_cal (X9_areTwo v1 v2 c) fun r1 c2 =>
  if r1 = (0 : Int32) then
    some ((-1 : Int32), c2)
  else
    m_cal (X9_isWithin v3 (0 : Int32) (1 : Int32) c2) fun r3 c4 =>
    if r3 = (0 : Int32) then
      some ((-1 : Int32), c4)
    else
      m_cal (X9_minutesToSink v2 c4) fun r5 c6 =>
      if r5 ≤ (c6 4 5) then
        if v3 = (0 : Int32) then
          some (r5, c6)
        else
          some (c6 4 5, c6)
      else
        some ((-4 : Int32), c6)

def X9_power_b4 (v0 : Int32) (v1 : Int32) (rc4 : Int32 → Int32 → Mm → Option (Int32 × Mm)) (v2 : Int32) (v3 : Int32) (c : Mm) : Option (Int32 × Mm) :=
  if v1 ≤ v3 then
    some (v2, c)
  else
    m_bnd (v2 * v0) fun x1 =>
    m_bnd (v3 + (1 : Int32)) fun x2 =>
    rc4 x1 x2 c
def X9_power (v0 : Int32) (v1 : Int32) (c : Mm) : Option (Int32 × Mm) :=
  m_lp2 (X9_power_b4 v0 v1) 1000 (1 : Int32) (0 : Int32) c

def X9_waysToSinkLess_b8 (v0 : Int32) (v1 : Int32) (v2 : Int32) (rc8 : Int32 → Int32 → Int32 → Mm → Option (Int32 × Mm)) (v3 : Int32) (v4 : Int32) (v5 : Int32) (c : Mm) : Option (Int32 × Mm) :=
  if v1 < v5 then
    some (v3, c)
  else
    if v0 ≤ v5 then
      some (v3, c)
    else
      m_cal (X9_power v2 v5 c) fun r1 c2 =>
      m_cal (X9_power ((10 : Int32) - v2) (v1 - v5) c2) fun r3 c4 =>
      m_bnd (v3 + ((v4 * r1) * r3)) fun x5 =>
      m_gz (v5 + (1 : Int32)) <|
      m_bnd ((v4 * (v1 - v5)) / (v5 + (1 : Int32))) fun x6 =>
      m_bnd (v5 + (1 : Int32)) fun x7 =>
      rc8 x5 x6 x7 c4
def X9_waysToSinkLess (v0 : Int32) (v1 : Int32) (v2 : Int32) (c : Mm) : Option (Int32 × Mm) :=
  m_lp3 (X9_waysToSinkLess_b8 v0 v1 v2) 1000 (0 : Int32) (1 : Int32) (0 : Int32) c

def X9_commonDivisor_b15 (rc15 : Int32 → Int32 → Int32 → Mm → Option (Int32 × Mm)) (v2 : Int32) (v3 : Int32) (v4 : Int32) (c : Mm) : Option (Int32 × Mm) :=
  if (64 : Int32) ≤ v4 then
    some (v2, c)
  else
    if v3 ≤ (0 : Int32) then
      some (v2, c)
    else
      m_gz (v3) <|
      m_bnd (v2 - v2 / v3 * v3) fun x1 =>
      m_bnd (v4 + (1 : Int32)) fun x2 =>
      rc15 v3 x1 x2 c
def X9_commonDivisor (v0 : Int32) (v1 : Int32) (c : Mm) : Option (Int32 × Mm) :=
  m_bnd (if v0 < v1 then v1 else v0) fun x3 =>
  m_bnd (if v1 < v0 then v1 else v0) fun x4 =>
  m_lp3 (X9_commonDivisor_b15) 1000 x3 x4 (0 : Int32) c

def X9_caught_j81 (v7 : Int32) (s0 : Int32) (c : Mm) : Option (Int32 × Mm) :=
  m_gz (if v7 < (1 : Int32) then (1 : Int32) else v7) <|
  some (s0 / (if v7 < (1 : Int32) then (1 : Int32) else v7), c)
def X9_caught (v1 : Int32) (v2 : Int32) (v3 : Int32) (v4 : Int32) (c : Mm) : Option (Int32 × Mm) :=
  m_cal (X9_isBoat v1 c) fun r1 c2 =>
  if r1 = (0 : Int32) then
    some ((-1 : Int32), c2)
  else
    m_cal (X9_isWithin v2 (0 : Int32) (6 : Int32) c2) fun r3 c4 =>
    if r3 = (0 : Int32) then
      some ((-1 : Int32), c4)
    else
      m_cal (X9_isWithin v3 (0 : Int32) (10 : Int32) c4) fun r5 c6 =>
      if r5 = (0 : Int32) then
        some ((-1 : Int32), c6)
      else
        m_cal (X9_isWithin v4 (0 : Int32) (1 : Int32) c6) fun r7 c8 =>
        if r7 = (0 : Int32) then
          some ((-1 : Int32), c8)
        else
          m_cal (X9_minutesToSink v1 c8) fun r9 c10 =>
          m_cal (X9_waysToSinkLess r9 v2 v3 c10) fun r11 c12 =>
          m_cal (X9_power (10 : Int32) v2 c12) fun r13 c14 =>
          m_cal (X9_commonDivisor r11 r13 c14) fun r15 c16 =>
          if v4 = (0 : Int32) then
            X9_caught_j81 r15 r11 c16
          else
            X9_caught_j81 r15 r13 c16

def X9_standChoosing (v1 : Int32) (v2 : Int32) (v3 : Int32) (c : Mm) : Option (Int32 × Mm) :=
  if v2 = (0 : Int32) then
    if v3 = (0 : Int32) then
      some (c 4 3, c)
    else
      some ((0 : Int32), c)
  else
    m_gi v1 6 <|
    some ((c 4 2) + (c 28 (m_ix v1)), c)

def X9_isRest_j82 (v4 : Int32) (s0 : Int32) (s2 : Int32) (s3 : Int32) (c : Mm) : Option (Int32 × Mm) :=
  m_cal (X9_standChoosing s2 s3 v4 c) fun r1 c2 =>
  if r1 < s0 then
    some ((0 : Int32), c2)
  else
    some ((1 : Int32), c2)
def X9_isRest_j53 (v2 : Int32) (v4 : Int32) (v5 : Int32) (s0 : Int32) (s2 : Int32) (s3 : Int32) (c : Mm) : Option (Int32 × Mm) :=
  m_cal (X9_standChoosing s2 s3 v5 c) fun r3 c4 =>
  if r3 < s0 then
    some ((0 : Int32), c4)
  else
    m_cal (X9_standChoosing v2 v5 v4 c4) fun r5 c6 =>
    if v5 = (0 : Int32) then
      X9_isRest_j82 v4 r5 v2 (1 : Int32) c6
    else
      X9_isRest_j82 v4 r5 v2 (0 : Int32) c6
def X9_isRest_j30 (v1 : Int32) (v2 : Int32) (v4 : Int32) (s0 : Int32) (c : Mm) : Option (Int32 × Mm) :=
  m_cal (X9_standChoosing v1 v4 s0 c) fun r7 c8 =>
  if v4 = (0 : Int32) then
    X9_isRest_j53 v2 v4 s0 r7 v1 (1 : Int32) c8
  else
    X9_isRest_j53 v2 v4 s0 r7 v1 (0 : Int32) c8
def X9_isRest_j25 (v1 : Int32) (v2 : Int32) (v4 : Int32) (c : Mm) : Option (Int32 × Mm) :=
  X9_isRest_j30 v1 v2 v4 (1 : Int32) c
def X9_isRest_j14 (v1 : Int32) (v2 : Int32) (v3 : Int32) (s0 : Int32) (c : Mm) : Option (Int32 × Mm) :=
  if v3 = (0 : Int32) then
    X9_isRest_j25 v1 v2 s0 c
  else
    if v3 = (2 : Int32) then
      X9_isRest_j25 v1 v2 s0 c
    else
      X9_isRest_j30 v1 v2 s0 (0 : Int32) c
def X9_isRest_j9 (v1 : Int32) (v2 : Int32) (v3 : Int32) (c : Mm) : Option (Int32 × Mm) :=
  X9_isRest_j14 v1 v2 v3 (1 : Int32) c
def X9_isRest (v1 : Int32) (v2 : Int32) (v3 : Int32) (c : Mm) : Option (Int32 × Mm) :=
  if v3 = (0 : Int32) then
    X9_isRest_j9 v1 v2 v3 c
  else
    if v3 = (1 : Int32) then
      X9_isRest_j9 v1 v2 v3 c
    else
      X9_isRest_j14 v1 v2 v3 (0 : Int32) c

def X9_rests_j72 (v3 : Int32) (v4 : Int32) (v5 : Int32) (c : Mm) : Option (Int32 × Mm) :=
  if v3 = (0 : Int32) then
    some (v4, c)
  else
    some (v5, c)
def X9_rests_j66 (rc30 : Int32 → Int32 → Int32 → Mm → Option (Int32 × Mm)) (v1 : Int32) (v2 : Int32) (v3 : Int32) (v4 : Int32) (v5 : Int32) (v6 : Int32) (c : Mm) : Option (Int32 × Mm) :=
  m_bnd (v6 + (1 : Int32)) fun x1 =>
  rc30 v4 v5 x1 c
def X9_rests_j64 (rc30 : Int32 → Int32 → Int32 → Mm → Option (Int32 × Mm)) (v1 : Int32) (v2 : Int32) (v3 : Int32) (v4 : Int32) (v6 : Int32) (s0 : Int32) (c : Mm) : Option (Int32 × Mm) :=
  X9_rests_j66 rc30 v1 v2 v3 v4 s0 v6 c
def X9_rests_b30 (v1 : Int32) (v2 : Int32) (v3 : Int32) (rc30 : Int32 → Int32 → Int32 → Mm → Option (Int32 × Mm)) (v4 : Int32) (v5 : Int32) (v6 : Int32) (c : Mm) : Option (Int32 × Mm) :=
  if (4 : Int32) ≤ v6 then
    X9_rests_j72 v3 v4 v5 c
  else
    m_cal (X9_isRest v1 v2 v6 c) fun r2 c3 =>
    if r2 = (0 : Int32) then
      X9_rests_j66 rc30 v1 v2 v3 v4 v5 v6 c3
    else
      m_bnd (v4 + (1 : Int32)) fun x4 =>
      if v5 = (-4 : Int32) then
        X9_rests_j64 rc30 v1 v2 v3 x4 v6 v6 c3
      else
        X9_rests_j64 rc30 v1 v2 v3 x4 v6 v5 c3
def X9_rests (v1 : Int32) (v2 : Int32) (v3 : Int32) (c : Mm) : Option (Int32 × Mm) :=
  m_cal (X9_areTwo v1 v2 c) fun r5 c6 =>
  if r5 = (0 : Int32) then
    some ((-1 : Int32), c6)
  else
    m_cal (X9_isWithin v3 (0 : Int32) (1 : Int32) c6) fun r7 c8 =>
    if r7 = (0 : Int32) then
      some ((-1 : Int32), c8)
    else
      m_lp3 (X9_rests_b30 v1 v2 v3) 1000 (0 : Int32) (-4 : Int32) (0 : Int32) c8

def X6_add (v1 : Int32) (v2 : Int32) (c : Mm) : Option (Int32 × Mm) :=
  if (c 10 2) < (8 : Int32) then
    m_gi (c 10 2) 8 <|
    m_bnd (m_st c 46 (m_ix (c 10 2)) v1) fun c1 =>
    m_gi (c1 10 2) 8 <|
    m_bnd (m_st c1 47 (m_ix (c1 10 2)) v2) fun c2 =>
    m_bnd (m_st c2 10 2 ((c2 10 2) + (1 : Int32))) fun c3 =>
    some ((1 : Int32), c3)
  else
    some ((0 : Int32), c)

def X9_seen (v1 : Int32) (v2 : Int32) (c : Mm) : Option (Int32 × Mm) :=
  m_cal (X9_areTwo v1 v2 c) fun r1 c2 =>
  if r1 = (0 : Int32) then
    some ((-1 : Int32), c2)
  else
    m_gi v1 6 <|
    m_gi v2 6 <|
    if (c2 22 (m_ix v1)) = (c2 22 (m_ix v2)) then
      some ((-2 : Int32), c2)
    else
      m_cal (X6_add v1 v2 c2) fun r3 c4 =>
      if r3 = (0 : Int32) then
        some ((-3 : Int32), c4)
      else
        some (c4 10 2, c4)

def X9_forget (c : Mm) : Option (Int32 × Mm) :=
  m_cal (X6_empty c) fun r1 c2 =>
  some (r1, c2)

def X9_fitsSightings_b2 (v1 : Int32) (rc2 : Int32 → Mm → Option (Int32 × Mm)) (v2 : Int32) (c : Mm) : Option (Int32 × Mm) :=
  if (c 10 2) ≤ v2 then
    some ((1 : Int32), c)
  else
    m_gi v2 8 <|
    m_bnd (c 46 (m_ix v2)) fun x1 =>
    m_gi v2 8 <|
    m_cal (X5_yielder 5 v1 x1 (c 47 (m_ix v2)) c) fun r2 c3 =>
    if r2 = x1 then
      m_bnd (v2 + (1 : Int32)) fun x4 =>
      rc2 x4 c3
    else
      some ((0 : Int32), c3)
def X9_fitsSightings (v1 : Int32) (c : Mm) : Option (Int32 × Mm) :=
  m_lp1 (X9_fitsSightings_b2 v1) 1000 (0 : Int32) c

def X9_fits_j23 (rc4 : Int32 → Int32 → Mm → Option (Int32 × Mm)) (v1 : Int32) (v2 : Int32) (c : Mm) : Option (Int32 × Mm) :=
  m_bnd (v2 + (1 : Int32)) fun x1 =>
  rc4 v1 x1 c
def X9_fits_b4 (rc4 : Int32 → Int32 → Mm → Option (Int32 × Mm)) (v1 : Int32) (v2 : Int32) (c : Mm) : Option (Int32 × Mm) :=
  if (4 : Int32) ≤ v2 then
    some (v1, c)
  else
    m_cal (X9_fitsSightings v2 c) fun r2 c3 =>
    if r2 = (0 : Int32) then
      X9_fits_j23 rc4 v1 v2 c3
    else
      m_bnd (v1 ||| ((1 : Int32) <<< (v2 &&& (31 : Int32)))) fun x4 =>
      X9_fits_j23 rc4 x4 v2 c3
def X9_fits (c : Mm) : Option (Int32 × Mm) :=
  m_lp2 (X9_fits_b4) 1000 (0 : Int32) (0 : Int32) c

def X9_starts (v1 : Int32) (v2 : Int32) (c : Mm) : Option (Int32 × Mm) :=
  m_cal (X9_isRule v1 c) fun r1 c2 =>
  if r1 = (0 : Int32) then
    some ((-1 : Int32), c2)
  else
    m_cal (X9_isBoat v2 c2) fun r3 c4 =>
    if r3 = (0 : Int32) then
      some ((-1 : Int32), c4)
    else
      m_cal (X2_run 5 v1 (120 : Int32) c4) fun r5 c6 =>
      m_gi v2 6 <|
      some (c6 38 (m_ix v2), c6)

def X9_bears_j72 (rc39 : Int32 → Int32 → Mm → Option (Int32 × Mm)) (v2 : Int32) (v3 : Int32) (v4 : Int32) (c : Mm) : Option (Int32 × Mm) :=
  m_bnd (v4 + (1 : Int32)) fun x1 =>
  rc39 v3 x1 c
def X9_bears_b39 (v2 : Int32) (rc39 : Int32 → Int32 → Mm → Option (Int32 × Mm)) (v3 : Int32) (v4 : Int32) (c : Mm) : Option (Int32 × Mm) :=
  if (c 4 0) ≤ v4 then
    some (v3, c)
  else
    m_gi v4 6 <|
    if v2 < (c 38 (m_ix v4)) then
      X9_bears_j72 rc39 v2 v3 v4 c
    else
      m_bnd (v3 ||| ((1 : Int32) <<< (v4 &&& (31 : Int32)))) fun x2 =>
      X9_bears_j72 rc39 v2 x2 v4 c
def X9_bears (v1 : Int32) (v2 : Int32) (c : Mm) : Option (Int32 × Mm) :=
  m_cal (X9_isRule v1 c) fun r3 c4 =>
  if r3 = (0 : Int32) then
    some ((-1 : Int32), c4)
  else
    m_cal (X9_isWithin v2 (0 : Int32) (9 : Int32) c4) fun r5 c6 =>
    if r5 = (0 : Int32) then
      some ((-1 : Int32), c6)
    else
      m_cal (X2_run 5 v1 (120 : Int32) c6) fun r7 c8 =>
      m_lp2 (X9_bears_b39 v2) 1000 (0 : Int32) (0 : Int32) c8

def X3_draw_b2 (v1 : Int32) (rc2 : Int32 → Mm → Option (Mm)) (v2 : Int32) (c : Mm) : Option (Mm) :=
  if (6 : Int32) ≤ v2 then
    some c
  else
    m_bnd ((((7919 : Int64) * (Int32.toInt64 v1)) + ((6151 : Int64) * (Int32.toInt64 v2))) + (1 : Int64)) fun x1 =>
    m_bnd (Int64.toInt32 ((x1 * x1) - (x1 * x1) / (65521 : Int64) * (65521 : Int64))) fun x2 =>
    m_gi v2 6 <|
    m_bnd (m_st c 31 (m_ix v2) (x2 - x2 / (31 : Int32) * (31 : Int32))) fun c3 =>
    m_gi v2 6 <|
    m_bnd (m_st c3 30 (m_ix v2) ((x2 / (64 : Int32)) - (x2 / (64 : Int32)) / (10 : Int32) * (10 : Int32))) fun c4 =>
    m_bnd (v2 + (1 : Int32)) fun x5 =>
    rc2 x5 c4
def X3_draw (v1 : Int32) (c : Mm) : Option (Mm) :=
  m_lp1 (X3_draw_b2 v1) 1000 (0 : Int32) c

def X9_day (v1 : Int32) (v2 : Int32) (v3 : Int32) (c : Mm) : Option (Int32 × Mm) :=
  m_cal (X9_isRule v1 c) fun r1 c2 =>
  if r1 = (0 : Int32) then
    some ((-1 : Int32), c2)
  else
    m_cal (X9_isWithin v2 (0 : Int32) (9999 : Int32) c2) fun r3 c4 =>
    if r3 = (0 : Int32) then
      some ((-1 : Int32), c4)
    else
      m_cal (X9_isWithin v3 (0 : Int32) (1 : Int32) c4) fun r5 c6 =>
      if r5 = (0 : Int32) then
        some ((-1 : Int32), c6)
      else
        m_cav (X3_draw v2 c6) fun c7 =>
        m_cal (X2_run 6 v1 (120 : Int32) c7) fun r8 c9 =>
        if v3 = (0 : Int32) then
          some (r8, c9)
        else
          some (c9 8 11, c9)

def X7_add (c : Mm) : Option (Int32 × Mm) :=
  if (c 11 2) < (2 : Int32) then
    m_gc (0 : Int32) ((c 11 2) * (6 : Int32)) (6 : Int32) 6 12 <|
    m_bnd (m_cp c 28 (m_ix (0 : Int32)) 48 (m_ix ((c 11 2) * (6 : Int32))) (m_ix (6 : Int32))) fun c1 =>
    m_gc (0 : Int32) ((c1 11 2) * (6 : Int32)) (6 : Int32) 6 12 <|
    m_bnd (m_cp c1 29 (m_ix (0 : Int32)) 49 (m_ix ((c1 11 2) * (6 : Int32))) (m_ix (6 : Int32))) fun c2 =>
    m_bnd (m_st c2 11 2 ((c2 11 2) + (1 : Int32))) fun c3 =>
    some ((1 : Int32), c3)
  else
    some ((0 : Int32), c)

def X9_keep (c : Mm) : Option (Int32 × Mm) :=
  m_cal (X7_add c) fun r1 c2 =>
  if r1 = (0 : Int32) then
    some ((-3 : Int32), c2)
  else
    some (c2 11 2, c2)

def X7_takeLast (c : Mm) : Option (Int32 × Mm) :=
  if (0 : Int32) < (c 11 2) then
    m_bnd (m_st c 11 2 ((c 11 2) - (1 : Int32))) fun c1 =>
    m_gc ((c1 11 2) * (6 : Int32)) (0 : Int32) (6 : Int32) 12 6 <|
    m_bnd (m_cp c1 48 (m_ix ((c1 11 2) * (6 : Int32))) 28 (m_ix (0 : Int32)) (m_ix (6 : Int32))) fun c2 =>
    m_gc ((c2 11 2) * (6 : Int32)) (0 : Int32) (6 : Int32) 12 6 <|
    m_bnd (m_cp c2 49 (m_ix ((c2 11 2) * (6 : Int32))) 29 (m_ix (0 : Int32)) (m_ix (6 : Int32))) fun c3 =>
    some ((1 : Int32), c3)
  else
    some ((0 : Int32), c)

def X9_back (c : Mm) : Option (Int32 × Mm) :=
  m_cal (X7_takeLast c) fun r1 c2 =>
  if r1 = (0 : Int32) then
    some ((-2 : Int32), c2)
  else
    m_bnd (m_st c2 9 3 (0 : Int32)) fun c3 =>
    some (c3 11 2, c3)

def X9_count (v1 : Int32) (c : Mm) : Option (Int32 × Mm) :=
  if v1 = (0 : Int32) then
    some (c 4 0, c)
  else
  if v1 = (1 : Int32) then
    some (c 4 1, c)
  else
  if v1 = (2 : Int32) then
    some (c 10 2, c)
  else
  if v1 = (3 : Int32) then
    some (c 9 3, c)
  else
  if v1 = (4 : Int32) then
    some (c 11 2, c)
  else
  if v1 = (5 : Int32) then
    some (c 1 1, c)
  else
    some ((-1 : Int32), c)
