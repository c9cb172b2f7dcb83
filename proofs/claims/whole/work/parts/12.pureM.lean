def X10_noCut (v1 : Int32) (c : Mm) : Option (Mm) :=
  m_gi v1 2 <|
  m_bnd (m_st c 2 (m_ix v1) (0 : Int32)) fun c1 =>
  m_gi v1 2 <|
  m_bnd (m_st c1 8 (m_ix v1) (0 : Int32)) fun c2 =>
  m_gi ((4 : Int32) * v1) 8 <|
  m_bnd (m_st c2 11 (m_ix ((4 : Int32) * v1)) (4 : Int32)) fun c3 =>
  m_gi (((4 : Int32) * v1) + (1 : Int32)) 8 <|
  m_bnd (m_st c3 11 (m_ix (((4 : Int32) * v1) + (1 : Int32))) (10 : Int32)) fun c4 =>
  m_gi (((4 : Int32) * v1) + (2 : Int32)) 8 <|
  m_bnd (m_st c4 11 (m_ix (((4 : Int32) * v1) + (2 : Int32))) (2 : Int32)) fun c5 =>
  m_gi (((4 : Int32) * v1) + (3 : Int32)) 8 <|
  m_bnd (m_st c5 11 (m_ix (((4 : Int32) * v1) + (3 : Int32))) (4 : Int32)) fun c6 =>
  some c6

def X10_addBoat (v1 : Int32) (v2 : Int32) (v3 : Int32) (v4 : Int32) (v5 : Int32) (v6 : Int32) (c : Mm) : Option (Mm) :=
  m_gi v1 2 <|
  m_bnd (((6 : Int32) * v1) + (c 2 (m_ix v1))) fun x1 =>
  m_gi x1 12 <|
  m_bnd (m_st c 3 (m_ix x1) v2) fun c2 =>
  m_gi x1 12 <|
  m_bnd (m_st c2 4 (m_ix x1) v3) fun c3 =>
  m_gi x1 12 <|
  m_bnd (m_st c3 5 (m_ix x1) v4) fun c4 =>
  m_gi x1 12 <|
  m_bnd (m_st c4 6 (m_ix x1) v5) fun c5 =>
  m_gi x1 12 <|
  m_bnd (m_st c5 7 (m_ix x1) v6) fun c6 =>
  m_gi v1 2 <|
  m_gi v1 2 <|
  m_bnd (m_st c6 2 (m_ix v1) ((c6 2 (m_ix v1)) + (1 : Int32))) fun c7 =>
  some c7

def X10_begin_j36 (c : Mm) : Option (Mm) :=
  m_bnd (m_st c 0 14 (0 : Int32)) fun c1 =>
  m_bnd (m_st c1 0 16 (0 : Int32)) fun c2 =>
  m_bnd (m_st c2 0 17 (0 : Int32)) fun c3 =>
  some c3
def X10_begin_b2 (rc2 : Int32 → Mm → Option (Mm)) (v1 : Int32) (c : Mm) : Option (Mm) :=
  if (6 : Int32) ≤ v1 then
    X10_begin_j36 c
  else
    m_gi v1 12 <|
    m_gi v1 12 <|
    m_bnd (m_st c 12 (m_ix v1) (c 6 (m_ix v1))) fun c4 =>
    m_gi ((6 : Int32) + v1) 12 <|
    m_bnd (m_st c4 12 (m_ix ((6 : Int32) + v1)) (0 : Int32)) fun c5 =>
    m_bnd (v1 + (1 : Int32)) fun x6 =>
    rc2 x6 c5
def X10_begin (c : Mm) : Option (Mm) :=
  m_lp1 (X10_begin_b2) 1000 (0 : Int32) c

def X10_in (v0 : Int64) (v2 : Int64) (v4 : Int64) (c : Mm) : Option (Int32 × Mm) :=
  if (lg_cmp v0 v2) < (0 : Int32) then
    some ((0 : Int32), c)
  else
    if (0 : Int32) < (lg_cmp v0 v4) then
      some ((0 : Int32), c)
    else
      some ((1 : Int32), c)

def X10_write (v1 : Int32) (c : Mm) : Option (Int32 × Mm) :=
  m_cal (X10_in (Int32.toInt64 v1) (32 : Int64) (126 : Int64) c) fun r1 c2 =>
  if r1 = (0 : Int32) then
    some ((-1 : Int32), c2)
  else
    if (c2 0 0) = (200 : Int32) then
      some ((-3 : Int32), c2)
    else
      m_gi (c2 0 0) 200 <|
      m_bnd (m_st c2 1 (m_ix (c2 0 0)) v1) fun c3 =>
      m_bnd (m_st c3 0 0 ((c3 0 0) + (1 : Int32))) fun c4 =>
      some (c4 0 0, c4)

def X10_wipe (c : Mm) : Option (Int32 × Mm) :=
  m_bnd (c 0 0) fun x1 =>
  m_bnd (m_st c 0 0 (0 : Int32)) fun c2 =>
  some (x1, c2)

def X10_letterAt (v1 : Int32) (c : Mm) : Option (Int32 × Mm) :=
  if (c 0 0) ≤ v1 then
    some ((0 : Int32), c)
  else
    m_gi v1 200 <|
    some (c 1 (m_ix v1), c)

def X10_figures_j107 (rc2 : Int32 → Mm → Option (Int32 × Mm)) (v1 : Int32) (v2 : Int32) (v4 : Int32) (s0 : Int32) (s1 : Int32) (c : Mm) : Option (Int32 × Mm) :=
  if s0 = s1 then
    m_gi v2 5 <|
    m_bnd (m_st c 17 (m_ix v2) v4) fun c1 =>
    m_bnd (m_st c1 0 20 ((c1 0 20) + (1 : Int32))) fun c2 =>
    m_bnd (v2 + (1 : Int32)) fun x3 =>
    rc2 x3 c2
  else
    some ((0 : Int32), c)
def X10_figures_j73 (rc2 : Int32 → Mm → Option (Int32 × Mm)) (v1 : Int32) (v2 : Int32) (v3 : Int32) (v4 : Int32) (c : Mm) : Option (Int32 × Mm) :=
  m_cal (X10_in (Int32.toInt64 v3) (1 : Int64) (2 : Int64) c) fun r4 c5 =>
  if r4 = (0 : Int32) then
    some ((0 : Int32), c5)
  else
    m_cal (X10_letterAt (c5 0 20) c5) fun r6 c7 =>
    if (v1 - (1 : Int32)) ≤ v2 then
      X10_figures_j107 rc2 v1 v2 v4 r6 (59 : Int32) c7
    else
      X10_figures_j107 rc2 v1 v2 v4 r6 (44 : Int32) c7
def X10_figures_b12 (rc2 : Int32 → Mm → Option (Int32 × Mm)) (v1 : Int32) (v2 : Int32) (rc12 : Int32 → Int32 → Mm → Option (Int32 × Mm)) (v3 : Int32) (v4 : Int32) (c : Mm) : Option (Int32 × Mm) :=
  m_cal (X10_letterAt (c 0 20) c) fun r8 c9 =>
  m_cal (X10_in (Int32.toInt64 r8) (48 : Int64) (57 : Int64) c9) fun r10 c11 =>
  if r10 = (0 : Int32) then
    X10_figures_j73 rc2 v1 v2 v3 v4 c11
  else
    if (3 : Int32) ≤ v3 then
      X10_figures_j73 rc2 v1 v2 v3 v4 c11
    else
      m_cal (X10_letterAt (c11 0 20) c11) fun r12 c13 =>
      m_bnd ((((10 : Int32) * v4) + r12) - (48 : Int32)) fun x14 =>
      m_bnd (v3 + (1 : Int32)) fun x15 =>
      m_bnd (m_st c13 0 20 ((c13 0 20) + (1 : Int32))) fun c16 =>
      rc12 x15 x14 c16
def X10_figures_b2 (v1 : Int32) (rc2 : Int32 → Mm → Option (Int32 × Mm)) (v2 : Int32) (c : Mm) : Option (Int32 × Mm) :=
  if v1 ≤ v2 then
    some ((1 : Int32), c)
  else
    m_lp2 (X10_figures_b12 rc2 v1 v2) 1000 (0 : Int32) (0 : Int32) c
def X10_figures (v1 : Int32) (c : Mm) : Option (Int32 × Mm) :=
  m_lp1 (X10_figures_b2 v1) 1000 (0 : Int32) c

def X10_boatItem_j83 (s0 : Int32) (c : Mm) : Option (Int32 × Mm) :=
  if s0 = (0 : Int32) then
    m_gb s0 <|
    some (s0, c)
  else
    m_cav (X10_addBoat (1 : Int32) (c 17 0) (c 17 1) (c 17 2) (c 17 3) (c 17 4) c) fun c1 =>
    m_gb s0 <|
    some (s0, c1)
def X10_boatItem_j82 (c : Mm) : Option (Int32 × Mm) :=
  X10_boatItem_j83 (0 : Int32) c
def X10_boatItem (c : Mm) : Option (Int32 × Mm) :=
  m_cal (X10_figures (5 : Int32) c) fun r2 c3 =>
  if r2 = (0 : Int32) then
    X10_boatItem_j82 c3
  else
    if (6 : Int32) ≤ (c3 2 1) then
      X10_boatItem_j82 c3
    else
      if (60 : Int32) < (c3 17 0) then
        X10_boatItem_j82 c3
      else
        if (1 : Int32) < (c3 17 1) then
          X10_boatItem_j82 c3
        else
          m_cal (X10_in (Int32.toInt64 (c3 17 2)) (1 : Int64) (3 : Int64) c3) fun r4 c5 =>
          if r4 = (0 : Int32) then
            X10_boatItem_j82 c5
          else
            if (9 : Int32) < (c5 17 3) then
              X10_boatItem_j82 c5
            else
              if (3 : Int32) < (c5 17 4) then
                X10_boatItem_j82 c5
              else
                X10_boatItem_j83 (1 : Int32) c5

def X10_narrowItem (c : Mm) : Option (Int32 × Mm) :=
  m_cal (X10_figures (2 : Int32) c) fun r1 c2 =>
  if r1 = (0 : Int32) then
    some ((0 : Int32), c2)
  else
    if (c2 8 1) = (3 : Int32) then
      some ((0 : Int32), c2)
    else
      if (60 : Int32) < (c2 17 1) then
        some ((0 : Int32), c2)
      else
        if (c2 17 0) ≤ (c2 17 1) then
          m_gi ((3 : Int32) + (c2 8 1)) 6 <|
          m_bnd (m_st c2 9 (m_ix ((3 : Int32) + (c2 8 1))) (c2 17 0)) fun c3 =>
          m_gi ((3 : Int32) + (c3 8 1)) 6 <|
          m_bnd (m_st c3 10 (m_ix ((3 : Int32) + (c3 8 1))) (c3 17 1)) fun c4 =>
          m_bnd (m_st c4 8 1 ((c4 8 1) + (1 : Int32))) fun c5 =>
          some ((1 : Int32), c5)
        else
          some ((0 : Int32), c2)

def X10_setLaw (v1 : Int32) (v2 : Int32) (v3 : Int32) (c : Mm) : Option (Int32 × Mm) :=
  m_gi ((4 : Int32) + v1) 8 <|
  m_bnd (m_st c 11 (m_ix ((4 : Int32) + v1)) v2) fun c1 =>
  m_cal (X10_in (Int32.toInt64 v2) (1 : Int64) (Int32.toInt64 v3) c1) fun r2 c3 =>
  m_gb r2 <|
  some (r2, c3)

def X10_item (c : Mm) : Option (Int32 × Mm) :=
  m_cal (X10_letterAt (c 0 20) c) fun r1 c2 =>
  m_bnd (m_st c2 0 20 ((c2 0 20) + (1 : Int32))) fun c3 =>
  if r1 = (98 : Int32) then
    m_cal (X10_boatItem c3) fun r4 c5 =>
    m_gb r4 <|
    some (r4, c5)
  else
  if r1 = (104 : Int32) then
    m_cal (X10_figures (1 : Int32) c3) fun r6 c7 =>
    if r6 = (0 : Int32) then
      some ((0 : Int32), c7)
    else
      m_cal (X10_setLaw (1 : Int32) (c7 17 0) (30 : Int32) c7) fun r8 c9 =>
      if r8 = (0 : Int32) then
        some ((0 : Int32), c9)
      else
        some ((1 : Int32), c9)
  else
  if r1 = (108 : Int32) then
    m_cal (X10_figures (2 : Int32) c3) fun r10 c11 =>
    if r10 = (0 : Int32) then
      some ((0 : Int32), c11)
    else
      m_cal (X10_setLaw (2 : Int32) (c11 17 0) (5 : Int32) c11) fun r12 c13 =>
      if r12 = (0 : Int32) then
        some ((0 : Int32), c13)
      else
        m_cal (X10_setLaw (3 : Int32) (c13 17 1) (9 : Int32) c13) fun r14 c15 =>
        if r14 = (0 : Int32) then
          some ((0 : Int32), c15)
        else
          some ((1 : Int32), c15)
  else
  if r1 = (110 : Int32) then
    m_cal (X10_narrowItem c3) fun r16 c17 =>
    m_gb r16 <|
    some (r16, c17)
  else
  if r1 = (121 : Int32) then
    m_cal (X10_figures (1 : Int32) c3) fun r18 c19 =>
    if r18 = (0 : Int32) then
      some ((0 : Int32), c19)
    else
      m_cal (X10_setLaw (0 : Int32) (c19 17 0) (9 : Int32) c19) fun r20 c21 =>
      if r20 = (0 : Int32) then
        some ((0 : Int32), c21)
      else
        some ((1 : Int32), c21)
  else
    some ((0 : Int32), c3)

def X10_readAll_b10 (rc10 : Mm → Option (Int32 × Mm)) (c : Mm) : Option (Int32 × Mm) :=
  if (c 0 0) ≤ (c 0 20) then
    some ((-4 : Int32), c)
  else
    m_bnd (c 0 20) fun x1 =>
    m_cal (X10_item c) fun r2 c3 =>
    if r2 = (0 : Int32) then
      some (x1, c3)
    else
      rc10 c3
def X10_readAll (c : Mm) : Option (Int32 × Mm) :=
  m_cav (X10_noCut (1 : Int32) c) fun c4 =>
  m_bnd (m_st c4 0 20 (0 : Int32)) fun c5 =>
  m_lp0 (X10_readAll_b10) 1000 c5

def X10_fault (c : Mm) : Option (Int32 × Mm) :=
  m_cal (X10_readAll c) fun r1 c2 =>
  some (r1, c2)

def X10_lay_j202 (c : Mm) : Option (Int32 × Mm) :=
  m_cav (X10_begin c) fun c1 =>
  some (c1 2 0, c1)
def X10_lay_b177 (rc177 : Int32 → Mm → Option (Int32 × Mm)) (v1 : Int32) (c : Mm) : Option (Int32 × Mm) :=
  if (4 : Int32) ≤ v1 then
    X10_lay_j202 c
  else
    m_gi ((4 : Int32) + v1) 8 <|
    m_gi v1 8 <|
    m_bnd (m_st c 11 (m_ix v1) (c 11 (m_ix ((4 : Int32) + v1)))) fun c2 =>
    m_bnd (v1 + (1 : Int32)) fun x3 =>
    rc177 x3 c2
def X10_lay_j175 (c : Mm) : Option (Int32 × Mm) :=
  m_lp1 (X10_lay_b177) 1000 (0 : Int32) c
def X10_lay_b136 (rc136 : Int32 → Mm → Option (Int32 × Mm)) (v1 : Int32) (c : Mm) : Option (Int32 × Mm) :=
  if (3 : Int32) ≤ v1 then
    X10_lay_j175 c
  else
    m_gi ((3 : Int32) + v1) 6 <|
    m_gi v1 6 <|
    m_bnd (m_st c 9 (m_ix v1) (c 9 (m_ix ((3 : Int32) + v1)))) fun c4 =>
    m_gi ((3 : Int32) + v1) 6 <|
    m_gi v1 6 <|
    m_bnd (m_st c4 10 (m_ix v1) (c4 10 (m_ix ((3 : Int32) + v1)))) fun c5 =>
    m_bnd (v1 + (1 : Int32)) fun x6 =>
    rc136 x6 c5
def X10_lay_j134 (c : Mm) : Option (Int32 × Mm) :=
  m_lp1 (X10_lay_b136) 1000 (0 : Int32) c
def X10_lay_b47 (rc47 : Int32 → Mm → Option (Int32 × Mm)) (v1 : Int32) (c : Mm) : Option (Int32 × Mm) :=
  if (6 : Int32) ≤ v1 then
    X10_lay_j134 c
  else
    m_gi ((6 : Int32) + v1) 12 <|
    m_gi v1 12 <|
    m_bnd (m_st c 3 (m_ix v1) (c 3 (m_ix ((6 : Int32) + v1)))) fun c7 =>
    m_gi ((6 : Int32) + v1) 12 <|
    m_gi v1 12 <|
    m_bnd (m_st c7 4 (m_ix v1) (c7 4 (m_ix ((6 : Int32) + v1)))) fun c8 =>
    m_gi ((6 : Int32) + v1) 12 <|
    m_gi v1 12 <|
    m_bnd (m_st c8 5 (m_ix v1) (c8 5 (m_ix ((6 : Int32) + v1)))) fun c9 =>
    m_gi ((6 : Int32) + v1) 12 <|
    m_gi v1 12 <|
    m_bnd (m_st c9 6 (m_ix v1) (c9 6 (m_ix ((6 : Int32) + v1)))) fun c10 =>
    m_gi ((6 : Int32) + v1) 12 <|
    m_gi v1 12 <|
    m_bnd (m_st c10 7 (m_ix v1) (c10 7 (m_ix ((6 : Int32) + v1)))) fun c11 =>
    m_bnd (v1 + (1 : Int32)) fun x12 =>
    rc47 x12 c11
def X10_lay (c : Mm) : Option (Int32 × Mm) :=
  m_cal (X10_readAll c) fun r13 c14 =>
  if r13 = (-4 : Int32) then
    if (c14 2 1) = (0 : Int32) then
      some ((-2 : Int32), c14)
    else
      m_bnd (m_st c14 2 0 (c14 2 1)) fun c15 =>
      m_bnd (m_st c15 8 0 (c15 8 1)) fun c16 =>
      m_lp1 (X10_lay_b47) 1000 (0 : Int32) c16
  else
    some ((-2 : Int32), c14)

def X10_isBoat (v1 : Int32) (c : Mm) : Option (Int32 × Mm) :=
  m_cal (X10_in (Int32.toInt64 v1) (0 : Int64) (Int32.toInt64 ((c 2 0) - (1 : Int32))) c) fun r1 c2 =>
  m_gb r1 <|
  some (r1, c2)

def X10_boat (v1 : Int32) (v2 : Int32) (c : Mm) : Option (Int32 × Mm) :=
  m_cal (X10_isBoat v1 c) fun r1 c2 =>
  if r1 = (0 : Int32) then
    some ((-1 : Int32), c2)
  else
    m_cal (X10_in (Int32.toInt64 v2) (0 : Int64) (5 : Int64) c2) fun r3 c4 =>
    if r3 = (0 : Int32) then
      some ((-1 : Int32), c4)
    else
      if v2 = (0 : Int32) then
        m_gi v1 12 <|
        some (c4 3 (m_ix v1), c4)
      else
      if v2 = (1 : Int32) then
        m_gi v1 12 <|
        some (c4 4 (m_ix v1), c4)
      else
      if v2 = (2 : Int32) then
        m_gi v1 12 <|
        some (c4 5 (m_ix v1), c4)
      else
      if v2 = (3 : Int32) then
        m_gi v1 12 <|
        some (c4 12 (m_ix v1), c4)
      else
      if v2 = (4 : Int32) then
        m_gi v1 12 <|
        some (c4 7 (m_ix v1), c4)
      else
        m_gi ((6 : Int32) + v1) 12 <|
        some (c4 12 (m_ix ((6 : Int32) + v1)), c4)

def X10_isRule (v0 : Int32) (c : Mm) : Option (Int32 × Mm) :=
  m_cal (X10_in (Int32.toInt64 v0) (0 : Int64) (3 : Int64) c) fun r1 c2 =>
  m_gb r1 <|
  some (r1, c2)

def X10_endOf (v1 : Int32) (c : Mm) : Option (Int32 × Mm) :=
  m_gi v1 12 <|
  if (c 4 (m_ix v1)) = (0 : Int32) then
    some ((60 : Int32), c)
  else
    some ((0 : Int32), c)

def X10_doMeet_j70 (v3 : Int32) (v4 : Int32) (v5 : Int32) (s0 : Int32) (c : Mm) : Option (Int32 × Mm) :=
  if s0 = (0 : Int32) then
    some ((0 : Int32), c)
  else
    m_gi ((((6 : Int32) * v3) - (6 : Int32)) + v4) 726 <|
    m_gi ((((6 : Int32) * v3) - (6 : Int32)) + v5) 726 <|
    if (c 18 (m_ix ((((6 : Int32) * v3) - (6 : Int32)) + v5))) ≤ (c 18 (m_ix ((((6 : Int32) * v3) - (6 : Int32)) + v4))) then
      some ((0 : Int32), c)
    else
      m_gi (((6 : Int32) * v3) + v4) 726 <|
      m_gi (((6 : Int32) * v3) + v5) 726 <|
      if (c 18 (m_ix (((6 : Int32) * v3) + v4))) < (c 18 (m_ix (((6 : Int32) * v3) + v5))) then
        some ((0 : Int32), c)
      else
        some ((1 : Int32), c)
def X10_doMeet_j69 (v3 : Int32) (v4 : Int32) (v5 : Int32) (c : Mm) : Option (Int32 × Mm) :=
  X10_doMeet_j70 v3 v4 v5 (0 : Int32) c
def X10_doMeet_j30 (v1 : Int32) (v2 : Int32) (v3 : Int32) (v4 : Int32) (s0 : Int32) (c : Mm) : Option (Int32 × Mm) :=
  m_gi v1 12 <|
  m_gi v2 12 <|
  if (c 4 (m_ix v1)) = (c 4 (m_ix v2)) then
    X10_doMeet_j69 v3 v4 s0 c
  else
    m_gi v1 6 <|
    if (0 : Int32) ≤ (c 20 (m_ix v1)) then
      X10_doMeet_j69 v3 v4 s0 c
    else
      m_gi v2 6 <|
      if (0 : Int32) ≤ (c 20 (m_ix v2)) then
        X10_doMeet_j69 v3 v4 s0 c
      else
        X10_doMeet_j70 v3 v4 s0 (1 : Int32) c
def X10_doMeet_j14 (v1 : Int32) (v2 : Int32) (v3 : Int32) (s0 : Int32) (c : Mm) : Option (Int32 × Mm) :=
  m_gi v1 12 <|
  if (c 4 (m_ix v1)) = (0 : Int32) then
    X10_doMeet_j30 v1 v2 v3 s0 v2 c
  else
    X10_doMeet_j30 v1 v2 v3 s0 v1 c
def X10_doMeet (v1 : Int32) (v2 : Int32) (v3 : Int32) (c : Mm) : Option (Int32 × Mm) :=
  m_gi v1 12 <|
  if (c 4 (m_ix v1)) = (0 : Int32) then
    X10_doMeet_j14 v1 v2 v3 v1 c
  else
    X10_doMeet_j14 v1 v2 v3 v2 c

def X10_byCustom_j77 (v1 : Int32) (v2 : Int32) (s0 : Int32) (s1 : Int32) (c : Mm) : Option (Int32 × Mm) :=
  if s0 = s1 then
    m_gi v1 12 <|
    if (c 4 (m_ix v1)) = (1 : Int32) then
      some (v1, c)
    else
      some (v2, c)
  else
    m_gi v1 12 <|
    if (c 12 (m_ix v1)) = (0 : Int32) then
      some (v1, c)
    else
      some (v2, c)
def X10_byCustom_j63 (v1 : Int32) (v2 : Int32) (s0 : Int32) (c : Mm) : Option (Int32 × Mm) :=
  m_gi v2 12 <|
  if (c 12 (m_ix v2)) = (0 : Int32) then
    X10_byCustom_j77 v1 v2 s0 (1 : Int32) c
  else
    X10_byCustom_j77 v1 v2 s0 (0 : Int32) c
def X10_byCustom_j30 (v1 : Int32) (v2 : Int32) (s0 : Int32) (s1 : Int32) (c : Mm) : Option (Int32 × Mm) :=
  if s0 = s1 then
    m_gi v1 12 <|
    if (c 12 (m_ix v1)) = (0 : Int32) then
      X10_byCustom_j63 v1 v2 (1 : Int32) c
    else
      X10_byCustom_j63 v1 v2 (0 : Int32) c
  else
    m_gi v1 12 <|
    if (c 7 (m_ix v1)) = (1 : Int32) then
      some (v2, c)
    else
      some (v1, c)
def X10_byCustom_j15 (v1 : Int32) (v2 : Int32) (s0 : Int32) (c : Mm) : Option (Int32 × Mm) :=
  m_gi v2 12 <|
  if (c 7 (m_ix v2)) = (1 : Int32) then
    X10_byCustom_j30 v1 v2 s0 (1 : Int32) c
  else
    X10_byCustom_j30 v1 v2 s0 (0 : Int32) c
def X10_byCustom (v1 : Int32) (v2 : Int32) (c : Mm) : Option (Int32 × Mm) :=
  m_gi v1 12 <|
  if (c 7 (m_ix v1)) = (1 : Int32) then
    X10_byCustom_j15 v1 v2 (1 : Int32) c
  else
    X10_byCustom_j15 v1 v2 (0 : Int32) c

def X10_byLoad (v1 : Int32) (v2 : Int32) (c : Mm) : Option (Int32 × Mm) :=
  m_gi v1 12 <|
  m_gi v2 12 <|
  if (c 12 (m_ix v1)) = (c 12 (m_ix v2)) then
    m_cal (X10_byCustom v1 v2 c) fun r1 c2 =>
    some (r1, c2)
  else
    m_gi v1 12 <|
    m_gi v2 12 <|
    if (c 12 (m_ix v2)) ≤ (c 12 (m_ix v1)) then
      some (v2, c)
    else
      some (v1, c)

def X10_loss (v1 : Int32) (c : Mm) : Option (Int32 × Mm) :=
  m_gi v1 12 <|
  m_gi v1 12 <|
  some (((c 11 0) + (c 12 (m_ix v1))) * ((c 12 (m_ix v1)) + (1 : Int32)), c)

def X10_byRule (v1 : Int32) (v2 : Int32) (v3 : Int32) (c : Mm) : Option (Int32 × Mm) :=
  if v1 = (0 : Int32) then
    m_cal (X10_byCustom v2 v3 c) fun r1 c2 =>
    some (r1, c2)
  else
  if v1 = (1 : Int32) then
    m_cal (X10_byLoad v2 v3 c) fun r3 c4 =>
    some (r3, c4)
  else
  if v1 = (2 : Int32) then
    m_gi v2 12 <|
    m_gi v3 12 <|
    if (c 5 (m_ix v2)) = (c 5 (m_ix v3)) then
      m_cal (X10_byCustom v2 v3 c) fun r5 c6 =>
      some (r5, c6)
    else
      m_gi v2 12 <|
      m_gi v3 12 <|
      if (c 5 (m_ix v3)) ≤ (c 5 (m_ix v2)) then
        some (v3, c)
      else
        some (v2, c)
  else
    m_cal (X10_loss v2 c) fun r7 c8 =>
    m_cal (X10_loss v3 c8) fun r9 c10 =>
    if r7 = r9 then
      m_cal (X10_byLoad v2 v3 c10) fun r15 c16 =>
      some (r15, c16)
    else
      m_cal (X10_loss v2 c10) fun r11 c12 =>
      m_cal (X10_loss v3 c12) fun r13 c14 =>
      if r13 ≤ r11 then
        some (v3, c14)
      else
        some (v2, c14)

def X10_yielder_j86 (v1 : Int32) (v2 : Int32) (v3 : Int32) (s0 : Int32) (s1 : Int32) (c : Mm) : Option (Int32 × Mm) :=
  if s0 = s1 then
    m_cal (X10_byRule v1 v2 v3 c) fun r1 c2 =>
    some (r1, c2)
  else
    m_gi v2 12 <|
    if (c 7 (m_ix v2)) = (3 : Int32) then
      some (v2, c)
    else
      some (v3, c)
def X10_yielder_j71 (v1 : Int32) (v2 : Int32) (v3 : Int32) (s0 : Int32) (c : Mm) : Option (Int32 × Mm) :=
  m_gi v3 12 <|
  if (c 7 (m_ix v3)) = (3 : Int32) then
    X10_yielder_j86 v1 v2 v3 s0 (1 : Int32) c
  else
    X10_yielder_j86 v1 v2 v3 s0 (0 : Int32) c
def X10_yielder_j20 (v2 : Int32) (v3 : Int32) (c : Mm) : Option (Int32 × Mm) :=
  m_gi v2 12 <|
  m_gi v3 12 <|
  if (c 7 (m_ix v2)) = (c 7 (m_ix v3)) then
    some ((-4 : Int32), c)
  else
    m_gi v2 12 <|
    if (c 7 (m_ix v2)) = (2 : Int32) then
      some (v3, c)
    else
      some (v2, c)
def X10_yielder (v1 : Int32) (v2 : Int32) (v3 : Int32) (c : Mm) : Option (Int32 × Mm) :=
  m_gi v2 12 <|
  if (c 7 (m_ix v2)) = (2 : Int32) then
    X10_yielder_j20 v2 v3 c
  else
    m_gi v3 12 <|
    if (c 7 (m_ix v3)) = (2 : Int32) then
      X10_yielder_j20 v2 v3 c
    else
      m_gi v2 12 <|
      if (c 7 (m_ix v2)) = (3 : Int32) then
        X10_yielder_j71 v1 v2 v3 (1 : Int32) c
      else
        X10_yielder_j71 v1 v2 v3 (0 : Int32) c

def X10_isNarrow_j45 (rc4 : Int32 → Int32 → Mm → Option (Int32 × Mm)) (v1 : Int32) (v3 : Int32) (s0 : Int32) (c : Mm) : Option (Int32 × Mm) :=
  m_bnd (v3 + (1 : Int32)) fun x1 =>
  rc4 s0 x1 c
def X10_isNarrow_j40 (rc4 : Int32 → Int32 → Mm → Option (Int32 × Mm)) (v1 : Int32) (v3 : Int32) (c : Mm) : Option (Int32 × Mm) :=
  X10_isNarrow_j45 rc4 v1 v3 (1 : Int32) c
def X10_isNarrow_b4 (v1 : Int32) (rc4 : Int32 → Int32 → Mm → Option (Int32 × Mm)) (v2 : Int32) (v3 : Int32) (c : Mm) : Option (Int32 × Mm) :=
  if (c 8 0) ≤ v3 then
    m_gb v2 <|
    some (v2, c)
  else
    if v2 = (0 : Int32) then
      m_gi v3 6 <|
      m_gi v3 6 <|
      m_cal (X10_in (Int32.toInt64 v1) (Int32.toInt64 (c 9 (m_ix v3))) (Int32.toInt64 (c 10 (m_ix v3))) c) fun r2 c3 =>
      if r2 = (0 : Int32) then
        X10_isNarrow_j45 rc4 v1 v3 (0 : Int32) c3
      else
        X10_isNarrow_j40 rc4 v1 v3 c3
    else
      X10_isNarrow_j40 rc4 v1 v3 c
def X10_isNarrow (v1 : Int32) (c : Mm) : Option (Int32 × Mm) :=
  m_lp2 (X10_isNarrow_b4 v1) 1000 (0 : Int32) (0 : Int32) c

def X10_standMore_j44 (v1 : Int32) (v2 : Int32) (s1 : Int32) (s2 : Int32) (s3 : Int32) (c : Mm) : Option (Mm) :=
  m_gi s1 6 <|
  m_bnd (m_st c 23 (m_ix s1) (s2 + s3)) fun c1 =>
  m_gi v1 6 <|
  m_gi v1 6 <|
  m_bnd (m_st c1 19 (m_ix v1) ((c1 19 (m_ix v1)) + v2)) fun c2 =>
  m_gi v1 6 <|
  m_gi v1 6 <|
  m_bnd (m_st c2 21 (m_ix v1) ((c2 21 (m_ix v1)) + v2)) fun c3 =>
  some c3
def X10_standMore_j43 (v1 : Int32) (v2 : Int32) (s1 : Int32) (s2 : Int32) (c : Mm) : Option (Mm) :=
  X10_standMore_j44 v1 v2 s1 s2 (0 : Int32) c
def X10_standMore (v1 : Int32) (v2 : Int32) (v3 : Int32) (c : Mm) : Option (Mm) :=
  m_gi v1 6 <|
  if v2 ≤ (0 : Int32) then
    X10_standMore_j43 v1 v2 v1 (c 23 (m_ix v1)) c
  else
    m_gi v1 6 <|
    if (c 19 (m_ix v1)) = (0 : Int32) then
      m_gi (((6 : Int32) * v3) + v1) 726 <|
      m_cal (X10_endOf v1 c) fun r4 c5 =>
      if (c 18 (m_ix (((6 : Int32) * v3) + v1))) = r4 then
        X10_standMore_j43 v1 v2 v1 (c 23 (m_ix v1)) c5
      else
        X10_standMore_j44 v1 v2 v1 (c 23 (m_ix v1)) (1 : Int32) c5
    else
      X10_standMore_j43 v1 v2 v1 (c 23 (m_ix v1)) c

def X10_meet_j301 (s1 : Int32) (s3 : Int32) (s4 : Int32) (c : Mm) : Option (Mm) :=
  m_gi (s3 + s4) 726 <|
  m_gi s1 15 <|
  m_bnd (m_st c 27 (m_ix s1) (c 18 (m_ix (s3 + s4)))) fun c1 =>
  m_bnd (m_st c1 0 28 ((c1 0 28) + (1 : Int32))) fun c2 =>
  some c2
def X10_meet_j231 (v2 : Int32) (v3 : Int32) (v4 : Int32) (v5 : Int32) (s1 : Int32) (s2 : Int32) (s3 : Int32) (c : Mm) : Option (Mm) :=
  m_gi s1 6 <|
  m_bnd (m_st c 22 (m_ix s1) (s2 + s3)) fun c3 =>
  m_gi (c3 0 28) 15 <|
  m_bnd (m_st c3 24 (m_ix (c3 0 28)) v4) fun c4 =>
  m_gi (c4 0 28) 15 <|
  m_bnd (m_st c4 25 (m_ix (c4 0 28)) (((8 : Int32) * v2) + v3)) fun c5 =>
  m_gi (c5 0 28) 15 <|
  m_bnd (m_st c5 26 (m_ix (c5 0 28)) v5) fun c6 =>
  m_gi v2 12 <|
  if (c6 4 (m_ix v2)) = (0 : Int32) then
    X10_meet_j301 (c6 0 28) ((6 : Int32) * v4) v2 c6
  else
    X10_meet_j301 (c6 0 28) ((6 : Int32) * v4) v3 c6
def X10_meet_j211 (v2 : Int32) (v3 : Int32) (v4 : Int32) (v5 : Int32) (s1 : Int32) (s2 : Int32) (s3 : Int32) (c : Mm) : Option (Mm) :=
  m_gi s1 6 <|
  m_bnd (m_st c 22 (m_ix s1) (s2 + s3)) fun c7 =>
  m_gi v3 6 <|
  if v5 = v3 then
    X10_meet_j231 v2 v3 v4 v5 v3 (c7 22 (m_ix v3)) (1 : Int32) c7
  else
    X10_meet_j231 v2 v3 v4 v5 v3 (c7 22 (m_ix v3)) (0 : Int32) c7
def X10_meet_j167 (v2 : Int32) (v3 : Int32) (v4 : Int32) (v5 : Int32) (v7 : Int32) (v8 : Int32) (s0 : Int32) (c : Mm) : Option (Mm) :=
  m_cav (X10_standMore v2 (v8 + v7) v4 c) fun c8 =>
  m_cav (X10_standMore v3 (s0 + v7) v4 c8) fun c9 =>
  m_gi v2 6 <|
  if v5 = v2 then
    X10_meet_j211 v2 v3 v4 v5 v2 (c9 22 (m_ix v2)) (1 : Int32) c9
  else
    X10_meet_j211 v2 v3 v4 v5 v2 (c9 22 (m_ix v2)) (0 : Int32) c9
def X10_meet_j128 (v2 : Int32) (v3 : Int32) (v4 : Int32) (v5 : Int32) (v7 : Int32) (s0 : Int32) (c : Mm) : Option (Mm) :=
  if (0 : Int32) ≤ v5 then
    if v5 = v3 then
      m_gi v3 12 <|
      X10_meet_j167 v2 v3 v4 v5 v7 s0 ((c 11 0) + (c 12 (m_ix v3))) c
    else
      X10_meet_j167 v2 v3 v4 v5 v7 s0 (0 : Int32) c
  else
    X10_meet_j167 v2 v3 v4 v5 v7 s0 (c 11 1) c
def X10_meet_j89 (v2 : Int32) (v3 : Int32) (v4 : Int32) (v5 : Int32) (s0 : Int32) (c : Mm) : Option (Mm) :=
  if (0 : Int32) ≤ v5 then
    if v5 = v2 then
      m_gi v2 12 <|
      X10_meet_j128 v2 v3 v4 v5 s0 ((c 11 0) + (c 12 (m_ix v2))) c
    else
      X10_meet_j128 v2 v3 v4 v5 s0 (0 : Int32) c
  else
    X10_meet_j128 v2 v3 v4 v5 s0 (c 11 1) c
def X10_meet_j77 (v2 : Int32) (v3 : Int32) (v4 : Int32) (v5 : Int32) (s0 : Int32) (c : Mm) : Option (Mm) :=
  if s0 = (0 : Int32) then
    X10_meet_j89 v2 v3 v4 v5 (0 : Int32) c
  else
    X10_meet_j89 v2 v3 v4 v5 (3 : Int32) c
def X10_meet_j52 (v2 : Int32) (v3 : Int32) (v4 : Int32) (v5 : Int32) (c : Mm) : Option (Mm) :=
  X10_meet_j77 v2 v3 v4 v5 (1 : Int32) c
def X10_meet (v1 : Int32) (v2 : Int32) (v3 : Int32) (v4 : Int32) (c : Mm) : Option (Mm) :=
  m_cal (X10_yielder v1 v2 v3 c) fun r10 c11 =>
  if (0 : Int32) ≤ r10 then
    m_gi (((6 : Int32) * v4) + r10) 726 <|
    m_cal (X10_isNarrow (c11 18 (m_ix (((6 : Int32) * v4) + r10))) c11) fun r12 c13 =>
    X10_meet_j77 v2 v3 v4 r10 r12 c13
  else
    m_gi (((6 : Int32) * v4) + v2) 726 <|
    m_cal (X10_isNarrow (c11 18 (m_ix (((6 : Int32) * v4) + v2))) c11) fun r14 c15 =>
    if r14 = (0 : Int32) then
      m_gi (((6 : Int32) * v4) + v3) 726 <|
      m_cal (X10_isNarrow (c15 18 (m_ix (((6 : Int32) * v4) + v3))) c15) fun r16 c17 =>
      if r16 = (0 : Int32) then
        X10_meet_j77 v2 v3 v4 r10 (0 : Int32) c17
      else
        X10_meet_j52 v2 v3 v4 r10 c17
    else
      X10_meet_j52 v2 v3 v4 r10 c15

def X10_goMinute_j273 (rc220 : Int32 → Mm → Option (Mm)) (v2 : Int32) (v3 : Int32) (s1 : Int32) (s2 : Int32) (c : Mm) : Option (Mm) :=
  m_gi s1 6 <|
  m_bnd (m_st c 20 (m_ix s1) s2) fun c1 =>
  m_bnd (v3 + (1 : Int32)) fun x2 =>
  rc220 x2 c1
def X10_goMinute_j267 (rc220 : Int32 → Mm → Option (Mm)) (v2 : Int32) (v3 : Int32) (s1 : Int32) (c : Mm) : Option (Mm) :=
  m_gi v3 6 <|
  X10_goMinute_j273 rc220 v2 v3 s1 (c 20 (m_ix v3)) c
def X10_goMinute_b220 (v2 : Int32) (rc220 : Int32 → Mm → Option (Mm)) (v3 : Int32) (c : Mm) : Option (Mm) :=
  if (c 2 0) ≤ v3 then
    some c
  else
    m_gi v3 6 <|
    if (0 : Int32) ≤ (c 20 (m_ix v3)) then
      X10_goMinute_j267 rc220 v2 v3 v3 c
    else
      m_gi (((6 : Int32) * v2) + v3) 726 <|
      m_cal (X10_endOf v3 c) fun r3 c4 =>
      if (c 18 (m_ix (((6 : Int32) * v2) + v3))) = r3 then
        X10_goMinute_j273 rc220 v2 v3 v3 v2 c4
      else
        X10_goMinute_j267 rc220 v2 v3 v3 c4
def X10_goMinute_j218 (v2 : Int32) (c : Mm) : Option (Mm) :=
  m_lp1 (X10_goMinute_b220 v2) 1000 (0 : Int32) c
def X10_goMinute_j212 (rc160 : Int32 → Mm → Option (Mm)) (v1 : Int32) (v2 : Int32) (v3 : Int32) (c : Mm) : Option (Mm) :=
  m_bnd (v3 + (1 : Int32)) fun x5 =>
  rc160 x5 c
def X10_goMinute_j206 (rc160 : Int32 → Mm → Option (Mm)) (rc175 : Int32 → Mm → Option (Mm)) (v1 : Int32) (v2 : Int32) (v3 : Int32) (v4 : Int32) (c : Mm) : Option (Mm) :=
  m_bnd (v4 + (1 : Int32)) fun x6 =>
  rc175 x6 c
def X10_goMinute_b175 (rc160 : Int32 → Mm → Option (Mm)) (v1 : Int32) (v2 : Int32) (v3 : Int32) (rc175 : Int32 → Mm → Option (Mm)) (v4 : Int32) (c : Mm) : Option (Mm) :=
  if (c 2 0) ≤ v4 then
    X10_goMinute_j212 rc160 v1 v2 v3 c
  else
    m_cal (X10_doMeet v3 v4 v2 c) fun r7 c8 =>
    if r7 = (0 : Int32) then
      X10_goMinute_j206 rc160 rc175 v1 v2 v3 v4 c8
    else
      m_cav (X10_meet v1 v3 v4 v2 c8) fun c9 =>
      X10_goMinute_j206 rc160 rc175 v1 v2 v3 v4 c9
def X10_goMinute_b160 (v1 : Int32) (v2 : Int32) (rc160 : Int32 → Mm → Option (Mm)) (v3 : Int32) (c : Mm) : Option (Mm) :=
  if (c 2 0) ≤ v3 then
    X10_goMinute_j218 v2 c
  else
    m_bnd (v3 + (1 : Int32)) fun x10 =>
    m_lp1 (X10_goMinute_b175 rc160 v1 v2 v3) 1000 x10 c
def X10_goMinute_j158 (v1 : Int32) (v2 : Int32) (c : Mm) : Option (Mm) :=
  m_lp1 (X10_goMinute_b160 v1 v2) 1000 (0 : Int32) c
def X10_goMinute_j150 (rc2 : Int32 → Mm → Option (Mm)) (v1 : Int32) (v2 : Int32) (v3 : Int32) (s1 : Int32) (s2 : Int32) (s3 : Int32) (c : Mm) : Option (Mm) :=
  m_gi s1 6 <|
  m_bnd (m_st c 19 (m_ix s1) (s2 - s3)) fun c11 =>
  m_bnd (v3 + (1 : Int32)) fun x12 =>
  rc2 x12 c11
def X10_goMinute_j128 (rc2 : Int32 → Mm → Option (Mm)) (v1 : Int32) (v2 : Int32) (v3 : Int32) (s1 : Int32) (s2 : Int32) (c : Mm) : Option (Mm) :=
  m_gi s1 726 <|
  m_bnd (m_st c 18 (m_ix s1) s2) fun c13 =>
  m_gi v3 6 <|
  m_gi v3 6 <|
  if (c13 19 (m_ix v3)) ≤ (0 : Int32) then
    X10_goMinute_j150 rc2 v1 v2 v3 v3 (c13 19 (m_ix v3)) (0 : Int32) c13
  else
    X10_goMinute_j150 rc2 v1 v2 v3 v3 (c13 19 (m_ix v3)) (1 : Int32) c13
def X10_goMinute_j83 (rc2 : Int32 → Mm → Option (Mm)) (v1 : Int32) (v2 : Int32) (v3 : Int32) (v4 : Int32) (v5 : Int32) (s0 : Int32) (c : Mm) : Option (Mm) :=
  if v5 = (0 : Int32) then
    X10_goMinute_j128 rc2 v1 v2 v3 (((6 : Int32) * v2) + v3) v4 c
  else
    if s0 ≤ (60 : Int32) then
      if (0 : Int32) ≤ s0 then
        X10_goMinute_j128 rc2 v1 v2 v3 (((6 : Int32) * v2) + v3) s0 c
      else
        X10_goMinute_j128 rc2 v1 v2 v3 (((6 : Int32) * v2) + v3) (0 : Int32) c
    else
      X10_goMinute_j128 rc2 v1 v2 v3 (((6 : Int32) * v2) + v3) (60 : Int32) c
def X10_goMinute_j51 (rc2 : Int32 → Mm → Option (Mm)) (v1 : Int32) (v2 : Int32) (v3 : Int32) (v4 : Int32) (s0 : Int32) (c : Mm) : Option (Mm) :=
  m_gi v3 12 <|
  if (c 4 (m_ix v3)) = (0 : Int32) then
    m_gi v3 12 <|
    X10_goMinute_j83 rc2 v1 v2 v3 v4 s0 (v4 + (c 5 (m_ix v3))) c
  else
    m_gi v3 12 <|
    X10_goMinute_j83 rc2 v1 v2 v3 v4 s0 (v4 - (c 5 (m_ix v3))) c
def X10_goMinute_j50 (rc2 : Int32 → Mm → Option (Mm)) (v1 : Int32) (v2 : Int32) (v3 : Int32) (v4 : Int32) (c : Mm) : Option (Mm) :=
  X10_goMinute_j51 rc2 v1 v2 v3 v4 (0 : Int32) c
def X10_goMinute_b2 (v1 : Int32) (v2 : Int32) (rc2 : Int32 → Mm → Option (Mm)) (v3 : Int32) (c : Mm) : Option (Mm) :=
  if (c 2 0) ≤ v3 then
    X10_goMinute_j158 v1 v2 c
  else
    m_gi ((((6 : Int32) * v2) - (6 : Int32)) + v3) 726 <|
    m_bnd (c 18 (m_ix ((((6 : Int32) * v2) - (6 : Int32)) + v3))) fun x14 =>
    m_gi v3 6 <|
    if (0 : Int32) ≤ (c 20 (m_ix v3)) then
      X10_goMinute_j50 rc2 v1 v2 v3 x14 c
    else
      m_gi v3 6 <|
      if (c 19 (m_ix v3)) = (0 : Int32) then
        X10_goMinute_j51 rc2 v1 v2 v3 x14 (1 : Int32) c
      else
        X10_goMinute_j50 rc2 v1 v2 v3 x14 c
def X10_goMinute (v1 : Int32) (v2 : Int32) (c : Mm) : Option (Mm) :=
  m_lp1 (X10_goMinute_b2 v1 v2) 1000 (0 : Int32) c

def X10_goDay_b134 (rc134 : Int32 → Int32 → Mm → Option (Int32 × Mm)) (v2 : Int32) (v3 : Int32) (c : Mm) : Option (Int32 × Mm) :=
  if (c 2 0) ≤ v3 then
    some (v2, c)
  else
    m_gi v3 6 <|
    m_bnd (v2 + (c 21 (m_ix v3))) fun x1 =>
    m_bnd (v3 + (1 : Int32)) fun x2 =>
    rc134 x1 x2 c
def X10_goDay_j130 (c : Mm) : Option (Int32 × Mm) :=
  m_lp2 (X10_goDay_b134) 1000 (0 : Int32) (0 : Int32) c
def X10_goDay_b112 (v1 : Int32) (rc112 : Int32 → Mm → Option (Int32 × Mm)) (v2 : Int32) (c : Mm) : Option (Int32 × Mm) :=
  if (121 : Int32) ≤ v2 then
    X10_goDay_j130 c
  else
    m_cav (X10_goMinute v1 v2 c) fun c3 =>
    m_bnd (v2 + (1 : Int32)) fun x4 =>
    rc112 x4 c3
def X10_goDay_j110 (v1 : Int32) (c : Mm) : Option (Int32 × Mm) :=
  m_lp1 (X10_goDay_b112 v1) 1000 (1 : Int32) c
def X10_goDay_j103 (rc7 : Int32 → Mm → Option (Int32 × Mm)) (v1 : Int32) (v2 : Int32) (s1 : Int32) (s2 : Int32) (c : Mm) : Option (Int32 × Mm) :=
  m_gi s1 6 <|
  m_bnd (m_st c 23 (m_ix s1) s2) fun c5 =>
  m_bnd (v2 + (1 : Int32)) fun x6 =>
  rc7 x6 c5
def X10_goDay_j69 (rc7 : Int32 → Mm → Option (Int32 × Mm)) (v1 : Int32) (v2 : Int32) (s1 : Int32) (s2 : Int32) (c : Mm) : Option (Int32 × Mm) :=
  m_gi s1 6 <|
  m_bnd (m_st c 20 (m_ix s1) s2) fun c7 =>
  m_gi v2 6 <|
  m_bnd (m_st c7 21 (m_ix v2) (0 : Int32)) fun c8 =>
  m_gi v2 6 <|
  m_bnd (m_st c8 22 (m_ix v2) (0 : Int32)) fun c9 =>
  m_gi v2 6 <|
  if (c9 20 (m_ix v2)) = (0 : Int32) then
    X10_goDay_j103 rc7 v1 v2 v2 (0 : Int32) c9
  else
    X10_goDay_j103 rc7 v1 v2 v2 (1 : Int32) c9
def X10_goDay_b7 (v1 : Int32) (rc7 : Int32 → Mm → Option (Int32 × Mm)) (v2 : Int32) (c : Mm) : Option (Int32 × Mm) :=
  if (c 2 0) ≤ v2 then
    X10_goDay_j110 v1 c
  else
    m_gi v2 12 <|
    m_gi v2 726 <|
    m_bnd (m_st c 18 (m_ix v2) (c 3 (m_ix v2))) fun c10 =>
    m_gi ((6 : Int32) + v2) 12 <|
    m_gi v2 6 <|
    m_bnd (m_st c10 19 (m_ix v2) (c10 12 (m_ix ((6 : Int32) + v2)))) fun c11 =>
    m_gi v2 12 <|
    m_cal (X10_endOf v2 c11) fun r12 c13 =>
    if (c11 3 (m_ix v2)) = r12 then
      X10_goDay_j69 rc7 v1 v2 v2 (0 : Int32) c13
    else
      X10_goDay_j69 rc7 v1 v2 v2 (-4 : Int32) c13
def X10_goDay (v1 : Int32) (c : Mm) : Option (Int32 × Mm) :=
  m_bnd (m_st c 0 28 (0 : Int32)) fun c14 =>
  m_lp1 (X10_goDay_b7 v1) 1000 (0 : Int32) c14

def X10_where (v1 : Int32) (v2 : Int32) (v3 : Int32) (c : Mm) : Option (Int32 × Mm) :=
  m_cal (X10_isRule v1 c) fun r1 c2 =>
  if r1 = (0 : Int32) then
    some ((-1 : Int32), c2)
  else
    m_cal (X10_isBoat v2 c2) fun r3 c4 =>
    if r3 = (0 : Int32) then
      some ((-1 : Int32), c4)
    else
      m_cal (X10_in (Int32.toInt64 v3) (0 : Int64) (120 : Int64) c4) fun r5 c6 =>
      if r5 = (0 : Int32) then
        some ((-1 : Int32), c6)
      else
        m_cal (X10_goDay v1 c6) fun r7 c8 =>
        m_gi (((6 : Int32) * v3) + v2) 726 <|
        some (c8 18 (m_ix (((6 : Int32) * v3) + v2)), c8)

def X10_there (v1 : Int32) (v2 : Int32) (c : Mm) : Option (Int32 × Mm) :=
  m_cal (X10_isRule v1 c) fun r1 c2 =>
  if r1 = (0 : Int32) then
    some ((-1 : Int32), c2)
  else
    m_cal (X10_isBoat v2 c2) fun r3 c4 =>
    if r3 = (0 : Int32) then
      some ((-1 : Int32), c4)
    else
      m_cal (X10_goDay v1 c4) fun r5 c6 =>
      m_gi v2 6 <|
      some (c6 20 (m_ix v2), c6)

def X10_stands_j22 (v1 : Int32) (v2 : Int32) (c : Mm) : Option (Int32 × Mm) :=
  m_cal (X10_goDay v1 c) fun r1 c2 =>
  if (0 : Int32) ≤ v2 then
    m_gi v2 6 <|
    some (c2 21 (m_ix v2), c2)
  else
    some (r1, c2)
def X10_stands (v1 : Int32) (v2 : Int32) (c : Mm) : Option (Int32 × Mm) :=
  m_cal (X10_isRule v1 c) fun r3 c4 =>
  if r3 = (0 : Int32) then
    some ((-1 : Int32), c4)
  else
    if v2 = (-1 : Int32) then
      X10_stands_j22 v1 v2 c4
    else
      m_cal (X10_isBoat v2 c4) fun r5 c6 =>
      if r5 = (0 : Int32) then
        some ((-1 : Int32), c6)
      else
        X10_stands_j22 v1 v2 c6

def X10_yields (v1 : Int32) (v2 : Int32) (c : Mm) : Option (Int32 × Mm) :=
  m_cal (X10_isRule v1 c) fun r1 c2 =>
  if r1 = (0 : Int32) then
    some ((-1 : Int32), c2)
  else
    m_cal (X10_isBoat v2 c2) fun r3 c4 =>
    if r3 = (0 : Int32) then
      some ((-1 : Int32), c4)
    else
      m_cal (X10_goDay v1 c4) fun r5 c6 =>
      m_gi v2 6 <|
      some (c6 22 (m_ix v2), c6)

def X10_meetings (v1 : Int32) (c : Mm) : Option (Int32 × Mm) :=
  m_cal (X10_isRule v1 c) fun r1 c2 =>
  if r1 = (0 : Int32) then
    some ((-1 : Int32), c2)
  else
    m_cal (X10_goDay v1 c2) fun r3 c4 =>
    some (c4 0 28, c4)

def X10_meeting (v1 : Int32) (v2 : Int32) (v3 : Int32) (c : Mm) : Option (Int32 × Mm) :=
  m_cal (X10_isRule v1 c) fun r1 c2 =>
  if r1 = (0 : Int32) then
    some ((-1 : Int32), c2)
  else
    m_cal (X10_in (Int32.toInt64 v3) (0 : Int64) (3 : Int64) c2) fun r3 c4 =>
    if r3 = (0 : Int32) then
      some ((-1 : Int32), c4)
    else
      m_cal (X10_goDay v1 c4) fun r5 c6 =>
      m_cal (X10_in (Int32.toInt64 v2) (0 : Int64) (Int32.toInt64 ((c6 0 28) - (1 : Int32))) c6) fun r7 c8 =>
      if r7 = (0 : Int32) then
        some ((-1 : Int32), c8)
      else
        if v3 = (0 : Int32) then
          m_gi v2 15 <|
          some (c8 24 (m_ix v2), c8)
        else
          if v3 = (1 : Int32) then
            m_gi v2 15 <|
            some (c8 25 (m_ix v2), c8)
          else
            if v3 = (2 : Int32) then
              m_gi v2 15 <|
              some (c8 26 (m_ix v2), c8)
            else
              m_gi v2 15 <|
              some (c8 27 (m_ix v2), c8)

def X10_note_j82 (c : Mm) : Option (Mm) :=
  m_bnd (m_st c 0 14 ((c 0 14) + (1 : Int32))) fun c1 =>
  some c1
def X10_note_b50 (rc50 : Int32 → Mm → Option (Mm)) (v1 : Int32) (c : Mm) : Option (Mm) :=
  if (12 : Int32) ≤ v1 then
    X10_note_j82 c
  else
    m_gi v1 12 <|
    m_gi (((12 : Int32) * (c 0 14)) + v1) 96 <|
    m_bnd (m_st c 13 (m_ix (((12 : Int32) * (c 0 14)) + v1)) (c 12 (m_ix v1))) fun c2 =>
    m_bnd (v1 + (1 : Int32)) fun x3 =>
    rc50 x3 c2
def X10_note_j48 (c : Mm) : Option (Mm) :=
  m_lp1 (X10_note_b50) 1000 (0 : Int32) c
def X10_note_j38 (c : Mm) : Option (Mm) :=
  m_bnd (m_st c 0 14 ((c 0 14) - (1 : Int32))) fun c4 =>
  X10_note_j48 c4
def X10_note_b11 (rc11 : Int32 → Mm → Option (Mm)) (v1 : Int32) (c : Mm) : Option (Mm) :=
  if (84 : Int32) ≤ v1 then
    X10_note_j38 c
  else
    m_gi ((12 : Int32) + v1) 96 <|
    m_gi v1 96 <|
    m_bnd (m_st c 13 (m_ix v1) (c 13 (m_ix ((12 : Int32) + v1)))) fun c5 =>
    m_bnd (v1 + (1 : Int32)) fun x6 =>
    rc11 x6 c5
def X10_note (c : Mm) : Option (Mm) :=
  if (c 0 14) = (8 : Int32) then
    m_lp1 (X10_note_b11) 1000 (0 : Int32) c
  else
    X10_note_j48 c

def X10_load (v1 : Int32) (v2 : Int32) (c : Mm) : Option (Int32 × Mm) :=
  m_cal (X10_isBoat v1 c) fun r1 c2 =>
  if r1 = (0 : Int32) then
    some ((-1 : Int32), c2)
  else
    m_cal (X10_in (Int32.toInt64 v2) (0 : Int64) (9 : Int64) c2) fun r3 c4 =>
    if r3 = (0 : Int32) then
      some ((-1 : Int32), c4)
    else
      m_cav (X10_note c4) fun c5 =>
      m_gi v1 12 <|
      m_bnd (c5 12 (m_ix v1)) fun x6 =>
      m_gi v1 12 <|
      m_bnd (m_st c5 12 (m_ix v1) v2) fun c7 =>
      some (x6, c7)

def X10_later (v1 : Int32) (v2 : Int32) (c : Mm) : Option (Int32 × Mm) :=
  m_cal (X10_isBoat v1 c) fun r1 c2 =>
  if r1 = (0 : Int32) then
    some ((-1 : Int32), c2)
  else
    m_cal (X10_in (Int32.toInt64 v2) (0 : Int64) (30 : Int64) c2) fun r3 c4 =>
    if r3 = (0 : Int32) then
      some ((-1 : Int32), c4)
    else
      m_cav (X10_note c4) fun c5 =>
      m_gi ((6 : Int32) + v1) 12 <|
      m_bnd (c5 12 (m_ix ((6 : Int32) + v1))) fun x6 =>
      m_gi ((6 : Int32) + v1) 12 <|
      m_bnd (m_st c5 12 (m_ix ((6 : Int32) + v1)) v2) fun c7 =>
      some (x6, c7)

def X10_undo_j54 (c : Mm) : Option (Int32 × Mm) :=
  some (c 0 14, c)
def X10_undo_b22 (rc22 : Int32 → Mm → Option (Int32 × Mm)) (v1 : Int32) (c : Mm) : Option (Int32 × Mm) :=
  if (12 : Int32) ≤ v1 then
    X10_undo_j54 c
  else
    m_gi (((12 : Int32) * (c 0 14)) + v1) 96 <|
    m_gi v1 12 <|
    m_bnd (m_st c 12 (m_ix v1) (c 13 (m_ix (((12 : Int32) * (c 0 14)) + v1)))) fun c1 =>
    m_bnd (v1 + (1 : Int32)) fun x2 =>
    rc22 x2 c1
def X10_undo (c : Mm) : Option (Int32 × Mm) :=
  if (c 0 14) = (0 : Int32) then
    some ((-2 : Int32), c)
  else
    m_bnd (m_st c 0 14 ((c 0 14) - (1 : Int32))) fun c3 =>
    m_lp1 (X10_undo_b22) 1000 (0 : Int32) c3

def X10_areTwo (v1 : Int32) (v2 : Int32) (c : Mm) : Option (Int32 × Mm) :=
  m_cal (X10_isBoat v1 c) fun r1 c2 =>
  if r1 = (0 : Int32) then
    some ((0 : Int32), c2)
  else
    m_cal (X10_isBoat v2 c2) fun r3 c4 =>
    if r3 = (0 : Int32) then
      some ((0 : Int32), c4)
    else
      if v1 = v2 then
        some ((0 : Int32), c4)
      else
        some ((1 : Int32), c4)

def X10_who (v1 : Int32) (v2 : Int32) (v3 : Int32) (c : Mm) : Option (Int32 × Mm) :=
  m_cal (X10_isRule v1 c) fun r1 c2 =>
  if r1 = (0 : Int32) then
    some ((-1 : Int32), c2)
  else
    m_cal (X10_areTwo v2 v3 c2) fun r3 c4 =>
    if r3 = (0 : Int32) then
      some ((-1 : Int32), c4)
    else
      m_gi v2 12 <|
      m_gi v3 12 <|
      if (c4 4 (m_ix v2)) = (c4 4 (m_ix v3)) then
        some ((-2 : Int32), c4)
      else
        m_cal (X10_yielder v1 v2 v3 c4) fun r5 c6 =>
        some (r5, c6)

def X10_best_j69 (v1 : Int32) (v2 : Int32) (v3 : Int32) (c : Mm) : Option (Int32 × Mm) :=
  if v1 = (0 : Int32) then
    some (v2, c)
  else
    some (v3, c)
def X10_best_j62 (rc23 : Int32 → Int32 → Int32 → Mm → Option (Int32 × Mm)) (v1 : Int32) (v2 : Int32) (v4 : Int32) (s0 : Int32) (c : Mm) : Option (Int32 × Mm) :=
  m_bnd (v4 + (1 : Int32)) fun x1 =>
  rc23 v2 s0 x1 c
def X10_best_j49 (rc23 : Int32 → Int32 → Int32 → Mm → Option (Int32 × Mm)) (v1 : Int32) (v3 : Int32) (v4 : Int32) (v5 : Int32) (s0 : Int32) (c : Mm) : Option (Int32 × Mm) :=
  if v3 ≤ v5 then
    X10_best_j62 rc23 v1 s0 v4 v3 c
  else
    X10_best_j62 rc23 v1 s0 v4 v5 c
def X10_best_b23 (v1 : Int32) (rc23 : Int32 → Int32 → Int32 → Mm → Option (Int32 × Mm)) (v2 : Int32) (v3 : Int32) (v4 : Int32) (c : Mm) : Option (Int32 × Mm) :=
  if (4 : Int32) ≤ v4 then
    X10_best_j69 v1 v2 v3 c
  else
    m_cal (X10_goDay v4 c) fun r2 c3 =>
    if v3 ≤ r2 then
      X10_best_j49 rc23 v1 v3 v4 r2 v2 c3
    else
      X10_best_j49 rc23 v1 v3 v4 r2 v4 c3
def X10_best (v1 : Int32) (c : Mm) : Option (Int32 × Mm) :=
  m_cal (X10_in (Int32.toInt64 v1) (0 : Int64) (1 : Int64) c) fun r4 c5 =>
  if r4 = (0 : Int32) then
    some ((-1 : Int32), c5)
  else
    m_cal (X10_goDay (0 : Int32) c5) fun r6 c7 =>
    m_lp3 (X10_best_b23 v1) 1000 (0 : Int32) r6 (1 : Int32) c7

def X10_custom (c : Mm) : Option (Int32 × Mm) :=
  m_cal (X10_goDay (0 : Int32) c) fun r1 c2 =>
  m_cal (X10_best (1 : Int32) c2) fun r3 c4 =>
  some (r1 - r3, c4)

def X10_send_j99 (v2 : Int32) (v3 : Int32) (v4 : Int32) (v5 : Int32) (v6 : Int32) (c : Mm) : Option (Int32 × Mm) :=
  m_gi ((6 : Int32) + v2) 12 <|
  m_bnd (m_st c 12 (m_ix ((6 : Int32) + v2)) v4) fun c1 =>
  if v3 = (0 : Int32) then
    some (v5, c1)
  else
    some (v6, c1)
def X10_send_j93 (rc48 : Int32 → Int32 → Int32 → Mm → Option (Int32 × Mm)) (v1 : Int32) (v2 : Int32) (v3 : Int32) (v4 : Int32) (v5 : Int32) (v6 : Int32) (v7 : Int32) (c : Mm) : Option (Int32 × Mm) :=
  m_bnd (v7 + (1 : Int32)) fun x2 =>
  rc48 v5 v6 x2 c
def X10_send_j85 (rc48 : Int32 → Int32 → Int32 → Mm → Option (Int32 × Mm)) (v1 : Int32) (v2 : Int32) (v3 : Int32) (v4 : Int32) (v7 : Int32) (v8 : Int32) (c : Mm) : Option (Int32 × Mm) :=
  X10_send_j93 rc48 v1 v2 v3 v4 v7 v8 v7 c
def X10_send_b48 (v1 : Int32) (v2 : Int32) (v3 : Int32) (v4 : Int32) (rc48 : Int32 → Int32 → Int32 → Mm → Option (Int32 × Mm)) (v5 : Int32) (v6 : Int32) (v7 : Int32) (c : Mm) : Option (Int32 × Mm) :=
  if (30 : Int32) < v7 then
    X10_send_j99 v2 v3 v4 v5 v6 c
  else
    m_gi ((6 : Int32) + v2) 12 <|
    m_bnd (m_st c 12 (m_ix ((6 : Int32) + v2)) v7) fun c3 =>
    m_cal (X10_goDay v1 c3) fun r4 c5 =>
    if v5 < (0 : Int32) then
      X10_send_j85 rc48 v1 v2 v3 v4 v7 r4 c5
    else
      if v6 ≤ r4 then
        X10_send_j93 rc48 v1 v2 v3 v4 v5 v6 v7 c5
      else
        X10_send_j85 rc48 v1 v2 v3 v4 v7 r4 c5
def X10_send (v1 : Int32) (v2 : Int32) (v3 : Int32) (c : Mm) : Option (Int32 × Mm) :=
  m_cal (X10_isRule v1 c) fun r6 c7 =>
  if r6 = (0 : Int32) then
    some ((-1 : Int32), c7)
  else
    m_cal (X10_isBoat v2 c7) fun r8 c9 =>
    if r8 = (0 : Int32) then
      some ((-1 : Int32), c9)
    else
      m_cal (X10_in (Int32.toInt64 v3) (0 : Int64) (1 : Int64) c9) fun r10 c11 =>
      if r10 = (0 : Int32) then
        some ((-1 : Int32), c11)
      else
        m_gi ((6 : Int32) + v2) 12 <|
        m_bnd (c11 12 (m_ix ((6 : Int32) + v2))) fun x12 =>
        m_lp3 (X10_send_b48 v1 v2 v3 x12) 1000 (-4 : Int32) (0 : Int32) (0 : Int32) c11

def X10_change (v1 : Int32) (v2 : Int32) (c : Mm) : Option (Mm) :=
  m_gi v1 12 <|
  m_bnd (c 12 (m_ix v1)) fun x1 =>
  m_gi v2 12 <|
  m_gi v1 12 <|
  m_bnd (m_st c 12 (m_ix v1) (c 12 (m_ix v2))) fun c2 =>
  m_gi v2 12 <|
  m_bnd (m_st c2 12 (m_ix v2) x1) fun c3 =>
  some c3

def X10_swap_j139 (v3 : Int32) (c : Mm) : Option (Int32 × Mm) :=
  some (v3, c)
def X10_swap_j131 (v2 : Int32) (v3 : Int32) (v4 : Int32) (c : Mm) : Option (Int32 × Mm) :=
  if v3 < (0 : Int32) then
    X10_swap_j139 v3 c
  else
    if v2 = (0 : Int32) then
      X10_swap_j139 v3 c
    else
      some (v4, c)
def X10_swap_j125 (rc32 : Int32 → Int32 → Int32 → Mm → Option (Int32 × Mm)) (v1 : Int32) (v2 : Int32) (v3 : Int32) (v4 : Int32) (v5 : Int32) (c : Mm) : Option (Int32 × Mm) :=
  m_bnd (v5 + (1 : Int32)) fun x1 =>
  rc32 v3 v4 x1 c
def X10_swap_j117 (rc32 : Int32 → Int32 → Int32 → Mm → Option (Int32 × Mm)) (rc49 : Int32 → Int32 → Int32 → Mm → Option (Int32 × Mm)) (v1 : Int32) (v2 : Int32) (v3 : Int32) (v5 : Int32) (v6 : Int32) (s0 : Int32) (c : Mm) : Option (Int32 × Mm) :=
  m_bnd (v6 + (1 : Int32)) fun x2 =>
  rc49 v3 s0 x2 c
def X10_swap_j102 (rc32 : Int32 → Int32 → Int32 → Mm → Option (Int32 × Mm)) (rc49 : Int32 → Int32 → Int32 → Mm → Option (Int32 × Mm)) (v1 : Int32) (v2 : Int32) (v4 : Int32) (v5 : Int32) (v6 : Int32) (v7 : Int32) (s0 : Int32) (c : Mm) : Option (Int32 × Mm) :=
  if v4 ≤ v7 then
    X10_swap_j117 rc32 rc49 v1 v2 s0 v5 v6 v4 c
  else
    X10_swap_j117 rc32 rc49 v1 v2 s0 v5 v6 v7 c
def X10_swap_b49 (rc32 : Int32 → Int32 → Int32 → Mm → Option (Int32 × Mm)) (v1 : Int32) (v2 : Int32) (v5 : Int32) (rc49 : Int32 → Int32 → Int32 → Mm → Option (Int32 × Mm)) (v3 : Int32) (v4 : Int32) (v6 : Int32) (c : Mm) : Option (Int32 × Mm) :=
  if (c 2 0) ≤ v6 then
    X10_swap_j125 rc32 v1 v2 v3 v4 v5 c
  else
    m_cav (X10_change v5 v6 c) fun c3 =>
    m_cal (X10_goDay v1 c3) fun r4 c5 =>
    m_cav (X10_change v5 v6 c5) fun c6 =>
    if v4 ≤ r4 then
      X10_swap_j102 rc32 rc49 v1 v2 v4 v5 v6 r4 v3 c6
    else
      X10_swap_j102 rc32 rc49 v1 v2 v4 v5 v6 r4 (((8 : Int32) * v5) + v6) c6
def X10_swap_b32 (v1 : Int32) (v2 : Int32) (rc32 : Int32 → Int32 → Int32 → Mm → Option (Int32 × Mm)) (v3 : Int32) (v4 : Int32) (v5 : Int32) (c : Mm) : Option (Int32 × Mm) :=
  if (c 2 0) ≤ v5 then
    X10_swap_j131 v2 v3 v4 c
  else
    m_bnd (v5 + (1 : Int32)) fun x7 =>
    m_lp3 (X10_swap_b49 rc32 v1 v2 v5) 1000 v3 v4 x7 c
def X10_swap (v1 : Int32) (v2 : Int32) (c : Mm) : Option (Int32 × Mm) :=
  m_cal (X10_isRule v1 c) fun r8 c9 =>
  if r8 = (0 : Int32) then
    some ((-1 : Int32), c9)
  else
    m_cal (X10_in (Int32.toInt64 v2) (0 : Int64) (1 : Int64) c9) fun r10 c11 =>
    if r10 = (0 : Int32) then
      some ((-1 : Int32), c11)
    else
      m_cal (X10_goDay v1 c11) fun r12 c13 =>
      m_lp3 (X10_swap_b32 v1 v2) 1000 (-4 : Int32) r12 (0 : Int32) c13

def X10_sinksIn (v1 : Int32) (c : Mm) : Option (Int32 × Mm) :=
  m_gi v1 12 <|
  m_gz (c 11 2) <|
  some (((c 12 (m_ix v1)) + (c 11 2)) / (c 11 2), c)

def X10_fall (v1 : Int32) (v2 : Int32) (v3 : Int32) (c : Mm) : Option (Int32 × Mm) :=
  m_cal (X10_areTwo v1 v2 c) fun r1 c2 =>
  if r1 = (0 : Int32) then
    some ((-1 : Int32), c2)
  else
    m_cal (X10_in (Int32.toInt64 v3) (0 : Int64) (1 : Int64) c2) fun r3 c4 =>
    if r3 = (0 : Int32) then
      some ((-1 : Int32), c4)
    else
      m_cal (X10_sinksIn v2 c4) fun r5 c6 =>
      if r5 ≤ (c6 11 3) then
        if v3 = (0 : Int32) then
          m_cal (X10_sinksIn v2 c6) fun r7 c8 =>
          some (r7, c8)
        else
          some (c6 11 3, c6)
      else
        some ((-4 : Int32), c6)

def X10_common_b4 (rc4 : Int32 → Int32 → Mm → Option (Int32 × Mm)) (v2 : Int32) (v3 : Int32) (c : Mm) : Option (Int32 × Mm) :=
  if v3 = (0 : Int32) then
    some (v2, c)
  else
    m_gz (v3) <|
    m_bnd (v2 - v2 / v3 * v3) fun x1 =>
    rc4 v3 x1 c
def X10_common (v0 : Int32) (v1 : Int32) (c : Mm) : Option (Int32 × Mm) :=
  m_lp2 (X10_common_b4) 1000 v0 v1 c

def X10_caught_j168 (v4 : Int32) (v5 : Int32) (v6 : Int32) (c : Mm) : Option (Int32 × Mm) :=
  m_cal (X10_common v5 v6 c) fun r1 c2 =>
  if v4 = (0 : Int32) then
    m_gz (r1) <|
    some (v5 / r1, c2)
  else
    m_gz (r1) <|
    some (v6 / r1, c2)
def X10_caught_b149 (v2 : Int32) (v4 : Int32) (v5 : Int32) (rc149 : Int32 → Int32 → Mm → Option (Int32 × Mm)) (v6 : Int32) (v7 : Int32) (c : Mm) : Option (Int32 × Mm) :=
  if v2 ≤ v7 then
    X10_caught_j168 v4 v5 v6 c
  else
    m_bnd (v6 * (10 : Int32)) fun x3 =>
    m_bnd (v7 + (1 : Int32)) fun x4 =>
    rc149 x3 x4 c
def X10_caught_j146 (v2 : Int32) (v4 : Int32) (v5 : Int32) (v6 : Int32) (c : Mm) : Option (Int32 × Mm) :=
  m_lp2 (X10_caught_b149 v2 v4 v5) 1000 v6 (0 : Int32) c
def X10_caught_j137 (rc54 : Int32 → Int32 → Mm → Option (Int32 × Mm)) (v1 : Int32) (v2 : Int32) (v3 : Int32) (v4 : Int32) (v6 : Int32) (v7 : Int32) (s0 : Int32) (s1 : Int32) (c : Mm) : Option (Int32 × Mm) :=
  m_bnd (s0 + s1) fun x5 =>
  m_bnd (v7 + (1 : Int32)) fun x6 =>
  rc54 x5 x6 c
def X10_caught_j119 (rc54 : Int32 → Int32 → Mm → Option (Int32 × Mm)) (v1 : Int32) (v2 : Int32) (v3 : Int32) (v4 : Int32) (v5 : Int32) (v6 : Int32) (v7 : Int32) (v8 : Int32) (v9 : Int32) (c : Mm) : Option (Int32 × Mm) :=
  m_cal (X10_sinksIn v1 c) fun r7 c8 =>
  if r7 ≤ v8 then
    X10_caught_j137 rc54 v1 v2 v3 v4 v6 v7 v5 (0 : Int32) c8
  else
    X10_caught_j137 rc54 v1 v2 v3 v4 v6 v7 v5 v9 c8
def X10_caught_j110 (rc54 : Int32 → Int32 → Mm → Option (Int32 × Mm)) (rc71 : Int32 → Int32 → Int32 → Mm → Option (Int32 × Mm)) (v1 : Int32) (v2 : Int32) (v3 : Int32) (v4 : Int32) (v5 : Int32) (v6 : Int32) (v7 : Int32) (v8 : Int32) (v10 : Int32) (s0 : Int32) (s1 : Int32) (c : Mm) : Option (Int32 × Mm) :=
  m_bnd (s0 * s1) fun x9 =>
  m_bnd (v10 + (1 : Int32)) fun x10 =>
  rc71 v8 x9 x10 c
def X10_caught_b71 (rc54 : Int32 → Int32 → Mm → Option (Int32 × Mm)) (v1 : Int32) (v2 : Int32) (v3 : Int32) (v4 : Int32) (v5 : Int32) (v6 : Int32) (v7 : Int32) (rc71 : Int32 → Int32 → Int32 → Mm → Option (Int32 × Mm)) (v8 : Int32) (v9 : Int32) (v10 : Int32) (c : Mm) : Option (Int32 × Mm) :=
  if v2 ≤ v10 then
    X10_caught_j119 rc54 v1 v2 v3 v4 v5 v6 v7 v8 v9 c
  else
    m_bnd (v8 + ((v7 >>> (v10 &&& (31 : Int32))) &&& (1 : Int32))) fun x11 =>
    if ((v7 >>> (v10 &&& (31 : Int32))) &&& (1 : Int32)) = (1 : Int32) then
      X10_caught_j110 rc54 rc71 v1 v2 v3 v4 v5 v6 v7 x11 v10 v9 v3 c
    else
      X10_caught_j110 rc54 rc71 v1 v2 v3 v4 v5 v6 v7 x11 v10 v9 ((10 : Int32) - v3) c
def X10_caught_b54 (v1 : Int32) (v2 : Int32) (v3 : Int32) (v4 : Int32) (v6 : Int32) (rc54 : Int32 → Int32 → Mm → Option (Int32 × Mm)) (v5 : Int32) (v7 : Int32) (c : Mm) : Option (Int32 × Mm) :=
  if ((1 : Int32) <<< (v2 &&& (31 : Int32))) ≤ v7 then
    X10_caught_j146 v2 v4 v5 v6 c
  else
    m_lp3 (X10_caught_b71 rc54 v1 v2 v3 v4 v5 v6 v7) 1000 (0 : Int32) (1 : Int32) (0 : Int32) c
def X10_caught (v1 : Int32) (v2 : Int32) (v3 : Int32) (v4 : Int32) (c : Mm) : Option (Int32 × Mm) :=
  m_cal (X10_isBoat v1 c) fun r12 c13 =>
  if r12 = (0 : Int32) then
    some ((-1 : Int32), c13)
  else
    m_cal (X10_in (Int32.toInt64 v2) (0 : Int64) (6 : Int64) c13) fun r14 c15 =>
    if r14 = (0 : Int32) then
      some ((-1 : Int32), c15)
    else
      m_cal (X10_in (Int32.toInt64 v3) (0 : Int64) (10 : Int64) c15) fun r16 c17 =>
      if r16 = (0 : Int32) then
        some ((-1 : Int32), c17)
      else
        m_cal (X10_in (Int32.toInt64 v4) (0 : Int64) (1 : Int64) c17) fun r18 c19 =>
        if r18 = (0 : Int32) then
          some ((-1 : Int32), c19)
        else
          m_lp2 (X10_caught_b54 v1 v2 v3 v4 (1 : Int32)) 1000 (0 : Int32) (0 : Int32) c19

def X10_standsBy (v1 : Int32) (v2 : Int32) (v3 : Int32) (c : Mm) : Option (Int32 × Mm) :=
  if v2 = (0 : Int32) then
    if v3 = (0 : Int32) then
      some (c 11 1, c)
    else
      some ((0 : Int32), c)
  else
    m_gi v1 12 <|
    some ((c 11 0) + (c 12 (m_ix v1)), c)

def X10_rests_j169 (v3 : Int32) (v4 : Int32) (v5 : Int32) (c : Mm) : Option (Int32 × Mm) :=
  if v3 = (0 : Int32) then
    some (v4, c)
  else
    some (v5, c)
def X10_rests_j160 (rc31 : Int32 → Int32 → Int32 → Mm → Option (Int32 × Mm)) (v1 : Int32) (v2 : Int32) (v3 : Int32) (v5 : Int32) (v6 : Int32) (s0 : Int32) (s1 : Int32) (c : Mm) : Option (Int32 × Mm) :=
  m_bnd (s0 + s1) fun x1 =>
  m_bnd (v6 + (1 : Int32)) fun x2 =>
  rc31 x1 v5 x2 c
def X10_rests_j146 (rc31 : Int32 → Int32 → Int32 → Mm → Option (Int32 × Mm)) (v1 : Int32) (v2 : Int32) (v3 : Int32) (v4 : Int32) (v6 : Int32) (v9 : Int32) (s0 : Int32) (c : Mm) : Option (Int32 × Mm) :=
  if v9 = (0 : Int32) then
    X10_rests_j160 rc31 v1 v2 v3 s0 v6 v4 (0 : Int32) c
  else
    X10_rests_j160 rc31 v1 v2 v3 s0 v6 v4 (1 : Int32) c
def X10_rests_j144 (rc31 : Int32 → Int32 → Int32 → Mm → Option (Int32 × Mm)) (v1 : Int32) (v2 : Int32) (v3 : Int32) (v4 : Int32) (v5 : Int32) (v6 : Int32) (v9 : Int32) (c : Mm) : Option (Int32 × Mm) :=
  X10_rests_j146 rc31 v1 v2 v3 v4 v6 v9 v5 c
def X10_rests_j127 (rc31 : Int32 → Int32 → Int32 → Mm → Option (Int32 × Mm)) (v1 : Int32) (v2 : Int32) (v3 : Int32) (v4 : Int32) (v5 : Int32) (v6 : Int32) (s0 : Int32) (c : Mm) : Option (Int32 × Mm) :=
  if s0 = (0 : Int32) then
    X10_rests_j144 rc31 v1 v2 v3 v4 v5 v6 s0 c
  else
    if v4 = (0 : Int32) then
      X10_rests_j146 rc31 v1 v2 v3 v4 v6 s0 v6 c
    else
      X10_rests_j144 rc31 v1 v2 v3 v4 v5 v6 s0 c
def X10_rests_j126 (rc31 : Int32 → Int32 → Int32 → Mm → Option (Int32 × Mm)) (v1 : Int32) (v2 : Int32) (v3 : Int32) (v4 : Int32) (v5 : Int32) (v6 : Int32) (c : Mm) : Option (Int32 × Mm) :=
  X10_rests_j127 rc31 v1 v2 v3 v4 v5 v6 (0 : Int32) c
def X10_rests_j105 (rc31 : Int32 → Int32 → Int32 → Mm → Option (Int32 × Mm)) (v1 : Int32) (v2 : Int32) (v3 : Int32) (v4 : Int32) (v5 : Int32) (v6 : Int32) (v7 : Int32) (v8 : Int32) (s1 : Int32) (s2 : Int32) (c : Mm) : Option (Int32 × Mm) :=
  m_cal (X10_standsBy s1 s2 v7 c) fun r3 c4 =>
  m_cal (X10_standsBy v2 v8 v7 c4) fun r5 c6 =>
  if r3 < r5 then
    X10_rests_j126 rc31 v1 v2 v3 v4 v5 v6 c6
  else
    X10_rests_j127 rc31 v1 v2 v3 v4 v5 v6 (1 : Int32) c6
def X10_rests_j76 (rc31 : Int32 → Int32 → Int32 → Mm → Option (Int32 × Mm)) (v1 : Int32) (v2 : Int32) (v3 : Int32) (v4 : Int32) (v5 : Int32) (v6 : Int32) (v7 : Int32) (v8 : Int32) (s1 : Int32) (s2 : Int32) (c : Mm) : Option (Int32 × Mm) :=
  m_cal (X10_standsBy s1 s2 v8 c) fun r7 c8 =>
  m_cal (X10_standsBy v1 v7 v8 c8) fun r9 c10 =>
  if r7 < r9 then
    X10_rests_j126 rc31 v1 v2 v3 v4 v5 v6 c10
  else
    if v8 = (0 : Int32) then
      X10_rests_j105 rc31 v1 v2 v3 v4 v5 v6 v7 v8 v2 (1 : Int32) c10
    else
      X10_rests_j105 rc31 v1 v2 v3 v4 v5 v6 v7 v8 v2 (0 : Int32) c10
def X10_rests_j62 (rc31 : Int32 → Int32 → Int32 → Mm → Option (Int32 × Mm)) (v1 : Int32) (v2 : Int32) (v3 : Int32) (v4 : Int32) (v5 : Int32) (v6 : Int32) (v7 : Int32) (s0 : Int32) (c : Mm) : Option (Int32 × Mm) :=
  if v7 = (0 : Int32) then
    X10_rests_j76 rc31 v1 v2 v3 v4 v5 v6 v7 s0 v1 (1 : Int32) c
  else
    X10_rests_j76 rc31 v1 v2 v3 v4 v5 v6 v7 s0 v1 (0 : Int32) c
def X10_rests_j48 (rc31 : Int32 → Int32 → Int32 → Mm → Option (Int32 × Mm)) (v1 : Int32) (v2 : Int32) (v3 : Int32) (v4 : Int32) (v5 : Int32) (v6 : Int32) (s0 : Int32) (c : Mm) : Option (Int32 × Mm) :=
  if (v6 - v6 / (2 : Int32) * (2 : Int32)) = (0 : Int32) then
    X10_rests_j62 rc31 v1 v2 v3 v4 v5 v6 s0 (1 : Int32) c
  else
    X10_rests_j62 rc31 v1 v2 v3 v4 v5 v6 s0 (0 : Int32) c
def X10_rests_b31 (v1 : Int32) (v2 : Int32) (v3 : Int32) (rc31 : Int32 → Int32 → Int32 → Mm → Option (Int32 × Mm)) (v4 : Int32) (v5 : Int32) (v6 : Int32) (c : Mm) : Option (Int32 × Mm) :=
  if (4 : Int32) ≤ v6 then
    X10_rests_j169 v3 v4 v5 c
  else
    if (2 : Int32) ≤ v6 then
      X10_rests_j48 rc31 v1 v2 v3 v4 v5 v6 (0 : Int32) c
    else
      X10_rests_j48 rc31 v1 v2 v3 v4 v5 v6 (1 : Int32) c
def X10_rests (v1 : Int32) (v2 : Int32) (v3 : Int32) (c : Mm) : Option (Int32 × Mm) :=
  m_cal (X10_areTwo v1 v2 c) fun r11 c12 =>
  if r11 = (0 : Int32) then
    some ((-1 : Int32), c12)
  else
    m_cal (X10_in (Int32.toInt64 v3) (0 : Int64) (1 : Int64) c12) fun r13 c14 =>
    if r13 = (0 : Int32) then
      some ((-1 : Int32), c14)
    else
      m_lp3 (X10_rests_b31 v1 v2 v3) 1000 (0 : Int32) (-4 : Int32) (0 : Int32) c14

def X10_seen (v1 : Int32) (v2 : Int32) (c : Mm) : Option (Int32 × Mm) :=
  m_cal (X10_areTwo v1 v2 c) fun r1 c2 =>
  if r1 = (0 : Int32) then
    some ((-1 : Int32), c2)
  else
    m_gi v1 12 <|
    m_gi v2 12 <|
    if (c2 4 (m_ix v1)) = (c2 4 (m_ix v2)) then
      some ((-2 : Int32), c2)
    else
      if (c2 0 17) = (8 : Int32) then
        some ((-3 : Int32), c2)
      else
        m_gi (c2 0 17) 8 <|
        m_bnd (m_st c2 15 (m_ix (c2 0 17)) v1) fun c3 =>
        m_gi (c3 0 17) 8 <|
        m_bnd (m_st c3 16 (m_ix (c3 0 17)) v2) fun c4 =>
        m_bnd (m_st c4 0 17 ((c4 0 17) + (1 : Int32))) fun c5 =>
        some (c5 0 17, c5)

def X10_forget (c : Mm) : Option (Int32 × Mm) :=
  m_bnd (c 0 17) fun x1 =>
  m_bnd (m_st c 0 17 (0 : Int32)) fun c2 =>
  some (x1, c2)

def X10_fits_j80 (rc4 : Int32 → Int32 → Mm → Option (Int32 × Mm)) (v2 : Int32) (s0 : Int32) (s1 : Int32) (c : Mm) : Option (Int32 × Mm) :=
  m_bnd (s0 ||| s1) fun x1 =>
  m_bnd (v2 + (1 : Int32)) fun x2 =>
  rc4 x1 x2 c
def X10_fits_j68 (rc4 : Int32 → Int32 → Mm → Option (Int32 × Mm)) (v1 : Int32) (v2 : Int32) (v3 : Int32) (c : Mm) : Option (Int32 × Mm) :=
  if v3 = (0 : Int32) then
    X10_fits_j80 rc4 v2 v1 (0 : Int32) c
  else
    X10_fits_j80 rc4 v2 v1 ((1 : Int32) <<< (v2 &&& (31 : Int32))) c
def X10_fits_j61 (rc4 : Int32 → Int32 → Mm → Option (Int32 × Mm)) (rc14 : Int32 → Int32 → Mm → Option (Int32 × Mm)) (v1 : Int32) (v2 : Int32) (v4 : Int32) (s0 : Int32) (c : Mm) : Option (Int32 × Mm) :=
  m_bnd (v4 + (1 : Int32)) fun x3 =>
  rc14 s0 x3 c
def X10_fits_j60 (rc4 : Int32 → Int32 → Mm → Option (Int32 × Mm)) (rc14 : Int32 → Int32 → Mm → Option (Int32 × Mm)) (v1 : Int32) (v2 : Int32) (v4 : Int32) (c : Mm) : Option (Int32 × Mm) :=
  X10_fits_j61 rc4 rc14 v1 v2 v4 (0 : Int32) c
def X10_fits_b14 (rc4 : Int32 → Int32 → Mm → Option (Int32 × Mm)) (v1 : Int32) (v2 : Int32) (rc14 : Int32 → Int32 → Mm → Option (Int32 × Mm)) (v3 : Int32) (v4 : Int32) (c : Mm) : Option (Int32 × Mm) :=
  if (c 0 17) ≤ v4 then
    X10_fits_j68 rc4 v1 v2 v3 c
  else
    if v3 = (0 : Int32) then
      X10_fits_j60 rc4 rc14 v1 v2 v4 c
    else
      m_gi v4 8 <|
      m_gi v4 8 <|
      m_cal (X10_yielder v2 (c 15 (m_ix v4)) (c 16 (m_ix v4)) c) fun r4 c5 =>
      m_gi v4 8 <|
      if r4 = (c5 15 (m_ix v4)) then
        X10_fits_j61 rc4 rc14 v1 v2 v4 (1 : Int32) c5
      else
        X10_fits_j60 rc4 rc14 v1 v2 v4 c5
def X10_fits_b4 (rc4 : Int32 → Int32 → Mm → Option (Int32 × Mm)) (v1 : Int32) (v2 : Int32) (c : Mm) : Option (Int32 × Mm) :=
  if (4 : Int32) ≤ v2 then
    some (v1, c)
  else
    m_lp2 (X10_fits_b14 rc4 v1 v2) 1000 (1 : Int32) (0 : Int32) c
def X10_fits (c : Mm) : Option (Int32 × Mm) :=
  m_lp2 (X10_fits_b4) 1000 (0 : Int32) (0 : Int32) c

def X10_starts (v1 : Int32) (v2 : Int32) (c : Mm) : Option (Int32 × Mm) :=
  m_cal (X10_isRule v1 c) fun r1 c2 =>
  if r1 = (0 : Int32) then
    some ((-1 : Int32), c2)
  else
    m_cal (X10_isBoat v2 c2) fun r3 c4 =>
    if r3 = (0 : Int32) then
      some ((-1 : Int32), c4)
    else
      m_cal (X10_goDay v1 c4) fun r5 c6 =>
      m_gi v2 6 <|
      some (c6 23 (m_ix v2), c6)

def X10_bears_j63 (rc32 : Int32 → Int32 → Mm → Option (Int32 × Mm)) (v2 : Int32) (v4 : Int32) (s0 : Int32) (s1 : Int32) (c : Mm) : Option (Int32 × Mm) :=
  m_bnd (s0 ||| s1) fun x1 =>
  m_bnd (v4 + (1 : Int32)) fun x2 =>
  rc32 x1 x2 c
def X10_bears_b32 (v2 : Int32) (rc32 : Int32 → Int32 → Mm → Option (Int32 × Mm)) (v3 : Int32) (v4 : Int32) (c : Mm) : Option (Int32 × Mm) :=
  if (c 2 0) ≤ v4 then
    some (v3, c)
  else
    m_gi v4 6 <|
    if v2 < (c 23 (m_ix v4)) then
      X10_bears_j63 rc32 v2 v4 v3 (0 : Int32) c
    else
      X10_bears_j63 rc32 v2 v4 v3 ((1 : Int32) <<< (v4 &&& (31 : Int32))) c
def X10_bears (v1 : Int32) (v2 : Int32) (c : Mm) : Option (Int32 × Mm) :=
  m_cal (X10_isRule v1 c) fun r3 c4 =>
  if r3 = (0 : Int32) then
    some ((-1 : Int32), c4)
  else
    m_cal (X10_in (Int32.toInt64 v2) (0 : Int64) (9 : Int64) c4) fun r5 c6 =>
    if r5 = (0 : Int32) then
      some ((-1 : Int32), c6)
    else
      m_cal (X10_goDay v1 c6) fun r7 c8 =>
      m_lp2 (X10_bears_b32 v2) 1000 (0 : Int32) (0 : Int32) c8

def X10_day_j174 (v3 : Int32) (v4 : Int32) (c : Mm) : Option (Int32 × Mm) :=
  if v3 = (0 : Int32) then
    some (v4, c)
  else
    some (c 0 28, c)
def X10_day_b147 (v3 : Int32) (v4 : Int32) (rc147 : Int32 → Mm → Option (Int32 × Mm)) (v5 : Int32) (c : Mm) : Option (Int32 × Mm) :=
  if (12 : Int32) ≤ v5 then
    X10_day_j174 v3 v4 c
  else
    m_gi v5 12 <|
    m_gi v5 12 <|
    m_bnd (m_st c 12 (m_ix v5) (c 28 (m_ix v5))) fun c1 =>
    m_bnd (v5 + (1 : Int32)) fun x2 =>
    rc147 x2 c1
def X10_day_j137 (v1 : Int32) (v3 : Int32) (c : Mm) : Option (Int32 × Mm) :=
  m_cal (X10_goDay v1 c) fun r3 c4 =>
  m_lp1 (X10_day_b147 v3 r3) 1000 (0 : Int32) c4
def X10_day_b64 (v1 : Int32) (v2 : Int32) (v3 : Int32) (rc64 : Int32 → Mm → Option (Int32 × Mm)) (v4 : Int32) (c : Mm) : Option (Int32 × Mm) :=
  if (6 : Int32) ≤ v4 then
    X10_day_j137 v1 v3 c
  else
    m_bnd ((((7919 : Int64) * (Int32.toInt64 v2)) + ((6151 : Int64) * (Int32.toInt64 v4))) + (1 : Int64)) fun x5 =>
    m_bnd (Int64.toInt32 ((x5 * x5) - (x5 * x5) / (65521 : Int64) * (65521 : Int64))) fun x6 =>
    m_gi v4 12 <|
    m_bnd (m_st c 12 (m_ix v4) ((x6 / (64 : Int32)) - (x6 / (64 : Int32)) / (10 : Int32) * (10 : Int32))) fun c7 =>
    m_gi ((6 : Int32) + v4) 12 <|
    m_bnd (m_st c7 12 (m_ix ((6 : Int32) + v4)) (x6 - x6 / (31 : Int32) * (31 : Int32))) fun c8 =>
    m_bnd (v4 + (1 : Int32)) fun x9 =>
    rc64 x9 c8
def X10_day_j61 (v1 : Int32) (v2 : Int32) (v3 : Int32) (c : Mm) : Option (Int32 × Mm) :=
  m_lp1 (X10_day_b64 v1 v2 v3) 1000 (0 : Int32) c
def X10_day_b34 (v1 : Int32) (v2 : Int32) (v3 : Int32) (rc34 : Int32 → Mm → Option (Int32 × Mm)) (v4 : Int32) (c : Mm) : Option (Int32 × Mm) :=
  if (12 : Int32) ≤ v4 then
    X10_day_j61 v1 v2 v3 c
  else
    m_gi v4 12 <|
    m_gi v4 12 <|
    m_bnd (m_st c 28 (m_ix v4) (c 12 (m_ix v4))) fun c10 =>
    m_bnd (v4 + (1 : Int32)) fun x11 =>
    rc34 x11 c10
def X10_day (v1 : Int32) (v2 : Int32) (v3 : Int32) (c : Mm) : Option (Int32 × Mm) :=
  m_cal (X10_isRule v1 c) fun r12 c13 =>
  if r12 = (0 : Int32) then
    some ((-1 : Int32), c13)
  else
    m_cal (X10_in (Int32.toInt64 v2) (0 : Int64) (9999 : Int64) c13) fun r14 c15 =>
    if r14 = (0 : Int32) then
      some ((-1 : Int32), c15)
    else
      m_cal (X10_in (Int32.toInt64 v3) (0 : Int64) (1 : Int64) c15) fun r16 c17 =>
      if r16 = (0 : Int32) then
        some ((-1 : Int32), c17)
      else
        m_lp1 (X10_day_b34 v1 v2 v3) 1000 (0 : Int32) c17

def X10_keep_j45 (c : Mm) : Option (Int32 × Mm) :=
  m_bnd (m_st c 0 16 ((c 0 16) + (1 : Int32))) fun c1 =>
  some (c1 0 16, c1)
def X10_keep_b13 (rc13 : Int32 → Mm → Option (Int32 × Mm)) (v1 : Int32) (c : Mm) : Option (Int32 × Mm) :=
  if (12 : Int32) ≤ v1 then
    X10_keep_j45 c
  else
    m_gi v1 12 <|
    m_gi (((12 : Int32) * (c 0 16)) + v1) 24 <|
    m_bnd (m_st c 14 (m_ix (((12 : Int32) * (c 0 16)) + v1)) (c 12 (m_ix v1))) fun c2 =>
    m_bnd (v1 + (1 : Int32)) fun x3 =>
    rc13 x3 c2
def X10_keep (c : Mm) : Option (Int32 × Mm) :=
  if (c 0 16) = (2 : Int32) then
    some ((-3 : Int32), c)
  else
    m_lp1 (X10_keep_b13) 1000 (0 : Int32) c

def X10_back_j54 (c : Mm) : Option (Int32 × Mm) :=
  m_bnd (m_st c 0 14 (0 : Int32)) fun c1 =>
  some (c1 0 16, c1)
def X10_back_b22 (rc22 : Int32 → Mm → Option (Int32 × Mm)) (v1 : Int32) (c : Mm) : Option (Int32 × Mm) :=
  if (12 : Int32) ≤ v1 then
    X10_back_j54 c
  else
    m_gi (((12 : Int32) * (c 0 16)) + v1) 24 <|
    m_gi v1 12 <|
    m_bnd (m_st c 12 (m_ix v1) (c 14 (m_ix (((12 : Int32) * (c 0 16)) + v1)))) fun c2 =>
    m_bnd (v1 + (1 : Int32)) fun x3 =>
    rc22 x3 c2
def X10_back (c : Mm) : Option (Int32 × Mm) :=
  if (c 0 16) = (0 : Int32) then
    some ((-2 : Int32), c)
  else
    m_bnd (m_st c 0 16 ((c 0 16) - (1 : Int32))) fun c4 =>
    m_lp1 (X10_back_b22) 1000 (0 : Int32) c4

def X10_count (v1 : Int32) (c : Mm) : Option (Int32 × Mm) :=
  if v1 = (0 : Int32) then
    some (c 2 0, c)
  else
  if v1 = (1 : Int32) then
    some (c 8 0, c)
  else
  if v1 = (2 : Int32) then
    some (c 0 17, c)
  else
  if v1 = (3 : Int32) then
    some (c 0 14, c)
  else
  if v1 = (4 : Int32) then
    some (c 0 16, c)
  else
  if v1 = (5 : Int32) then
    some (c 0 0, c)
  else
    some ((-1 : Int32), c)
