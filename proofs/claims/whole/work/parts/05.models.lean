-- WallHands.within(III)Z
def f_x_within (a0 : Int32) (a1 : Int32) (a2 : Int32) : Option Int32 :=
  if a0 < a1 then
    some (0 : Int32)
  else
    if a2 < a0 then
      some (0 : Int32)
    else
      some (1 : Int32)

-- WallHands.isYear(I)Z
def f_x_isYear (a0 : Int32) : Option Int32 :=
  (f_x_within a0 (0 : Int32) (19 : Int32)).bind (fun o4 =>
  gd (isB o4) (
  some o4))

-- WallHands$Frosts.mayBe(II)Z
def f_fr_mayBe (a0 : Int32) (a1 : Int32) : Option Int32 :=
  (f_x_isYear a0).bind (fun o1 =>
  if o1 = 0 then
    some (0 : Int32)
  else
    (f_x_within a1 (1 : Int32) (15 : Int32)).bind (fun o11 =>
    if o11 = 0 then
      some (0 : Int32)
    else
      some (1 : Int32)))

-- WallHands$Frosts.add(II)V
def f_fr_add (v_told : Int32) (v_year : Nat → Int32) (v_force : Nat → Int32) (a0 : Int32) (a1 : Int32) : Option (Int32 × (Nat → Int32) × (Nat → Int32)) :=
  if (6 : Int32) ≤ v_told then
    some (v_told, v_year, v_force)
  else
    gd (inb v_told 6) (
    gd (inb v_told 6) (
    some (v_told + (1 : Int32), upd v_year v_told.toNatClampNeg a0, upd v_force v_told.toNatClampNeg a1)))

-- WallHands$Gappings.add(III)V
def f_gp_add (v_told : Int32) (v_year : Nat → Int32) (v_column : Nat → Int32) (v_hand : Nat → Int32) (a0 : Int32) (a1 : Int32) (a2 : Int32) : Option (Int32 × (Nat → Int32) × (Nat → Int32) × (Nat → Int32)) :=
  if (6 : Int32) < v_told then
    some (v_told, v_year, v_column, v_hand)
  else
    gd (inb v_told 7) (
    gd (inb v_told 7) (
    gd (inb v_told 7) (
    some (v_told + (1 : Int32), upd v_year v_told.toNatClampNeg a0, upd v_column v_told.toNatClampNeg a1, upd v_hand v_told.toNatClampNeg a2))))

-- WallHands$Hands.has(I)Z
def f_hs_has (v_told : Int32) (a0 : Int32) : Option Int32 :=
  (f_x_within a0 (0 : Int32) (v_told - (1 : Int32))).bind (fun o8 =>
  gd (isB o8) (
  some o8))

-- java/lang/String.isLatin1()Z
def f_js_isLatin1  : Option Int32 :=
  if (1 : Int32) = 0 then
    some (0 : Int32)
  else
    if (0 : Int32) = 0 then
      some (1 : Int32)
    else
      some (0 : Int32)

-- java/lang/String.coder()B
def f_js_coder  : Option Int32 :=
  if (1 : Int32) = 0 then
    some (1 : Int32)
  else
    some (0 : Int32)

-- java/lang/String.length()I
def f_js_length  : Option Int32 :=
  (f_js_coder).bind (fun o6 =>
  some ((4 : Int32) >>> (o6 &&& 31)))

-- java/lang/StringLatin1.canEncode(I)Z
def f_jt_canEncode (a0 : Int32) : Option Int32 :=
  if a0 < 0 then
    some (0 : Int32)
  else
    if (255 : Int32) < a0 then
      some (0 : Int32)
    else
      some (1 : Int32)

-- java/lang/StringLatin1.indexOfChar([BIII)I
def f_jt_indexOfChar_N7 (k7 : Int32 → Int32 → Int32 → Option Int32) (x3 : Int32) (x4 : Int32) (x5 : Int32) : Option Int32 :=
  if x3 ≤ x5 then
    some (-1 : Int32)
  else
    gd (inb x5 4) (
    if (ptlsB x5.toNatClampNeg) = x4 then
      some x5
    else
      k7 x3 x4 (x5 + (1 : Int32)))

def f_jt_indexOfChar (a1 : Int32) (a2 : Int32) (a3 : Int32) : Option Int32 :=
  iter (fun _ _ _ => none) (f_jt_indexOfChar_N7) 1000 a3 a1.toInt8.toInt32 a2

-- java/lang/StringLatin1.indexOf([BIII)I
def f_jt_indexOf (a1 : Int32) (a2 : Int32) (a3 : Int32) : Option Int32 :=
  (f_jt_canEncode a1).bind (fun o1 =>
  if o1 = 0 then
    some (-1 : Int32)
  else
    if (mmax a2 (0 : Int32)) < (mmin a3 (4 : Int32)) then
      (f_jt_indexOfChar a1 (mmax a2 (0 : Int32)) (mmin a3 (4 : Int32))).bind (fun o33 =>
      some o33)
    else
      some (-1 : Int32))

-- java/lang/String.indexOf(II)I
def f_js_indexOf2 (a0 : Int32) (a1 : Int32) : Option Int32 :=
  (f_js_isLatin1).bind (fun o1 =>
  if o1 = 0 then
    (f_js_length).bind (fun o30 =>
    none)
  else
    (f_js_length).bind (fun o14 =>
    (f_jt_indexOf a0 a1 o14).bind (fun o17 =>
    some o17)))

-- java/lang/String.indexOf(I)I
def f_js_indexOf (a0 : Int32) : Option Int32 :=
  (f_js_indexOf2 a0 (0 : Int32)).bind (fun o3 =>
  some o3)

-- WallHands$Hands.firstFault(LWallHands$Text;)I
def f_hs_firstFault_N70 (p0_length : Int32) (p0_bytes : Nat → Int32) (p0_bytes_n : Nat) (k2 : Int32 → Option Int32) (x1 : Int32) (y0 : Int32) : Option Int32 :=
  if y0 = 0 then
    some x1
  else
    k2 (x1 + (1 : Int32))

def f_hs_firstFault_N2 (p0_length : Int32) (p0_bytes : Nat → Int32) (p0_bytes_n : Nat) (k2 : Int32 → Option Int32) (x1 : Int32) : Option Int32 :=
  if p0_length ≤ x1 then
    if p0_length = 0 then
      some (-1 : Int32)
    else
      if (p0_length - p0_length / (3 : Int32) * (3 : Int32)) = (2 : Int32) then
        some (-1 : Int32)
      else
        some p0_length
  else
    gd (inb x1 p0_bytes_n) (
    if (x1 - x1 / (3 : Int32) * (3 : Int32)) = 0 then
      (f_js_indexOf (((p0_bytes x1.toNatClampNeg).toUInt32 % 65536).toInt32)).bind (fun o27 =>
      if o27 < 0 then
        f_hs_firstFault_N70 p0_length p0_bytes p0_bytes_n k2 x1 (0 : Int32)
      else
        f_hs_firstFault_N70 p0_length p0_bytes p0_bytes_n k2 x1 (1 : Int32))
    else
      if (x1 - x1 / (3 : Int32) * (3 : Int32)) = (1 : Int32) then
        (f_x_within (p0_bytes x1.toNatClampNeg) (49 : Int32) (57 : Int32)).bind (fun o53 =>
        f_hs_firstFault_N70 p0_length p0_bytes p0_bytes_n k2 x1 o53)
      else
        if (p0_bytes x1.toNatClampNeg) = (59 : Int32) then
          f_hs_firstFault_N70 p0_length p0_bytes p0_bytes_n k2 x1 (1 : Int32)
        else
          f_hs_firstFault_N70 p0_length p0_bytes p0_bytes_n k2 x1 (0 : Int32))

def f_hs_firstFault (p0_length : Int32) (p0_bytes : Nat → Int32) (p0_bytes_n : Nat) : Option Int32 :=
  iter (fun _ => none) (f_hs_firstFault_N2 p0_length p0_bytes p0_bytes_n) 1000 (0 : Int32)

-- WallHands$Hands.tell(LWallHands$Text;)V
def f_hs_tell_N34 (p0_length : Int32) (p0_bytes : Nat → Int32) (p0_bytes_n : Nat) (k34 : Int32 → Int32 → (Nat → Int32) → (Nat → Int32) → Int32 → Option (Int32 × Int32 × (Nat → Int32) × (Nat → Int32))) (v_told : Int32) (v_fault : Int32) (v_mood : Nat → Int32) (v_strong : Nat → Int32) (x2 : Int32) : Option (Int32 × Int32 × (Nat → Int32) × (Nat → Int32)) :=
  if v_told ≤ x2 then
    some (v_told, v_fault, v_mood, v_strong)
  else
    gd (inb ((3 : Int32) * x2) p0_bytes_n) (
    (f_js_indexOf (((p0_bytes ((3 : Int32) * x2).toNatClampNeg).toUInt32 % 65536).toInt32)).bind (fun o58 =>
    gd (inb x2 8) (
    gd (inb (((3 : Int32) * x2) + (1 : Int32)) p0_bytes_n) (
    gd (inb x2 8) (
    k34 v_told v_fault (upd v_mood x2.toNatClampNeg o58) (upd v_strong x2.toNatClampNeg ((p0_bytes (((3 : Int32) * x2) + (1 : Int32)).toNatClampNeg) - (48 : Int32))) (x2 + (1 : Int32)))))))

def f_hs_tell (v_told : Int32) (v_fault : Int32) (v_mood : Nat → Int32) (v_strong : Nat → Int32) (p0_length : Int32) (p0_bytes : Nat → Int32) (p0_bytes_n : Nat) : Option (Int32 × Int32 × (Nat → Int32) × (Nat → Int32)) :=
  (f_hs_firstFault p0_length p0_bytes p0_bytes_n).bind (fun o2 =>
  if o2 = (-1 : Int32) then
    iter (fun _ _ _ _ _ => none) (f_hs_tell_N34 p0_length p0_bytes p0_bytes_n) 1000 ((p0_length + (1 : Int32)) / (3 : Int32)) o2 v_mood v_strong (0 : Int32)
  else
    iter (fun _ _ _ _ _ => none) (f_hs_tell_N34 p0_length p0_bytes p0_bytes_n) 1000 (0 : Int32) o2 v_mood v_strong (0 : Int32))

-- WallHands$Sheet.findingAt(II)I
def f_sh_findingAt (v_form : Int32) (v_size : Int32) (a0 : Int32) (a1 : Int32) : Option Int32 :=
  if v_form = (-1 : Int32) then
    some (1 : Int32)
  else
    if v_form = a0 then
      (f_x_within a1 (0 : Int32) (v_size - (1 : Int32))).bind (fun o28 =>
      if o28 = 0 then
        some (2 : Int32)
      else
        some (0 : Int32))
    else
      some (3 : Int32)

-- WallHands$Sheet.hasItems(II)Z
def f_sh_hasItems (v_size : Int32) (a0 : Int32) (a1 : Int32) : Option Int32 :=
  (f_x_within a0 (0 : Int32) v_size).bind (fun o6 =>
  if o6 = 0 then
    some (0 : Int32)
  else
    (f_x_within a1 (0 : Int32) (v_size - a0)).bind (fun o20 =>
    if o20 = 0 then
      some (0 : Int32)
    else
      some (1 : Int32)))

-- WallHands$Sights.add(III)V
def f_sg_add (v_told : Int32) (v_year : Nat → Int32) (v_place : Nat → Int32) (v_setter : Nat → Int32) (a0 : Int32) (a1 : Int32) (a2 : Int32) : Option (Int32 × (Nat → Int32) × (Nat → Int32) × (Nat → Int32)) :=
  if (8 : Int32) ≤ v_told then
    some (v_told, v_year, v_place, v_setter)
  else
    gd (inb v_told 8) (
    gd (inb v_told 8) (
    gd (inb v_told 8) (
    some (v_told + (1 : Int32), upd v_year v_told.toNatClampNeg a0, upd v_place v_told.toNatClampNeg a1, upd v_setter v_told.toNatClampNeg a2))))

-- WallHands.isAt(JI)Z
def f_x_isAt (a0 : Int64) (a1 : Int32) : Option Int32 :=
  if (lg_cmp ((lushr a0 a1) &&& (1 : Int64)) (0 : Int64)) = 0 then
    some (0 : Int32)
  else
    some (1 : Int32)

-- WallHands.setterAt([JII)I
def f_x_setterAt_N2 (p0 : Nat → Int64) (p0_n : Nat) (k2 : Int32 → Int32 → Int32 → Option Int32) (x1 : Int32) (x2 : Int32) (x3 : Int32) : Option Int32 :=
  if (8 : Int32) ≤ x3 then
    some (-1 : Int32)
  else
    gd (inb (x1 + x3) p0_n) (
    (f_x_isAt (p0 (x1 + x3).toNatClampNeg) x2).bind (fun o14 =>
    if o14 = 0 then
      k2 x1 x2 (x3 + (1 : Int32))
    else
      some x3))

def f_x_setterAt (p0 : Nat → Int64) (p0_n : Nat) (a1 : Int32) (a2 : Int32) : Option Int32 :=
  iter (fun _ _ _ => none) (f_x_setterAt_N2 p0 p0_n) 1000 a1 a2 (0 : Int32)

-- WallHands$Years.setterBehind(II)I
def f_ys_setterBehind (v_stones : Nat → Int64) (a0 : Int32) (a1 : Int32) : Option Int32 :=
  (f_x_setterAt v_stones 160 ((8 : Int32) * a0) a1).bind (fun o9 =>
  some o9)

-- WallHands$Sights.comeOutIn(LWallHands$Years;)Z
def f_sg_comeOutIn_N2 (v_told : Int32) (v_year : Nat → Int32) (v_place : Nat → Int32) (v_setter : Nat → Int32) (p0_stones : Nat → Int64) (k2 : Int32 → Option Int32) (x2 : Int32) : Option Int32 :=
  if v_told ≤ x2 then
    some (1 : Int32)
  else
    gd (inb x2 8) (
    gd (inb x2 8) (
    (f_ys_setterBehind p0_stones (v_year x2.toNatClampNeg) (v_place x2.toNatClampNeg)).bind (fun o23 =>
    gd (inb x2 8) (
    if o23 = (v_setter x2.toNatClampNeg) then
      k2 (x2 + (1 : Int32))
    else
      some (0 : Int32)))))

def f_sg_comeOutIn (v_told : Int32) (v_year : Nat → Int32) (v_place : Nat → Int32) (v_setter : Nat → Int32) (p0_stones : Nat → Int64) : Option Int32 :=
  iter (fun _ => none) (f_sg_comeOutIn_N2 v_told v_year v_place v_setter p0_stones) 1000 (0 : Int32)

-- java/util/Arrays.fill([JJ)V
def f_ja_fill_j_N6 (p0_n : Nat) (k6 : (Nat → Int64) → Int64 → Int32 → Int32 → Option (Nat → Int64)) (p0 : Nat → Int64) (x1 : Int64) (x3 : Int32) (x4 : Int32) : Option (Nat → Int64) :=
  if x4 ≤ x3 then
    some p0
  else
    gd (inb x3 p0_n) (
    k6 (vp_updL p0 x3.toNatClampNeg x1) x1 (x3 + (1 : Int32)) x4)

def f_ja_fill_j (p0 : Nat → Int64) (p0_n : Nat) (a1 : Int64) : Option (Nat → Int64) :=
  iter (fun _ _ _ _ => none) (f_ja_fill_j_N6 p0_n) 1000 p0 a1 (0 : Int32) (Int32.ofNat p0_n)

-- WallHands$Wall.firstFault(LWallHands$Text;)I
def f_wl_firstFault_N13 (p0_length : Int32) (p0_bytes : Nat → Int32) (p0_bytes_n : Nat) (k13 : Int32 → Int32 → Int32 → Int32 → Int32 → Option Int32) (x1 : Int32) (x2 : Int32) (x3 : Int32) (x4 : Int32) (x5 : Int32) : Option Int32 :=
  if p0_length ≤ x5 then
    if p0_length ≤ 0 then
      some (-1 : Int32)
    else
      if x3 ≤ x2 then
        some (-1 : Int32)
      else
        some p0_length
  else
    gd (inb x5 p0_bytes_n) (
    if (p0_bytes x5.toNatClampNeg) = (59 : Int32) then
      if x3 ≤ x2 then
        k13 (x1 + (1 : Int32)) (0 : Int32) x2 x2 (x5 + (1 : Int32))
      else
        some x5
    else
      if x1 = (5 : Int32) then
        some x5
      else
        if x2 = x4 then
          some x5
        else
          if (p0_bytes x5.toNatClampNeg) = (46 : Int32) then
            k13 x1 (x2 + (1 : Int32)) x3 x4 (x5 + (1 : Int32))
          else
            (f_x_within (p0_bytes x5.toNatClampNeg) (97 : Int32) (104 : Int32)).bind (fun o83 =>
            if o83 = 0 then
              some x5
            else
              k13 x1 (x2 + (1 : Int32)) x3 x4 (x5 + (1 : Int32))))

def f_wl_firstFault (p0_length : Int32) (p0_bytes : Nat → Int32) (p0_bytes_n : Nat) : Option Int32 :=
  iter (fun _ _ _ _ _ => none) (f_wl_firstFault_N13 p0_length p0_bytes p0_bytes_n) 1000 (0 : Int32) (0 : Int32) (1 : Int32) (8 : Int32) (0 : Int32)

-- WallHands$Wall.lay(LWallHands$Text;)V
def f_wl_lay_N7 (p0_length : Int32) (p0_bytes : Nat → Int32) (p0_bytes_n : Nat) (k7 : Int32 → Int32 → (Nat → Int64) → Int32 → Int32 → Int32 → Option (Int32 × Int32 × (Nat → Int64))) (v_courses : Int32) (v_columns : Int32) (v_stones : Nat → Int64) (x2 : Int32) (x3 : Int32) (x4 : Int32) : Option (Int32 × Int32 × (Nat → Int64)) :=
  if p0_length ≤ x4 then
    some (x2 + (1 : Int32), x3, v_stones)
  else
    gd (inb x4 p0_bytes_n) (
    if (p0_bytes x4.toNatClampNeg) = (59 : Int32) then
      k7 v_courses v_columns v_stones (x2 + (1 : Int32)) (0 : Int32) (x4 + (1 : Int32))
    else
      (f_x_within (p0_bytes x4.toNatClampNeg) (97 : Int32) (104 : Int32)).bind (fun o46 =>
      if o46 = 0 then
        k7 v_courses v_columns v_stones x2 (x3 + (1 : Int32)) (x4 + (1 : Int32))
      else
        gd (inb ((p0_bytes x4.toNatClampNeg) - (97 : Int32)) 8) (
        gd (inb ((p0_bytes x4.toNatClampNeg) - (97 : Int32)) 8) (
        k7 v_courses v_columns (vp_updL v_stones ((p0_bytes x4.toNatClampNeg) - (97 : Int32)).toNatClampNeg ((v_stones ((p0_bytes x4.toNatClampNeg) - (97 : Int32)).toNatClampNeg) ||| (lshl (1 : Int64) (((8 : Int32) * x2) + x3)))) x2 (x3 + (1 : Int32)) (x4 + (1 : Int32))))))

def f_wl_lay (v_courses : Int32) (v_columns : Int32) (v_stones : Nat → Int64) (p0_length : Int32) (p0_bytes : Nat → Int32) (p0_bytes_n : Nat) : Option (Int32 × Int32 × (Nat → Int64)) :=
  iter (fun _ _ _ _ _ _ => none) (f_wl_lay_N7 p0_length p0_bytes p0_bytes_n) 1000 v_courses v_columns v_stones (0 : Int32) (0 : Int32) (0 : Int32)

-- WallHands$Wall.tell(LWallHands$Text;)V
def f_wl_tell (v_courses : Int32) (v_columns : Int32) (v_fault : Int32) (v_stones : Nat → Int64) (p0_length : Int32) (p0_bytes : Nat → Int32) (p0_bytes_n : Nat) : Option (Int32 × Int32 × Int32 × (Nat → Int64)) :=
  (f_ja_fill_j v_stones 8 (0 : Int64)).bind (fun o5 =>
  (f_wl_firstFault p0_length p0_bytes p0_bytes_n).bind (fun o20 =>
  if o20 = (-1 : Int32) then
    if p0_length ≤ 0 then
      some ((0 : Int32), (0 : Int32), o20, o5)
    else
      (f_wl_lay (0 : Int32) (0 : Int32) o5 p0_length p0_bytes p0_bytes_n).bind (fun o43 =>
      some (o43.1, o43.2.1, o20, o43.2.2))
  else
    some ((0 : Int32), (0 : Int32), o20, o5)))

-- WallHands$Wall.passOn(III)V
def f_wl_passOn (v_stones : Nat → Int64) (a0 : Int32) (a1 : Int32) (a2 : Int32) : Option (Nat → Int64) :=
  gd (inb a1 8) (
  gd (inb a1 8) (
  gd (inb a2 8) (
  gd (inb a2 8) (
  some (vp_updL (vp_updL v_stones a1.toNatClampNeg ((v_stones a1.toNatClampNeg) &&& ((lshl (1 : Int64) a0) ^^^ (-1 : Int64)))) a2.toNatClampNeg (((vp_updL v_stones a1.toNatClampNeg ((v_stones a1.toNatClampNeg) &&& ((lshl (1 : Int64) a0) ^^^ (-1 : Int64)))) a2.toNatClampNeg) ||| (lshl (1 : Int64) a0)))))))

-- WallHands.union([J)J
def f_x_union_N4 (p0 : Nat → Int64) (p0_n : Nat) (k4 : Int64 → Int32 → Option Int64) (x1 : Int64) (x3 : Int32) : Option Int64 :=
  if (8 : Int32) ≤ x3 then
    some x1
  else
    gd (inb x3 p0_n) (
    k4 (x1 ||| (p0 x3.toNatClampNeg)) (x3 + (1 : Int32)))

def f_x_union (p0 : Nat → Int64) (p0_n : Nat) : Option Int64 :=
  iter (fun _ _ => none) (f_x_union_N4 p0 p0_n) 1000 (0 : Int64) (0 : Int32)

-- WallHands.borneOf(J)J
def f_x_borneOf_N12 (k12 : Int64 → Int64 → Int64 → Int32 → Option Int64) (x0 : Int64) (x2 : Int64) (x4 : Int64) (x6 : Int32) : Option Int64 :=
  if (5 : Int32) ≤ x6 then
    some x4
  else
    k12 x0 (((lushr x0 ((8 : Int32) * x6)) &&& (255 : Int64)) &&& (x2 ||| ((lshl x2 (1 : Int32)) &&& (lushr x2 (1 : Int32))))) (x4 ||| (lshl (((lushr x0 ((8 : Int32) * x6)) &&& (255 : Int64)) &&& (x2 ||| ((lshl x2 (1 : Int32)) &&& (lushr x2 (1 : Int32))))) ((8 : Int32) * x6))) (x6 + (1 : Int32))

def f_x_borneOf (a0 : Int64) : Option Int64 :=
  iter (fun _ _ _ _ => none) (f_x_borneOf_N12) 1000 a0 (a0 &&& (255 : Int64)) (a0 &&& (255 : Int64)) (1 : Int32)

-- java/lang/Long.bitCount(J)I
def f_jl_bitCount_N55 (x0 : Int64) : Option Int32 :=
  some (x0.toInt32 &&& (127 : Int32))

def f_jl_bitCount_N48 (x0 : Int64) : Option Int32 :=
  f_jl_bitCount_N55 (x0 + (lushr x0 (32 : Int32)))

def f_jl_bitCount_N41 (x0 : Int64) : Option Int32 :=
  f_jl_bitCount_N48 (x0 + (lushr x0 (16 : Int32)))

def f_jl_bitCount_N34 (x0 : Int64) : Option Int32 :=
  f_jl_bitCount_N41 (x0 + (lushr x0 (8 : Int32)))

def f_jl_bitCount_N24 (x0 : Int64) : Option Int32 :=
  f_jl_bitCount_N34 ((x0 + (lushr x0 (4 : Int32))) &&& (1085102592571150095 : Int64))

def f_jl_bitCount_N10 (x0 : Int64) : Option Int32 :=
  f_jl_bitCount_N24 ((x0 &&& (3689348814741910323 : Int64)) + ((lushr x0 (2 : Int32)) &&& (3689348814741910323 : Int64)))

def f_jl_bitCount (a0 : Int64) : Option Int32 :=
  f_jl_bitCount_N10 (a0 - ((lushr a0 (1 : Int32)) &&& (6148914691236517205 : Int64)))

-- WallHands$Years.leave(J)I
def f_ys_leave_N22 (k22 : Int64 → Int32 → (Nat → Int64) → Int64 → Int64 → Int32 → Option (Int32 × Int64 × Int32 × (Nat → Int64))) (v_all : Int64) (v_losers : Int32) (v_now : Nat → Int64) (x1 : Int64) (x3 : Int64) (x5 : Int32) : Option (Int32 × Int64 × Int32 × (Nat → Int64)) :=
  if (8 : Int32) ≤ x5 then
    (f_jl_bitCount x3).bind (fun o79 =>
    some (o79, x1, v_losers, v_now))
  else
    gd (inb x5 8) (
    if (lg_cmp ((v_now x5.toNatClampNeg) &&& x3) (0 : Int64)) = 0 then
      k22 v_all v_losers v_now x1 x3 (x5 + (1 : Int32))
    else
      gd (inb x5 8) (
      gd (inb x5 8) (
      k22 v_all (v_losers ||| ((1 : Int32) <<< (x5 &&& 31))) (vp_updL v_now x5.toNatClampNeg ((v_now x5.toNatClampNeg) &&& x1)) x1 x3 (x5 + (1 : Int32)))))

def f_ys_leave (v_all : Int64) (v_losers : Int32) (v_now : Nat → Int64) (a0 : Int64) : Option (Int32 × Int64 × Int32 × (Nat → Int64)) :=
  if (lg_cmp (v_all &&& (a0 ^^^ (-1 : Int64))) (0 : Int64)) = 0 then
    some ((0 : Int32), v_all, v_losers, v_now)
  else
    iter (fun _ _ _ _ _ _ => none) (f_ys_leave_N22) 1000 v_all v_losers v_now a0 (v_all &&& (a0 ^^^ (-1 : Int64))) (0 : Int32)

-- WallHands.besideAtLeast(JI)J
def f_x_besideAtLeast (a0 : Int64) (a1 : Int32) : Option Int64 :=
  if 0 < a1 then
    if a1 = (1 : Int32) then
      some ((((lshl (a0 &&& (-551911719041 : Int64)) (1 : Int32)) ||| (lushr (a0 &&& (-4311810306 : Int64)) (1 : Int32))) ||| (lshl a0 (8 : Int32))) ||| (lushr a0 (8 : Int32)))
    else if a1 = (2 : Int32) then
      some ((((lshl (a0 &&& (-551911719041 : Int64)) (1 : Int32)) &&& (lushr (a0 &&& (-4311810306 : Int64)) (1 : Int32))) ||| ((lshl a0 (8 : Int32)) &&& (lushr a0 (8 : Int32)))) ||| (((lshl (a0 &&& (-551911719041 : Int64)) (1 : Int32)) ||| (lushr (a0 &&& (-4311810306 : Int64)) (1 : Int32))) &&& ((lshl a0 (8 : Int32)) ||| (lushr a0 (8 : Int32)))))
    else if a1 = (3 : Int32) then
      some ((((lshl (a0 &&& (-551911719041 : Int64)) (1 : Int32)) &&& (lushr (a0 &&& (-4311810306 : Int64)) (1 : Int32))) &&& ((lshl a0 (8 : Int32)) ||| (lushr a0 (8 : Int32)))) ||| (((lshl a0 (8 : Int32)) &&& (lushr a0 (8 : Int32))) &&& ((lshl (a0 &&& (-551911719041 : Int64)) (1 : Int32)) ||| (lushr (a0 &&& (-4311810306 : Int64)) (1 : Int32)))))
    else if a1 = (4 : Int32) then
      some ((((lshl (a0 &&& (-551911719041 : Int64)) (1 : Int32)) &&& (lushr (a0 &&& (-4311810306 : Int64)) (1 : Int32))) &&& (lshl a0 (8 : Int32))) &&& (lushr a0 (8 : Int32)))
    else some (0 : Int64)
  else
    some (-1 : Int64)

-- WallHands$Years.nowOf(I)J
def f_ys_nowOf_N5 (v_hands_told : Int32) (v_hands_mood : Nat → Int32) (v_now : Nat → Int64) (k5 : Int32 → Int64 → Int32 → Option Int64) (x1 : Int32) (x2 : Int64) (x4 : Int32) : Option Int64 :=
  if v_hands_told ≤ x4 then
    some x2
  else
    gd (inb x4 8) (
    if (v_hands_mood x4.toNatClampNeg) = x1 then
      gd (inb x4 8) (
      k5 x1 (x2 ||| (v_now x4.toNatClampNeg)) (x4 + (1 : Int32)))
    else
      k5 x1 x2 (x4 + (1 : Int32)))

def f_ys_nowOf (v_hands_told : Int32) (v_hands_mood : Nat → Int32) (v_now : Nat → Int64) (a0 : Int32) : Option Int64 :=
  iter (fun _ _ _ => none) (f_ys_nowOf_N5 v_hands_told v_hands_mood v_now) 1000 a0 (0 : Int64) (0 : Int32)

-- WallHands$Years.holdingOf(II)J
def f_ys_holdingOf_N87 (v_all : Int64) (v_hands_told : Int32) (v_hands_mood : Nat → Int32) (v_hands_strong : Nat → Int32) (v_now : Nat → Int64) (k87 : Int64 → Int32 → Int64 → Int32 → Option Int64) (x3 : Int64) (x5 : Int32) (x6 : Int64) (x8 : Int32) : Option Int64 :=
  if (4 : Int32) < x8 then
    some (x3 &&& x6)
  else
    (f_x_besideAtLeast x3 (x5 + x8)).bind (fun o101 =>
    (f_x_besideAtLeast (v_all &&& (x3 ^^^ (-1 : Int64))) (x8 + (1 : Int32))).bind (fun o118 =>
    k87 x3 x5 (x6 ||| (o101 &&& (o118 ^^^ (-1 : Int64)))) (x8 + (1 : Int32))))

def f_ys_holdingOf_N177 (v_all : Int64) (v_hands_told : Int32) (v_hands_mood : Nat → Int32) (v_hands_strong : Nat → Int32) (v_now : Nat → Int64) (k177 : Int64 → Int32 → Int64 → Int32 → Option Int64) (x3 : Int64) (x5 : Int32) (x6 : Int64) (x8 : Int32) : Option Int64 :=
  if (5 : Int32) ≤ x8 then
    some (x3 &&& x6)
  else
    (f_x_besideAtLeast x3 (x5 + x8)).bind (fun o191 =>
    k177 x3 x5 (x6 ||| (o191 &&& (lshl (255 : Int64) ((8 : Int32) * x8)))) (x8 + (1 : Int32)))

def f_ys_holdingOf (v_all : Int64) (v_hands_told : Int32) (v_hands_mood : Nat → Int32) (v_hands_strong : Nat → Int32) (v_now : Nat → Int64) (a0 : Int32) (a1 : Int32) : Option Int64 :=
  if v_hands_told ≤ a0 then
    some (0 : Int64)
  else
    gd (inb a0 8) (
    if (lg_cmp (v_now a0.toNatClampNeg) (0 : Int64)) = 0 then
      some (0 : Int64)
    else
      gd (inb a0 8) (
      gd (inb a0 8) (
      gd (inb a0 8) (
      if (v_hands_mood a0.toNatClampNeg) = (1 : Int32) then
        iter (fun _ _ _ _ => none) (f_ys_holdingOf_N87 v_all v_hands_told v_hands_mood v_hands_strong v_now) 1000 (v_now a0.toNatClampNeg) (a1 - (v_hands_strong a0.toNatClampNeg)) (0 : Int64) (0 : Int32)
      else if (v_hands_mood a0.toNatClampNeg) = (2 : Int32) then
        (f_x_besideAtLeast (v_now a0.toNatClampNeg) (a1 - (v_hands_strong a0.toNatClampNeg))).bind (fun o141 =>
        (f_x_besideAtLeast (v_now a0.toNatClampNeg) ((a1 - (v_hands_strong a0.toNatClampNeg)) - (2 : Int32))).bind (fun o149 =>
        (f_ys_nowOf v_hands_told v_hands_mood v_now (2 : Int32)).bind (fun o154 =>
        (f_x_besideAtLeast (o154 &&& ((v_now a0.toNatClampNeg) ^^^ (-1 : Int64))) (1 : Int32)).bind (fun o164 =>
        some ((v_now a0.toNatClampNeg) &&& (o141 ||| (o149 &&& o164)))))))
      else if (v_hands_mood a0.toNatClampNeg) = (3 : Int32) then
        iter (fun _ _ _ _ => none) (f_ys_holdingOf_N177 v_all v_hands_told v_hands_mood v_hands_strong v_now) 1000 (v_now a0.toNatClampNeg) (a1 - (v_hands_strong a0.toNatClampNeg)) (0 : Int64) (0 : Int32)
      else (f_x_besideAtLeast (v_now a0.toNatClampNeg) (a1 - (v_hands_strong a0.toNatClampNeg))).bind (fun o219 =>
      some ((v_now a0.toNatClampNeg) &&& o219))))))

-- WallHands$Years.freeze(LWallHands$Frosts;II)I
def f_ys_freeze_N44 (v_hands_told : Int32) (v_hands_mood : Nat → Int32) (v_hands_strong : Nat → Int32) (p0_told : Int32) (p0_year : Nat → Int32) (p0_force : Nat → Int32) (k9 : Int64 → Int32 → (Nat → Int64) → Int32 → Int32 → Int32 → Int32 → Int32 → Option (Int32 × Int64 × Int32 × (Nat → Int64))) (k44 : Int64 → Int32 → (Nat → Int64) → Int32 → Int32 → Int32 → Int32 → Int64 → Int32 → Option (Int32 × Int64 × Int32 × (Nat → Int64))) (v_all : Int64) (v_losers : Int32) (v_now : Nat → Int64) (x2 : Int32) (x3 : Int32) (x4 : Int32) (x6 : Int32) (x7 : Int64) (x9 : Int32) : Option (Int32 × Int64 × Int32 × (Nat → Int64)) :=
  if v_hands_told ≤ x9 then
    (f_x_borneOf x7).bind (fun o88 =>
    (f_ys_leave v_all v_losers v_now o88).bind (fun o91 =>
    k9 o91.2.1 o91.2.2.1 o91.2.2.2 x2 x3 (x4 + o91.1) (1 : Int32) (x6 + (1 : Int32))))
  else
    gd (inb x6 6) (
    (f_ys_holdingOf v_all v_hands_told v_hands_mood v_hands_strong v_now x9 (p0_force x6.toNatClampNeg)).bind (fun o68 =>
    k44 v_all v_losers v_now x2 x3 x4 x6 (x7 ||| o68) (x9 + (1 : Int32))))

def f_ys_freeze_N9 (v_hands_told : Int32) (v_hands_mood : Nat → Int32) (v_hands_strong : Nat → Int32) (p0_told : Int32) (p0_year : Nat → Int32) (p0_force : Nat → Int32) (k9 : Int64 → Int32 → (Nat → Int64) → Int32 → Int32 → Int32 → Int32 → Int32 → Option (Int32 × Int64 × Int32 × (Nat → Int64))) (v_all : Int64) (v_losers : Int32) (v_now : Nat → Int64) (x2 : Int32) (x3 : Int32) (x4 : Int32) (x5 : Int32) (x6 : Int32) : Option (Int32 × Int64 × Int32 × (Nat → Int64)) :=
  if p0_told ≤ x6 then
    if x5 = 0 then
      (f_x_borneOf v_all).bind (fun o118 =>
      (f_ys_leave v_all v_losers v_now o118).bind (fun o121 =>
      some (o121.1, o121.2.1, o121.2.2.1, o121.2.2.2)))
    else
      some (x4, v_all, v_losers, v_now)
  else
    gd (inb x6 6) (
    if (p0_year x6.toNatClampNeg) = x3 then
      if ((ushr x2 x6) &&& (1 : Int32)) = 0 then
        iter (fun _ _ _ _ _ _ _ _ _ => none) (f_ys_freeze_N44 v_hands_told v_hands_mood v_hands_strong p0_told p0_year p0_force k9) 1000 v_all v_losers v_now x2 x3 x4 x6 (0 : Int64) (0 : Int32)
      else
        k9 v_all v_losers v_now x2 x3 x4 x5 (x6 + (1 : Int32))
    else
      k9 v_all v_losers v_now x2 x3 x4 x5 (x6 + (1 : Int32)))

def f_ys_freeze (v_all : Int64) (v_losers : Int32) (v_hands_told : Int32) (v_hands_mood : Nat → Int32) (v_hands_strong : Nat → Int32) (v_now : Nat → Int64) (p0_told : Int32) (p0_year : Nat → Int32) (p0_force : Nat → Int32) (a1 : Int32) (a2 : Int32) : Option (Int32 × Int64 × Int32 × (Nat → Int64)) :=
  iter (fun _ _ _ _ _ _ _ _ => none) (f_ys_freeze_N9 v_hands_told v_hands_mood v_hands_strong p0_told p0_year p0_force) 1000 v_all v_losers v_now a1 a2 (0 : Int32) (0 : Int32) (0 : Int32)

-- WallHands$Years.fillGap(II)Z
def f_ys_fillGap_N2 (v_wall_courses : Int32) (k2 : Int64 → (Nat → Int64) → Int32 → Int32 → Int32 → Option (Int32 × Int64 × (Nat → Int64))) (v_all : Int64) (v_now : Nat → Int64) (x1 : Int32) (x2 : Int32) (x3 : Int32) : Option (Int32 × Int64 × (Nat → Int64)) :=
  if v_wall_courses ≤ x3 then
    some ((0 : Int32), v_all, v_now)
  else
    if (lg_cmp (v_all &&& (lshl (1 : Int64) (((8 : Int32) * x3) + x1))) (0 : Int64)) = 0 then
      gd (inb x2 8) (
      gd (inb x2 8) (
      some ((1 : Int32), v_all ||| (lshl (1 : Int64) (((8 : Int32) * x3) + x1)), vp_updL v_now x2.toNatClampNeg ((v_now x2.toNatClampNeg) ||| (lshl (1 : Int64) (((8 : Int32) * x3) + x1))))))
    else
      k2 v_all v_now x1 x2 (x3 + (1 : Int32))

def f_ys_fillGap (v_all : Int64) (v_wall_courses : Int32) (v_now : Nat → Int64) (a0 : Int32) (a1 : Int32) : Option (Int32 × Int64 × (Nat → Int64)) :=
  iter (fun _ _ _ _ _ => none) (f_ys_fillGap_N2 v_wall_courses) 1000 v_all v_now a0 a1 (0 : Int32)

-- WallHands$Years.fillGaps(I)Z
def f_ys_fillGaps_N4 (v_wall_courses : Int32) (v_wall_columns : Int32) (v_gappings_told : Int32) (v_gappings_year : Nat → Int32) (v_gappings_column : Nat → Int32) (v_gappings_hand : Nat → Int32) (k4 : Int64 → (Nat → Int64) → Int32 → Int32 → Int32 → Option (Int32 × Int64 × (Nat → Int64))) (v_all : Int64) (v_now : Nat → Int64) (x1 : Int32) (x2 : Int32) (x3 : Int32) : Option (Int32 × Int64 × (Nat → Int64)) :=
  if v_gappings_told ≤ x3 then
    gd (isB x2) (
    some (x2, v_all, v_now))
  else
    gd (inb x3 7) (
    if (v_gappings_year x3.toNatClampNeg) = x1 then
      gd (inb x3 7) (
      if v_wall_columns ≤ (v_gappings_column x3.toNatClampNeg) then
        k4 v_all v_now x1 x2 (x3 + (1 : Int32))
      else
        gd (inb x3 7) (
        gd (inb x3 7) (
        (f_ys_fillGap v_all v_wall_courses v_now (v_gappings_column x3.toNatClampNeg) (v_gappings_hand x3.toNatClampNeg)).bind (fun o67 =>
        k4 o67.2.1 o67.2.2 x1 (x2 ||| o67.1) (x3 + (1 : Int32))))))
    else
      k4 v_all v_now x1 x2 (x3 + (1 : Int32)))

def f_ys_fillGaps (v_all : Int64) (v_wall_courses : Int32) (v_wall_columns : Int32) (v_gappings_told : Int32) (v_gappings_year : Nat → Int32) (v_gappings_column : Nat → Int32) (v_gappings_hand : Nat → Int32) (v_now : Nat → Int64) (a0 : Int32) : Option (Int32 × Int64 × (Nat → Int64)) :=
  iter (fun _ _ _ _ _ => none) (f_ys_fillGaps_N4 v_wall_courses v_wall_columns v_gappings_told v_gappings_year v_gappings_column v_gappings_hand) 1000 v_all v_now a0 (0 : Int32) (0 : Int32)

-- WallHands$Years.openColumns()I
def f_ys_openColumns_N66 (v_all : Int64) (v_wall_columns : Int32) (v_wall_jump : Int32) (v_hands_told : Int32) (v_hands_mood : Nat → Int32) (v_now : Nat → Int64) (k18 : Int64 → Int64 → Int32 → Int32 → Option Int32) (x1 : Int64) (x3 : Int64) (x5 : Int32) (x6 : Int32) (x7 : Int64) (y0 : Int32) : Option Int32 :=
  if (lg_cmp (x3 &&& x7) (0 : Int64)) = 0 then
    (f_jl_bitCount (v_all &&& x7)).bind (fun o84 =>
    if y0 ≤ o84 then
      k18 x1 x3 x5 (x6 + (1 : Int32))
    else
      k18 x1 x3 (x5 ||| ((1 : Int32) <<< (x6 &&& 31))) (x6 + (1 : Int32)))
  else
    k18 x1 x3 x5 (x6 + (1 : Int32))

def f_ys_openColumns_N18 (v_all : Int64) (v_wall_columns : Int32) (v_wall_jump : Int32) (v_hands_told : Int32) (v_hands_mood : Nat → Int32) (v_now : Nat → Int64) (k18 : Int64 → Int64 → Int32 → Int32 → Option Int32) (x1 : Int64) (x3 : Int64) (x5 : Int32) (x6 : Int32) : Option Int32 :=
  if v_wall_columns ≤ x6 then
    some x5
  else
    if (lg_cmp (x1 &&& (lshl (4311810305 : Int64) x6)) (0 : Int64)) = 0 then
      f_ys_openColumns_N66 v_all v_wall_columns v_wall_jump v_hands_told v_hands_mood v_now k18 x1 x3 x5 x6 (lshl (4311810305 : Int64) x6) v_wall_jump
    else
      f_ys_openColumns_N66 v_all v_wall_columns v_wall_jump v_hands_told v_hands_mood v_now k18 x1 x3 x5 x6 (lshl (4311810305 : Int64) x6) (v_wall_jump + (1 : Int32))

def f_ys_openColumns (v_all : Int64) (v_wall_columns : Int32) (v_wall_jump : Int32) (v_hands_told : Int32) (v_hands_mood : Nat → Int32) (v_now : Nat → Int64) : Option Int32 :=
  (f_ys_nowOf v_hands_told v_hands_mood v_now (2 : Int32)).bind (fun o2 =>
  (f_ys_nowOf v_hands_told v_hands_mood v_now (1 : Int32)).bind (fun o8 =>
  iter (fun _ _ _ _ => none) (f_ys_openColumns_N18 v_all v_wall_columns v_wall_jump v_hands_told v_hands_mood v_now) 1000 o2 o8 (0 : Int32) (0 : Int32)))

-- WallHands$Years.run(LWallHands$Frosts;I)V
def f_ys_run_N113 (v_wall_courses : Int32) (v_wall_columns : Int32) (v_wall_jump : Int32) (v_wall_stones : Nat → Int64) (v_hands_told : Int32) (v_hands_mood : Nat → Int32) (v_hands_strong : Nat → Int32) (v_gappings_told : Int32) (v_gappings_year : Nat → Int32) (v_gappings_column : Nat → Int32) (v_gappings_hand : Nat → Int32) (p0_told : Int32) (p0_year : Nat → Int32) (p0_force : Nat → Int32) (k36 : Int64 → Int32 → (Nat → Int64) → (Nat → Int64) → (Nat → Int64) → (Nat → Int32) → (Nat → Int32) → Int32 → Int32 → Option (Int64 × Int32 × (Nat → Int64) × (Nat → Int64) × (Nat → Int64) × (Nat → Int32) × (Nat → Int32))) (v_all : Int64) (v_losers : Int32) (v_now : Nat → Int64) (v_stones : Nat → Int64) (v_standing : Nat → Int64) (v_open : Nat → Int32) (v_fallen : Nat → Int32) (x2 : Int32) (x3 : Int32) (y0 : Int32) : Option (Int64 × Int32 × (Nat → Int64) × (Nat → Int64) × (Nat → Int64) × (Nat → Int32) × (Nat → Int32)) :=
  if y0 = 0 then
    (f_ys_openColumns v_all v_wall_columns v_wall_jump v_hands_told v_hands_mood v_now).bind (fun o137 =>
    gd (inb x3 20) (
    k36 v_all v_losers v_now v_stones v_standing (upd v_open x3.toNatClampNeg o137) v_fallen x2 (x3 + (1 : Int32))))
  else
    gd (inb (x3 - (1 : Int32)) 20) (
    gd (inb x3 20) (
    k36 v_all v_losers v_now v_stones v_standing (upd v_open x3.toNatClampNeg (v_open (x3 - (1 : Int32)).toNatClampNeg)) v_fallen x2 (x3 + (1 : Int32))))

def f_ys_run_N112 (v_wall_courses : Int32) (v_wall_columns : Int32) (v_wall_jump : Int32) (v_wall_stones : Nat → Int64) (v_hands_told : Int32) (v_hands_mood : Nat → Int32) (v_hands_strong : Nat → Int32) (v_gappings_told : Int32) (v_gappings_year : Nat → Int32) (v_gappings_column : Nat → Int32) (v_gappings_hand : Nat → Int32) (p0_told : Int32) (p0_year : Nat → Int32) (p0_force : Nat → Int32) (k36 : Int64 → Int32 → (Nat → Int64) → (Nat → Int64) → (Nat → Int64) → (Nat → Int32) → (Nat → Int32) → Int32 → Int32 → Option (Int64 × Int32 × (Nat → Int64) × (Nat → Int64) × (Nat → Int64) × (Nat → Int32) × (Nat → Int32))) (v_all : Int64) (v_losers : Int32) (v_now : Nat → Int64) (v_stones : Nat → Int64) (v_standing : Nat → Int64) (v_open : Nat → Int32) (v_fallen : Nat → Int32) (x2 : Int32) (x3 : Int32) : Option (Int64 × Int32 × (Nat → Int64) × (Nat → Int64) × (Nat → Int64) × (Nat → Int32) × (Nat → Int32)) :=
  f_ys_run_N113 v_wall_courses v_wall_columns v_wall_jump v_wall_stones v_hands_told v_hands_mood v_hands_strong v_gappings_told v_gappings_year v_gappings_column v_gappings_hand p0_told p0_year p0_force k36 v_all v_losers v_now v_stones v_standing v_open v_fallen x2 x3 (0 : Int32)

def f_ys_run_N36 (v_wall_courses : Int32) (v_wall_columns : Int32) (v_wall_jump : Int32) (v_wall_stones : Nat → Int64) (v_hands_told : Int32) (v_hands_mood : Nat → Int32) (v_hands_strong : Nat → Int32) (v_gappings_told : Int32) (v_gappings_year : Nat → Int32) (v_gappings_column : Nat → Int32) (v_gappings_hand : Nat → Int32) (p0_told : Int32) (p0_year : Nat → Int32) (p0_force : Nat → Int32) (k36 : Int64 → Int32 → (Nat → Int64) → (Nat → Int64) → (Nat → Int64) → (Nat → Int32) → (Nat → Int32) → Int32 → Int32 → Option (Int64 × Int32 × (Nat → Int64) × (Nat → Int64) × (Nat → Int64) × (Nat → Int32) × (Nat → Int32))) (v_all : Int64) (v_losers : Int32) (v_now : Nat → Int64) (v_stones : Nat → Int64) (v_standing : Nat → Int64) (v_open : Nat → Int32) (v_fallen : Nat → Int32) (x2 : Int32) (x3 : Int32) : Option (Int64 × Int32 × (Nat → Int64) × (Nat → Int64) × (Nat → Int64) × (Nat → Int32) × (Nat → Int32)) :=
  if (20 : Int32) ≤ x3 then
    some (v_all, v_losers, v_now, v_stones, v_standing, v_open, v_fallen)
  else
    (f_ys_freeze v_all v_losers v_hands_told v_hands_mood v_hands_strong v_now p0_told p0_year p0_force x2 x3).bind (fun o51 =>
    gd (inb x3 20) (
    (f_ys_fillGaps o51.2.1 v_wall_courses v_wall_columns v_gappings_told v_gappings_year v_gappings_column v_gappings_hand o51.2.2.2 x3).bind (fun o57 =>
    gd (cpyok (0 : Int32) ((8 : Int32) * x3) (8 : Int32) 8 160) (
    gd (inb x3 20) (
    if x3 ≤ 0 then
      f_ys_run_N112 v_wall_courses v_wall_columns v_wall_jump v_wall_stones v_hands_told v_hands_mood v_hands_strong v_gappings_told v_gappings_year v_gappings_column v_gappings_hand p0_told p0_year p0_force k36 o57.2.1 o51.2.2.1 o57.2.2 (va_cpy o57.2.2 v_stones (0 : Int32).toNatClampNeg ((8 : Int32) * x3).toNatClampNeg (8 : Int32).toNatClampNeg) (vp_updL v_standing x3.toNatClampNeg o57.2.1) v_open (upd v_fallen x3.toNatClampNeg o51.1) x2 x3
    else
      gd (inb x3 20) (
      if ((upd v_fallen x3.toNatClampNeg o51.1) x3.toNatClampNeg) = 0 then
        if o57.1 = 0 then
          f_ys_run_N113 v_wall_courses v_wall_columns v_wall_jump v_wall_stones v_hands_told v_hands_mood v_hands_strong v_gappings_told v_gappings_year v_gappings_column v_gappings_hand p0_told p0_year p0_force k36 o57.2.1 o51.2.2.1 o57.2.2 (va_cpy o57.2.2 v_stones (0 : Int32).toNatClampNeg ((8 : Int32) * x3).toNatClampNeg (8 : Int32).toNatClampNeg) (vp_updL v_standing x3.toNatClampNeg o57.2.1) v_open (upd v_fallen x3.toNatClampNeg o51.1) x2 x3 (1 : Int32)
        else
          f_ys_run_N112 v_wall_courses v_wall_columns v_wall_jump v_wall_stones v_hands_told v_hands_mood v_hands_strong v_gappings_told v_gappings_year v_gappings_column v_gappings_hand p0_told p0_year p0_force k36 o57.2.1 o51.2.2.1 o57.2.2 (va_cpy o57.2.2 v_stones (0 : Int32).toNatClampNeg ((8 : Int32) * x3).toNatClampNeg (8 : Int32).toNatClampNeg) (vp_updL v_standing x3.toNatClampNeg o57.2.1) v_open (upd v_fallen x3.toNatClampNeg o51.1) x2 x3
      else
        f_ys_run_N112 v_wall_courses v_wall_columns v_wall_jump v_wall_stones v_hands_told v_hands_mood v_hands_strong v_gappings_told v_gappings_year v_gappings_column v_gappings_hand p0_told p0_year p0_force k36 o57.2.1 o51.2.2.1 o57.2.2 (va_cpy o57.2.2 v_stones (0 : Int32).toNatClampNeg ((8 : Int32) * x3).toNatClampNeg (8 : Int32).toNatClampNeg) (vp_updL v_standing x3.toNatClampNeg o57.2.1) v_open (upd v_fallen x3.toNatClampNeg o51.1) x2 x3))))))

def f_ys_run (v_all : Int64) (v_losers : Int32) (v_wall_courses : Int32) (v_wall_columns : Int32) (v_wall_jump : Int32) (v_wall_stones : Nat → Int64) (v_hands_told : Int32) (v_hands_mood : Nat → Int32) (v_hands_strong : Nat → Int32) (v_gappings_told : Int32) (v_gappings_year : Nat → Int32) (v_gappings_column : Nat → Int32) (v_gappings_hand : Nat → Int32) (v_now : Nat → Int64) (v_stones : Nat → Int64) (v_standing : Nat → Int64) (v_open : Nat → Int32) (v_fallen : Nat → Int32) (p0_told : Int32) (p0_year : Nat → Int32) (p0_force : Nat → Int32) (a1 : Int32) : Option (Int64 × Int32 × (Nat → Int64) × (Nat → Int64) × (Nat → Int64) × (Nat → Int32) × (Nat → Int32)) :=
  gd (cpyok (0 : Int32) (0 : Int32) (8 : Int32) 8 8) (
  (f_x_union (va_cpy v_wall_stones v_now (0 : Int32).toNatClampNeg (0 : Int32).toNatClampNeg (8 : Int32).toNatClampNeg) 8).bind (fun o23 =>
  iter (fun _ _ _ _ _ _ _ _ _ => none) (f_ys_run_N36 v_wall_courses v_wall_columns v_wall_jump v_wall_stones v_hands_told v_hands_mood v_hands_strong v_gappings_told v_gappings_year v_gappings_column v_gappings_hand p0_told p0_year p0_force) 1000 o23 (0 : Int32) (va_cpy v_wall_stones v_now (0 : Int32).toNatClampNeg (0 : Int32).toNatClampNeg (8 : Int32).toNatClampNeg) v_stones v_standing v_open v_fallen a1 (0 : Int32)))

-- WallHands$Years.holdBehind(II)I
def f_ys_holdBehind_N48 (v_hands_told : Int32) (v_hands_mood : Nat → Int32) (v_hands_strong : Nat → Int32) (v_stones : Nat → Int64) (v_standing : Nat → Int64) (k48 : Int64 → (Nat → Int64) → Int32 → Int32 → Int32 → Int32 → Option (Int32 × Int64 × (Nat → Int64))) (v_all : Int64) (v_now : Nat → Int64) (x2 : Int32) (x3 : Int32) (x4 : Int32) (x5 : Int32) : Option (Int32 × Int64 × (Nat → Int64)) :=
  if (15 : Int32) < x5 then
    some (x4, v_all, v_now)
  else
    (f_ys_holdingOf v_all v_hands_told v_hands_mood v_hands_strong v_now x3 x5).bind (fun o59 =>
    (f_x_isAt o59 x2).bind (fun o63 =>
    if o63 = 0 then
      k48 v_all v_now x2 x3 x4 (x5 + (1 : Int32))
    else
      k48 v_all v_now x2 x3 x5 (x5 + (1 : Int32))))

def f_ys_holdBehind (v_all : Int64) (v_hands_told : Int32) (v_hands_mood : Nat → Int32) (v_hands_strong : Nat → Int32) (v_now : Nat → Int64) (v_stones : Nat → Int64) (v_standing : Nat → Int64) (a0 : Int32) (a1 : Int32) : Option (Int32 × Int64 × (Nat → Int64)) :=
  (f_ys_setterBehind v_stones a0 a1).bind (fun o3 =>
  if o3 = (-1 : Int32) then
    some ((-1 : Int32), v_all, v_now)
  else
    gd (cpyok ((8 : Int32) * a0) (0 : Int32) (8 : Int32) 160 8) (
    gd (inb a0 20) (
    iter (fun _ _ _ _ _ _ => none) (f_ys_holdBehind_N48 v_hands_told v_hands_mood v_hands_strong v_stones v_standing) 1000 (v_standing a0.toNatClampNeg) (va_cpy v_stones v_now ((8 : Int32) * a0).toNatClampNeg (0 : Int32).toNatClampNeg (8 : Int32).toNatClampNeg) a1 o3 (0 : Int32) (1 : Int32))))

-- WallHands$Years.highBehind(II)I
def f_ys_highBehind (v_standing : Nat → Int64) (a0 : Int32) (a1 : Int32) : Option Int32 :=
  gd (inb a0 20) (
  (f_jl_bitCount ((v_standing a0.toNatClampNeg) &&& (lshl (4311810305 : Int64) a1))).bind (fun o12 =>
  some o12))

-- WallHands$Years.lastingOf(I)I
def f_ys_lastingOf (v_stones : Nat → Int64) (a0 : Int32) : Option Int32 :=
  gd (inb ((152 : Int32) + a0) 160) (
  (f_jl_bitCount (v_stones ((152 : Int32) + a0).toNatClampNeg)).bind (fun o10 =>
  some o10))

-- WallHands$Years.firstOpenYear()I
def f_ys_firstOpenYear_N2 (v_open : Nat → Int32) (k2 : Int32 → Option Int32) (x1 : Int32) : Option Int32 :=
  if (20 : Int32) ≤ x1 then
    some (-1 : Int32)
  else
    gd (inb x1 20) (
    if (v_open x1.toNatClampNeg) = 0 then
      k2 (x1 + (1 : Int32))
    else
      some x1)

def f_ys_firstOpenYear (v_open : Nat → Int32) : Option Int32 :=
  iter (fun _ => none) (f_ys_firstOpenYear_N2 v_open) 1000 (0 : Int32)

-- WallHands$Years.openYears()I
def f_ys_openYears_N4 (v_open : Nat → Int32) (k4 : Int32 → Int32 → Option Int32) (x1 : Int32) (x2 : Int32) : Option Int32 :=
  if (20 : Int32) ≤ x2 then
    some x1
  else
    gd (inb x2 20) (
    if (v_open x2.toNatClampNeg) = 0 then
      k4 x1 (x2 + (1 : Int32))
    else
      k4 (x1 + (1 : Int32)) (x2 + (1 : Int32)))

def f_ys_openYears (v_open : Nat → Int32) : Option Int32 :=
  iter (fun _ _ => none) (f_ys_openYears_N4 v_open) 1000 (0 : Int32) (0 : Int32)

-- WallHands$Years.allFallen()I
def f_ys_allFallen_N4 (v_fallen : Nat → Int32) (k4 : Int32 → Int32 → Option Int32) (x1 : Int32) (x2 : Int32) : Option Int32 :=
  if (20 : Int32) ≤ x2 then
    some x1
  else
    gd (inb x2 20) (
    k4 (x1 + (v_fallen x2.toNatClampNeg)) (x2 + (1 : Int32)))

def f_ys_allFallen (v_fallen : Nat → Int32) : Option Int32 :=
  iter (fun _ _ => none) (f_ys_allFallen_N4 v_fallen) 1000 (0 : Int32) (0 : Int32)

-- WallHands$Years.tallyInto([II)V
def f_ys_tallyInto_N2 (v_standing : Nat → Int64) (p0_n : Nat) (k2 : (Nat → Int32) → Int32 → Int32 → Option (Nat → Int32)) (p0 : Nat → Int32) (x2 : Int32) (x3 : Int32) : Option (Nat → Int32) :=
  if (20 : Int32) ≤ x3 then
    some p0
  else
    if (Int32.ofNat p0_n) ≤ (x2 + x3) then
      some p0
    else
      gd (inb x3 20) (
      (f_jl_bitCount (v_standing x3.toNatClampNeg)).bind (fun o26 =>
      gd (inb (x2 + x3) p0_n) (
      k2 (upd p0 (x2 + x3).toNatClampNeg o26) x2 (x3 + (1 : Int32)))))

def f_ys_tallyInto (v_standing : Nat → Int64) (p0 : Nat → Int32) (p0_n : Nat) (a1 : Int32) : Option (Nat → Int32) :=
  iter (fun _ _ _ => none) (f_ys_tallyInto_N2 v_standing p0_n) 1000 p0 a1 (0 : Int32)

-- WallHands.isEither(I)Z
def f_x_isEither (a0 : Int32) : Option Int32 :=
  if a0 = 0 then
    some (1 : Int32)
  else
    if a0 = (1 : Int32) then
      some (1 : Int32)
    else
      some (0 : Int32)

-- WallHands.textOf(I)LWallHands$Text;
def f_x_textOf (a0 : Int32) : Option Nat :=
  if a0 = 0 then
    some 0
  else
    some 1

-- WallHands.retell(I)V
def f_x_retell (v_toldIsStale : Int32) (v_wallText_length : Int32) (v_wallText_bytes : Nat → Int32) (v_handsText_length : Int32) (v_handsText_bytes : Nat → Int32) (v_wall_courses : Int32) (v_wall_columns : Int32) (v_wall_fault : Int32) (v_wall_stones : Nat → Int64) (v_hands_told : Int32) (v_hands_fault : Int32) (v_hands_mood : Nat → Int32) (v_hands_strong : Nat → Int32) (a0 : Int32) : Option (Int32 × Int32 × Int32 × Int32 × (Nat → Int64) × Int32 × Int32 × (Nat → Int32) × (Nat → Int32)) :=
  if a0 = 0 then
    (f_wl_tell v_wall_courses v_wall_columns v_wall_fault v_wall_stones v_wallText_length v_wallText_bytes 44).bind (fun o12 =>
    some ((1 : Int32), o12.1, o12.2.1, o12.2.2.1, o12.2.2.2, v_hands_told, v_hands_fault, v_hands_mood, v_hands_strong))
  else
    (f_hs_tell v_hands_told v_hands_fault v_hands_mood v_hands_strong v_handsText_length v_handsText_bytes 23).bind (fun o26 =>
    some ((1 : Int32), v_wall_courses, v_wall_columns, v_wall_fault, v_wall_stones, o26.1, o26.2.1, o26.2.2.1, o26.2.2.2))

-- WallHands.type(II)I
def f_x_type (v_toldIsStale : Int32) (v_wallText_length : Int32) (v_wallText_bytes : Nat → Int32) (v_handsText_length : Int32) (v_handsText_bytes : Nat → Int32) (v_wall_courses : Int32) (v_wall_columns : Int32) (v_wall_fault : Int32) (v_wall_stones : Nat → Int64) (v_hands_told : Int32) (v_hands_fault : Int32) (v_hands_mood : Nat → Int32) (v_hands_strong : Nat → Int32) (a0 : Int32) (a1 : Int32) : Option (Int32 × Int32 × Int32 × (Nat → Int32) × Int32 × (Nat → Int32) × Int32 × Int32 × Int32 × (Nat → Int64) × Int32 × Int32 × (Nat → Int32) × (Nat → Int32)) :=
  (f_x_isEither a0).bind (fun o1 =>
  if o1 = 0 then
    some ((-2 : Int32), v_toldIsStale, v_wallText_length, v_wallText_bytes, v_handsText_length, v_handsText_bytes, v_wall_courses, v_wall_columns, v_wall_fault, v_wall_stones, v_hands_told, v_hands_fault, v_hands_mood, v_hands_strong)
  else
    (f_x_within a1 (0 : Int32) (255 : Int32)).bind (fun o12 =>
    if o12 = 0 then
      some ((-2 : Int32), v_toldIsStale, v_wallText_length, v_wallText_bytes, v_handsText_length, v_handsText_bytes, v_wall_courses, v_wall_columns, v_wall_fault, v_wall_stones, v_hands_told, v_hands_fault, v_hands_mood, v_hands_strong)
    else
      (f_x_textOf a0).bind (fun o23 =>
      if o23 = 0 then
          if v_wallText_length < (Int32.ofNat 44) then
            gd (inb v_wallText_length 44) (
            (f_x_retell v_toldIsStale (v_wallText_length + (1 : Int32)) (upd v_wallText_bytes v_wallText_length.toNatClampNeg a1) v_handsText_length v_handsText_bytes v_wall_courses v_wall_columns v_wall_fault v_wall_stones v_hands_told v_hands_fault v_hands_mood v_hands_strong a0).bind (fun o64 =>
            some (v_wallText_length + (1 : Int32), o64.1, v_wallText_length + (1 : Int32), upd v_wallText_bytes v_wallText_length.toNatClampNeg a1, v_handsText_length, v_handsText_bytes, o64.2.1, o64.2.2.1, o64.2.2.2.1, o64.2.2.2.2.1, o64.2.2.2.2.2.1, o64.2.2.2.2.2.2.1, o64.2.2.2.2.2.2.2.1, o64.2.2.2.2.2.2.2.2)))
          else
            some ((-4 : Int32), v_toldIsStale, v_wallText_length, v_wallText_bytes, v_handsText_length, v_handsText_bytes, v_wall_courses, v_wall_columns, v_wall_fault, v_wall_stones, v_hands_told, v_hands_fault, v_hands_mood, v_hands_strong)
        else if v_handsText_length < (Int32.ofNat 23) then
          gd (inb v_handsText_length 23) (
          (f_x_retell v_toldIsStale v_wallText_length v_wallText_bytes (v_handsText_length + (1 : Int32)) (upd v_handsText_bytes v_handsText_length.toNatClampNeg a1) v_wall_courses v_wall_columns v_wall_fault v_wall_stones v_hands_told v_hands_fault v_hands_mood v_hands_strong a0).bind (fun o64 =>
          some (v_handsText_length + (1 : Int32), o64.1, v_wallText_length, v_wallText_bytes, v_handsText_length + (1 : Int32), upd v_handsText_bytes v_handsText_length.toNatClampNeg a1, o64.2.1, o64.2.2.1, o64.2.2.2.1, o64.2.2.2.2.1, o64.2.2.2.2.2.1, o64.2.2.2.2.2.2.1, o64.2.2.2.2.2.2.2.1, o64.2.2.2.2.2.2.2.2)))
        else
          some ((-4 : Int32), v_toldIsStale, v_wallText_length, v_wallText_bytes, v_handsText_length, v_handsText_bytes, v_wall_courses, v_wall_columns, v_wall_fault, v_wall_stones, v_hands_told, v_hands_fault, v_hands_mood, v_hands_strong))))

-- WallHands.wipe(I)I
def f_x_wipe (v_toldIsStale : Int32) (v_wallText_length : Int32) (v_wallText_bytes : Nat → Int32) (v_handsText_length : Int32) (v_handsText_bytes : Nat → Int32) (v_wall_courses : Int32) (v_wall_columns : Int32) (v_wall_fault : Int32) (v_wall_stones : Nat → Int64) (v_hands_told : Int32) (v_hands_fault : Int32) (v_hands_mood : Nat → Int32) (v_hands_strong : Nat → Int32) (a0 : Int32) : Option (Int32 × Int32 × Int32 × Int32 × Int32 × Int32 × Int32 × (Nat → Int64) × Int32 × Int32 × (Nat → Int32) × (Nat → Int32)) :=
  (f_x_isEither a0).bind (fun o1 =>
  if o1 = 0 then
    some ((-2 : Int32), v_toldIsStale, v_wallText_length, v_handsText_length, v_wall_courses, v_wall_columns, v_wall_fault, v_wall_stones, v_hands_told, v_hands_fault, v_hands_mood, v_hands_strong)
  else
    (f_x_textOf a0).bind (fun o12 =>
    if o12 = 0 then
        (f_x_retell v_toldIsStale (0 : Int32) v_wallText_bytes v_handsText_length v_handsText_bytes v_wall_courses v_wall_columns v_wall_fault v_wall_stones v_hands_told v_hands_fault v_hands_mood v_hands_strong a0).bind (fun o28 =>
        some (v_wallText_length, o28.1, (0 : Int32), v_handsText_length, o28.2.1, o28.2.2.1, o28.2.2.2.1, o28.2.2.2.2.1, o28.2.2.2.2.2.1, o28.2.2.2.2.2.2.1, o28.2.2.2.2.2.2.2.1, o28.2.2.2.2.2.2.2.2))
      else (f_x_retell v_toldIsStale v_wallText_length v_wallText_bytes (0 : Int32) v_handsText_bytes v_wall_courses v_wall_columns v_wall_fault v_wall_stones v_hands_told v_hands_fault v_hands_mood v_hands_strong a0).bind (fun o28 =>
      some (v_handsText_length, o28.1, v_wallText_length, (0 : Int32), o28.2.1, o28.2.2.1, o28.2.2.2.1, o28.2.2.2.2.1, o28.2.2.2.2.2.1, o28.2.2.2.2.2.2.1, o28.2.2.2.2.2.2.2.1, o28.2.2.2.2.2.2.2.2))))

-- WallHands.undo(I)I
def f_x_undo (v_toldIsStale : Int32) (v_wallText_length : Int32) (v_wallText_bytes : Nat → Int32) (v_handsText_length : Int32) (v_handsText_bytes : Nat → Int32) (v_wall_courses : Int32) (v_wall_columns : Int32) (v_wall_fault : Int32) (v_wall_stones : Nat → Int64) (v_hands_told : Int32) (v_hands_fault : Int32) (v_hands_mood : Nat → Int32) (v_hands_strong : Nat → Int32) (a0 : Int32) : Option (Int32 × Int32 × Int32 × Int32 × Int32 × Int32 × Int32 × (Nat → Int64) × Int32 × Int32 × (Nat → Int32) × (Nat → Int32)) :=
  (f_x_isEither a0).bind (fun o1 =>
  if o1 = 0 then
    some ((-2 : Int32), v_toldIsStale, v_wallText_length, v_handsText_length, v_wall_courses, v_wall_columns, v_wall_fault, v_wall_stones, v_hands_told, v_hands_fault, v_hands_mood, v_hands_strong)
  else
    (f_x_textOf a0).bind (fun o12 =>
    if o12 = 0 then
        if v_wallText_length = 0 then
          some ((-3 : Int32), v_toldIsStale, v_wallText_length, v_handsText_length, v_wall_courses, v_wall_columns, v_wall_fault, v_wall_stones, v_hands_told, v_hands_fault, v_hands_mood, v_hands_strong)
        else
          (f_x_retell v_toldIsStale (v_wallText_length - (1 : Int32)) v_wallText_bytes v_handsText_length v_handsText_bytes v_wall_courses v_wall_columns v_wall_fault v_wall_stones v_hands_told v_hands_fault v_hands_mood v_hands_strong a0).bind (fun o38 =>
          some (v_wallText_length - (1 : Int32), o38.1, v_wallText_length - (1 : Int32), v_handsText_length, o38.2.1, o38.2.2.1, o38.2.2.2.1, o38.2.2.2.2.1, o38.2.2.2.2.2.1, o38.2.2.2.2.2.2.1, o38.2.2.2.2.2.2.2.1, o38.2.2.2.2.2.2.2.2))
      else if v_handsText_length = 0 then
        some ((-3 : Int32), v_toldIsStale, v_wallText_length, v_handsText_length, v_wall_courses, v_wall_columns, v_wall_fault, v_wall_stones, v_hands_told, v_hands_fault, v_hands_mood, v_hands_strong)
      else
        (f_x_retell v_toldIsStale v_wallText_length v_wallText_bytes (v_handsText_length - (1 : Int32)) v_handsText_bytes v_wall_courses v_wall_columns v_wall_fault v_wall_stones v_hands_told v_hands_fault v_hands_mood v_hands_strong a0).bind (fun o38 =>
        some (v_handsText_length - (1 : Int32), o38.1, v_wallText_length, v_handsText_length - (1 : Int32), o38.2.1, o38.2.2.1, o38.2.2.2.1, o38.2.2.2.2.1, o38.2.2.2.2.2.1, o38.2.2.2.2.2.2.1, o38.2.2.2.2.2.2.2.1, o38.2.2.2.2.2.2.2.2))))

-- WallHands.fault(I)I
def f_x_fault (v_wall_fault : Int32) (v_hands_fault : Int32) (a0 : Int32) : Option Int32 :=
  (f_x_isEither a0).bind (fun o1 =>
  if o1 = 0 then
    some (-2 : Int32)
  else
    if a0 = 0 then
      some v_wall_fault
    else
      some v_hands_fault)

-- WallHands.isPlace(II)Z
def f_x_isPlace (a0 : Int32) (a1 : Int32) : Option Int32 :=
  (f_x_within a0 (0 : Int32) (4 : Int32)).bind (fun o3 =>
  if o3 = 0 then
    some (0 : Int32)
  else
    (f_x_within a1 (0 : Int32) (7 : Int32)).bind (fun o13 =>
    if o13 = 0 then
      some (0 : Int32)
    else
      some (1 : Int32)))

-- WallHands.stone(II)I
def f_x_stone (v_wall_stones : Nat → Int64) (a0 : Int32) (a1 : Int32) : Option Int32 :=
  (f_x_isPlace a0 a1).bind (fun o2 =>
  if o2 = 0 then
    some (-2 : Int32)
  else
    (f_x_setterAt v_wall_stones 8 (0 : Int32) (((8 : Int32) * a0) + a1)).bind (fun o25 =>
    some o25))

-- WallHands.hand(II)I
def f_x_hand (v_hands_told : Int32) (v_hands_mood : Nat → Int32) (v_hands_strong : Nat → Int32) (a0 : Int32) (a1 : Int32) : Option Int32 :=
  (f_hs_has v_hands_told a0).bind (fun o5 =>
  if o5 = 0 then
    some (-2 : Int32)
  else
    (f_x_isEither a1).bind (fun o12 =>
    if o12 = 0 then
      some (-2 : Int32)
    else
      if a1 = 0 then
        gd (inb a0 8) (
        some (v_hands_mood a0.toNatClampNeg))
      else
        gd (inb a0 8) (
        some (v_hands_strong a0.toNatClampNeg))))

-- WallHands.jump(I)I
def f_x_jump (v_toldIsStale : Int32) (v_wall_jump : Int32) (a0 : Int32) : Option (Int32 × Int32 × Int32) :=
  (f_x_within a0 (1 : Int32) (5 : Int32)).bind (fun o3 =>
  if o3 = 0 then
    some ((-2 : Int32), v_toldIsStale, v_wall_jump)
  else
    some (v_wall_jump, (1 : Int32), a0))

-- WallHands.frost(II)I
def f_x_frost (v_toldIsStale : Int32) (v_frosts_told : Int32) (v_frosts_year : Nat → Int32) (v_frosts_force : Nat → Int32) (a0 : Int32) (a1 : Int32) : Option (Int32 × Int32 × Int32 × (Nat → Int32) × (Nat → Int32)) :=
  (f_fr_mayBe a0 a1).bind (fun o2 =>
  if o2 = 0 then
    some ((-2 : Int32), v_toldIsStale, v_frosts_told, v_frosts_year, v_frosts_force)
  else
    if v_frosts_told < (6 : Int32) then
      (f_fr_add v_frosts_told v_frosts_year v_frosts_force a0 a1).bind (fun o32 =>
      some (o32.1, (1 : Int32), o32.1, o32.2.1, o32.2.2))
    else
      some ((-4 : Int32), v_toldIsStale, v_frosts_told, v_frosts_year, v_frosts_force))

-- WallHands.gapping(III)I
def f_x_gapping (v_toldIsStale : Int32) (v_gappings_told : Int32) (v_gappings_year : Nat → Int32) (v_gappings_column : Nat → Int32) (v_gappings_hand : Nat → Int32) (a0 : Int32) (a1 : Int32) (a2 : Int32) : Option (Int32 × Int32 × Int32 × (Nat → Int32) × (Nat → Int32) × (Nat → Int32)) :=
  (f_x_isYear a0).bind (fun o1 =>
  if o1 = 0 then
    some ((-2 : Int32), v_toldIsStale, v_gappings_told, v_gappings_year, v_gappings_column, v_gappings_hand)
  else
    (f_x_within a1 (0 : Int32) (7 : Int32)).bind (fun o11 =>
    if o11 = 0 then
      some ((-2 : Int32), v_toldIsStale, v_gappings_told, v_gappings_year, v_gappings_column, v_gappings_hand)
    else
      (f_x_within a2 (0 : Int32) (7 : Int32)).bind (fun o21 =>
      if o21 = 0 then
        some ((-2 : Int32), v_toldIsStale, v_gappings_told, v_gappings_year, v_gappings_column, v_gappings_hand)
      else
        if v_gappings_told < (6 : Int32) then
          (f_gp_add v_gappings_told v_gappings_year v_gappings_column v_gappings_hand a0 a1 a2).bind (fun o52 =>
          some (o52.1, (1 : Int32), o52.1, o52.2.1, o52.2.2.1, o52.2.2.2))
        else
          some ((-4 : Int32), v_toldIsStale, v_gappings_told, v_gappings_year, v_gappings_column, v_gappings_hand))))

-- WallHands.back(I)I
def f_x_back_N72 (v_toldIsStale : Int32) (v_frosts_told : Int32) (v_gappings_told : Int32) (x2 : Int32) : Option (Int32 × Int32 × Int32 × Int32) :=
  some (x2 - (1 : Int32), (1 : Int32), v_frosts_told, v_gappings_told)

def f_x_back_N31 (v_toldIsStale : Int32) (v_frosts_told : Int32) (v_gappings_told : Int32) (x1 : Int32) (y0 : Int32) : Option (Int32 × Int32 × Int32 × Int32) :=
  if y0 = 0 then
    some ((-3 : Int32), v_toldIsStale, v_frosts_told, v_gappings_told)
  else
    if x1 = 0 then
      f_x_back_N72 v_toldIsStale (v_frosts_told - (1 : Int32)) v_gappings_told y0
    else
      f_x_back_N72 v_toldIsStale v_frosts_told (v_gappings_told - (1 : Int32)) y0

def f_x_back (v_toldIsStale : Int32) (v_frosts_told : Int32) (v_gappings_told : Int32) (a0 : Int32) : Option (Int32 × Int32 × Int32 × Int32) :=
  (f_x_isEither a0).bind (fun o1 =>
  if o1 = 0 then
    some ((-2 : Int32), v_toldIsStale, v_frosts_told, v_gappings_told)
  else
    if a0 = 0 then
      f_x_back_N31 v_toldIsStale v_frosts_told v_gappings_told a0 v_frosts_told
    else
      f_x_back_N31 v_toldIsStale v_frosts_told v_gappings_told a0 v_gappings_told)

-- WallHands.isSheet(I)Z
def f_x_isSheet (a0 : Int32) : Option Int32 :=
  (f_x_within a0 (0 : Int32) (3 : Int32)).bind (fun o3 =>
  gd (isB o3) (
  some o3))

-- WallHands.found(I)I
def f_x_found (v_latestFinding : Int32) (a0 : Int32) : Option (Int32 × Int32) :=
  some ((-10 : Int32) - a0, a0)

-- WallHands.read(I)I
def f_x_read_N119 (v_sheets0_form : Int32) (v_sheets0_size : Int32) (v_sheets0_items : Nat → Int32) (v_sheets1_form : Int32) (v_sheets1_size : Int32) (v_sheets1_items : Nat → Int32) (v_sheets2_form : Int32) (v_sheets2_size : Int32) (v_sheets2_items : Nat → Int32) (v_sheets3_form : Int32) (v_sheets3_size : Int32) (v_sheets3_items : Nat → Int32) (v_toldIsStale : Int32) (v_latestFinding : Int32) (v_frosts_told : Int32) (v_frosts_year : Nat → Int32) (v_frosts_force : Nat → Int32) (x3 : Int32) : Option (Int32 × Int32 × Int32 × Int32 × (Nat → Int32) × (Nat → Int32)) :=
  some (v_frosts_told - x3, (1 : Int32), v_latestFinding, v_frosts_told, v_frosts_year, v_frosts_force)

def f_x_read_N42_0 (v_sheets0_form : Int32) (v_sheets0_size : Int32) (v_sheets0_items : Nat → Int32) (v_sheets1_form : Int32) (v_sheets1_size : Int32) (v_sheets1_items : Nat → Int32) (v_sheets2_form : Int32) (v_sheets2_size : Int32) (v_sheets2_items : Nat → Int32) (v_sheets3_form : Int32) (v_sheets3_size : Int32) (v_sheets3_items : Nat → Int32) (k42 : Int32 → Int32 → Int32 → (Nat → Int32) → (Nat → Int32) → Int32 → Int32 → Option (Int32 × Int32 × Int32 × Int32 × (Nat → Int32) × (Nat → Int32))) (v_toldIsStale : Int32) (v_latestFinding : Int32) (v_frosts_told : Int32) (v_frosts_year : Nat → Int32) (v_frosts_force : Nat → Int32) (x3 : Int32) (x4 : Int32) : Option (Int32 × Int32 × Int32 × Int32 × (Nat → Int32) × (Nat → Int32)) :=
  if v_sheets0_size ≤ (x4 + (1 : Int32)) then
    f_x_read_N119 v_sheets0_form v_sheets0_size v_sheets0_items v_sheets1_form v_sheets1_size v_sheets1_items v_sheets2_form v_sheets2_size v_sheets2_items v_sheets3_form v_sheets3_size v_sheets3_items v_toldIsStale v_latestFinding v_frosts_told v_frosts_year v_frosts_force x3
  else
    if (6 : Int32) ≤ v_frosts_told then
      f_x_read_N119 v_sheets0_form v_sheets0_size v_sheets0_items v_sheets1_form v_sheets1_size v_sheets1_items v_sheets2_form v_sheets2_size v_sheets2_items v_sheets3_form v_sheets3_size v_sheets3_items v_toldIsStale v_latestFinding v_frosts_told v_frosts_year v_frosts_force x3
    else
      gd (inb x4 60) (
      gd (inb (x4 + (1 : Int32)) 60) (
      (f_fr_mayBe (v_sheets0_items x4.toNatClampNeg) (v_sheets0_items (x4 + (1 : Int32)).toNatClampNeg)).bind (fun o81 =>
      if o81 = 0 then
        f_x_read_N119 v_sheets0_form v_sheets0_size v_sheets0_items v_sheets1_form v_sheets1_size v_sheets1_items v_sheets2_form v_sheets2_size v_sheets2_items v_sheets3_form v_sheets3_size v_sheets3_items v_toldIsStale v_latestFinding v_frosts_told v_frosts_year v_frosts_force x3
      else
        gd (inb x4 60) (
        gd (inb (x4 + (1 : Int32)) 60) (
        (f_fr_add v_frosts_told v_frosts_year v_frosts_force (v_sheets0_items x4.toNatClampNeg) (v_sheets0_items (x4 + (1 : Int32)).toNatClampNeg)).bind (fun o110 =>
        k42 v_toldIsStale v_latestFinding o110.1 o110.2.1 o110.2.2 x3 (x4 + (2 : Int32))))))))

def f_x_read_N42_1 (v_sheets0_form : Int32) (v_sheets0_size : Int32) (v_sheets0_items : Nat → Int32) (v_sheets1_form : Int32) (v_sheets1_size : Int32) (v_sheets1_items : Nat → Int32) (v_sheets2_form : Int32) (v_sheets2_size : Int32) (v_sheets2_items : Nat → Int32) (v_sheets3_form : Int32) (v_sheets3_size : Int32) (v_sheets3_items : Nat → Int32) (k42 : Int32 → Int32 → Int32 → (Nat → Int32) → (Nat → Int32) → Int32 → Int32 → Option (Int32 × Int32 × Int32 × Int32 × (Nat → Int32) × (Nat → Int32))) (v_toldIsStale : Int32) (v_latestFinding : Int32) (v_frosts_told : Int32) (v_frosts_year : Nat → Int32) (v_frosts_force : Nat → Int32) (x3 : Int32) (x4 : Int32) : Option (Int32 × Int32 × Int32 × Int32 × (Nat → Int32) × (Nat → Int32)) :=
  if v_sheets1_size ≤ (x4 + (1 : Int32)) then
    f_x_read_N119 v_sheets0_form v_sheets0_size v_sheets0_items v_sheets1_form v_sheets1_size v_sheets1_items v_sheets2_form v_sheets2_size v_sheets2_items v_sheets3_form v_sheets3_size v_sheets3_items v_toldIsStale v_latestFinding v_frosts_told v_frosts_year v_frosts_force x3
  else
    if (6 : Int32) ≤ v_frosts_told then
      f_x_read_N119 v_sheets0_form v_sheets0_size v_sheets0_items v_sheets1_form v_sheets1_size v_sheets1_items v_sheets2_form v_sheets2_size v_sheets2_items v_sheets3_form v_sheets3_size v_sheets3_items v_toldIsStale v_latestFinding v_frosts_told v_frosts_year v_frosts_force x3
    else
      gd (inb x4 60) (
      gd (inb (x4 + (1 : Int32)) 60) (
      (f_fr_mayBe (v_sheets1_items x4.toNatClampNeg) (v_sheets1_items (x4 + (1 : Int32)).toNatClampNeg)).bind (fun o81 =>
      if o81 = 0 then
        f_x_read_N119 v_sheets0_form v_sheets0_size v_sheets0_items v_sheets1_form v_sheets1_size v_sheets1_items v_sheets2_form v_sheets2_size v_sheets2_items v_sheets3_form v_sheets3_size v_sheets3_items v_toldIsStale v_latestFinding v_frosts_told v_frosts_year v_frosts_force x3
      else
        gd (inb x4 60) (
        gd (inb (x4 + (1 : Int32)) 60) (
        (f_fr_add v_frosts_told v_frosts_year v_frosts_force (v_sheets1_items x4.toNatClampNeg) (v_sheets1_items (x4 + (1 : Int32)).toNatClampNeg)).bind (fun o110 =>
        k42 v_toldIsStale v_latestFinding o110.1 o110.2.1 o110.2.2 x3 (x4 + (2 : Int32))))))))

def f_x_read_N42_2 (v_sheets0_form : Int32) (v_sheets0_size : Int32) (v_sheets0_items : Nat → Int32) (v_sheets1_form : Int32) (v_sheets1_size : Int32) (v_sheets1_items : Nat → Int32) (v_sheets2_form : Int32) (v_sheets2_size : Int32) (v_sheets2_items : Nat → Int32) (v_sheets3_form : Int32) (v_sheets3_size : Int32) (v_sheets3_items : Nat → Int32) (k42 : Int32 → Int32 → Int32 → (Nat → Int32) → (Nat → Int32) → Int32 → Int32 → Option (Int32 × Int32 × Int32 × Int32 × (Nat → Int32) × (Nat → Int32))) (v_toldIsStale : Int32) (v_latestFinding : Int32) (v_frosts_told : Int32) (v_frosts_year : Nat → Int32) (v_frosts_force : Nat → Int32) (x3 : Int32) (x4 : Int32) : Option (Int32 × Int32 × Int32 × Int32 × (Nat → Int32) × (Nat → Int32)) :=
  if v_sheets2_size ≤ (x4 + (1 : Int32)) then
    f_x_read_N119 v_sheets0_form v_sheets0_size v_sheets0_items v_sheets1_form v_sheets1_size v_sheets1_items v_sheets2_form v_sheets2_size v_sheets2_items v_sheets3_form v_sheets3_size v_sheets3_items v_toldIsStale v_latestFinding v_frosts_told v_frosts_year v_frosts_force x3
  else
    if (6 : Int32) ≤ v_frosts_told then
      f_x_read_N119 v_sheets0_form v_sheets0_size v_sheets0_items v_sheets1_form v_sheets1_size v_sheets1_items v_sheets2_form v_sheets2_size v_sheets2_items v_sheets3_form v_sheets3_size v_sheets3_items v_toldIsStale v_latestFinding v_frosts_told v_frosts_year v_frosts_force x3
    else
      gd (inb x4 60) (
      gd (inb (x4 + (1 : Int32)) 60) (
      (f_fr_mayBe (v_sheets2_items x4.toNatClampNeg) (v_sheets2_items (x4 + (1 : Int32)).toNatClampNeg)).bind (fun o81 =>
      if o81 = 0 then
        f_x_read_N119 v_sheets0_form v_sheets0_size v_sheets0_items v_sheets1_form v_sheets1_size v_sheets1_items v_sheets2_form v_sheets2_size v_sheets2_items v_sheets3_form v_sheets3_size v_sheets3_items v_toldIsStale v_latestFinding v_frosts_told v_frosts_year v_frosts_force x3
      else
        gd (inb x4 60) (
        gd (inb (x4 + (1 : Int32)) 60) (
        (f_fr_add v_frosts_told v_frosts_year v_frosts_force (v_sheets2_items x4.toNatClampNeg) (v_sheets2_items (x4 + (1 : Int32)).toNatClampNeg)).bind (fun o110 =>
        k42 v_toldIsStale v_latestFinding o110.1 o110.2.1 o110.2.2 x3 (x4 + (2 : Int32))))))))

def f_x_read_N42_3 (v_sheets0_form : Int32) (v_sheets0_size : Int32) (v_sheets0_items : Nat → Int32) (v_sheets1_form : Int32) (v_sheets1_size : Int32) (v_sheets1_items : Nat → Int32) (v_sheets2_form : Int32) (v_sheets2_size : Int32) (v_sheets2_items : Nat → Int32) (v_sheets3_form : Int32) (v_sheets3_size : Int32) (v_sheets3_items : Nat → Int32) (k42 : Int32 → Int32 → Int32 → (Nat → Int32) → (Nat → Int32) → Int32 → Int32 → Option (Int32 × Int32 × Int32 × Int32 × (Nat → Int32) × (Nat → Int32))) (v_toldIsStale : Int32) (v_latestFinding : Int32) (v_frosts_told : Int32) (v_frosts_year : Nat → Int32) (v_frosts_force : Nat → Int32) (x3 : Int32) (x4 : Int32) : Option (Int32 × Int32 × Int32 × Int32 × (Nat → Int32) × (Nat → Int32)) :=
  if v_sheets3_size ≤ (x4 + (1 : Int32)) then
    f_x_read_N119 v_sheets0_form v_sheets0_size v_sheets0_items v_sheets1_form v_sheets1_size v_sheets1_items v_sheets2_form v_sheets2_size v_sheets2_items v_sheets3_form v_sheets3_size v_sheets3_items v_toldIsStale v_latestFinding v_frosts_told v_frosts_year v_frosts_force x3
  else
    if (6 : Int32) ≤ v_frosts_told then
      f_x_read_N119 v_sheets0_form v_sheets0_size v_sheets0_items v_sheets1_form v_sheets1_size v_sheets1_items v_sheets2_form v_sheets2_size v_sheets2_items v_sheets3_form v_sheets3_size v_sheets3_items v_toldIsStale v_latestFinding v_frosts_told v_frosts_year v_frosts_force x3
    else
      gd (inb x4 60) (
      gd (inb (x4 + (1 : Int32)) 60) (
      (f_fr_mayBe (v_sheets3_items x4.toNatClampNeg) (v_sheets3_items (x4 + (1 : Int32)).toNatClampNeg)).bind (fun o81 =>
      if o81 = 0 then
        f_x_read_N119 v_sheets0_form v_sheets0_size v_sheets0_items v_sheets1_form v_sheets1_size v_sheets1_items v_sheets2_form v_sheets2_size v_sheets2_items v_sheets3_form v_sheets3_size v_sheets3_items v_toldIsStale v_latestFinding v_frosts_told v_frosts_year v_frosts_force x3
      else
        gd (inb x4 60) (
        gd (inb (x4 + (1 : Int32)) 60) (
        (f_fr_add v_frosts_told v_frosts_year v_frosts_force (v_sheets3_items x4.toNatClampNeg) (v_sheets3_items (x4 + (1 : Int32)).toNatClampNeg)).bind (fun o110 =>
        k42 v_toldIsStale v_latestFinding o110.1 o110.2.1 o110.2.2 x3 (x4 + (2 : Int32))))))))

def f_x_read (v_toldIsStale : Int32) (v_latestFinding : Int32) (v_frosts_told : Int32) (v_frosts_year : Nat → Int32) (v_frosts_force : Nat → Int32) (v_sheets0_form : Int32) (v_sheets0_size : Int32) (v_sheets0_items : Nat → Int32) (v_sheets1_form : Int32) (v_sheets1_size : Int32) (v_sheets1_items : Nat → Int32) (v_sheets2_form : Int32) (v_sheets2_size : Int32) (v_sheets2_items : Nat → Int32) (v_sheets3_form : Int32) (v_sheets3_size : Int32) (v_sheets3_items : Nat → Int32) (a0 : Int32) : Option (Int32 × Int32 × Int32 × Int32 × (Nat → Int32) × (Nat → Int32)) :=
  (f_x_isSheet a0).bind (fun o1 =>
  if o1 = 0 then
    some ((-2 : Int32), v_toldIsStale, v_latestFinding, v_frosts_told, v_frosts_year, v_frosts_force)
  else
    if a0 = (0 : Int32) then
      if v_sheets0_form = (-1 : Int32) then
        (f_x_found v_latestFinding (1 : Int32)).bind (fun o27 =>
        some (o27.1, v_toldIsStale, o27.2, v_frosts_told, v_frosts_year, v_frosts_force))
      else
        iter (fun _ _ _ _ _ _ _ => none) (f_x_read_N42_0 v_sheets0_form v_sheets0_size v_sheets0_items v_sheets1_form v_sheets1_size v_sheets1_items v_sheets2_form v_sheets2_size v_sheets2_items v_sheets3_form v_sheets3_size v_sheets3_items) 1000 v_toldIsStale v_latestFinding v_frosts_told v_frosts_year v_frosts_force v_frosts_told (0 : Int32)
    else if a0 = (1 : Int32) then
      if v_sheets1_form = (-1 : Int32) then
        (f_x_found v_latestFinding (1 : Int32)).bind (fun o27 =>
        some (o27.1, v_toldIsStale, o27.2, v_frosts_told, v_frosts_year, v_frosts_force))
      else
        iter (fun _ _ _ _ _ _ _ => none) (f_x_read_N42_1 v_sheets0_form v_sheets0_size v_sheets0_items v_sheets1_form v_sheets1_size v_sheets1_items v_sheets2_form v_sheets2_size v_sheets2_items v_sheets3_form v_sheets3_size v_sheets3_items) 1000 v_toldIsStale v_latestFinding v_frosts_told v_frosts_year v_frosts_force v_frosts_told (0 : Int32)
    else if a0 = (2 : Int32) then
      if v_sheets2_form = (-1 : Int32) then
        (f_x_found v_latestFinding (1 : Int32)).bind (fun o27 =>
        some (o27.1, v_toldIsStale, o27.2, v_frosts_told, v_frosts_year, v_frosts_force))
      else
        iter (fun _ _ _ _ _ _ _ => none) (f_x_read_N42_2 v_sheets0_form v_sheets0_size v_sheets0_items v_sheets1_form v_sheets1_size v_sheets1_items v_sheets2_form v_sheets2_size v_sheets2_items v_sheets3_form v_sheets3_size v_sheets3_items) 1000 v_toldIsStale v_latestFinding v_frosts_told v_frosts_year v_frosts_force v_frosts_told (0 : Int32)
    else if a0 = (3 : Int32) then
      if v_sheets3_form = (-1 : Int32) then
        (f_x_found v_latestFinding (1 : Int32)).bind (fun o27 =>
        some (o27.1, v_toldIsStale, o27.2, v_frosts_told, v_frosts_year, v_frosts_force))
      else
        iter (fun _ _ _ _ _ _ _ => none) (f_x_read_N42_3 v_sheets0_form v_sheets0_size v_sheets0_items v_sheets1_form v_sheets1_size v_sheets1_items v_sheets2_form v_sheets2_size v_sheets2_items v_sheets3_form v_sheets3_size v_sheets3_items) 1000 v_toldIsStale v_latestFinding v_frosts_told v_frosts_year v_frosts_force v_frosts_told (0 : Int32)
    else none)

-- WallHands.asTold()LWallHands$Years;
def f_x_asTold (v_toldIsStale : Int32) (v_wall_courses : Int32) (v_wall_columns : Int32) (v_wall_jump : Int32) (v_wall_stones : Nat → Int64) (v_hands_told : Int32) (v_hands_mood : Nat → Int32) (v_hands_strong : Nat → Int32) (v_frosts_told : Int32) (v_frosts_year : Nat → Int32) (v_frosts_force : Nat → Int32) (v_gappings_told : Int32) (v_gappings_year : Nat → Int32) (v_gappings_column : Nat → Int32) (v_gappings_hand : Nat → Int32) (v_told_all : Int64) (v_told_losers : Int32) (v_told_now : Nat → Int64) (v_told_stones : Nat → Int64) (v_told_standing : Nat → Int64) (v_told_open : Nat → Int32) (v_told_fallen : Nat → Int32) : Option (Int32 × Int64 × Int32 × (Nat → Int64) × (Nat → Int64) × (Nat → Int64) × (Nat → Int32) × (Nat → Int32)) :=
  if v_toldIsStale = 0 then
    some (v_toldIsStale, v_told_all, v_told_losers, v_told_now, v_told_stones, v_told_standing, v_told_open, v_told_fallen)
  else
    (f_ys_run v_told_all v_told_losers v_wall_courses v_wall_columns v_wall_jump v_wall_stones v_hands_told v_hands_mood v_hands_strong v_gappings_told v_gappings_year v_gappings_column v_gappings_hand v_told_now v_told_stones v_told_standing v_told_open v_told_fallen v_frosts_told v_frosts_year v_frosts_force (0 : Int32)).bind (fun o16 =>
    some ((0 : Int32), o16.1, o16.2.1, o16.2.2.1, o16.2.2.2.1, o16.2.2.2.2.1, o16.2.2.2.2.2.1, o16.2.2.2.2.2.2))

-- WallHands.at(IIII)I
def f_x_at (v_toldIsStale : Int32) (v_wall_courses : Int32) (v_wall_columns : Int32) (v_wall_jump : Int32) (v_wall_stones : Nat → Int64) (v_hands_told : Int32) (v_hands_mood : Nat → Int32) (v_hands_strong : Nat → Int32) (v_frosts_told : Int32) (v_frosts_year : Nat → Int32) (v_frosts_force : Nat → Int32) (v_gappings_told : Int32) (v_gappings_year : Nat → Int32) (v_gappings_column : Nat → Int32) (v_gappings_hand : Nat → Int32) (v_told_all : Int64) (v_told_losers : Int32) (v_told_now : Nat → Int64) (v_told_stones : Nat → Int64) (v_told_standing : Nat → Int64) (v_told_open : Nat → Int32) (v_told_fallen : Nat → Int32) (a0 : Int32) (a1 : Int32) (a2 : Int32) (a3 : Int32) : Option (Int32 × Int32 × Int64 × Int32 × (Nat → Int64) × (Nat → Int64) × (Nat → Int64) × (Nat → Int32) × (Nat → Int32)) :=
  (f_x_isYear a0).bind (fun o1 =>
  if o1 = 0 then
    some ((-2 : Int32), v_toldIsStale, v_told_all, v_told_losers, v_told_now, v_told_stones, v_told_standing, v_told_open, v_told_fallen)
  else
    (f_x_isPlace a1 a2).bind (fun o9 =>
    if o9 = 0 then
      some ((-2 : Int32), v_toldIsStale, v_told_all, v_told_losers, v_told_now, v_told_stones, v_told_standing, v_told_open, v_told_fallen)
    else
      (f_x_isEither a3).bind (fun o17 =>
      if o17 = 0 then
        some ((-2 : Int32), v_toldIsStale, v_told_all, v_told_losers, v_told_now, v_told_stones, v_told_standing, v_told_open, v_told_fallen)
      else
        (f_x_asTold v_toldIsStale v_wall_courses v_wall_columns v_wall_jump v_wall_stones v_hands_told v_hands_mood v_hands_strong v_frosts_told v_frosts_year v_frosts_force v_gappings_told v_gappings_year v_gappings_column v_gappings_hand v_told_all v_told_losers v_told_now v_told_stones v_told_standing v_told_open v_told_fallen).bind (fun o27 =>
        if a3 = 0 then
          (f_ys_setterBehind o27.2.2.2.2.1 a0 (((8 : Int32) * a1) + a2)).bind (fun o50 =>
          some (o50, o27.1, o27.2.1, o27.2.2.1, o27.2.2.2.1, o27.2.2.2.2.1, o27.2.2.2.2.2.1, o27.2.2.2.2.2.2.1, o27.2.2.2.2.2.2.2))
        else
          (f_ys_holdBehind o27.2.1 v_hands_told v_hands_mood v_hands_strong o27.2.2.2.1 o27.2.2.2.2.1 o27.2.2.2.2.2.1 a0 (((8 : Int32) * a1) + a2)).bind (fun o61 =>
          some (o61.1, o27.1, o61.2.1, o27.2.2.1, o61.2.2, o27.2.2.2.2.1, o27.2.2.2.2.2.1, o27.2.2.2.2.2.2.1, o27.2.2.2.2.2.2.2))))))

-- WallHands.column(III)I
def f_x_column (v_toldIsStale : Int32) (v_wall_courses : Int32) (v_wall_columns : Int32) (v_wall_jump : Int32) (v_wall_stones : Nat → Int64) (v_hands_told : Int32) (v_hands_mood : Nat → Int32) (v_hands_strong : Nat → Int32) (v_frosts_told : Int32) (v_frosts_year : Nat → Int32) (v_frosts_force : Nat → Int32) (v_gappings_told : Int32) (v_gappings_year : Nat → Int32) (v_gappings_column : Nat → Int32) (v_gappings_hand : Nat → Int32) (v_told_all : Int64) (v_told_losers : Int32) (v_told_now : Nat → Int64) (v_told_stones : Nat → Int64) (v_told_standing : Nat → Int64) (v_told_open : Nat → Int32) (v_told_fallen : Nat → Int32) (a0 : Int32) (a1 : Int32) (a2 : Int32) : Option (Int32 × Int32 × Int64 × Int32 × (Nat → Int64) × (Nat → Int64) × (Nat → Int64) × (Nat → Int32) × (Nat → Int32)) :=
  (f_x_isYear a0).bind (fun o1 =>
  if o1 = 0 then
    some ((-2 : Int32), v_toldIsStale, v_told_all, v_told_losers, v_told_now, v_told_stones, v_told_standing, v_told_open, v_told_fallen)
  else
    (f_x_within a1 (0 : Int32) (v_wall_columns - (1 : Int32))).bind (fun o18 =>
    if o18 = 0 then
      some ((-2 : Int32), v_toldIsStale, v_told_all, v_told_losers, v_told_now, v_told_stones, v_told_standing, v_told_open, v_told_fallen)
    else
      (f_x_isEither a2).bind (fun o25 =>
      if o25 = 0 then
        some ((-2 : Int32), v_toldIsStale, v_told_all, v_told_losers, v_told_now, v_told_stones, v_told_standing, v_told_open, v_told_fallen)
      else
        (f_x_asTold v_toldIsStale v_wall_courses v_wall_columns v_wall_jump v_wall_stones v_hands_told v_hands_mood v_hands_strong v_frosts_told v_frosts_year v_frosts_force v_gappings_told v_gappings_year v_gappings_column v_gappings_hand v_told_all v_told_losers v_told_now v_told_stones v_told_standing v_told_open v_told_fallen).bind (fun o35 =>
        if a2 = 0 then
          (f_ys_highBehind o35.2.2.2.2.2.1 a0 a1).bind (fun o48 =>
          some (o48, o35.1, o35.2.1, o35.2.2.1, o35.2.2.2.1, o35.2.2.2.2.1, o35.2.2.2.2.2.1, o35.2.2.2.2.2.2.1, o35.2.2.2.2.2.2.2))
        else
          gd (inb a0 20) (
          some ((ushr (o35.2.2.2.2.2.2.1 a0.toNatClampNeg) a1) &&& (1 : Int32), o35.1, o35.2.1, o35.2.2.1, o35.2.2.2.1, o35.2.2.2.2.1, o35.2.2.2.2.2.1, o35.2.2.2.2.2.2.1, o35.2.2.2.2.2.2.2))))))

-- WallHands.falls(I)I
def f_x_falls (v_toldIsStale : Int32) (v_wall_courses : Int32) (v_wall_columns : Int32) (v_wall_jump : Int32) (v_wall_stones : Nat → Int64) (v_hands_told : Int32) (v_hands_mood : Nat → Int32) (v_hands_strong : Nat → Int32) (v_frosts_told : Int32) (v_frosts_year : Nat → Int32) (v_frosts_force : Nat → Int32) (v_gappings_told : Int32) (v_gappings_year : Nat → Int32) (v_gappings_column : Nat → Int32) (v_gappings_hand : Nat → Int32) (v_told_all : Int64) (v_told_losers : Int32) (v_told_now : Nat → Int64) (v_told_stones : Nat → Int64) (v_told_standing : Nat → Int64) (v_told_open : Nat → Int32) (v_told_fallen : Nat → Int32) (a0 : Int32) : Option (Int32 × Int32 × Int64 × Int32 × (Nat → Int64) × (Nat → Int64) × (Nat → Int64) × (Nat → Int32) × (Nat → Int32)) :=
  (f_x_isYear a0).bind (fun o1 =>
  if o1 = 0 then
    some ((-2 : Int32), v_toldIsStale, v_told_all, v_told_losers, v_told_now, v_told_stones, v_told_standing, v_told_open, v_told_fallen)
  else
    (f_x_asTold v_toldIsStale v_wall_courses v_wall_columns v_wall_jump v_wall_stones v_hands_told v_hands_mood v_hands_strong v_frosts_told v_frosts_year v_frosts_force v_gappings_told v_gappings_year v_gappings_column v_gappings_hand v_told_all v_told_losers v_told_now v_told_stones v_told_standing v_told_open v_told_fallen).bind (fun o8 =>
    gd (inb a0 20) (
    some (o8.2.2.2.2.2.2.2 a0.toNatClampNeg, o8.1, o8.2.1, o8.2.2.1, o8.2.2.2.1, o8.2.2.2.2.1, o8.2.2.2.2.2.1, o8.2.2.2.2.2.2.1, o8.2.2.2.2.2.2.2))))

-- WallHands.sheep(I)I
def f_x_sheep (v_toldIsStale : Int32) (v_wall_courses : Int32) (v_wall_columns : Int32) (v_wall_jump : Int32) (v_wall_stones : Nat → Int64) (v_hands_told : Int32) (v_hands_mood : Nat → Int32) (v_hands_strong : Nat → Int32) (v_frosts_told : Int32) (v_frosts_year : Nat → Int32) (v_frosts_force : Nat → Int32) (v_gappings_told : Int32) (v_gappings_year : Nat → Int32) (v_gappings_column : Nat → Int32) (v_gappings_hand : Nat → Int32) (v_told_all : Int64) (v_told_losers : Int32) (v_told_now : Nat → Int64) (v_told_stones : Nat → Int64) (v_told_standing : Nat → Int64) (v_told_open : Nat → Int32) (v_told_fallen : Nat → Int32) (a0 : Int32) : Option (Int32 × Int32 × Int64 × Int32 × (Nat → Int64) × (Nat → Int64) × (Nat → Int64) × (Nat → Int32) × (Nat → Int32)) :=
  (f_x_isEither a0).bind (fun o1 =>
  if o1 = 0 then
    some ((-2 : Int32), v_toldIsStale, v_told_all, v_told_losers, v_told_now, v_told_stones, v_told_standing, v_told_open, v_told_fallen)
  else
    (f_x_asTold v_toldIsStale v_wall_courses v_wall_columns v_wall_jump v_wall_stones v_hands_told v_hands_mood v_hands_strong v_frosts_told v_frosts_year v_frosts_force v_gappings_told v_gappings_year v_gappings_column v_gappings_hand v_told_all v_told_losers v_told_now v_told_stones v_told_standing v_told_open v_told_fallen).bind (fun o11 =>
    if a0 = 0 then
      (f_ys_firstOpenYear o11.2.2.2.2.2.2.1).bind (fun o20 =>
      some (o20, o11.1, o11.2.1, o11.2.2.1, o11.2.2.2.1, o11.2.2.2.2.1, o11.2.2.2.2.2.1, o11.2.2.2.2.2.2.1, o11.2.2.2.2.2.2.2))
    else
      (f_ys_openYears o11.2.2.2.2.2.2.1).bind (fun o27 =>
      some (o27, o11.1, o11.2.1, o11.2.2.1, o11.2.2.2.1, o11.2.2.2.2.1, o11.2.2.2.2.2.1, o11.2.2.2.2.2.2.1, o11.2.2.2.2.2.2.2))))

-- WallHands.mine(I)I
def f_x_mine (v_toldIsStale : Int32) (v_wall_courses : Int32) (v_wall_columns : Int32) (v_wall_jump : Int32) (v_wall_stones : Nat → Int64) (v_hands_told : Int32) (v_hands_mood : Nat → Int32) (v_hands_strong : Nat → Int32) (v_frosts_told : Int32) (v_frosts_year : Nat → Int32) (v_frosts_force : Nat → Int32) (v_gappings_told : Int32) (v_gappings_year : Nat → Int32) (v_gappings_column : Nat → Int32) (v_gappings_hand : Nat → Int32) (v_told_all : Int64) (v_told_losers : Int32) (v_told_now : Nat → Int64) (v_told_stones : Nat → Int64) (v_told_standing : Nat → Int64) (v_told_open : Nat → Int32) (v_told_fallen : Nat → Int32) (a0 : Int32) : Option (Int32 × Int32 × Int64 × Int32 × (Nat → Int64) × (Nat → Int64) × (Nat → Int64) × (Nat → Int32) × (Nat → Int32)) :=
  (f_x_within a0 (0 : Int32) (7 : Int32)).bind (fun o4 =>
  if o4 = 0 then
    some ((-2 : Int32), v_toldIsStale, v_told_all, v_told_losers, v_told_now, v_told_stones, v_told_standing, v_told_open, v_told_fallen)
  else
    (f_x_asTold v_toldIsStale v_wall_courses v_wall_columns v_wall_jump v_wall_stones v_hands_told v_hands_mood v_hands_strong v_frosts_told v_frosts_year v_frosts_force v_gappings_told v_gappings_year v_gappings_column v_gappings_hand v_told_all v_told_losers v_told_now v_told_stones v_told_standing v_told_open v_told_fallen).bind (fun o11 =>
    (f_ys_lastingOf o11.2.2.2.2.1 a0).bind (fun o15 =>
    some (o15, o11.1, o11.2.1, o11.2.2.1, o11.2.2.2.1, o11.2.2.2.2.1, o11.2.2.2.2.2.1, o11.2.2.2.2.2.2.1, o11.2.2.2.2.2.2.2))))

-- WallHands.best()I
def f_x_best_N12 (v_wall_courses : Int32) (v_wall_columns : Int32) (v_wall_jump : Int32) (v_wall_stones : Nat → Int64) (v_hands_told : Int32) (v_hands_mood : Nat → Int32) (v_hands_strong : Nat → Int32) (v_frosts_told : Int32) (v_frosts_year : Nat → Int32) (v_frosts_force : Nat → Int32) (v_gappings_told : Int32) (v_gappings_year : Nat → Int32) (v_gappings_column : Nat → Int32) (v_gappings_hand : Nat → Int32) (k12 : Int32 → Int64 → Int32 → (Nat → Int64) → (Nat → Int64) → (Nat → Int64) → (Nat → Int32) → (Nat → Int32) → Int32 → Int32 → Int32 → Option (Int32 × Int32 × Int64 × Int32 × (Nat → Int64) × (Nat → Int64) × (Nat → Int64) × (Nat → Int32) × (Nat → Int32))) (v_toldIsStale : Int32) (v_told_all : Int64) (v_told_losers : Int32) (v_told_now : Nat → Int64) (v_told_stones : Nat → Int64) (v_told_standing : Nat → Int64) (v_told_open : Nat → Int32) (v_told_fallen : Nat → Int32) (x2 : Int32) (x3 : Int32) (x4 : Int32) : Option (Int32 × Int32 × Int64 × Int32 × (Nat → Int64) × (Nat → Int64) × (Nat → Int64) × (Nat → Int32) × (Nat → Int32)) :=
  if (8 : Int32) ≤ x4 then
    some (x2, v_toldIsStale, v_told_all, v_told_losers, v_told_now, v_told_stones, v_told_standing, v_told_open, v_told_fallen)
  else
    (f_ys_lastingOf v_told_stones x4).bind (fun o22 =>
    if o22 ≤ x3 then
      k12 v_toldIsStale v_told_all v_told_losers v_told_now v_told_stones v_told_standing v_told_open v_told_fallen x2 x3 (x4 + (1 : Int32))
    else
      k12 v_toldIsStale v_told_all v_told_losers v_told_now v_told_stones v_told_standing v_told_open v_told_fallen x4 o22 (x4 + (1 : Int32)))

def f_x_best (v_toldIsStale : Int32) (v_wall_courses : Int32) (v_wall_columns : Int32) (v_wall_jump : Int32) (v_wall_stones : Nat → Int64) (v_hands_told : Int32) (v_hands_mood : Nat → Int32) (v_hands_strong : Nat → Int32) (v_frosts_told : Int32) (v_frosts_year : Nat → Int32) (v_frosts_force : Nat → Int32) (v_gappings_told : Int32) (v_gappings_year : Nat → Int32) (v_gappings_column : Nat → Int32) (v_gappings_hand : Nat → Int32) (v_told_all : Int64) (v_told_losers : Int32) (v_told_now : Nat → Int64) (v_told_stones : Nat → Int64) (v_told_standing : Nat → Int64) (v_told_open : Nat → Int32) (v_told_fallen : Nat → Int32) : Option (Int32 × Int32 × Int64 × Int32 × (Nat → Int64) × (Nat → Int64) × (Nat → Int64) × (Nat → Int32) × (Nat → Int32)) :=
  (f_x_asTold v_toldIsStale v_wall_courses v_wall_columns v_wall_jump v_wall_stones v_hands_told v_hands_mood v_hands_strong v_frosts_told v_frosts_year v_frosts_force v_gappings_told v_gappings_year v_gappings_column v_gappings_hand v_told_all v_told_losers v_told_now v_told_stones v_told_standing v_told_open v_told_fallen).bind (fun o1 =>
  iter (fun _ _ _ _ _ _ _ _ _ _ _ => none) (f_x_best_N12 v_wall_courses v_wall_columns v_wall_jump v_wall_stones v_hands_told v_hands_mood v_hands_strong v_frosts_told v_frosts_year v_frosts_force v_gappings_told v_gappings_year v_gappings_column v_gappings_hand) 1000 o1.1 o1.2.1 o1.2.2.1 o1.2.2.2.1 o1.2.2.2.2.1 o1.2.2.2.2.2.1 o1.2.2.2.2.2.2.1 o1.2.2.2.2.2.2.2 (-1 : Int32) (0 : Int32) (0 : Int32))

-- WallHands.mend(II)I
def f_x_mend_N114 (v_wall_courses : Int32) (v_wall_columns : Int32) (v_wall_jump : Int32) (v_wall_stones : Nat → Int64) (v_hands_told : Int32) (v_hands_mood : Nat → Int32) (v_hands_strong : Nat → Int32) (v_frosts_told : Int32) (v_frosts_year : Nat → Int32) (v_frosts_force : Nat → Int32) (k30 : Int32 → (Nat → Int32) → (Nat → Int32) → (Nat → Int32) → Int64 → Int32 → (Nat → Int64) → (Nat → Int64) → (Nat → Int64) → (Nat → Int32) → (Nat → Int32) → Int32 → Int32 → Int32 → Int32 → Int32 → Int32 → Option (Int32 × Int32 × (Nat → Int32) × (Nat → Int32) × (Nat → Int32) × Int64 × Int32 × (Nat → Int64) × (Nat → Int64) × (Nat → Int64) × (Nat → Int32) × (Nat → Int32))) (k45 : Int32 → (Nat → Int32) → (Nat → Int32) → (Nat → Int32) → Int64 → Int32 → (Nat → Int64) → (Nat → Int64) → (Nat → Int64) → (Nat → Int32) → (Nat → Int32) → Int32 → Int32 → Int32 → Int32 → Int32 → Int32 → Int32 → Option (Int32 × Int32 × (Nat → Int32) × (Nat → Int32) × (Nat → Int32) × Int64 × Int32 × (Nat → Int64) × (Nat → Int64) × (Nat → Int64) × (Nat → Int32) × (Nat → Int32))) (v_gappings_told : Int32) (v_gappings_year : Nat → Int32) (v_gappings_column : Nat → Int32) (v_gappings_hand : Nat → Int32) (v_trial_all : Int64) (v_trial_losers : Int32) (v_trial_now : Nat → Int64) (v_trial_stones : Nat → Int64) (v_trial_standing : Nat → Int64) (v_trial_open : Nat → Int32) (v_trial_fallen : Nat → Int32) (x1 : Int32) (x2 : Int32) (x6 : Int32) (x7 : Int32) (x8 : Int32) : Option (Int32 × Int32 × (Nat → Int32) × (Nat → Int32) × (Nat → Int32) × Int64 × Int32 × (Nat → Int64) × (Nat → Int64) × (Nat → Int64) × (Nat → Int32) × (Nat → Int32)) :=
  k45 v_gappings_told v_gappings_year v_gappings_column v_gappings_hand v_trial_all v_trial_losers v_trial_now v_trial_stones v_trial_standing v_trial_open v_trial_fallen x1 x2 x8 x6 x7 x6 (x7 + (1 : Int32))

def f_x_mend_N45 (v_wall_courses : Int32) (v_wall_columns : Int32) (v_wall_jump : Int32) (v_wall_stones : Nat → Int64) (v_hands_told : Int32) (v_hands_mood : Nat → Int32) (v_hands_strong : Nat → Int32) (v_frosts_told : Int32) (v_frosts_year : Nat → Int32) (v_frosts_force : Nat → Int32) (k30 : Int32 → (Nat → Int32) → (Nat → Int32) → (Nat → Int32) → Int64 → Int32 → (Nat → Int64) → (Nat → Int64) → (Nat → Int64) → (Nat → Int32) → (Nat → Int32) → Int32 → Int32 → Int32 → Int32 → Int32 → Int32 → Option (Int32 × Int32 × (Nat → Int32) × (Nat → Int32) × (Nat → Int32) × Int64 × Int32 × (Nat → Int64) × (Nat → Int64) × (Nat → Int64) × (Nat → Int32) × (Nat → Int32))) (k45 : Int32 → (Nat → Int32) → (Nat → Int32) → (Nat → Int32) → Int64 → Int32 → (Nat → Int64) → (Nat → Int64) → (Nat → Int64) → (Nat → Int32) → (Nat → Int32) → Int32 → Int32 → Int32 → Int32 → Int32 → Int32 → Int32 → Option (Int32 × Int32 × (Nat → Int32) × (Nat → Int32) × (Nat → Int32) × Int64 × Int32 × (Nat → Int64) × (Nat → Int64) × (Nat → Int64) × (Nat → Int32) × (Nat → Int32))) (v_gappings_told : Int32) (v_gappings_year : Nat → Int32) (v_gappings_column : Nat → Int32) (v_gappings_hand : Nat → Int32) (v_trial_all : Int64) (v_trial_losers : Int32) (v_trial_now : Nat → Int64) (v_trial_stones : Nat → Int64) (v_trial_standing : Nat → Int64) (v_trial_open : Nat → Int32) (v_trial_fallen : Nat → Int32) (x1 : Int32) (x2 : Int32) (x3 : Int32) (x4 : Int32) (x5 : Int32) (x6 : Int32) (x7 : Int32) : Option (Int32 × Int32 × (Nat → Int32) × (Nat → Int32) × (Nat → Int32) × Int64 × Int32 × (Nat → Int64) × (Nat → Int64) × (Nat → Int64) × (Nat → Int32) × (Nat → Int32)) :=
  if v_hands_told ≤ x7 then
    k30 v_gappings_told v_gappings_year v_gappings_column v_gappings_hand v_trial_all v_trial_losers v_trial_now v_trial_stones v_trial_standing v_trial_open v_trial_fallen x1 x2 x3 x4 x5 (x6 + (1 : Int32))
  else
    (f_gp_add v_gappings_told v_gappings_year v_gappings_column v_gappings_hand x1 x6 x7).bind (fun o66 =>
    (f_ys_run v_trial_all v_trial_losers v_wall_courses v_wall_columns v_wall_jump v_wall_stones v_hands_told v_hands_mood v_hands_strong o66.1 o66.2.1 o66.2.2.1 o66.2.2.2 v_trial_now v_trial_stones v_trial_standing v_trial_open v_trial_fallen v_frosts_told v_frosts_year v_frosts_force (0 : Int32)).bind (fun o78 =>
    (f_ys_openYears o78.2.2.2.2.2.1).bind (fun o98 =>
    if x3 = (-1 : Int32) then
      f_x_mend_N114 v_wall_courses v_wall_columns v_wall_jump v_wall_stones v_hands_told v_hands_mood v_hands_strong v_frosts_told v_frosts_year v_frosts_force k30 k45 (o66.1 - (1 : Int32)) o66.2.1 o66.2.2.1 o66.2.2.2 o78.1 o78.2.1 o78.2.2.1 o78.2.2.2.1 o78.2.2.2.2.1 o78.2.2.2.2.2.1 o78.2.2.2.2.2.2 x1 x2 x6 x7 o98
    else
      if x3 ≤ o98 then
        k45 (o66.1 - (1 : Int32)) o66.2.1 o66.2.2.1 o66.2.2.2 o78.1 o78.2.1 o78.2.2.1 o78.2.2.2.1 o78.2.2.2.2.1 o78.2.2.2.2.2.1 o78.2.2.2.2.2.2 x1 x2 x3 x4 x5 x6 (x7 + (1 : Int32))
      else
        f_x_mend_N114 v_wall_courses v_wall_columns v_wall_jump v_wall_stones v_hands_told v_hands_mood v_hands_strong v_frosts_told v_frosts_year v_frosts_force k30 k45 (o66.1 - (1 : Int32)) o66.2.1 o66.2.2.1 o66.2.2.2 o78.1 o78.2.1 o78.2.2.1 o78.2.2.2.1 o78.2.2.2.2.1 o78.2.2.2.2.2.1 o78.2.2.2.2.2.2 x1 x2 x6 x7 o98)))

def f_x_mend_N30 (v_wall_courses : Int32) (v_wall_columns : Int32) (v_wall_jump : Int32) (v_wall_stones : Nat → Int64) (v_hands_told : Int32) (v_hands_mood : Nat → Int32) (v_hands_strong : Nat → Int32) (v_frosts_told : Int32) (v_frosts_year : Nat → Int32) (v_frosts_force : Nat → Int32) (k30 : Int32 → (Nat → Int32) → (Nat → Int32) → (Nat → Int32) → Int64 → Int32 → (Nat → Int64) → (Nat → Int64) → (Nat → Int64) → (Nat → Int32) → (Nat → Int32) → Int32 → Int32 → Int32 → Int32 → Int32 → Int32 → Option (Int32 × Int32 × (Nat → Int32) × (Nat → Int32) × (Nat → Int32) × Int64 × Int32 × (Nat → Int64) × (Nat → Int64) × (Nat → Int64) × (Nat → Int32) × (Nat → Int32))) (v_gappings_told : Int32) (v_gappings_year : Nat → Int32) (v_gappings_column : Nat → Int32) (v_gappings_hand : Nat → Int32) (v_trial_all : Int64) (v_trial_losers : Int32) (v_trial_now : Nat → Int64) (v_trial_stones : Nat → Int64) (v_trial_standing : Nat → Int64) (v_trial_open : Nat → Int32) (v_trial_fallen : Nat → Int32) (x1 : Int32) (x2 : Int32) (x3 : Int32) (x4 : Int32) (x5 : Int32) (x6 : Int32) : Option (Int32 × Int32 × (Nat → Int32) × (Nat → Int32) × (Nat → Int32) × Int64 × Int32 × (Nat → Int64) × (Nat → Int64) × (Nat → Int64) × (Nat → Int32) × (Nat → Int32)) :=
  if v_wall_columns ≤ x6 then
    if x2 = 0 then
      some (x4, v_gappings_told, v_gappings_year, v_gappings_column, v_gappings_hand, v_trial_all, v_trial_losers, v_trial_now, v_trial_stones, v_trial_standing, v_trial_open, v_trial_fallen)
    else
      if x2 = (1 : Int32) then
        some (x5, v_gappings_told, v_gappings_year, v_gappings_column, v_gappings_hand, v_trial_all, v_trial_losers, v_trial_now, v_trial_stones, v_trial_standing, v_trial_open, v_trial_fallen)
      else
        some (x3, v_gappings_told, v_gappings_year, v_gappings_column, v_gappings_hand, v_trial_all, v_trial_losers, v_trial_now, v_trial_stones, v_trial_standing, v_trial_open, v_trial_fallen)
  else
    iter (fun _ _ _ _ _ _ _ _ _ _ _ _ _ _ _ _ _ _ => none) (f_x_mend_N45 v_wall_courses v_wall_columns v_wall_jump v_wall_stones v_hands_told v_hands_mood v_hands_strong v_frosts_told v_frosts_year v_frosts_force k30) 1000 v_gappings_told v_gappings_year v_gappings_column v_gappings_hand v_trial_all v_trial_losers v_trial_now v_trial_stones v_trial_standing v_trial_open v_trial_fallen x1 x2 x3 x4 x5 x6 (0 : Int32)

def f_x_mend (v_wall_courses : Int32) (v_wall_columns : Int32) (v_wall_jump : Int32) (v_wall_stones : Nat → Int64) (v_hands_told : Int32) (v_hands_mood : Nat → Int32) (v_hands_strong : Nat → Int32) (v_frosts_told : Int32) (v_frosts_year : Nat → Int32) (v_frosts_force : Nat → Int32) (v_gappings_told : Int32) (v_gappings_year : Nat → Int32) (v_gappings_column : Nat → Int32) (v_gappings_hand : Nat → Int32) (v_trial_all : Int64) (v_trial_losers : Int32) (v_trial_now : Nat → Int64) (v_trial_stones : Nat → Int64) (v_trial_standing : Nat → Int64) (v_trial_open : Nat → Int32) (v_trial_fallen : Nat → Int32) (a0 : Int32) (a1 : Int32) : Option (Int32 × Int32 × (Nat → Int32) × (Nat → Int32) × (Nat → Int32) × Int64 × Int32 × (Nat → Int64) × (Nat → Int64) × (Nat → Int64) × (Nat → Int32) × (Nat → Int32)) :=
  (f_x_isYear a0).bind (fun o1 =>
  if o1 = 0 then
    some ((-2 : Int32), v_gappings_told, v_gappings_year, v_gappings_column, v_gappings_hand, v_trial_all, v_trial_losers, v_trial_now, v_trial_stones, v_trial_standing, v_trial_open, v_trial_fallen)
  else
    (f_x_within a1 (0 : Int32) (2 : Int32)).bind (fun o10 =>
    if o10 = 0 then
      some ((-2 : Int32), v_gappings_told, v_gappings_year, v_gappings_column, v_gappings_hand, v_trial_all, v_trial_losers, v_trial_now, v_trial_stones, v_trial_standing, v_trial_open, v_trial_fallen)
    else
      iter (fun _ _ _ _ _ _ _ _ _ _ _ _ _ _ _ _ _ => none) (f_x_mend_N30 v_wall_courses v_wall_columns v_wall_jump v_wall_stones v_hands_told v_hands_mood v_hands_strong v_frosts_told v_frosts_year v_frosts_force) 1000 v_gappings_told v_gappings_year v_gappings_column v_gappings_hand v_trial_all v_trial_losers v_trial_now v_trial_stones v_trial_standing v_trial_open v_trial_fallen a0 a1 (-1 : Int32) (-1 : Int32) (-1 : Int32) (0 : Int32)))

-- WallHands.firm(I)I
def f_x_firm_N87 (v_wall_courses : Int32) (v_wall_columns : Int32) (v_wall_jump : Int32) (v_wall_stones : Nat → Int64) (v_hands_told : Int32) (v_hands_mood : Nat → Int32) (v_frosts_told : Int32) (v_frosts_year : Nat → Int32) (v_frosts_force : Nat → Int32) (v_gappings_told : Int32) (v_gappings_year : Nat → Int32) (v_gappings_column : Nat → Int32) (v_gappings_hand : Nat → Int32) (v_hands_strong : Nat → Int32) (v_trial_all : Int64) (v_trial_losers : Int32) (v_trial_now : Nat → Int64) (v_trial_stones : Nat → Int64) (v_trial_standing : Nat → Int64) (v_trial_open : Nat → Int32) (v_trial_fallen : Nat → Int32) (x1 : Int32) (x2 : Int32) (x3 : Int32) : Option (Int32 × (Nat → Int32) × Int64 × Int32 × (Nat → Int64) × (Nat → Int64) × (Nat → Int64) × (Nat → Int32) × (Nat → Int32)) :=
  gd (inb x1 8) (
  some (x3, upd v_hands_strong x1.toNatClampNeg x2, v_trial_all, v_trial_losers, v_trial_now, v_trial_stones, v_trial_standing, v_trial_open, v_trial_fallen))

def f_x_firm_N29 (v_wall_courses : Int32) (v_wall_columns : Int32) (v_wall_jump : Int32) (v_wall_stones : Nat → Int64) (v_hands_told : Int32) (v_hands_mood : Nat → Int32) (v_frosts_told : Int32) (v_frosts_year : Nat → Int32) (v_frosts_force : Nat → Int32) (v_gappings_told : Int32) (v_gappings_year : Nat → Int32) (v_gappings_column : Nat → Int32) (v_gappings_hand : Nat → Int32) (k29 : (Nat → Int32) → Int64 → Int32 → (Nat → Int64) → (Nat → Int64) → (Nat → Int64) → (Nat → Int32) → (Nat → Int32) → Int32 → Int32 → Int32 → Int32 → Option (Int32 × (Nat → Int32) × Int64 × Int32 × (Nat → Int64) × (Nat → Int64) × (Nat → Int64) × (Nat → Int32) × (Nat → Int32))) (v_hands_strong : Nat → Int32) (v_trial_all : Int64) (v_trial_losers : Int32) (v_trial_now : Nat → Int64) (v_trial_stones : Nat → Int64) (v_trial_standing : Nat → Int64) (v_trial_open : Nat → Int32) (v_trial_fallen : Nat → Int32) (x1 : Int32) (x2 : Int32) (x3 : Int32) (x4 : Int32) : Option (Int32 × (Nat → Int32) × Int64 × Int32 × (Nat → Int64) × (Nat → Int64) × (Nat → Int64) × (Nat → Int32) × (Nat → Int32)) :=
  if (9 : Int32) < x4 then
    f_x_firm_N87 v_wall_courses v_wall_columns v_wall_jump v_wall_stones v_hands_told v_hands_mood v_frosts_told v_frosts_year v_frosts_force v_gappings_told v_gappings_year v_gappings_column v_gappings_hand v_hands_strong v_trial_all v_trial_losers v_trial_now v_trial_stones v_trial_standing v_trial_open v_trial_fallen x1 x2 x3
  else
    if x3 = (-1 : Int32) then
      gd (inb x1 8) (
      (f_ys_run v_trial_all v_trial_losers v_wall_courses v_wall_columns v_wall_jump v_wall_stones v_hands_told v_hands_mood (upd v_hands_strong x1.toNatClampNeg x4) v_gappings_told v_gappings_year v_gappings_column v_gappings_hand v_trial_now v_trial_stones v_trial_standing v_trial_open v_trial_fallen v_frosts_told v_frosts_year v_frosts_force (0 : Int32)).bind (fun o61 =>
      if ((ushr o61.2.1 x1) &&& (1 : Int32)) = 0 then
        k29 (upd v_hands_strong x1.toNatClampNeg x4) o61.1 o61.2.1 o61.2.2.1 o61.2.2.2.1 o61.2.2.2.2.1 o61.2.2.2.2.2.1 o61.2.2.2.2.2.2 x1 x2 x4 (x4 + (1 : Int32))
      else
        k29 (upd v_hands_strong x1.toNatClampNeg x4) o61.1 o61.2.1 o61.2.2.1 o61.2.2.2.1 o61.2.2.2.2.1 o61.2.2.2.2.2.1 o61.2.2.2.2.2.2 x1 x2 x3 (x4 + (1 : Int32))))
    else
      f_x_firm_N87 v_wall_courses v_wall_columns v_wall_jump v_wall_stones v_hands_told v_hands_mood v_frosts_told v_frosts_year v_frosts_force v_gappings_told v_gappings_year v_gappings_column v_gappings_hand v_hands_strong v_trial_all v_trial_losers v_trial_now v_trial_stones v_trial_standing v_trial_open v_trial_fallen x1 x2 x3

def f_x_firm (v_wall_courses : Int32) (v_wall_columns : Int32) (v_wall_jump : Int32) (v_wall_stones : Nat → Int64) (v_hands_told : Int32) (v_hands_mood : Nat → Int32) (v_hands_strong : Nat → Int32) (v_frosts_told : Int32) (v_frosts_year : Nat → Int32) (v_frosts_force : Nat → Int32) (v_gappings_told : Int32) (v_gappings_year : Nat → Int32) (v_gappings_column : Nat → Int32) (v_gappings_hand : Nat → Int32) (v_trial_all : Int64) (v_trial_losers : Int32) (v_trial_now : Nat → Int64) (v_trial_stones : Nat → Int64) (v_trial_standing : Nat → Int64) (v_trial_open : Nat → Int32) (v_trial_fallen : Nat → Int32) (a0 : Int32) : Option (Int32 × (Nat → Int32) × Int64 × Int32 × (Nat → Int64) × (Nat → Int64) × (Nat → Int64) × (Nat → Int32) × (Nat → Int32)) :=
  (f_hs_has v_hands_told a0).bind (fun o5 =>
  if o5 = 0 then
    some ((-2 : Int32), v_hands_strong, v_trial_all, v_trial_losers, v_trial_now, v_trial_stones, v_trial_standing, v_trial_open, v_trial_fallen)
  else
    gd (inb a0 8) (
    iter (fun _ _ _ _ _ _ _ _ _ _ _ _ => none) (f_x_firm_N29 v_wall_courses v_wall_columns v_wall_jump v_wall_stones v_hands_told v_hands_mood v_frosts_told v_frosts_year v_frosts_force v_gappings_told v_gappings_year v_gappings_column v_gappings_hand) 1000 v_hands_strong v_trial_all v_trial_losers v_trial_now v_trial_stones v_trial_standing v_trial_open v_trial_fallen a0 (v_hands_strong a0.toNatClampNeg) (-1 : Int32) (1 : Int32)))

-- WallHands.relay(II)I
def f_x_relay_N116 (v_wall_courses : Int32) (v_wall_columns : Int32) (v_wall_jump : Int32) (v_hands_told : Int32) (v_hands_mood : Nat → Int32) (v_hands_strong : Nat → Int32) (v_frosts_told : Int32) (v_frosts_year : Nat → Int32) (v_frosts_force : Nat → Int32) (v_gappings_told : Int32) (v_gappings_year : Nat → Int32) (v_gappings_column : Nat → Int32) (v_gappings_hand : Nat → Int32) (k29 : (Nat → Int64) → Int64 → Int32 → (Nat → Int64) → (Nat → Int64) → (Nat → Int64) → (Nat → Int32) → (Nat → Int32) → Int32 → Int32 → Int32 → Int32 → Int32 → Option (Int32 × (Nat → Int64) × Int64 × Int32 × (Nat → Int64) × (Nat → Int64) × (Nat → Int64) × (Nat → Int32) × (Nat → Int32))) (v_wall_stones : Nat → Int64) (v_trial_all : Int64) (v_trial_losers : Int32) (v_trial_now : Nat → Int64) (v_trial_stones : Nat → Int64) (v_trial_standing : Nat → Int64) (v_trial_open : Nat → Int32) (v_trial_fallen : Nat → Int32) (x1 : Int32) (x2 : Int32) (x5 : Int32) (x7 : Int32) : Option (Int32 × (Nat → Int64) × Int64 × Int32 × (Nat → Int64) × (Nat → Int64) × (Nat → Int64) × (Nat → Int32) × (Nat → Int32)) :=
  k29 v_wall_stones v_trial_all v_trial_losers v_trial_now v_trial_stones v_trial_standing v_trial_open v_trial_fallen x1 x2 x7 x5 (x5 + (1 : Int32))

def f_x_relay_N29 (v_wall_courses : Int32) (v_wall_columns : Int32) (v_wall_jump : Int32) (v_hands_told : Int32) (v_hands_mood : Nat → Int32) (v_hands_strong : Nat → Int32) (v_frosts_told : Int32) (v_frosts_year : Nat → Int32) (v_frosts_force : Nat → Int32) (v_gappings_told : Int32) (v_gappings_year : Nat → Int32) (v_gappings_column : Nat → Int32) (v_gappings_hand : Nat → Int32) (k29 : (Nat → Int64) → Int64 → Int32 → (Nat → Int64) → (Nat → Int64) → (Nat → Int64) → (Nat → Int32) → (Nat → Int32) → Int32 → Int32 → Int32 → Int32 → Int32 → Option (Int32 × (Nat → Int64) × Int64 × Int32 × (Nat → Int64) × (Nat → Int64) × (Nat → Int64) × (Nat → Int32) × (Nat → Int32))) (v_wall_stones : Nat → Int64) (v_trial_all : Int64) (v_trial_losers : Int32) (v_trial_now : Nat → Int64) (v_trial_stones : Nat → Int64) (v_trial_standing : Nat → Int64) (v_trial_open : Nat → Int32) (v_trial_fallen : Nat → Int32) (x1 : Int32) (x2 : Int32) (x3 : Int32) (x4 : Int32) (x5 : Int32) : Option (Int32 × (Nat → Int64) × Int64 × Int32 × (Nat → Int64) × (Nat → Int64) × (Nat → Int64) × (Nat → Int32) × (Nat → Int32)) :=
  if (40 : Int32) ≤ x5 then
    if x2 = 0 then
      some (x4, v_wall_stones, v_trial_all, v_trial_losers, v_trial_now, v_trial_stones, v_trial_standing, v_trial_open, v_trial_fallen)
    else
      some (x3, v_wall_stones, v_trial_all, v_trial_losers, v_trial_now, v_trial_stones, v_trial_standing, v_trial_open, v_trial_fallen)
  else
    (f_x_setterAt v_wall_stones 8 (0 : Int32) x5).bind (fun o46 =>
    if o46 = (-1 : Int32) then
      k29 v_wall_stones v_trial_all v_trial_losers v_trial_now v_trial_stones v_trial_standing v_trial_open v_trial_fallen x1 x2 x3 x4 (x5 + (1 : Int32))
    else
      (f_wl_passOn v_wall_stones x5 o46 x1).bind (fun o69 =>
      (f_ys_run v_trial_all v_trial_losers v_wall_courses v_wall_columns v_wall_jump o69 v_hands_told v_hands_mood v_hands_strong v_gappings_told v_gappings_year v_gappings_column v_gappings_hand v_trial_now v_trial_stones v_trial_standing v_trial_open v_trial_fallen v_frosts_told v_frosts_year v_frosts_force (0 : Int32)).bind (fun o81 =>
      (f_wl_passOn o69 x5 x1 o46).bind (fun o93 =>
      (f_ys_allFallen o81.2.2.2.2.2.2).bind (fun o100 =>
      if x3 = (-1 : Int32) then
        f_x_relay_N116 v_wall_courses v_wall_columns v_wall_jump v_hands_told v_hands_mood v_hands_strong v_frosts_told v_frosts_year v_frosts_force v_gappings_told v_gappings_year v_gappings_column v_gappings_hand k29 o93 o81.1 o81.2.1 o81.2.2.1 o81.2.2.2.1 o81.2.2.2.2.1 o81.2.2.2.2.2.1 o81.2.2.2.2.2.2 x1 x2 x5 o100
      else
        if x3 ≤ o100 then
          k29 o93 o81.1 o81.2.1 o81.2.2.1 o81.2.2.2.1 o81.2.2.2.2.1 o81.2.2.2.2.2.1 o81.2.2.2.2.2.2 x1 x2 x3 x4 (x5 + (1 : Int32))
        else
          f_x_relay_N116 v_wall_courses v_wall_columns v_wall_jump v_hands_told v_hands_mood v_hands_strong v_frosts_told v_frosts_year v_frosts_force v_gappings_told v_gappings_year v_gappings_column v_gappings_hand k29 o93 o81.1 o81.2.1 o81.2.2.1 o81.2.2.2.1 o81.2.2.2.2.1 o81.2.2.2.2.2.1 o81.2.2.2.2.2.2 x1 x2 x5 o100)))))

def f_x_relay (v_wall_courses : Int32) (v_wall_columns : Int32) (v_wall_jump : Int32) (v_wall_stones : Nat → Int64) (v_hands_told : Int32) (v_hands_mood : Nat → Int32) (v_hands_strong : Nat → Int32) (v_frosts_told : Int32) (v_frosts_year : Nat → Int32) (v_frosts_force : Nat → Int32) (v_gappings_told : Int32) (v_gappings_year : Nat → Int32) (v_gappings_column : Nat → Int32) (v_gappings_hand : Nat → Int32) (v_trial_all : Int64) (v_trial_losers : Int32) (v_trial_now : Nat → Int64) (v_trial_stones : Nat → Int64) (v_trial_standing : Nat → Int64) (v_trial_open : Nat → Int32) (v_trial_fallen : Nat → Int32) (a0 : Int32) (a1 : Int32) : Option (Int32 × (Nat → Int64) × Int64 × Int32 × (Nat → Int64) × (Nat → Int64) × (Nat → Int64) × (Nat → Int32) × (Nat → Int32)) :=
  (f_hs_has v_hands_told a0).bind (fun o5 =>
  if o5 = 0 then
    some ((-2 : Int32), v_wall_stones, v_trial_all, v_trial_losers, v_trial_now, v_trial_stones, v_trial_standing, v_trial_open, v_trial_fallen)
  else
    (f_x_isEither a1).bind (fun o12 =>
    if o12 = 0 then
      some ((-2 : Int32), v_wall_stones, v_trial_all, v_trial_losers, v_trial_now, v_trial_stones, v_trial_standing, v_trial_open, v_trial_fallen)
    else
      iter (fun _ _ _ _ _ _ _ _ _ _ _ _ _ => none) (f_x_relay_N29 v_wall_courses v_wall_columns v_wall_jump v_hands_told v_hands_mood v_hands_strong v_frosts_told v_frosts_year v_frosts_force v_gappings_told v_gappings_year v_gappings_column v_gappings_hand) 1000 v_wall_stones v_trial_all v_trial_losers v_trial_now v_trial_stones v_trial_standing v_trial_open v_trial_fallen a0 a1 (-1 : Int32) (-1 : Int32) (0 : Int32)))

-- WallHands.lift(II)I
def f_x_lift (v_wall_stones : Nat → Int64) (a0 : Int32) (a1 : Int32) : Option Int32 :=
  (f_x_isPlace a0 a1).bind (fun o2 =>
  if o2 = 0 then
    some (-2 : Int32)
  else
    (f_x_union v_wall_stones 8).bind (fun o18 =>
    if (lg_cmp (o18 &&& (lshl (1 : Int64) (((8 : Int32) * a0) + a1))) (0 : Int64)) = 0 then
      some (-1 : Int32)
    else
      (f_x_borneOf o18).bind (fun o44 =>
      (f_x_borneOf (o18 &&& ((lshl (1 : Int64) (((8 : Int32) * a0) + a1)) ^^^ (-1 : Int64)))).bind (fun o66 =>
      (f_jl_bitCount ((o44 &&& ((lshl (1 : Int64) (((8 : Int32) * a0) + a1)) ^^^ (-1 : Int64))) &&& (o66 ^^^ (-1 : Int64)))).bind (fun o74 =>
      some o74)))))

-- WallHands.seen(IIII)I
def f_x_seen_N68 (v_sights_told : Int32) (v_sights_year : Nat → Int32) (v_sights_place : Nat → Int32) (v_sights_setter : Nat → Int32) (y1 : Int32) (y2 : Int32) (y3 : Int32) : Option (Int32 × Int32 × (Nat → Int32) × (Nat → Int32) × (Nat → Int32)) :=
  (f_sg_add v_sights_told v_sights_year v_sights_place v_sights_setter y1 y2 y3).bind (fun o68 =>
  some (o68.1, o68.1, o68.2.1, o68.2.2.1, o68.2.2.2))

def f_x_seen (v_sights_told : Int32) (v_sights_year : Nat → Int32) (v_sights_place : Nat → Int32) (v_sights_setter : Nat → Int32) (a0 : Int32) (a1 : Int32) (a2 : Int32) (a3 : Int32) : Option (Int32 × Int32 × (Nat → Int32) × (Nat → Int32) × (Nat → Int32)) :=
  (f_x_isYear a0).bind (fun o1 =>
  if o1 = 0 then
    some ((-2 : Int32), v_sights_told, v_sights_year, v_sights_place, v_sights_setter)
  else
    (f_x_isPlace a1 a2).bind (fun o9 =>
    if o9 = 0 then
      some ((-2 : Int32), v_sights_told, v_sights_year, v_sights_place, v_sights_setter)
    else
      (f_x_within a3 (0 : Int32) (8 : Int32)).bind (fun o20 =>
      if o20 = 0 then
        some ((-2 : Int32), v_sights_told, v_sights_year, v_sights_place, v_sights_setter)
      else
        if v_sights_told < (8 : Int32) then
          if a3 = (8 : Int32) then
            f_x_seen_N68 v_sights_told v_sights_year v_sights_place v_sights_setter a0 (((8 : Int32) * a1) + a2) (-1 : Int32)
          else
            f_x_seen_N68 v_sights_told v_sights_year v_sights_place v_sights_setter a0 (((8 : Int32) * a1) + a2) a3
        else
          some ((-4 : Int32), v_sights_told, v_sights_year, v_sights_place, v_sights_setter))))

-- WallHands.forget()I
def f_x_forget (v_sights_told : Int32) : Option (Int32 × Int32) :=
  some (v_sights_told, (0 : Int32))

-- WallHands.never()I
def f_x_never_N4 (v_wall_courses : Int32) (v_wall_columns : Int32) (v_wall_jump : Int32) (v_wall_stones : Nat → Int64) (v_hands_told : Int32) (v_hands_mood : Nat → Int32) (v_hands_strong : Nat → Int32) (v_frosts_told : Int32) (v_frosts_year : Nat → Int32) (v_frosts_force : Nat → Int32) (v_gappings_told : Int32) (v_gappings_year : Nat → Int32) (v_gappings_column : Nat → Int32) (v_gappings_hand : Nat → Int32) (v_sights_told : Int32) (v_sights_year : Nat → Int32) (v_sights_place : Nat → Int32) (v_sights_setter : Nat → Int32) (k4 : Int64 → Int32 → (Nat → Int64) → (Nat → Int64) → (Nat → Int64) → (Nat → Int32) → (Nat → Int32) → Int32 → Int32 → Option (Int32 × Int64 × Int32 × (Nat → Int64) × (Nat → Int64) × (Nat → Int64) × (Nat → Int32) × (Nat → Int32))) (v_trial_all : Int64) (v_trial_losers : Int32) (v_trial_now : Nat → Int64) (v_trial_stones : Nat → Int64) (v_trial_standing : Nat → Int64) (v_trial_open : Nat → Int32) (v_trial_fallen : Nat → Int32) (x1 : Int32) (x2 : Int32) : Option (Int32 × Int64 × Int32 × (Nat → Int64) × (Nat → Int64) × (Nat → Int64) × (Nat → Int32) × (Nat → Int32)) :=
  if v_frosts_told ≤ x2 then
    some (x1, v_trial_all, v_trial_losers, v_trial_now, v_trial_stones, v_trial_standing, v_trial_open, v_trial_fallen)
  else
    (f_ys_run v_trial_all v_trial_losers v_wall_courses v_wall_columns v_wall_jump v_wall_stones v_hands_told v_hands_mood v_hands_strong v_gappings_told v_gappings_year v_gappings_column v_gappings_hand v_trial_now v_trial_stones v_trial_standing v_trial_open v_trial_fallen v_frosts_told v_frosts_year v_frosts_force ((1 : Int32) <<< (x2 &&& 31))).bind (fun o26 =>
    (f_sg_comeOutIn v_sights_told v_sights_year v_sights_place v_sights_setter o26.2.2.2.1).bind (fun o37 =>
    if o37 = 0 then
      k4 o26.1 o26.2.1 o26.2.2.1 o26.2.2.2.1 o26.2.2.2.2.1 o26.2.2.2.2.2.1 o26.2.2.2.2.2.2 x1 (x2 + (1 : Int32))
    else
      k4 o26.1 o26.2.1 o26.2.2.1 o26.2.2.2.1 o26.2.2.2.2.1 o26.2.2.2.2.2.1 o26.2.2.2.2.2.2 (x1 ||| ((1 : Int32) <<< (x2 &&& 31))) (x2 + (1 : Int32))))

def f_x_never (v_wall_courses : Int32) (v_wall_columns : Int32) (v_wall_jump : Int32) (v_wall_stones : Nat → Int64) (v_hands_told : Int32) (v_hands_mood : Nat → Int32) (v_hands_strong : Nat → Int32) (v_frosts_told : Int32) (v_frosts_year : Nat → Int32) (v_frosts_force : Nat → Int32) (v_gappings_told : Int32) (v_gappings_year : Nat → Int32) (v_gappings_column : Nat → Int32) (v_gappings_hand : Nat → Int32) (v_sights_told : Int32) (v_sights_year : Nat → Int32) (v_sights_place : Nat → Int32) (v_sights_setter : Nat → Int32) (v_trial_all : Int64) (v_trial_losers : Int32) (v_trial_now : Nat → Int64) (v_trial_stones : Nat → Int64) (v_trial_standing : Nat → Int64) (v_trial_open : Nat → Int32) (v_trial_fallen : Nat → Int32) : Option (Int32 × Int64 × Int32 × (Nat → Int64) × (Nat → Int64) × (Nat → Int64) × (Nat → Int32) × (Nat → Int32)) :=
  iter (fun _ _ _ _ _ _ _ _ _ => none) (f_x_never_N4 v_wall_courses v_wall_columns v_wall_jump v_wall_stones v_hands_told v_hands_mood v_hands_strong v_frosts_told v_frosts_year v_frosts_force v_gappings_told v_gappings_year v_gappings_column v_gappings_hand v_sights_told v_sights_year v_sights_place v_sights_setter) 1000 v_trial_all v_trial_losers v_trial_now v_trial_stones v_trial_standing v_trial_open v_trial_fallen (0 : Int32) (0 : Int32)

-- WallHands.was(II)I
def f_x_was_N78_0 (v_wall_courses : Int32) (v_wall_columns : Int32) (v_wall_jump : Int32) (v_wall_stones : Nat → Int64) (v_hands_told : Int32) (v_frosts_told : Int32) (v_frosts_year : Nat → Int32) (v_frosts_force : Nat → Int32) (v_gappings_told : Int32) (v_gappings_year : Nat → Int32) (v_gappings_column : Nat → Int32) (v_gappings_hand : Nat → Int32) (v_sights_told : Int32) (v_sights_year : Nat → Int32) (v_sights_place : Nat → Int32) (v_sights_setter : Nat → Int32) (k78 : (Nat → Int32) → (Nat → Int32) → Int64 → Int32 → (Nat → Int64) → (Nat → Int64) → (Nat → Int64) → (Nat → Int32) → (Nat → Int32) → Int32 → Int32 → Int32 → Int32 → Int32 → Option (Int32 × (Nat → Int32) × (Nat → Int32) × Int64 × Int32 × (Nat → Int64) × (Nat → Int64) × (Nat → Int64) × (Nat → Int32) × (Nat → Int32))) (v_hands_mood : Nat → Int32) (v_hands_strong : Nat → Int32) (v_trial_all : Int64) (v_trial_losers : Int32) (v_trial_now : Nat → Int64) (v_trial_stones : Nat → Int64) (v_trial_standing : Nat → Int64) (v_trial_open : Nat → Int32) (v_trial_fallen : Nat → Int32) (x1 : Int32) (x5 : Int32) (x6 : Int32) (x7 : Int32) (x8 : Int32) : Option (Int32 × (Nat → Int32) × (Nat → Int32) × Int64 × Int32 × (Nat → Int64) × (Nat → Int64) × (Nat → Int64) × (Nat → Int32) × (Nat → Int32)) :=
  if x5 < x8 then
    gd (inb x1 8) (
    some (x7, upd v_hands_mood x1.toNatClampNeg x6, v_hands_strong, v_trial_all, v_trial_losers, v_trial_now, v_trial_stones, v_trial_standing, v_trial_open, v_trial_fallen))
  else
    gd (inb x1 8) (
    (f_ys_run v_trial_all v_trial_losers v_wall_courses v_wall_columns v_wall_jump v_wall_stones v_hands_told (upd v_hands_mood x1.toNatClampNeg x8) v_hands_strong v_gappings_told v_gappings_year v_gappings_column v_gappings_hand v_trial_now v_trial_stones v_trial_standing v_trial_open v_trial_fallen v_frosts_told v_frosts_year v_frosts_force (0 : Int32)).bind (fun o99 =>
    (f_sg_comeOutIn v_sights_told v_sights_year v_sights_place v_sights_setter o99.2.2.2.1).bind (fun o110 =>
    if o110 = 0 then
      k78 (upd v_hands_mood x1.toNatClampNeg x8) v_hands_strong o99.1 o99.2.1 o99.2.2.1 o99.2.2.2.1 o99.2.2.2.2.1 o99.2.2.2.2.2.1 o99.2.2.2.2.2.2 x1 x5 x6 x7 (x8 + (1 : Int32))
    else
      k78 (upd v_hands_mood x1.toNatClampNeg x8) v_hands_strong o99.1 o99.2.1 o99.2.2.1 o99.2.2.2.1 o99.2.2.2.2.1 o99.2.2.2.2.2.1 o99.2.2.2.2.2.2 x1 x5 x6 (x7 ||| ((1 : Int32) <<< (x8 &&& 31))) (x8 + (1 : Int32)))))

def f_x_was_N64_0 (v_wall_courses : Int32) (v_wall_columns : Int32) (v_wall_jump : Int32) (v_wall_stones : Nat → Int64) (v_hands_told : Int32) (v_frosts_told : Int32) (v_frosts_year : Nat → Int32) (v_frosts_force : Nat → Int32) (v_gappings_told : Int32) (v_gappings_year : Nat → Int32) (v_gappings_column : Nat → Int32) (v_gappings_hand : Nat → Int32) (v_sights_told : Int32) (v_sights_year : Nat → Int32) (v_sights_place : Nat → Int32) (v_sights_setter : Nat → Int32) (v_hands_mood : Nat → Int32) (v_hands_strong : Nat → Int32) (v_trial_all : Int64) (v_trial_losers : Int32) (v_trial_now : Nat → Int64) (v_trial_stones : Nat → Int64) (v_trial_standing : Nat → Int64) (v_trial_open : Nat → Int32) (v_trial_fallen : Nat → Int32) (x1 : Int32) (x4 : Int32) (y0 : Int32) : Option (Int32 × (Nat → Int32) × (Nat → Int32) × Int64 × Int32 × (Nat → Int64) × (Nat → Int64) × (Nat → Int64) × (Nat → Int32) × (Nat → Int32)) :=
  gd (inb x1 8) (
  iter (fun _ _ _ _ _ _ _ _ _ _ _ _ _ _ => none) (f_x_was_N78_0 v_wall_courses v_wall_columns v_wall_jump v_wall_stones v_hands_told v_frosts_told v_frosts_year v_frosts_force v_gappings_told v_gappings_year v_gappings_column v_gappings_hand v_sights_told v_sights_year v_sights_place v_sights_setter) 1000 v_hands_mood v_hands_strong v_trial_all v_trial_losers v_trial_now v_trial_stones v_trial_standing v_trial_open v_trial_fallen x1 y0 (v_hands_mood x1.toNatClampNeg) (0 : Int32) x4)

def f_x_was_N52_0 (v_wall_courses : Int32) (v_wall_columns : Int32) (v_wall_jump : Int32) (v_wall_stones : Nat → Int64) (v_hands_told : Int32) (v_frosts_told : Int32) (v_frosts_year : Nat → Int32) (v_frosts_force : Nat → Int32) (v_gappings_told : Int32) (v_gappings_year : Nat → Int32) (v_gappings_column : Nat → Int32) (v_gappings_hand : Nat → Int32) (v_sights_told : Int32) (v_sights_year : Nat → Int32) (v_sights_place : Nat → Int32) (v_sights_setter : Nat → Int32) (v_hands_mood : Nat → Int32) (v_hands_strong : Nat → Int32) (v_trial_all : Int64) (v_trial_losers : Int32) (v_trial_now : Nat → Int64) (v_trial_stones : Nat → Int64) (v_trial_standing : Nat → Int64) (v_trial_open : Nat → Int32) (v_trial_fallen : Nat → Int32) (x1 : Int32) (x2 : Int32) (y0 : Int32) : Option (Int32 × (Nat → Int32) × (Nat → Int32) × Int64 × Int32 × (Nat → Int64) × (Nat → Int64) × (Nat → Int64) × (Nat → Int32) × (Nat → Int32)) :=
  if x2 = 0 then
    f_x_was_N64_0 v_wall_courses v_wall_columns v_wall_jump v_wall_stones v_hands_told v_frosts_told v_frosts_year v_frosts_force v_gappings_told v_gappings_year v_gappings_column v_gappings_hand v_sights_told v_sights_year v_sights_place v_sights_setter v_hands_mood v_hands_strong v_trial_all v_trial_losers v_trial_now v_trial_stones v_trial_standing v_trial_open v_trial_fallen x1 y0 (9 : Int32)
  else
    f_x_was_N64_0 v_wall_courses v_wall_columns v_wall_jump v_wall_stones v_hands_told v_frosts_told v_frosts_year v_frosts_force v_gappings_told v_gappings_year v_gappings_column v_gappings_hand v_sights_told v_sights_year v_sights_place v_sights_setter v_hands_mood v_hands_strong v_trial_all v_trial_losers v_trial_now v_trial_stones v_trial_standing v_trial_open v_trial_fallen x1 y0 (3 : Int32)

def f_x_was_N42_0 (v_wall_courses : Int32) (v_wall_columns : Int32) (v_wall_jump : Int32) (v_wall_stones : Nat → Int64) (v_hands_told : Int32) (v_frosts_told : Int32) (v_frosts_year : Nat → Int32) (v_frosts_force : Nat → Int32) (v_gappings_told : Int32) (v_gappings_year : Nat → Int32) (v_gappings_column : Nat → Int32) (v_gappings_hand : Nat → Int32) (v_sights_told : Int32) (v_sights_year : Nat → Int32) (v_sights_place : Nat → Int32) (v_sights_setter : Nat → Int32) (v_hands_mood : Nat → Int32) (v_hands_strong : Nat → Int32) (v_trial_all : Int64) (v_trial_losers : Int32) (v_trial_now : Nat → Int64) (v_trial_stones : Nat → Int64) (v_trial_standing : Nat → Int64) (v_trial_open : Nat → Int32) (v_trial_fallen : Nat → Int32) (x1 : Int32) (x2 : Int32) : Option (Int32 × (Nat → Int32) × (Nat → Int32) × Int64 × Int32 × (Nat → Int64) × (Nat → Int64) × (Nat → Int64) × (Nat → Int32) × (Nat → Int32)) :=
  if x2 = 0 then
    f_x_was_N52_0 v_wall_courses v_wall_columns v_wall_jump v_wall_stones v_hands_told v_frosts_told v_frosts_year v_frosts_force v_gappings_told v_gappings_year v_gappings_column v_gappings_hand v_sights_told v_sights_year v_sights_place v_sights_setter v_hands_mood v_hands_strong v_trial_all v_trial_losers v_trial_now v_trial_stones v_trial_standing v_trial_open v_trial_fallen x1 x2 (1 : Int32)
  else
    f_x_was_N52_0 v_wall_courses v_wall_columns v_wall_jump v_wall_stones v_hands_told v_frosts_told v_frosts_year v_frosts_force v_gappings_told v_gappings_year v_gappings_column v_gappings_hand v_sights_told v_sights_year v_sights_place v_sights_setter v_hands_mood v_hands_strong v_trial_all v_trial_losers v_trial_now v_trial_stones v_trial_standing v_trial_open v_trial_fallen x1 x2 (0 : Int32)

def f_x_was_N78_1 (v_wall_courses : Int32) (v_wall_columns : Int32) (v_wall_jump : Int32) (v_wall_stones : Nat → Int64) (v_hands_told : Int32) (v_frosts_told : Int32) (v_frosts_year : Nat → Int32) (v_frosts_force : Nat → Int32) (v_gappings_told : Int32) (v_gappings_year : Nat → Int32) (v_gappings_column : Nat → Int32) (v_gappings_hand : Nat → Int32) (v_sights_told : Int32) (v_sights_year : Nat → Int32) (v_sights_place : Nat → Int32) (v_sights_setter : Nat → Int32) (k78 : (Nat → Int32) → (Nat → Int32) → Int64 → Int32 → (Nat → Int64) → (Nat → Int64) → (Nat → Int64) → (Nat → Int32) → (Nat → Int32) → Int32 → Int32 → Int32 → Int32 → Int32 → Option (Int32 × (Nat → Int32) × (Nat → Int32) × Int64 × Int32 × (Nat → Int64) × (Nat → Int64) × (Nat → Int64) × (Nat → Int32) × (Nat → Int32))) (v_hands_mood : Nat → Int32) (v_hands_strong : Nat → Int32) (v_trial_all : Int64) (v_trial_losers : Int32) (v_trial_now : Nat → Int64) (v_trial_stones : Nat → Int64) (v_trial_standing : Nat → Int64) (v_trial_open : Nat → Int32) (v_trial_fallen : Nat → Int32) (x1 : Int32) (x5 : Int32) (x6 : Int32) (x7 : Int32) (x8 : Int32) : Option (Int32 × (Nat → Int32) × (Nat → Int32) × Int64 × Int32 × (Nat → Int64) × (Nat → Int64) × (Nat → Int64) × (Nat → Int32) × (Nat → Int32)) :=
  if x5 < x8 then
    gd (inb x1 8) (
    some (x7, v_hands_mood, upd v_hands_strong x1.toNatClampNeg x6, v_trial_all, v_trial_losers, v_trial_now, v_trial_stones, v_trial_standing, v_trial_open, v_trial_fallen))
  else
    gd (inb x1 8) (
    (f_ys_run v_trial_all v_trial_losers v_wall_courses v_wall_columns v_wall_jump v_wall_stones v_hands_told v_hands_mood (upd v_hands_strong x1.toNatClampNeg x8) v_gappings_told v_gappings_year v_gappings_column v_gappings_hand v_trial_now v_trial_stones v_trial_standing v_trial_open v_trial_fallen v_frosts_told v_frosts_year v_frosts_force (0 : Int32)).bind (fun o99 =>
    (f_sg_comeOutIn v_sights_told v_sights_year v_sights_place v_sights_setter o99.2.2.2.1).bind (fun o110 =>
    if o110 = 0 then
      k78 v_hands_mood (upd v_hands_strong x1.toNatClampNeg x8) o99.1 o99.2.1 o99.2.2.1 o99.2.2.2.1 o99.2.2.2.2.1 o99.2.2.2.2.2.1 o99.2.2.2.2.2.2 x1 x5 x6 x7 (x8 + (1 : Int32))
    else
      k78 v_hands_mood (upd v_hands_strong x1.toNatClampNeg x8) o99.1 o99.2.1 o99.2.2.1 o99.2.2.2.1 o99.2.2.2.2.1 o99.2.2.2.2.2.1 o99.2.2.2.2.2.2 x1 x5 x6 (x7 ||| ((1 : Int32) <<< (x8 &&& 31))) (x8 + (1 : Int32)))))

def f_x_was_N64_1 (v_wall_courses : Int32) (v_wall_columns : Int32) (v_wall_jump : Int32) (v_wall_stones : Nat → Int64) (v_hands_told : Int32) (v_frosts_told : Int32) (v_frosts_year : Nat → Int32) (v_frosts_force : Nat → Int32) (v_gappings_told : Int32) (v_gappings_year : Nat → Int32) (v_gappings_column : Nat → Int32) (v_gappings_hand : Nat → Int32) (v_sights_told : Int32) (v_sights_year : Nat → Int32) (v_sights_place : Nat → Int32) (v_sights_setter : Nat → Int32) (v_hands_mood : Nat → Int32) (v_hands_strong : Nat → Int32) (v_trial_all : Int64) (v_trial_losers : Int32) (v_trial_now : Nat → Int64) (v_trial_stones : Nat → Int64) (v_trial_standing : Nat → Int64) (v_trial_open : Nat → Int32) (v_trial_fallen : Nat → Int32) (x1 : Int32) (x4 : Int32) (y0 : Int32) : Option (Int32 × (Nat → Int32) × (Nat → Int32) × Int64 × Int32 × (Nat → Int64) × (Nat → Int64) × (Nat → Int64) × (Nat → Int32) × (Nat → Int32)) :=
  gd (inb x1 8) (
  iter (fun _ _ _ _ _ _ _ _ _ _ _ _ _ _ => none) (f_x_was_N78_1 v_wall_courses v_wall_columns v_wall_jump v_wall_stones v_hands_told v_frosts_told v_frosts_year v_frosts_force v_gappings_told v_gappings_year v_gappings_column v_gappings_hand v_sights_told v_sights_year v_sights_place v_sights_setter) 1000 v_hands_mood v_hands_strong v_trial_all v_trial_losers v_trial_now v_trial_stones v_trial_standing v_trial_open v_trial_fallen x1 y0 (v_hands_strong x1.toNatClampNeg) (0 : Int32) x4)

def f_x_was_N52_1 (v_wall_courses : Int32) (v_wall_columns : Int32) (v_wall_jump : Int32) (v_wall_stones : Nat → Int64) (v_hands_told : Int32) (v_frosts_told : Int32) (v_frosts_year : Nat → Int32) (v_frosts_force : Nat → Int32) (v_gappings_told : Int32) (v_gappings_year : Nat → Int32) (v_gappings_column : Nat → Int32) (v_gappings_hand : Nat → Int32) (v_sights_told : Int32) (v_sights_year : Nat → Int32) (v_sights_place : Nat → Int32) (v_sights_setter : Nat → Int32) (v_hands_mood : Nat → Int32) (v_hands_strong : Nat → Int32) (v_trial_all : Int64) (v_trial_losers : Int32) (v_trial_now : Nat → Int64) (v_trial_stones : Nat → Int64) (v_trial_standing : Nat → Int64) (v_trial_open : Nat → Int32) (v_trial_fallen : Nat → Int32) (x1 : Int32) (x2 : Int32) (y0 : Int32) : Option (Int32 × (Nat → Int32) × (Nat → Int32) × Int64 × Int32 × (Nat → Int64) × (Nat → Int64) × (Nat → Int64) × (Nat → Int32) × (Nat → Int32)) :=
  if x2 = 0 then
    f_x_was_N64_1 v_wall_courses v_wall_columns v_wall_jump v_wall_stones v_hands_told v_frosts_told v_frosts_year v_frosts_force v_gappings_told v_gappings_year v_gappings_column v_gappings_hand v_sights_told v_sights_year v_sights_place v_sights_setter v_hands_mood v_hands_strong v_trial_all v_trial_losers v_trial_now v_trial_stones v_trial_standing v_trial_open v_trial_fallen x1 y0 (9 : Int32)
  else
    f_x_was_N64_1 v_wall_courses v_wall_columns v_wall_jump v_wall_stones v_hands_told v_frosts_told v_frosts_year v_frosts_force v_gappings_told v_gappings_year v_gappings_column v_gappings_hand v_sights_told v_sights_year v_sights_place v_sights_setter v_hands_mood v_hands_strong v_trial_all v_trial_losers v_trial_now v_trial_stones v_trial_standing v_trial_open v_trial_fallen x1 y0 (3 : Int32)

def f_x_was_N42_1 (v_wall_courses : Int32) (v_wall_columns : Int32) (v_wall_jump : Int32) (v_wall_stones : Nat → Int64) (v_hands_told : Int32) (v_frosts_told : Int32) (v_frosts_year : Nat → Int32) (v_frosts_force : Nat → Int32) (v_gappings_told : Int32) (v_gappings_year : Nat → Int32) (v_gappings_column : Nat → Int32) (v_gappings_hand : Nat → Int32) (v_sights_told : Int32) (v_sights_year : Nat → Int32) (v_sights_place : Nat → Int32) (v_sights_setter : Nat → Int32) (v_hands_mood : Nat → Int32) (v_hands_strong : Nat → Int32) (v_trial_all : Int64) (v_trial_losers : Int32) (v_trial_now : Nat → Int64) (v_trial_stones : Nat → Int64) (v_trial_standing : Nat → Int64) (v_trial_open : Nat → Int32) (v_trial_fallen : Nat → Int32) (x1 : Int32) (x2 : Int32) : Option (Int32 × (Nat → Int32) × (Nat → Int32) × Int64 × Int32 × (Nat → Int64) × (Nat → Int64) × (Nat → Int64) × (Nat → Int32) × (Nat → Int32)) :=
  if x2 = 0 then
    f_x_was_N52_1 v_wall_courses v_wall_columns v_wall_jump v_wall_stones v_hands_told v_frosts_told v_frosts_year v_frosts_force v_gappings_told v_gappings_year v_gappings_column v_gappings_hand v_sights_told v_sights_year v_sights_place v_sights_setter v_hands_mood v_hands_strong v_trial_all v_trial_losers v_trial_now v_trial_stones v_trial_standing v_trial_open v_trial_fallen x1 x2 (1 : Int32)
  else
    f_x_was_N52_1 v_wall_courses v_wall_columns v_wall_jump v_wall_stones v_hands_told v_frosts_told v_frosts_year v_frosts_force v_gappings_told v_gappings_year v_gappings_column v_gappings_hand v_sights_told v_sights_year v_sights_place v_sights_setter v_hands_mood v_hands_strong v_trial_all v_trial_losers v_trial_now v_trial_stones v_trial_standing v_trial_open v_trial_fallen x1 x2 (0 : Int32)

def f_x_was (v_wall_courses : Int32) (v_wall_columns : Int32) (v_wall_jump : Int32) (v_wall_stones : Nat → Int64) (v_hands_told : Int32) (v_hands_mood : Nat → Int32) (v_hands_strong : Nat → Int32) (v_frosts_told : Int32) (v_frosts_year : Nat → Int32) (v_frosts_force : Nat → Int32) (v_gappings_told : Int32) (v_gappings_year : Nat → Int32) (v_gappings_column : Nat → Int32) (v_gappings_hand : Nat → Int32) (v_sights_told : Int32) (v_sights_year : Nat → Int32) (v_sights_place : Nat → Int32) (v_sights_setter : Nat → Int32) (v_trial_all : Int64) (v_trial_losers : Int32) (v_trial_now : Nat → Int64) (v_trial_stones : Nat → Int64) (v_trial_standing : Nat → Int64) (v_trial_open : Nat → Int32) (v_trial_fallen : Nat → Int32) (a0 : Int32) (a1 : Int32) : Option (Int32 × (Nat → Int32) × (Nat → Int32) × Int64 × Int32 × (Nat → Int64) × (Nat → Int64) × (Nat → Int64) × (Nat → Int32) × (Nat → Int32)) :=
  (f_hs_has v_hands_told a0).bind (fun o5 =>
  if o5 = 0 then
    some ((-2 : Int32), v_hands_mood, v_hands_strong, v_trial_all, v_trial_losers, v_trial_now, v_trial_stones, v_trial_standing, v_trial_open, v_trial_fallen)
  else
    (f_x_isEither a1).bind (fun o12 =>
    if o12 = 0 then
      some ((-2 : Int32), v_hands_mood, v_hands_strong, v_trial_all, v_trial_losers, v_trial_now, v_trial_stones, v_trial_standing, v_trial_open, v_trial_fallen)
    else
      if a1 = 0 then
        f_x_was_N42_1 v_wall_courses v_wall_columns v_wall_jump v_wall_stones v_hands_told v_frosts_told v_frosts_year v_frosts_force v_gappings_told v_gappings_year v_gappings_column v_gappings_hand v_sights_told v_sights_year v_sights_place v_sights_setter v_hands_mood v_hands_strong v_trial_all v_trial_losers v_trial_now v_trial_stones v_trial_standing v_trial_open v_trial_fallen a0 a1
      else
        f_x_was_N42_0 v_wall_courses v_wall_columns v_wall_jump v_wall_stones v_hands_told v_frosts_told v_frosts_year v_frosts_force v_gappings_told v_gappings_year v_gappings_column v_gappings_hand v_sights_told v_sights_year v_sights_place v_sights_setter v_hands_mood v_hands_strong v_trial_all v_trial_losers v_trial_now v_trial_stones v_trial_standing v_trial_open v_trial_fallen a0 a1))

-- WallHands.mostAlike(II)I
def f_x_mostAlike_N17 (v_stood : Nat → Int32) (k5 : Int32 → Int32 → Int32 → Int32 → Option Int32) (k17 : Int32 → Int32 → Int32 → Int32 → Int32 → Int32 → Option Int32) (x1 : Int32) (x2 : Int32) (x3 : Int32) (x4 : Int32) (x5 : Int32) (x6 : Int32) : Option Int32 :=
  if x1 ≤ x6 then
    k5 x1 x2 (mmax x3 x5) (x4 + (1 : Int32))
  else
    gd (inb ((x4 * (20 : Int32)) + x2) 180) (
    gd (inb ((x6 * (20 : Int32)) + x2) 180) (
    if (v_stood ((x4 * (20 : Int32)) + x2).toNatClampNeg) = (v_stood ((x6 * (20 : Int32)) + x2).toNatClampNeg) then
      k17 x1 x2 x3 x4 (x5 + (1 : Int32)) (x6 + (1 : Int32))
    else
      k17 x1 x2 x3 x4 x5 (x6 + (1 : Int32))))

def f_x_mostAlike_N5 (v_stood : Nat → Int32) (k5 : Int32 → Int32 → Int32 → Int32 → Option Int32) (x1 : Int32) (x2 : Int32) (x3 : Int32) (x4 : Int32) : Option Int32 :=
  if x1 ≤ x4 then
    some x3
  else
    iter (fun _ _ _ _ _ _ => none) (f_x_mostAlike_N17 v_stood k5) 1000 x1 x2 x3 x4 (0 : Int32) (0 : Int32)

def f_x_mostAlike (v_stood : Nat → Int32) (a0 : Int32) (a1 : Int32) : Option Int32 :=
  iter (fun _ _ _ _ => none) (f_x_mostAlike_N5 v_stood) 1000 a0 a1 (0 : Int32) (0 : Int32)

-- WallHands.ask(I)I
def f_x_ask_N121 (v_wall_courses : Int32) (v_wall_columns : Int32) (v_wall_jump : Int32) (v_wall_stones : Nat → Int64) (v_hands_told : Int32) (v_hands_mood : Nat → Int32) (v_frosts_told : Int32) (v_frosts_year : Nat → Int32) (v_frosts_force : Nat → Int32) (v_gappings_told : Int32) (v_gappings_year : Nat → Int32) (v_gappings_column : Nat → Int32) (v_gappings_hand : Nat → Int32) (v_sights_told : Int32) (v_sights_year : Nat → Int32) (v_sights_place : Nat → Int32) (v_sights_setter : Nat → Int32) (k121 : (Nat → Int32) → Int64 → Int32 → (Nat → Int64) → (Nat → Int64) → (Nat → Int64) → (Nat → Int32) → (Nat → Int32) → (Nat → Int32) → Int32 → Int32 → Int32 → Int32 → Option (Int32 × (Nat → Int32) × Int64 × Int32 × (Nat → Int64) × (Nat → Int64) × (Nat → Int64) × (Nat → Int32) × (Nat → Int32) × (Nat → Int32))) (v_hands_strong : Nat → Int32) (v_trial_all : Int64) (v_trial_losers : Int32) (v_trial_now : Nat → Int64) (v_trial_stones : Nat → Int64) (v_trial_standing : Nat → Int64) (v_trial_open : Nat → Int32) (v_trial_fallen : Nat → Int32) (v_stood : Nat → Int32) (x3 : Int32) (x4 : Int32) (x5 : Int32) (x6 : Int32) : Option (Int32 × (Nat → Int32) × Int64 × Int32 × (Nat → Int64) × (Nat → Int64) × (Nat → Int64) × (Nat → Int32) × (Nat → Int32) × (Nat → Int32)) :=
  if (20 : Int32) ≤ x6 then
    some (x4, v_hands_strong, v_trial_all, v_trial_losers, v_trial_now, v_trial_stones, v_trial_standing, v_trial_open, v_trial_fallen, v_stood)
  else
    (f_x_mostAlike v_stood x3 x6).bind (fun o132 =>
    if x5 ≤ o132 then
      k121 v_hands_strong v_trial_all v_trial_losers v_trial_now v_trial_stones v_trial_standing v_trial_open v_trial_fallen v_stood x3 x4 x5 (x6 + (1 : Int32))
    else
      k121 v_hands_strong v_trial_all v_trial_losers v_trial_now v_trial_stones v_trial_standing v_trial_open v_trial_fallen v_stood x3 x6 o132 (x6 + (1 : Int32)))

def f_x_ask_N29 (v_wall_courses : Int32) (v_wall_columns : Int32) (v_wall_jump : Int32) (v_wall_stones : Nat → Int64) (v_hands_told : Int32) (v_hands_mood : Nat → Int32) (v_frosts_told : Int32) (v_frosts_year : Nat → Int32) (v_frosts_force : Nat → Int32) (v_gappings_told : Int32) (v_gappings_year : Nat → Int32) (v_gappings_column : Nat → Int32) (v_gappings_hand : Nat → Int32) (v_sights_told : Int32) (v_sights_year : Nat → Int32) (v_sights_place : Nat → Int32) (v_sights_setter : Nat → Int32) (k29 : (Nat → Int32) → Int64 → Int32 → (Nat → Int64) → (Nat → Int64) → (Nat → Int64) → (Nat → Int32) → (Nat → Int32) → (Nat → Int32) → Int32 → Int32 → Int32 → Int32 → Option (Int32 × (Nat → Int32) × Int64 × Int32 × (Nat → Int64) × (Nat → Int64) × (Nat → Int64) × (Nat → Int32) × (Nat → Int32) × (Nat → Int32))) (v_hands_strong : Nat → Int32) (v_trial_all : Int64) (v_trial_losers : Int32) (v_trial_now : Nat → Int64) (v_trial_stones : Nat → Int64) (v_trial_standing : Nat → Int64) (v_trial_open : Nat → Int32) (v_trial_fallen : Nat → Int32) (v_stood : Nat → Int32) (x1 : Int32) (x2 : Int32) (x3 : Int32) (x4 : Int32) : Option (Int32 × (Nat → Int32) × Int64 × Int32 × (Nat → Int64) × (Nat → Int64) × (Nat → Int64) × (Nat → Int32) × (Nat → Int32) × (Nat → Int32)) :=
  if (9 : Int32) < x4 then
    gd (inb x1 8) (
    (f_x_mostAlike v_stood x3 (0 : Int32)).bind (fun o113 =>
    iter (fun _ _ _ _ _ _ _ _ _ _ _ _ _ => none) (f_x_ask_N121 v_wall_courses v_wall_columns v_wall_jump v_wall_stones v_hands_told v_hands_mood v_frosts_told v_frosts_year v_frosts_force v_gappings_told v_gappings_year v_gappings_column v_gappings_hand v_sights_told v_sights_year v_sights_place v_sights_setter) 1000 (upd v_hands_strong x1.toNatClampNeg x2) v_trial_all v_trial_losers v_trial_now v_trial_stones v_trial_standing v_trial_open v_trial_fallen v_stood x3 (0 : Int32) o113 (1 : Int32)))
  else
    gd (inb x1 8) (
    (f_ys_run v_trial_all v_trial_losers v_wall_courses v_wall_columns v_wall_jump v_wall_stones v_hands_told v_hands_mood (upd v_hands_strong x1.toNatClampNeg x4) v_gappings_told v_gappings_year v_gappings_column v_gappings_hand v_trial_now v_trial_stones v_trial_standing v_trial_open v_trial_fallen v_frosts_told v_frosts_year v_frosts_force (0 : Int32)).bind (fun o56 =>
    (f_sg_comeOutIn v_sights_told v_sights_year v_sights_place v_sights_setter o56.2.2.2.1).bind (fun o67 =>
    if o67 = 0 then
      k29 (upd v_hands_strong x1.toNatClampNeg x4) o56.1 o56.2.1 o56.2.2.1 o56.2.2.2.1 o56.2.2.2.2.1 o56.2.2.2.2.2.1 o56.2.2.2.2.2.2 v_stood x1 x2 x3 (x4 + (1 : Int32))
    else
      (f_ys_tallyInto o56.2.2.2.2.1 v_stood 180 (x3 * (20 : Int32))).bind (fun o85 =>
      k29 (upd v_hands_strong x1.toNatClampNeg x4) o56.1 o56.2.1 o56.2.2.1 o56.2.2.2.1 o56.2.2.2.2.1 o56.2.2.2.2.2.1 o56.2.2.2.2.2.2 o85 x1 x2 (x3 + (1 : Int32)) (x4 + (1 : Int32))))))

def f_x_ask (v_wall_courses : Int32) (v_wall_columns : Int32) (v_wall_jump : Int32) (v_wall_stones : Nat → Int64) (v_hands_told : Int32) (v_hands_mood : Nat → Int32) (v_hands_strong : Nat → Int32) (v_frosts_told : Int32) (v_frosts_year : Nat → Int32) (v_frosts_force : Nat → Int32) (v_gappings_told : Int32) (v_gappings_year : Nat → Int32) (v_gappings_column : Nat → Int32) (v_gappings_hand : Nat → Int32) (v_sights_told : Int32) (v_sights_year : Nat → Int32) (v_sights_place : Nat → Int32) (v_sights_setter : Nat → Int32) (v_trial_all : Int64) (v_trial_losers : Int32) (v_trial_now : Nat → Int64) (v_trial_stones : Nat → Int64) (v_trial_standing : Nat → Int64) (v_trial_open : Nat → Int32) (v_trial_fallen : Nat → Int32) (v_stood : Nat → Int32) (a0 : Int32) : Option (Int32 × (Nat → Int32) × Int64 × Int32 × (Nat → Int64) × (Nat → Int64) × (Nat → Int64) × (Nat → Int32) × (Nat → Int32) × (Nat → Int32)) :=
  (f_hs_has v_hands_told a0).bind (fun o5 =>
  if o5 = 0 then
    some ((-2 : Int32), v_hands_strong, v_trial_all, v_trial_losers, v_trial_now, v_trial_stones, v_trial_standing, v_trial_open, v_trial_fallen, v_stood)
  else
    gd (inb a0 8) (
    iter (fun _ _ _ _ _ _ _ _ _ _ _ _ _ => none) (f_x_ask_N29 v_wall_courses v_wall_columns v_wall_jump v_wall_stones v_hands_told v_hands_mood v_frosts_told v_frosts_year v_frosts_force v_gappings_told v_gappings_year v_gappings_column v_gappings_hand v_sights_told v_sights_year v_sights_place v_sights_setter) 1000 v_hands_strong v_trial_all v_trial_losers v_trial_now v_trial_stones v_trial_standing v_trial_open v_trial_fallen v_stood a0 (v_hands_strong a0.toNatClampNeg) (0 : Int32) (1 : Int32)))

-- WallHands.waysOf(II)J
def f_x_waysOf_N37 (v_frosts_told : Int32) (k5 : Int32 → Int32 → Int64 → Int32 → Option Int64) (x1 : Int32) (x2 : Int32) (x5 : Int32) (y0 : Int64) (y1 : Int64) : Option Int64 :=
  k5 x1 x2 (y0 * y1) (x5 + (1 : Int32))

def f_x_waysOf_N5 (v_frosts_told : Int32) (k5 : Int32 → Int32 → Int64 → Int32 → Option Int64) (x1 : Int32) (x2 : Int32) (x3 : Int64) (x5 : Int32) : Option Int64 :=
  if v_frosts_told ≤ x5 then
    some x3
  else
    if ((ushr x1 x5) &&& (1 : Int32)) = 0 then
      f_x_waysOf_N37 v_frosts_told k5 x1 x2 x5 x3 x2.toInt64
    else
      f_x_waysOf_N37 v_frosts_told k5 x1 x2 x5 x3 (((16 : Int32) - x2).toInt64)

def f_x_waysOf (v_frosts_told : Int32) (a0 : Int32) (a1 : Int32) : Option Int64 :=
  iter (fun _ _ _ _ => none) (f_x_waysOf_N5 v_frosts_told) 1000 a0 a1 (1 : Int64) (0 : Int32)

-- WallHands.luck(II)J
def f_x_luck_N130 (v_wall_courses : Int32) (v_wall_columns : Int32) (v_wall_jump : Int32) (v_wall_stones : Nat → Int64) (v_hands_told : Int32) (v_hands_mood : Nat → Int32) (v_hands_strong : Nat → Int32) (v_frosts_told : Int32) (v_frosts_year : Nat → Int32) (v_frosts_force : Nat → Int32) (v_gappings_told : Int32) (v_gappings_year : Nat → Int32) (v_gappings_column : Nat → Int32) (v_gappings_hand : Nat → Int32) (v_trial_all : Int64) (v_trial_losers : Int32) (v_trial_now : Nat → Int64) (v_trial_stones : Nat → Int64) (v_trial_standing : Nat → Int64) (v_trial_open : Nat → Int32) (v_trial_fallen : Nat → Int32) (x2 : Int32) (x3 : Int64) (x6 : Int64) : Option (Int64 × Int64 × Int32 × (Nat → Int64) × (Nat → Int64) × (Nat → Int64) × (Nat → Int32) × (Nat → Int32)) :=
  if x2 = 0 then
    some (x3, v_trial_all, v_trial_losers, v_trial_now, v_trial_stones, v_trial_standing, v_trial_open, v_trial_fallen)
  else
    some (x6, v_trial_all, v_trial_losers, v_trial_now, v_trial_stones, v_trial_standing, v_trial_open, v_trial_fallen)

def f_x_luck_N99 (v_wall_courses : Int32) (v_wall_columns : Int32) (v_wall_jump : Int32) (v_wall_stones : Nat → Int64) (v_hands_told : Int32) (v_hands_mood : Nat → Int32) (v_hands_strong : Nat → Int32) (v_frosts_told : Int32) (v_frosts_year : Nat → Int32) (v_frosts_force : Nat → Int32) (v_gappings_told : Int32) (v_gappings_year : Nat → Int32) (v_gappings_column : Nat → Int32) (v_gappings_hand : Nat → Int32) (k99 : Int64 → Int32 → (Nat → Int64) → (Nat → Int64) → (Nat → Int64) → (Nat → Int32) → (Nat → Int32) → Int32 → Int64 → Int32 → Int64 → Int32 → Option (Int64 × Int64 × Int32 × (Nat → Int64) × (Nat → Int64) × (Nat → Int64) × (Nat → Int32) × (Nat → Int32))) (v_trial_all : Int64) (v_trial_losers : Int32) (v_trial_now : Nat → Int64) (v_trial_stones : Nat → Int64) (v_trial_standing : Nat → Int64) (v_trial_open : Nat → Int32) (v_trial_fallen : Nat → Int32) (x2 : Int32) (x3 : Int64) (x5 : Int32) (x6 : Int64) (x8 : Int32) : Option (Int64 × Int64 × Int32 × (Nat → Int64) × (Nat → Int64) × (Nat → Int64) × (Nat → Int32) × (Nat → Int32)) :=
  if x5 ≤ x8 then
    f_x_luck_N130 v_wall_courses v_wall_columns v_wall_jump v_wall_stones v_hands_told v_hands_mood v_hands_strong v_frosts_told v_frosts_year v_frosts_force v_gappings_told v_gappings_year v_gappings_column v_gappings_hand v_trial_all v_trial_losers v_trial_now v_trial_stones v_trial_standing v_trial_open v_trial_fallen x2 x3 x6
  else
    if (lg_cmp (x3 &&& (1 : Int64)) (0 : Int64)) = 0 then
      k99 v_trial_all v_trial_losers v_trial_now v_trial_stones v_trial_standing v_trial_open v_trial_fallen x2 (lshr x3 (1 : Int32)) x5 (lshr x6 (1 : Int32)) (x8 + (1 : Int32))
    else
      f_x_luck_N130 v_wall_courses v_wall_columns v_wall_jump v_wall_stones v_hands_told v_hands_mood v_hands_strong v_frosts_told v_frosts_year v_frosts_force v_gappings_told v_gappings_year v_gappings_column v_gappings_hand v_trial_all v_trial_losers v_trial_now v_trial_stones v_trial_standing v_trial_open v_trial_fallen x2 x3 x6

def f_x_luck_N26 (v_wall_courses : Int32) (v_wall_columns : Int32) (v_wall_jump : Int32) (v_wall_stones : Nat → Int64) (v_hands_told : Int32) (v_hands_mood : Nat → Int32) (v_hands_strong : Nat → Int32) (v_frosts_told : Int32) (v_frosts_year : Nat → Int32) (v_frosts_force : Nat → Int32) (v_gappings_told : Int32) (v_gappings_year : Nat → Int32) (v_gappings_column : Nat → Int32) (v_gappings_hand : Nat → Int32) (k26 : Int64 → Int32 → (Nat → Int64) → (Nat → Int64) → (Nat → Int64) → (Nat → Int32) → (Nat → Int32) → Int32 → Int32 → Int64 → Int32 → Option (Int64 × Int64 × Int32 × (Nat → Int64) × (Nat → Int64) × (Nat → Int64) × (Nat → Int32) × (Nat → Int32))) (v_trial_all : Int64) (v_trial_losers : Int32) (v_trial_now : Nat → Int64) (v_trial_stones : Nat → Int64) (v_trial_standing : Nat → Int64) (v_trial_open : Nat → Int32) (v_trial_fallen : Nat → Int32) (x1 : Int32) (x2 : Int32) (x3 : Int64) (x5 : Int32) : Option (Int64 × Int64 × Int32 × (Nat → Int64) × (Nat → Int64) × (Nat → Int64) × (Nat → Int32) × (Nat → Int32)) :=
  if ((1 : Int32) <<< (v_frosts_told &&& 31)) ≤ x5 then
    iter (fun _ _ _ _ _ _ _ _ _ _ _ _ => none) (f_x_luck_N99 v_wall_courses v_wall_columns v_wall_jump v_wall_stones v_hands_told v_hands_mood v_hands_strong v_frosts_told v_frosts_year v_frosts_force v_gappings_told v_gappings_year v_gappings_column v_gappings_hand) 1000 v_trial_all v_trial_losers v_trial_now v_trial_stones v_trial_standing v_trial_open v_trial_fallen x2 x3 ((4 : Int32) * v_frosts_told) (lshl (1 : Int64) ((4 : Int32) * v_frosts_told)) (0 : Int32)
  else
    (f_ys_run v_trial_all v_trial_losers v_wall_courses v_wall_columns v_wall_jump v_wall_stones v_hands_told v_hands_mood v_hands_strong v_gappings_told v_gappings_year v_gappings_column v_gappings_hand v_trial_now v_trial_stones v_trial_standing v_trial_open v_trial_fallen v_frosts_told v_frosts_year v_frosts_force x5).bind (fun o50 =>
    (f_ys_openYears o50.2.2.2.2.2.1).bind (fun o57 =>
    if o57 = 0 then
      (f_x_waysOf v_frosts_told x5 x1).bind (fun o68 =>
      k26 o50.1 o50.2.1 o50.2.2.1 o50.2.2.2.1 o50.2.2.2.2.1 o50.2.2.2.2.2.1 o50.2.2.2.2.2.2 x1 x2 (x3 + o68) (x5 + (1 : Int32)))
    else
      k26 o50.1 o50.2.1 o50.2.2.1 o50.2.2.2.1 o50.2.2.2.2.1 o50.2.2.2.2.2.1 o50.2.2.2.2.2.2 x1 x2 x3 (x5 + (1 : Int32))))

def f_x_luck (v_wall_courses : Int32) (v_wall_columns : Int32) (v_wall_jump : Int32) (v_wall_stones : Nat → Int64) (v_hands_told : Int32) (v_hands_mood : Nat → Int32) (v_hands_strong : Nat → Int32) (v_frosts_told : Int32) (v_frosts_year : Nat → Int32) (v_frosts_force : Nat → Int32) (v_gappings_told : Int32) (v_gappings_year : Nat → Int32) (v_gappings_column : Nat → Int32) (v_gappings_hand : Nat → Int32) (v_trial_all : Int64) (v_trial_losers : Int32) (v_trial_now : Nat → Int64) (v_trial_stones : Nat → Int64) (v_trial_standing : Nat → Int64) (v_trial_open : Nat → Int32) (v_trial_fallen : Nat → Int32) (a0 : Int32) (a1 : Int32) : Option (Int64 × Int64 × Int32 × (Nat → Int64) × (Nat → Int64) × (Nat → Int64) × (Nat → Int32) × (Nat → Int32)) :=
  (f_x_within a0 (0 : Int32) (16 : Int32)).bind (fun o4 =>
  if o4 = 0 then
    some ((-9223372036854775806 : Int64), v_trial_all, v_trial_losers, v_trial_now, v_trial_stones, v_trial_standing, v_trial_open, v_trial_fallen)
  else
    (f_x_isEither a1).bind (fun o11 =>
    if o11 = 0 then
      some ((-9223372036854775806 : Int64), v_trial_all, v_trial_losers, v_trial_now, v_trial_stones, v_trial_standing, v_trial_open, v_trial_fallen)
    else
      iter (fun _ _ _ _ _ _ _ _ _ _ _ => none) (f_x_luck_N26 v_wall_courses v_wall_columns v_wall_jump v_wall_stones v_hands_told v_hands_mood v_hands_strong v_frosts_told v_frosts_year v_frosts_force v_gappings_told v_gappings_year v_gappings_column v_gappings_hand) 1000 v_trial_all v_trial_losers v_trial_now v_trial_stones v_trial_standing v_trial_open v_trial_fallen a0 a1 (0 : Int64) (0 : Int32)))

-- WallHands.nextSeed(I)I
def f_x_nextSeed (a0 : Int32) : Option Int32 :=
  some (((1103515245 : Int32) * a0) + (12345 : Int32))

-- WallHands.ages(III)I
def f_x_ages_N34 (v_wall_courses : Int32) (v_wall_columns : Int32) (v_wall_jump : Int32) (v_wall_stones : Nat → Int64) (v_hands_told : Int32) (v_hands_mood : Nat → Int32) (v_hands_strong : Nat → Int32) (v_gappings_told : Int32) (v_gappings_year : Nat → Int32) (v_gappings_column : Nat → Int32) (v_gappings_hand : Nat → Int32) (k34 : Int32 → (Nat → Int32) → (Nat → Int32) → Int64 → Int32 → (Nat → Int64) → (Nat → Int64) → (Nat → Int64) → (Nat → Int32) → (Nat → Int32) → Int32 → Int32 → Int32 → Int32 → Option (Int32 × Int32 × (Nat → Int32) × (Nat → Int32) × Int64 × Int32 × (Nat → Int64) × (Nat → Int64) × (Nat → Int64) × (Nat → Int32) × (Nat → Int32))) (v_chanceFrosts_told : Int32) (v_chanceFrosts_year : Nat → Int32) (v_chanceFrosts_force : Nat → Int32) (v_trial_all : Int64) (v_trial_losers : Int32) (v_trial_now : Nat → Int64) (v_trial_stones : Nat → Int64) (v_trial_standing : Nat → Int64) (v_trial_open : Nat → Int32) (v_trial_fallen : Nat → Int32) (x2 : Int32) (x3 : Int32) (x4 : Int32) (x5 : Int32) : Option (Int32 × Int32 × (Nat → Int32) × (Nat → Int32) × Int64 × Int32 × (Nat → Int64) × (Nat → Int64) × (Nat → Int64) × (Nat → Int32) × (Nat → Int32)) :=
  if x2 ≤ x5 then
    (f_ys_run v_trial_all v_trial_losers v_wall_courses v_wall_columns v_wall_jump v_wall_stones v_hands_told v_hands_mood v_hands_strong v_gappings_told v_gappings_year v_gappings_column v_gappings_hand v_trial_now v_trial_stones v_trial_standing v_trial_open v_trial_fallen v_chanceFrosts_told v_chanceFrosts_year v_chanceFrosts_force (0 : Int32)).bind (fun o98 =>
    if x3 = 0 then
      gd (inb (19 : Int32) 20) (
      (f_jl_bitCount (o98.2.2.2.2.1 (19 : Int32).toNatClampNeg)).bind (fun o115 =>
      some (o115, v_chanceFrosts_told, v_chanceFrosts_year, v_chanceFrosts_force, o98.1, o98.2.1, o98.2.2.1, o98.2.2.2.1, o98.2.2.2.2.1, o98.2.2.2.2.2.1, o98.2.2.2.2.2.2)))
    else
      (f_ys_openYears o98.2.2.2.2.2.1).bind (fun o125 =>
      some (o125, v_chanceFrosts_told, v_chanceFrosts_year, v_chanceFrosts_force, o98.1, o98.2.1, o98.2.2.1, o98.2.2.2.1, o98.2.2.2.2.1, o98.2.2.2.2.2.1, o98.2.2.2.2.2.2)))
  else
    (f_x_nextSeed x4).bind (fun o42 =>
    (f_x_nextSeed o42).bind (fun o59 =>
    (f_fr_add v_chanceFrosts_told v_chanceFrosts_year v_chanceFrosts_force ((ushr o42 (16 : Int32)) - (ushr o42 (16 : Int32)) / (20 : Int32) * (20 : Int32)) (((ushr o59 (16 : Int32)) - (ushr o59 (16 : Int32)) / (15 : Int32) * (15 : Int32)) + (1 : Int32))).bind (fun o80 =>
    k34 o80.1 o80.2.1 o80.2.2 v_trial_all v_trial_losers v_trial_now v_trial_stones v_trial_standing v_trial_open v_trial_fallen x2 x3 o59 (x5 + (1 : Int32)))))

def f_x_ages (v_wall_courses : Int32) (v_wall_columns : Int32) (v_wall_jump : Int32) (v_wall_stones : Nat → Int64) (v_hands_told : Int32) (v_hands_mood : Nat → Int32) (v_hands_strong : Nat → Int32) (v_chanceFrosts_told : Int32) (v_chanceFrosts_year : Nat → Int32) (v_chanceFrosts_force : Nat → Int32) (v_gappings_told : Int32) (v_gappings_year : Nat → Int32) (v_gappings_column : Nat → Int32) (v_gappings_hand : Nat → Int32) (v_trial_all : Int64) (v_trial_losers : Int32) (v_trial_now : Nat → Int64) (v_trial_stones : Nat → Int64) (v_trial_standing : Nat → Int64) (v_trial_open : Nat → Int32) (v_trial_fallen : Nat → Int32) (a0 : Int32) (a1 : Int32) (a2 : Int32) : Option (Int32 × Int32 × (Nat → Int32) × (Nat → Int32) × Int64 × Int32 × (Nat → Int64) × (Nat → Int64) × (Nat → Int64) × (Nat → Int32) × (Nat → Int32)) :=
  (f_x_within a1 (0 : Int32) (6 : Int32)).bind (fun o4 =>
  if o4 = 0 then
    some ((-2 : Int32), v_chanceFrosts_told, v_chanceFrosts_year, v_chanceFrosts_force, v_trial_all, v_trial_losers, v_trial_now, v_trial_stones, v_trial_standing, v_trial_open, v_trial_fallen)
  else
    (f_x_isEither a2).bind (fun o11 =>
    if o11 = 0 then
      some ((-2 : Int32), v_chanceFrosts_told, v_chanceFrosts_year, v_chanceFrosts_force, v_trial_all, v_trial_losers, v_trial_now, v_trial_stones, v_trial_standing, v_trial_open, v_trial_fallen)
    else
      iter (fun _ _ _ _ _ _ _ _ _ _ _ _ _ _ => none) (f_x_ages_N34 v_wall_courses v_wall_columns v_wall_jump v_wall_stones v_hands_told v_hands_mood v_hands_strong v_gappings_told v_gappings_year v_gappings_column v_gappings_hand) 1000 (0 : Int32) v_chanceFrosts_year v_chanceFrosts_force v_trial_all v_trial_losers v_trial_now v_trial_stones v_trial_standing v_trial_open v_trial_fallen a1 a2 a0 (0 : Int32)))

-- WallHands.isForm(I)Z
def f_x_isForm (a0 : Int32) : Option Int32 :=
  (f_x_within a0 (0 : Int32) (2 : Int32)).bind (fun o3 =>
  gd (isB o3) (
  some o3))

-- java/util/Arrays.fill([II)V
def f_ja_fill_i_N5 (p0_n : Nat) (k5 : (Nat → Int32) → Int32 → Int32 → Int32 → Option (Nat → Int32)) (p0 : Nat → Int32) (x1 : Int32) (x2 : Int32) (x3 : Int32) : Option (Nat → Int32) :=
  if x3 ≤ x2 then
    some p0
  else
    gd (inb x2 p0_n) (
    k5 (upd p0 x2.toNatClampNeg x1) x1 (x2 + (1 : Int32)) x3)

def f_ja_fill_i (p0 : Nat → Int32) (p0_n : Nat) (a1 : Int32) : Option (Nat → Int32) :=
  iter (fun _ _ _ _ => none) (f_ja_fill_i_N5 p0_n) 1000 p0 a1 (0 : Int32) (Int32.ofNat p0_n)

-- WallHands.sheet(III)I
def f_x_sheet (v_latestFinding : Int32) (v_sheets0_form : Int32) (v_sheets0_size : Int32) (v_sheets0_items : Nat → Int32) (v_sheets1_form : Int32) (v_sheets1_size : Int32) (v_sheets1_items : Nat → Int32) (v_sheets2_form : Int32) (v_sheets2_size : Int32) (v_sheets2_items : Nat → Int32) (v_sheets3_form : Int32) (v_sheets3_size : Int32) (v_sheets3_items : Nat → Int32) (a0 : Int32) (a1 : Int32) (a2 : Int32) : Option (Int32 × Int32 × Int32 × Int32 × (Nat → Int32) × Int32 × Int32 × (Nat → Int32) × Int32 × Int32 × (Nat → Int32) × Int32 × Int32 × (Nat → Int32)) :=
  (f_x_isSheet a0).bind (fun o1 =>
  if o1 = 0 then
    some ((-2 : Int32), v_latestFinding, v_sheets0_form, v_sheets0_size, v_sheets0_items, v_sheets1_form, v_sheets1_size, v_sheets1_items, v_sheets2_form, v_sheets2_size, v_sheets2_items, v_sheets3_form, v_sheets3_size, v_sheets3_items)
  else
    (f_x_isForm a1).bind (fun o8 =>
    if o8 = 0 then
      some ((-2 : Int32), v_latestFinding, v_sheets0_form, v_sheets0_size, v_sheets0_items, v_sheets1_form, v_sheets1_size, v_sheets1_items, v_sheets2_form, v_sheets2_size, v_sheets2_items, v_sheets3_form, v_sheets3_size, v_sheets3_items)
    else
      if a2 ≤ (60 : Int32) then
        if 0 ≤ a2 then
          if a0 = (0 : Int32) then
            (f_ja_fill_i v_sheets0_items 60 (0 : Int32)).bind (fun o47 =>
            some (a2, v_latestFinding, a1, a2, o47, v_sheets1_form, v_sheets1_size, v_sheets1_items, v_sheets2_form, v_sheets2_size, v_sheets2_items, v_sheets3_form, v_sheets3_size, v_sheets3_items))
          else if a0 = (1 : Int32) then
            (f_ja_fill_i v_sheets1_items 60 (0 : Int32)).bind (fun o47 =>
            some (a2, v_latestFinding, v_sheets0_form, v_sheets0_size, v_sheets0_items, a1, a2, o47, v_sheets2_form, v_sheets2_size, v_sheets2_items, v_sheets3_form, v_sheets3_size, v_sheets3_items))
          else if a0 = (2 : Int32) then
            (f_ja_fill_i v_sheets2_items 60 (0 : Int32)).bind (fun o47 =>
            some (a2, v_latestFinding, v_sheets0_form, v_sheets0_size, v_sheets0_items, v_sheets1_form, v_sheets1_size, v_sheets1_items, a1, a2, o47, v_sheets3_form, v_sheets3_size, v_sheets3_items))
          else if a0 = (3 : Int32) then
            (f_ja_fill_i v_sheets3_items 60 (0 : Int32)).bind (fun o47 =>
            some (a2, v_latestFinding, v_sheets0_form, v_sheets0_size, v_sheets0_items, v_sheets1_form, v_sheets1_size, v_sheets1_items, v_sheets2_form, v_sheets2_size, v_sheets2_items, a1, a2, o47))
          else none
        else
          (f_x_found v_latestFinding (5 : Int32)).bind (fun o29 =>
          some (o29.1, o29.2, v_sheets0_form, v_sheets0_size, v_sheets0_items, v_sheets1_form, v_sheets1_size, v_sheets1_items, v_sheets2_form, v_sheets2_size, v_sheets2_items, v_sheets3_form, v_sheets3_size, v_sheets3_items))
      else
        some ((-2 : Int32), v_latestFinding, v_sheets0_form, v_sheets0_size, v_sheets0_items, v_sheets1_form, v_sheets1_size, v_sheets1_items, v_sheets2_form, v_sheets2_size, v_sheets2_items, v_sheets3_form, v_sheets3_size, v_sheets3_items)))

-- WallHands.lose(I)I
def f_x_lose (v_latestFinding : Int32) (v_sheets0_form : Int32) (v_sheets0_size : Int32) (v_sheets1_form : Int32) (v_sheets1_size : Int32) (v_sheets2_form : Int32) (v_sheets2_size : Int32) (v_sheets3_form : Int32) (v_sheets3_size : Int32) (a0 : Int32) : Option (Int32 × Int32 × Int32 × Int32 × Int32 × Int32) :=
  (f_x_isSheet a0).bind (fun o1 =>
  if o1 = 0 then
    some ((-2 : Int32), v_latestFinding, v_sheets0_form, v_sheets1_form, v_sheets2_form, v_sheets3_form)
  else
    if a0 = (0 : Int32) then
      if v_sheets0_form = (-1 : Int32) then
        (f_x_found v_latestFinding (1 : Int32)).bind (fun o27 =>
        some (o27.1, o27.2, v_sheets0_form, v_sheets1_form, v_sheets2_form, v_sheets3_form))
      else
        some (v_sheets0_size, v_latestFinding, (-1 : Int32), v_sheets1_form, v_sheets2_form, v_sheets3_form)
    else if a0 = (1 : Int32) then
      if v_sheets1_form = (-1 : Int32) then
        (f_x_found v_latestFinding (1 : Int32)).bind (fun o27 =>
        some (o27.1, o27.2, v_sheets0_form, v_sheets1_form, v_sheets2_form, v_sheets3_form))
      else
        some (v_sheets1_size, v_latestFinding, v_sheets0_form, (-1 : Int32), v_sheets2_form, v_sheets3_form)
    else if a0 = (2 : Int32) then
      if v_sheets2_form = (-1 : Int32) then
        (f_x_found v_latestFinding (1 : Int32)).bind (fun o27 =>
        some (o27.1, o27.2, v_sheets0_form, v_sheets1_form, v_sheets2_form, v_sheets3_form))
      else
        some (v_sheets2_size, v_latestFinding, v_sheets0_form, v_sheets1_form, (-1 : Int32), v_sheets3_form)
    else if a0 = (3 : Int32) then
      if v_sheets3_form = (-1 : Int32) then
        (f_x_found v_latestFinding (1 : Int32)).bind (fun o27 =>
        some (o27.1, o27.2, v_sheets0_form, v_sheets1_form, v_sheets2_form, v_sheets3_form))
      else
        some (v_sheets3_size, v_latestFinding, v_sheets0_form, v_sheets1_form, v_sheets2_form, (-1 : Int32))
    else none)

-- WallHands.put(IIII)I
def f_x_put (v_latestFinding : Int32) (v_sheets0_form : Int32) (v_sheets0_size : Int32) (v_sheets0_items : Nat → Int32) (v_sheets1_form : Int32) (v_sheets1_size : Int32) (v_sheets1_items : Nat → Int32) (v_sheets2_form : Int32) (v_sheets2_size : Int32) (v_sheets2_items : Nat → Int32) (v_sheets3_form : Int32) (v_sheets3_size : Int32) (v_sheets3_items : Nat → Int32) (a0 : Int32) (a1 : Int32) (a2 : Int32) (a3 : Int32) : Option (Int32 × Int32 × (Nat → Int32) × (Nat → Int32) × (Nat → Int32) × (Nat → Int32)) :=
  (f_x_isSheet a0).bind (fun o1 =>
  if o1 = 0 then
    some ((-2 : Int32), v_latestFinding, v_sheets0_items, v_sheets1_items, v_sheets2_items, v_sheets3_items)
  else
    (f_x_isForm a1).bind (fun o8 =>
    if o8 = 0 then
      some ((-2 : Int32), v_latestFinding, v_sheets0_items, v_sheets1_items, v_sheets2_items, v_sheets3_items)
    else
      if a0 = (0 : Int32) then
        (f_sh_findingAt v_sheets0_form v_sheets0_size a1 a2).bind (fun o25 =>
        if o25 = 0 then
          if a0 = (0 : Int32) then
            if a1 = 0 then
              gd (inb a2 60) (
              some ((1 : Int32), v_latestFinding, upd v_sheets0_items a2.toNatClampNeg a3.toInt8.toInt32, v_sheets1_items, v_sheets2_items, v_sheets3_items))
            else
              if a1 = (1 : Int32) then
                gd (inb a2 60) (
                some ((1 : Int32), v_latestFinding, upd v_sheets0_items a2.toNatClampNeg a3.toInt16.toInt32, v_sheets1_items, v_sheets2_items, v_sheets3_items))
              else
                gd (inb a2 60) (
                some ((1 : Int32), v_latestFinding, upd v_sheets0_items a2.toNatClampNeg a3, v_sheets1_items, v_sheets2_items, v_sheets3_items))
          else if a0 = (1 : Int32) then
            if a1 = 0 then
              gd (inb a2 60) (
              some ((1 : Int32), v_latestFinding, v_sheets0_items, upd v_sheets1_items a2.toNatClampNeg a3.toInt8.toInt32, v_sheets2_items, v_sheets3_items))
            else
              if a1 = (1 : Int32) then
                gd (inb a2 60) (
                some ((1 : Int32), v_latestFinding, v_sheets0_items, upd v_sheets1_items a2.toNatClampNeg a3.toInt16.toInt32, v_sheets2_items, v_sheets3_items))
              else
                gd (inb a2 60) (
                some ((1 : Int32), v_latestFinding, v_sheets0_items, upd v_sheets1_items a2.toNatClampNeg a3, v_sheets2_items, v_sheets3_items))
          else if a0 = (2 : Int32) then
            if a1 = 0 then
              gd (inb a2 60) (
              some ((1 : Int32), v_latestFinding, v_sheets0_items, v_sheets1_items, upd v_sheets2_items a2.toNatClampNeg a3.toInt8.toInt32, v_sheets3_items))
            else
              if a1 = (1 : Int32) then
                gd (inb a2 60) (
                some ((1 : Int32), v_latestFinding, v_sheets0_items, v_sheets1_items, upd v_sheets2_items a2.toNatClampNeg a3.toInt16.toInt32, v_sheets3_items))
              else
                gd (inb a2 60) (
                some ((1 : Int32), v_latestFinding, v_sheets0_items, v_sheets1_items, upd v_sheets2_items a2.toNatClampNeg a3, v_sheets3_items))
          else if a0 = (3 : Int32) then
            if a1 = 0 then
              gd (inb a2 60) (
              some ((1 : Int32), v_latestFinding, v_sheets0_items, v_sheets1_items, v_sheets2_items, upd v_sheets3_items a2.toNatClampNeg a3.toInt8.toInt32))
            else
              if a1 = (1 : Int32) then
                gd (inb a2 60) (
                some ((1 : Int32), v_latestFinding, v_sheets0_items, v_sheets1_items, v_sheets2_items, upd v_sheets3_items a2.toNatClampNeg a3.toInt16.toInt32))
              else
                gd (inb a2 60) (
                some ((1 : Int32), v_latestFinding, v_sheets0_items, v_sheets1_items, v_sheets2_items, upd v_sheets3_items a2.toNatClampNeg a3))
          else none
        else
          (f_x_found v_latestFinding o25).bind (fun o38 =>
          some (o38.1, o38.2, v_sheets0_items, v_sheets1_items, v_sheets2_items, v_sheets3_items)))
      else if a0 = (1 : Int32) then
        (f_sh_findingAt v_sheets1_form v_sheets1_size a1 a2).bind (fun o25 =>
        if o25 = 0 then
          if a0 = (0 : Int32) then
            if a1 = 0 then
              gd (inb a2 60) (
              some ((1 : Int32), v_latestFinding, upd v_sheets0_items a2.toNatClampNeg a3.toInt8.toInt32, v_sheets1_items, v_sheets2_items, v_sheets3_items))
            else
              if a1 = (1 : Int32) then
                gd (inb a2 60) (
                some ((1 : Int32), v_latestFinding, upd v_sheets0_items a2.toNatClampNeg a3.toInt16.toInt32, v_sheets1_items, v_sheets2_items, v_sheets3_items))
              else
                gd (inb a2 60) (
                some ((1 : Int32), v_latestFinding, upd v_sheets0_items a2.toNatClampNeg a3, v_sheets1_items, v_sheets2_items, v_sheets3_items))
          else if a0 = (1 : Int32) then
            if a1 = 0 then
              gd (inb a2 60) (
              some ((1 : Int32), v_latestFinding, v_sheets0_items, upd v_sheets1_items a2.toNatClampNeg a3.toInt8.toInt32, v_sheets2_items, v_sheets3_items))
            else
              if a1 = (1 : Int32) then
                gd (inb a2 60) (
                some ((1 : Int32), v_latestFinding, v_sheets0_items, upd v_sheets1_items a2.toNatClampNeg a3.toInt16.toInt32, v_sheets2_items, v_sheets3_items))
              else
                gd (inb a2 60) (
                some ((1 : Int32), v_latestFinding, v_sheets0_items, upd v_sheets1_items a2.toNatClampNeg a3, v_sheets2_items, v_sheets3_items))
          else if a0 = (2 : Int32) then
            if a1 = 0 then
              gd (inb a2 60) (
              some ((1 : Int32), v_latestFinding, v_sheets0_items, v_sheets1_items, upd v_sheets2_items a2.toNatClampNeg a3.toInt8.toInt32, v_sheets3_items))
            else
              if a1 = (1 : Int32) then
                gd (inb a2 60) (
                some ((1 : Int32), v_latestFinding, v_sheets0_items, v_sheets1_items, upd v_sheets2_items a2.toNatClampNeg a3.toInt16.toInt32, v_sheets3_items))
              else
                gd (inb a2 60) (
                some ((1 : Int32), v_latestFinding, v_sheets0_items, v_sheets1_items, upd v_sheets2_items a2.toNatClampNeg a3, v_sheets3_items))
          else if a0 = (3 : Int32) then
            if a1 = 0 then
              gd (inb a2 60) (
              some ((1 : Int32), v_latestFinding, v_sheets0_items, v_sheets1_items, v_sheets2_items, upd v_sheets3_items a2.toNatClampNeg a3.toInt8.toInt32))
            else
              if a1 = (1 : Int32) then
                gd (inb a2 60) (
                some ((1 : Int32), v_latestFinding, v_sheets0_items, v_sheets1_items, v_sheets2_items, upd v_sheets3_items a2.toNatClampNeg a3.toInt16.toInt32))
              else
                gd (inb a2 60) (
                some ((1 : Int32), v_latestFinding, v_sheets0_items, v_sheets1_items, v_sheets2_items, upd v_sheets3_items a2.toNatClampNeg a3))
          else none
        else
          (f_x_found v_latestFinding o25).bind (fun o38 =>
          some (o38.1, o38.2, v_sheets0_items, v_sheets1_items, v_sheets2_items, v_sheets3_items)))
      else if a0 = (2 : Int32) then
        (f_sh_findingAt v_sheets2_form v_sheets2_size a1 a2).bind (fun o25 =>
        if o25 = 0 then
          if a0 = (0 : Int32) then
            if a1 = 0 then
              gd (inb a2 60) (
              some ((1 : Int32), v_latestFinding, upd v_sheets0_items a2.toNatClampNeg a3.toInt8.toInt32, v_sheets1_items, v_sheets2_items, v_sheets3_items))
            else
              if a1 = (1 : Int32) then
                gd (inb a2 60) (
                some ((1 : Int32), v_latestFinding, upd v_sheets0_items a2.toNatClampNeg a3.toInt16.toInt32, v_sheets1_items, v_sheets2_items, v_sheets3_items))
              else
                gd (inb a2 60) (
                some ((1 : Int32), v_latestFinding, upd v_sheets0_items a2.toNatClampNeg a3, v_sheets1_items, v_sheets2_items, v_sheets3_items))
          else if a0 = (1 : Int32) then
            if a1 = 0 then
              gd (inb a2 60) (
              some ((1 : Int32), v_latestFinding, v_sheets0_items, upd v_sheets1_items a2.toNatClampNeg a3.toInt8.toInt32, v_sheets2_items, v_sheets3_items))
            else
              if a1 = (1 : Int32) then
                gd (inb a2 60) (
                some ((1 : Int32), v_latestFinding, v_sheets0_items, upd v_sheets1_items a2.toNatClampNeg a3.toInt16.toInt32, v_sheets2_items, v_sheets3_items))
              else
                gd (inb a2 60) (
                some ((1 : Int32), v_latestFinding, v_sheets0_items, upd v_sheets1_items a2.toNatClampNeg a3, v_sheets2_items, v_sheets3_items))
          else if a0 = (2 : Int32) then
            if a1 = 0 then
              gd (inb a2 60) (
              some ((1 : Int32), v_latestFinding, v_sheets0_items, v_sheets1_items, upd v_sheets2_items a2.toNatClampNeg a3.toInt8.toInt32, v_sheets3_items))
            else
              if a1 = (1 : Int32) then
                gd (inb a2 60) (
                some ((1 : Int32), v_latestFinding, v_sheets0_items, v_sheets1_items, upd v_sheets2_items a2.toNatClampNeg a3.toInt16.toInt32, v_sheets3_items))
              else
                gd (inb a2 60) (
                some ((1 : Int32), v_latestFinding, v_sheets0_items, v_sheets1_items, upd v_sheets2_items a2.toNatClampNeg a3, v_sheets3_items))
          else if a0 = (3 : Int32) then
            if a1 = 0 then
              gd (inb a2 60) (
              some ((1 : Int32), v_latestFinding, v_sheets0_items, v_sheets1_items, v_sheets2_items, upd v_sheets3_items a2.toNatClampNeg a3.toInt8.toInt32))
            else
              if a1 = (1 : Int32) then
                gd (inb a2 60) (
                some ((1 : Int32), v_latestFinding, v_sheets0_items, v_sheets1_items, v_sheets2_items, upd v_sheets3_items a2.toNatClampNeg a3.toInt16.toInt32))
              else
                gd (inb a2 60) (
                some ((1 : Int32), v_latestFinding, v_sheets0_items, v_sheets1_items, v_sheets2_items, upd v_sheets3_items a2.toNatClampNeg a3))
          else none
        else
          (f_x_found v_latestFinding o25).bind (fun o38 =>
          some (o38.1, o38.2, v_sheets0_items, v_sheets1_items, v_sheets2_items, v_sheets3_items)))
      else if a0 = (3 : Int32) then
        (f_sh_findingAt v_sheets3_form v_sheets3_size a1 a2).bind (fun o25 =>
        if o25 = 0 then
          if a0 = (0 : Int32) then
            if a1 = 0 then
              gd (inb a2 60) (
              some ((1 : Int32), v_latestFinding, upd v_sheets0_items a2.toNatClampNeg a3.toInt8.toInt32, v_sheets1_items, v_sheets2_items, v_sheets3_items))
            else
              if a1 = (1 : Int32) then
                gd (inb a2 60) (
                some ((1 : Int32), v_latestFinding, upd v_sheets0_items a2.toNatClampNeg a3.toInt16.toInt32, v_sheets1_items, v_sheets2_items, v_sheets3_items))
              else
                gd (inb a2 60) (
                some ((1 : Int32), v_latestFinding, upd v_sheets0_items a2.toNatClampNeg a3, v_sheets1_items, v_sheets2_items, v_sheets3_items))
          else if a0 = (1 : Int32) then
            if a1 = 0 then
              gd (inb a2 60) (
              some ((1 : Int32), v_latestFinding, v_sheets0_items, upd v_sheets1_items a2.toNatClampNeg a3.toInt8.toInt32, v_sheets2_items, v_sheets3_items))
            else
              if a1 = (1 : Int32) then
                gd (inb a2 60) (
                some ((1 : Int32), v_latestFinding, v_sheets0_items, upd v_sheets1_items a2.toNatClampNeg a3.toInt16.toInt32, v_sheets2_items, v_sheets3_items))
              else
                gd (inb a2 60) (
                some ((1 : Int32), v_latestFinding, v_sheets0_items, upd v_sheets1_items a2.toNatClampNeg a3, v_sheets2_items, v_sheets3_items))
          else if a0 = (2 : Int32) then
            if a1 = 0 then
              gd (inb a2 60) (
              some ((1 : Int32), v_latestFinding, v_sheets0_items, v_sheets1_items, upd v_sheets2_items a2.toNatClampNeg a3.toInt8.toInt32, v_sheets3_items))
            else
              if a1 = (1 : Int32) then
                gd (inb a2 60) (
                some ((1 : Int32), v_latestFinding, v_sheets0_items, v_sheets1_items, upd v_sheets2_items a2.toNatClampNeg a3.toInt16.toInt32, v_sheets3_items))
              else
                gd (inb a2 60) (
                some ((1 : Int32), v_latestFinding, v_sheets0_items, v_sheets1_items, upd v_sheets2_items a2.toNatClampNeg a3, v_sheets3_items))
          else if a0 = (3 : Int32) then
            if a1 = 0 then
              gd (inb a2 60) (
              some ((1 : Int32), v_latestFinding, v_sheets0_items, v_sheets1_items, v_sheets2_items, upd v_sheets3_items a2.toNatClampNeg a3.toInt8.toInt32))
            else
              if a1 = (1 : Int32) then
                gd (inb a2 60) (
                some ((1 : Int32), v_latestFinding, v_sheets0_items, v_sheets1_items, v_sheets2_items, upd v_sheets3_items a2.toNatClampNeg a3.toInt16.toInt32))
              else
                gd (inb a2 60) (
                some ((1 : Int32), v_latestFinding, v_sheets0_items, v_sheets1_items, v_sheets2_items, upd v_sheets3_items a2.toNatClampNeg a3))
          else none
        else
          (f_x_found v_latestFinding o25).bind (fun o38 =>
          some (o38.1, o38.2, v_sheets0_items, v_sheets1_items, v_sheets2_items, v_sheets3_items)))
      else none))

-- WallHands.get(III)I
def f_x_get (v_latestFinding : Int32) (v_sheets0_form : Int32) (v_sheets0_size : Int32) (v_sheets0_items : Nat → Int32) (v_sheets1_form : Int32) (v_sheets1_size : Int32) (v_sheets1_items : Nat → Int32) (v_sheets2_form : Int32) (v_sheets2_size : Int32) (v_sheets2_items : Nat → Int32) (v_sheets3_form : Int32) (v_sheets3_size : Int32) (v_sheets3_items : Nat → Int32) (a0 : Int32) (a1 : Int32) (a2 : Int32) : Option (Int32 × Int32) :=
  (f_x_isSheet a0).bind (fun o1 =>
  if o1 = 0 then
    some ((-2147483648 : Int32), v_latestFinding)
  else
    (f_x_isForm a1).bind (fun o8 =>
    if o8 = 0 then
      some ((-2147483648 : Int32), v_latestFinding)
    else
      if a0 = (0 : Int32) then
        (f_sh_findingAt v_sheets0_form v_sheets0_size a1 a2).bind (fun o26 =>
        if o26 = 0 then
          if a0 = (0 : Int32) then
            gd (inb a2 60) (
            some (v_sheets0_items a2.toNatClampNeg, v_latestFinding))
          else if a0 = (1 : Int32) then
            gd (inb a2 60) (
            some (v_sheets1_items a2.toNatClampNeg, v_latestFinding))
          else if a0 = (2 : Int32) then
            gd (inb a2 60) (
            some (v_sheets2_items a2.toNatClampNeg, v_latestFinding))
          else if a0 = (3 : Int32) then
            gd (inb a2 60) (
            some (v_sheets3_items a2.toNatClampNeg, v_latestFinding))
          else none
        else
          (f_x_found v_latestFinding o26).bind (fun o39 =>
          some ((-2147483648 : Int32), o39.2)))
      else if a0 = (1 : Int32) then
        (f_sh_findingAt v_sheets1_form v_sheets1_size a1 a2).bind (fun o26 =>
        if o26 = 0 then
          if a0 = (0 : Int32) then
            gd (inb a2 60) (
            some (v_sheets0_items a2.toNatClampNeg, v_latestFinding))
          else if a0 = (1 : Int32) then
            gd (inb a2 60) (
            some (v_sheets1_items a2.toNatClampNeg, v_latestFinding))
          else if a0 = (2 : Int32) then
            gd (inb a2 60) (
            some (v_sheets2_items a2.toNatClampNeg, v_latestFinding))
          else if a0 = (3 : Int32) then
            gd (inb a2 60) (
            some (v_sheets3_items a2.toNatClampNeg, v_latestFinding))
          else none
        else
          (f_x_found v_latestFinding o26).bind (fun o39 =>
          some ((-2147483648 : Int32), o39.2)))
      else if a0 = (2 : Int32) then
        (f_sh_findingAt v_sheets2_form v_sheets2_size a1 a2).bind (fun o26 =>
        if o26 = 0 then
          if a0 = (0 : Int32) then
            gd (inb a2 60) (
            some (v_sheets0_items a2.toNatClampNeg, v_latestFinding))
          else if a0 = (1 : Int32) then
            gd (inb a2 60) (
            some (v_sheets1_items a2.toNatClampNeg, v_latestFinding))
          else if a0 = (2 : Int32) then
            gd (inb a2 60) (
            some (v_sheets2_items a2.toNatClampNeg, v_latestFinding))
          else if a0 = (3 : Int32) then
            gd (inb a2 60) (
            some (v_sheets3_items a2.toNatClampNeg, v_latestFinding))
          else none
        else
          (f_x_found v_latestFinding o26).bind (fun o39 =>
          some ((-2147483648 : Int32), o39.2)))
      else if a0 = (3 : Int32) then
        (f_sh_findingAt v_sheets3_form v_sheets3_size a1 a2).bind (fun o26 =>
        if o26 = 0 then
          if a0 = (0 : Int32) then
            gd (inb a2 60) (
            some (v_sheets0_items a2.toNatClampNeg, v_latestFinding))
          else if a0 = (1 : Int32) then
            gd (inb a2 60) (
            some (v_sheets1_items a2.toNatClampNeg, v_latestFinding))
          else if a0 = (2 : Int32) then
            gd (inb a2 60) (
            some (v_sheets2_items a2.toNatClampNeg, v_latestFinding))
          else if a0 = (3 : Int32) then
            gd (inb a2 60) (
            some (v_sheets3_items a2.toNatClampNeg, v_latestFinding))
          else none
        else
          (f_x_found v_latestFinding o26).bind (fun o39 =>
          some ((-2147483648 : Int32), o39.2)))
      else none))

-- WallHands.copy(IIIII)I
def f_x_copy_N51 (v_sheets0_form : Int32) (v_sheets0_size : Int32) (v_sheets1_form : Int32) (v_sheets1_size : Int32) (v_sheets2_form : Int32) (v_sheets2_size : Int32) (v_sheets3_form : Int32) (v_sheets3_size : Int32) (v_latestFinding : Int32) (v_sheets0_items : Nat → Int32) (v_sheets1_items : Nat → Int32) (v_sheets2_items : Nat → Int32) (v_sheets3_items : Nat → Int32) : Option (Int32 × Int32 × (Nat → Int32) × (Nat → Int32) × (Nat → Int32) × (Nat → Int32)) :=
  (f_x_found v_latestFinding (1 : Int32)).bind (fun o53 =>
  some (o53.1, o53.2, v_sheets0_items, v_sheets1_items, v_sheets2_items, v_sheets3_items))

def f_x_copy_N99 (v_sheets0_form : Int32) (v_sheets0_size : Int32) (v_sheets1_form : Int32) (v_sheets1_size : Int32) (v_sheets2_form : Int32) (v_sheets2_size : Int32) (v_sheets3_form : Int32) (v_sheets3_size : Int32) (v_latestFinding : Int32) (v_sheets0_items : Nat → Int32) (v_sheets1_items : Nat → Int32) (v_sheets2_items : Nat → Int32) (v_sheets3_items : Nat → Int32) : Option (Int32 × Int32 × (Nat → Int32) × (Nat → Int32) × (Nat → Int32) × (Nat → Int32)) :=
  (f_x_found v_latestFinding (2 : Int32)).bind (fun o101 =>
  some (o101.1, o101.2, v_sheets0_items, v_sheets1_items, v_sheets2_items, v_sheets3_items))

def f_x_copy (v_latestFinding : Int32) (v_sheets0_form : Int32) (v_sheets0_size : Int32) (v_sheets0_items : Nat → Int32) (v_sheets1_form : Int32) (v_sheets1_size : Int32) (v_sheets1_items : Nat → Int32) (v_sheets2_form : Int32) (v_sheets2_size : Int32) (v_sheets2_items : Nat → Int32) (v_sheets3_form : Int32) (v_sheets3_size : Int32) (v_sheets3_items : Nat → Int32) (a0 : Int32) (a1 : Int32) (a2 : Int32) (a3 : Int32) (a4 : Int32) : Option (Int32 × Int32 × (Nat → Int32) × (Nat → Int32) × (Nat → Int32) × (Nat → Int32)) :=
  (f_x_isSheet a0).bind (fun o1 =>
  if o1 = 0 then
    some ((-2 : Int32), v_latestFinding, v_sheets0_items, v_sheets1_items, v_sheets2_items, v_sheets3_items)
  else
    (f_x_isSheet a2).bind (fun o8 =>
    if o8 = 0 then
      some ((-2 : Int32), v_latestFinding, v_sheets0_items, v_sheets1_items, v_sheets2_items, v_sheets3_items)
    else
      if a0 = (0 : Int32) then
        if a2 = (0 : Int32) then
          if v_sheets0_form = (-1 : Int32) then
            f_x_copy_N51 v_sheets0_form v_sheets0_size v_sheets1_form v_sheets1_size v_sheets2_form v_sheets2_size v_sheets3_form v_sheets3_size v_latestFinding v_sheets0_items v_sheets1_items v_sheets2_items v_sheets3_items
          else
            if v_sheets0_form = (-1 : Int32) then
              f_x_copy_N51 v_sheets0_form v_sheets0_size v_sheets1_form v_sheets1_size v_sheets2_form v_sheets2_size v_sheets3_form v_sheets3_size v_latestFinding v_sheets0_items v_sheets1_items v_sheets2_items v_sheets3_items
            else
              if v_sheets0_form = v_sheets0_form then
                (f_sh_hasItems v_sheets0_size a1 a4).bind (fun o81 =>
                if o81 = 0 then
                  f_x_copy_N99 v_sheets0_form v_sheets0_size v_sheets1_form v_sheets1_size v_sheets2_form v_sheets2_size v_sheets3_form v_sheets3_size v_latestFinding v_sheets0_items v_sheets1_items v_sheets2_items v_sheets3_items
                else
                  (f_sh_hasItems v_sheets0_size a3 a4).bind (fun o93 =>
                  if o93 = 0 then
                    f_x_copy_N99 v_sheets0_form v_sheets0_size v_sheets1_form v_sheets1_size v_sheets2_form v_sheets2_size v_sheets3_form v_sheets3_size v_latestFinding v_sheets0_items v_sheets1_items v_sheets2_items v_sheets3_items
                  else
                    gd (cpyok a1 a3 a4 60 60) (
                    some ((1 : Int32), v_latestFinding, va_cpy v_sheets0_items v_sheets0_items a1.toNatClampNeg a3.toNatClampNeg a4.toNatClampNeg, v_sheets1_items, v_sheets2_items, v_sheets3_items))))
              else
                (f_x_found v_latestFinding (4 : Int32)).bind (fun o72 =>
                some (o72.1, o72.2, v_sheets0_items, v_sheets1_items, v_sheets2_items, v_sheets3_items))
        else if a2 = (1 : Int32) then
          if v_sheets0_form = (-1 : Int32) then
            f_x_copy_N51 v_sheets0_form v_sheets0_size v_sheets1_form v_sheets1_size v_sheets2_form v_sheets2_size v_sheets3_form v_sheets3_size v_latestFinding v_sheets0_items v_sheets1_items v_sheets2_items v_sheets3_items
          else
            if v_sheets1_form = (-1 : Int32) then
              f_x_copy_N51 v_sheets0_form v_sheets0_size v_sheets1_form v_sheets1_size v_sheets2_form v_sheets2_size v_sheets3_form v_sheets3_size v_latestFinding v_sheets0_items v_sheets1_items v_sheets2_items v_sheets3_items
            else
              if v_sheets0_form = v_sheets1_form then
                (f_sh_hasItems v_sheets0_size a1 a4).bind (fun o81 =>
                if o81 = 0 then
                  f_x_copy_N99 v_sheets0_form v_sheets0_size v_sheets1_form v_sheets1_size v_sheets2_form v_sheets2_size v_sheets3_form v_sheets3_size v_latestFinding v_sheets0_items v_sheets1_items v_sheets2_items v_sheets3_items
                else
                  (f_sh_hasItems v_sheets1_size a3 a4).bind (fun o93 =>
                  if o93 = 0 then
                    f_x_copy_N99 v_sheets0_form v_sheets0_size v_sheets1_form v_sheets1_size v_sheets2_form v_sheets2_size v_sheets3_form v_sheets3_size v_latestFinding v_sheets0_items v_sheets1_items v_sheets2_items v_sheets3_items
                  else
                    gd (cpyok a1 a3 a4 60 60) (
                    some ((1 : Int32), v_latestFinding, v_sheets0_items, va_cpy v_sheets0_items v_sheets1_items a1.toNatClampNeg a3.toNatClampNeg a4.toNatClampNeg, v_sheets2_items, v_sheets3_items))))
              else
                (f_x_found v_latestFinding (4 : Int32)).bind (fun o72 =>
                some (o72.1, o72.2, v_sheets0_items, v_sheets1_items, v_sheets2_items, v_sheets3_items))
        else if a2 = (2 : Int32) then
          if v_sheets0_form = (-1 : Int32) then
            f_x_copy_N51 v_sheets0_form v_sheets0_size v_sheets1_form v_sheets1_size v_sheets2_form v_sheets2_size v_sheets3_form v_sheets3_size v_latestFinding v_sheets0_items v_sheets1_items v_sheets2_items v_sheets3_items
          else
            if v_sheets2_form = (-1 : Int32) then
              f_x_copy_N51 v_sheets0_form v_sheets0_size v_sheets1_form v_sheets1_size v_sheets2_form v_sheets2_size v_sheets3_form v_sheets3_size v_latestFinding v_sheets0_items v_sheets1_items v_sheets2_items v_sheets3_items
            else
              if v_sheets0_form = v_sheets2_form then
                (f_sh_hasItems v_sheets0_size a1 a4).bind (fun o81 =>
                if o81 = 0 then
                  f_x_copy_N99 v_sheets0_form v_sheets0_size v_sheets1_form v_sheets1_size v_sheets2_form v_sheets2_size v_sheets3_form v_sheets3_size v_latestFinding v_sheets0_items v_sheets1_items v_sheets2_items v_sheets3_items
                else
                  (f_sh_hasItems v_sheets2_size a3 a4).bind (fun o93 =>
                  if o93 = 0 then
                    f_x_copy_N99 v_sheets0_form v_sheets0_size v_sheets1_form v_sheets1_size v_sheets2_form v_sheets2_size v_sheets3_form v_sheets3_size v_latestFinding v_sheets0_items v_sheets1_items v_sheets2_items v_sheets3_items
                  else
                    gd (cpyok a1 a3 a4 60 60) (
                    some ((1 : Int32), v_latestFinding, v_sheets0_items, v_sheets1_items, va_cpy v_sheets0_items v_sheets2_items a1.toNatClampNeg a3.toNatClampNeg a4.toNatClampNeg, v_sheets3_items))))
              else
                (f_x_found v_latestFinding (4 : Int32)).bind (fun o72 =>
                some (o72.1, o72.2, v_sheets0_items, v_sheets1_items, v_sheets2_items, v_sheets3_items))
        else if a2 = (3 : Int32) then
          if v_sheets0_form = (-1 : Int32) then
            f_x_copy_N51 v_sheets0_form v_sheets0_size v_sheets1_form v_sheets1_size v_sheets2_form v_sheets2_size v_sheets3_form v_sheets3_size v_latestFinding v_sheets0_items v_sheets1_items v_sheets2_items v_sheets3_items
          else
            if v_sheets3_form = (-1 : Int32) then
              f_x_copy_N51 v_sheets0_form v_sheets0_size v_sheets1_form v_sheets1_size v_sheets2_form v_sheets2_size v_sheets3_form v_sheets3_size v_latestFinding v_sheets0_items v_sheets1_items v_sheets2_items v_sheets3_items
            else
              if v_sheets0_form = v_sheets3_form then
                (f_sh_hasItems v_sheets0_size a1 a4).bind (fun o81 =>
                if o81 = 0 then
                  f_x_copy_N99 v_sheets0_form v_sheets0_size v_sheets1_form v_sheets1_size v_sheets2_form v_sheets2_size v_sheets3_form v_sheets3_size v_latestFinding v_sheets0_items v_sheets1_items v_sheets2_items v_sheets3_items
                else
                  (f_sh_hasItems v_sheets3_size a3 a4).bind (fun o93 =>
                  if o93 = 0 then
                    f_x_copy_N99 v_sheets0_form v_sheets0_size v_sheets1_form v_sheets1_size v_sheets2_form v_sheets2_size v_sheets3_form v_sheets3_size v_latestFinding v_sheets0_items v_sheets1_items v_sheets2_items v_sheets3_items
                  else
                    gd (cpyok a1 a3 a4 60 60) (
                    some ((1 : Int32), v_latestFinding, v_sheets0_items, v_sheets1_items, v_sheets2_items, va_cpy v_sheets0_items v_sheets3_items a1.toNatClampNeg a3.toNatClampNeg a4.toNatClampNeg))))
              else
                (f_x_found v_latestFinding (4 : Int32)).bind (fun o72 =>
                some (o72.1, o72.2, v_sheets0_items, v_sheets1_items, v_sheets2_items, v_sheets3_items))
        else none
      else if a0 = (1 : Int32) then
        if a2 = (0 : Int32) then
          if v_sheets1_form = (-1 : Int32) then
            f_x_copy_N51 v_sheets0_form v_sheets0_size v_sheets1_form v_sheets1_size v_sheets2_form v_sheets2_size v_sheets3_form v_sheets3_size v_latestFinding v_sheets0_items v_sheets1_items v_sheets2_items v_sheets3_items
          else
            if v_sheets0_form = (-1 : Int32) then
              f_x_copy_N51 v_sheets0_form v_sheets0_size v_sheets1_form v_sheets1_size v_sheets2_form v_sheets2_size v_sheets3_form v_sheets3_size v_latestFinding v_sheets0_items v_sheets1_items v_sheets2_items v_sheets3_items
            else
              if v_sheets1_form = v_sheets0_form then
                (f_sh_hasItems v_sheets1_size a1 a4).bind (fun o81 =>
                if o81 = 0 then
                  f_x_copy_N99 v_sheets0_form v_sheets0_size v_sheets1_form v_sheets1_size v_sheets2_form v_sheets2_size v_sheets3_form v_sheets3_size v_latestFinding v_sheets0_items v_sheets1_items v_sheets2_items v_sheets3_items
                else
                  (f_sh_hasItems v_sheets0_size a3 a4).bind (fun o93 =>
                  if o93 = 0 then
                    f_x_copy_N99 v_sheets0_form v_sheets0_size v_sheets1_form v_sheets1_size v_sheets2_form v_sheets2_size v_sheets3_form v_sheets3_size v_latestFinding v_sheets0_items v_sheets1_items v_sheets2_items v_sheets3_items
                  else
                    gd (cpyok a1 a3 a4 60 60) (
                    some ((1 : Int32), v_latestFinding, va_cpy v_sheets1_items v_sheets0_items a1.toNatClampNeg a3.toNatClampNeg a4.toNatClampNeg, v_sheets1_items, v_sheets2_items, v_sheets3_items))))
              else
                (f_x_found v_latestFinding (4 : Int32)).bind (fun o72 =>
                some (o72.1, o72.2, v_sheets0_items, v_sheets1_items, v_sheets2_items, v_sheets3_items))
        else if a2 = (1 : Int32) then
          if v_sheets1_form = (-1 : Int32) then
            f_x_copy_N51 v_sheets0_form v_sheets0_size v_sheets1_form v_sheets1_size v_sheets2_form v_sheets2_size v_sheets3_form v_sheets3_size v_latestFinding v_sheets0_items v_sheets1_items v_sheets2_items v_sheets3_items
          else
            if v_sheets1_form = (-1 : Int32) then
              f_x_copy_N51 v_sheets0_form v_sheets0_size v_sheets1_form v_sheets1_size v_sheets2_form v_sheets2_size v_sheets3_form v_sheets3_size v_latestFinding v_sheets0_items v_sheets1_items v_sheets2_items v_sheets3_items
            else
              if v_sheets1_form = v_sheets1_form then
                (f_sh_hasItems v_sheets1_size a1 a4).bind (fun o81 =>
                if o81 = 0 then
                  f_x_copy_N99 v_sheets0_form v_sheets0_size v_sheets1_form v_sheets1_size v_sheets2_form v_sheets2_size v_sheets3_form v_sheets3_size v_latestFinding v_sheets0_items v_sheets1_items v_sheets2_items v_sheets3_items
                else
                  (f_sh_hasItems v_sheets1_size a3 a4).bind (fun o93 =>
                  if o93 = 0 then
                    f_x_copy_N99 v_sheets0_form v_sheets0_size v_sheets1_form v_sheets1_size v_sheets2_form v_sheets2_size v_sheets3_form v_sheets3_size v_latestFinding v_sheets0_items v_sheets1_items v_sheets2_items v_sheets3_items
                  else
                    gd (cpyok a1 a3 a4 60 60) (
                    some ((1 : Int32), v_latestFinding, v_sheets0_items, va_cpy v_sheets1_items v_sheets1_items a1.toNatClampNeg a3.toNatClampNeg a4.toNatClampNeg, v_sheets2_items, v_sheets3_items))))
              else
                (f_x_found v_latestFinding (4 : Int32)).bind (fun o72 =>
                some (o72.1, o72.2, v_sheets0_items, v_sheets1_items, v_sheets2_items, v_sheets3_items))
        else if a2 = (2 : Int32) then
          if v_sheets1_form = (-1 : Int32) then
            f_x_copy_N51 v_sheets0_form v_sheets0_size v_sheets1_form v_sheets1_size v_sheets2_form v_sheets2_size v_sheets3_form v_sheets3_size v_latestFinding v_sheets0_items v_sheets1_items v_sheets2_items v_sheets3_items
          else
            if v_sheets2_form = (-1 : Int32) then
              f_x_copy_N51 v_sheets0_form v_sheets0_size v_sheets1_form v_sheets1_size v_sheets2_form v_sheets2_size v_sheets3_form v_sheets3_size v_latestFinding v_sheets0_items v_sheets1_items v_sheets2_items v_sheets3_items
            else
              if v_sheets1_form = v_sheets2_form then
                (f_sh_hasItems v_sheets1_size a1 a4).bind (fun o81 =>
                if o81 = 0 then
                  f_x_copy_N99 v_sheets0_form v_sheets0_size v_sheets1_form v_sheets1_size v_sheets2_form v_sheets2_size v_sheets3_form v_sheets3_size v_latestFinding v_sheets0_items v_sheets1_items v_sheets2_items v_sheets3_items
                else
                  (f_sh_hasItems v_sheets2_size a3 a4).bind (fun o93 =>
                  if o93 = 0 then
                    f_x_copy_N99 v_sheets0_form v_sheets0_size v_sheets1_form v_sheets1_size v_sheets2_form v_sheets2_size v_sheets3_form v_sheets3_size v_latestFinding v_sheets0_items v_sheets1_items v_sheets2_items v_sheets3_items
                  else
                    gd (cpyok a1 a3 a4 60 60) (
                    some ((1 : Int32), v_latestFinding, v_sheets0_items, v_sheets1_items, va_cpy v_sheets1_items v_sheets2_items a1.toNatClampNeg a3.toNatClampNeg a4.toNatClampNeg, v_sheets3_items))))
              else
                (f_x_found v_latestFinding (4 : Int32)).bind (fun o72 =>
                some (o72.1, o72.2, v_sheets0_items, v_sheets1_items, v_sheets2_items, v_sheets3_items))
        else if a2 = (3 : Int32) then
          if v_sheets1_form = (-1 : Int32) then
            f_x_copy_N51 v_sheets0_form v_sheets0_size v_sheets1_form v_sheets1_size v_sheets2_form v_sheets2_size v_sheets3_form v_sheets3_size v_latestFinding v_sheets0_items v_sheets1_items v_sheets2_items v_sheets3_items
          else
            if v_sheets3_form = (-1 : Int32) then
              f_x_copy_N51 v_sheets0_form v_sheets0_size v_sheets1_form v_sheets1_size v_sheets2_form v_sheets2_size v_sheets3_form v_sheets3_size v_latestFinding v_sheets0_items v_sheets1_items v_sheets2_items v_sheets3_items
            else
              if v_sheets1_form = v_sheets3_form then
                (f_sh_hasItems v_sheets1_size a1 a4).bind (fun o81 =>
                if o81 = 0 then
                  f_x_copy_N99 v_sheets0_form v_sheets0_size v_sheets1_form v_sheets1_size v_sheets2_form v_sheets2_size v_sheets3_form v_sheets3_size v_latestFinding v_sheets0_items v_sheets1_items v_sheets2_items v_sheets3_items
                else
                  (f_sh_hasItems v_sheets3_size a3 a4).bind (fun o93 =>
                  if o93 = 0 then
                    f_x_copy_N99 v_sheets0_form v_sheets0_size v_sheets1_form v_sheets1_size v_sheets2_form v_sheets2_size v_sheets3_form v_sheets3_size v_latestFinding v_sheets0_items v_sheets1_items v_sheets2_items v_sheets3_items
                  else
                    gd (cpyok a1 a3 a4 60 60) (
                    some ((1 : Int32), v_latestFinding, v_sheets0_items, v_sheets1_items, v_sheets2_items, va_cpy v_sheets1_items v_sheets3_items a1.toNatClampNeg a3.toNatClampNeg a4.toNatClampNeg))))
              else
                (f_x_found v_latestFinding (4 : Int32)).bind (fun o72 =>
                some (o72.1, o72.2, v_sheets0_items, v_sheets1_items, v_sheets2_items, v_sheets3_items))
        else none
      else if a0 = (2 : Int32) then
        if a2 = (0 : Int32) then
          if v_sheets2_form = (-1 : Int32) then
            f_x_copy_N51 v_sheets0_form v_sheets0_size v_sheets1_form v_sheets1_size v_sheets2_form v_sheets2_size v_sheets3_form v_sheets3_size v_latestFinding v_sheets0_items v_sheets1_items v_sheets2_items v_sheets3_items
          else
            if v_sheets0_form = (-1 : Int32) then
              f_x_copy_N51 v_sheets0_form v_sheets0_size v_sheets1_form v_sheets1_size v_sheets2_form v_sheets2_size v_sheets3_form v_sheets3_size v_latestFinding v_sheets0_items v_sheets1_items v_sheets2_items v_sheets3_items
            else
              if v_sheets2_form = v_sheets0_form then
                (f_sh_hasItems v_sheets2_size a1 a4).bind (fun o81 =>
                if o81 = 0 then
                  f_x_copy_N99 v_sheets0_form v_sheets0_size v_sheets1_form v_sheets1_size v_sheets2_form v_sheets2_size v_sheets3_form v_sheets3_size v_latestFinding v_sheets0_items v_sheets1_items v_sheets2_items v_sheets3_items
                else
                  (f_sh_hasItems v_sheets0_size a3 a4).bind (fun o93 =>
                  if o93 = 0 then
                    f_x_copy_N99 v_sheets0_form v_sheets0_size v_sheets1_form v_sheets1_size v_sheets2_form v_sheets2_size v_sheets3_form v_sheets3_size v_latestFinding v_sheets0_items v_sheets1_items v_sheets2_items v_sheets3_items
                  else
                    gd (cpyok a1 a3 a4 60 60) (
                    some ((1 : Int32), v_latestFinding, va_cpy v_sheets2_items v_sheets0_items a1.toNatClampNeg a3.toNatClampNeg a4.toNatClampNeg, v_sheets1_items, v_sheets2_items, v_sheets3_items))))
              else
                (f_x_found v_latestFinding (4 : Int32)).bind (fun o72 =>
                some (o72.1, o72.2, v_sheets0_items, v_sheets1_items, v_sheets2_items, v_sheets3_items))
        else if a2 = (1 : Int32) then
          if v_sheets2_form = (-1 : Int32) then
            f_x_copy_N51 v_sheets0_form v_sheets0_size v_sheets1_form v_sheets1_size v_sheets2_form v_sheets2_size v_sheets3_form v_sheets3_size v_latestFinding v_sheets0_items v_sheets1_items v_sheets2_items v_sheets3_items
          else
            if v_sheets1_form = (-1 : Int32) then
              f_x_copy_N51 v_sheets0_form v_sheets0_size v_sheets1_form v_sheets1_size v_sheets2_form v_sheets2_size v_sheets3_form v_sheets3_size v_latestFinding v_sheets0_items v_sheets1_items v_sheets2_items v_sheets3_items
            else
              if v_sheets2_form = v_sheets1_form then
                (f_sh_hasItems v_sheets2_size a1 a4).bind (fun o81 =>
                if o81 = 0 then
                  f_x_copy_N99 v_sheets0_form v_sheets0_size v_sheets1_form v_sheets1_size v_sheets2_form v_sheets2_size v_sheets3_form v_sheets3_size v_latestFinding v_sheets0_items v_sheets1_items v_sheets2_items v_sheets3_items
                else
                  (f_sh_hasItems v_sheets1_size a3 a4).bind (fun o93 =>
                  if o93 = 0 then
                    f_x_copy_N99 v_sheets0_form v_sheets0_size v_sheets1_form v_sheets1_size v_sheets2_form v_sheets2_size v_sheets3_form v_sheets3_size v_latestFinding v_sheets0_items v_sheets1_items v_sheets2_items v_sheets3_items
                  else
                    gd (cpyok a1 a3 a4 60 60) (
                    some ((1 : Int32), v_latestFinding, v_sheets0_items, va_cpy v_sheets2_items v_sheets1_items a1.toNatClampNeg a3.toNatClampNeg a4.toNatClampNeg, v_sheets2_items, v_sheets3_items))))
              else
                (f_x_found v_latestFinding (4 : Int32)).bind (fun o72 =>
                some (o72.1, o72.2, v_sheets0_items, v_sheets1_items, v_sheets2_items, v_sheets3_items))
        else if a2 = (2 : Int32) then
          if v_sheets2_form = (-1 : Int32) then
            f_x_copy_N51 v_sheets0_form v_sheets0_size v_sheets1_form v_sheets1_size v_sheets2_form v_sheets2_size v_sheets3_form v_sheets3_size v_latestFinding v_sheets0_items v_sheets1_items v_sheets2_items v_sheets3_items
          else
            if v_sheets2_form = (-1 : Int32) then
              f_x_copy_N51 v_sheets0_form v_sheets0_size v_sheets1_form v_sheets1_size v_sheets2_form v_sheets2_size v_sheets3_form v_sheets3_size v_latestFinding v_sheets0_items v_sheets1_items v_sheets2_items v_sheets3_items
            else
              if v_sheets2_form = v_sheets2_form then
                (f_sh_hasItems v_sheets2_size a1 a4).bind (fun o81 =>
                if o81 = 0 then
                  f_x_copy_N99 v_sheets0_form v_sheets0_size v_sheets1_form v_sheets1_size v_sheets2_form v_sheets2_size v_sheets3_form v_sheets3_size v_latestFinding v_sheets0_items v_sheets1_items v_sheets2_items v_sheets3_items
                else
                  (f_sh_hasItems v_sheets2_size a3 a4).bind (fun o93 =>
                  if o93 = 0 then
                    f_x_copy_N99 v_sheets0_form v_sheets0_size v_sheets1_form v_sheets1_size v_sheets2_form v_sheets2_size v_sheets3_form v_sheets3_size v_latestFinding v_sheets0_items v_sheets1_items v_sheets2_items v_sheets3_items
                  else
                    gd (cpyok a1 a3 a4 60 60) (
                    some ((1 : Int32), v_latestFinding, v_sheets0_items, v_sheets1_items, va_cpy v_sheets2_items v_sheets2_items a1.toNatClampNeg a3.toNatClampNeg a4.toNatClampNeg, v_sheets3_items))))
              else
                (f_x_found v_latestFinding (4 : Int32)).bind (fun o72 =>
                some (o72.1, o72.2, v_sheets0_items, v_sheets1_items, v_sheets2_items, v_sheets3_items))
        else if a2 = (3 : Int32) then
          if v_sheets2_form = (-1 : Int32) then
            f_x_copy_N51 v_sheets0_form v_sheets0_size v_sheets1_form v_sheets1_size v_sheets2_form v_sheets2_size v_sheets3_form v_sheets3_size v_latestFinding v_sheets0_items v_sheets1_items v_sheets2_items v_sheets3_items
          else
            if v_sheets3_form = (-1 : Int32) then
              f_x_copy_N51 v_sheets0_form v_sheets0_size v_sheets1_form v_sheets1_size v_sheets2_form v_sheets2_size v_sheets3_form v_sheets3_size v_latestFinding v_sheets0_items v_sheets1_items v_sheets2_items v_sheets3_items
            else
              if v_sheets2_form = v_sheets3_form then
                (f_sh_hasItems v_sheets2_size a1 a4).bind (fun o81 =>
                if o81 = 0 then
                  f_x_copy_N99 v_sheets0_form v_sheets0_size v_sheets1_form v_sheets1_size v_sheets2_form v_sheets2_size v_sheets3_form v_sheets3_size v_latestFinding v_sheets0_items v_sheets1_items v_sheets2_items v_sheets3_items
                else
                  (f_sh_hasItems v_sheets3_size a3 a4).bind (fun o93 =>
                  if o93 = 0 then
                    f_x_copy_N99 v_sheets0_form v_sheets0_size v_sheets1_form v_sheets1_size v_sheets2_form v_sheets2_size v_sheets3_form v_sheets3_size v_latestFinding v_sheets0_items v_sheets1_items v_sheets2_items v_sheets3_items
                  else
                    gd (cpyok a1 a3 a4 60 60) (
                    some ((1 : Int32), v_latestFinding, v_sheets0_items, v_sheets1_items, v_sheets2_items, va_cpy v_sheets2_items v_sheets3_items a1.toNatClampNeg a3.toNatClampNeg a4.toNatClampNeg))))
              else
                (f_x_found v_latestFinding (4 : Int32)).bind (fun o72 =>
                some (o72.1, o72.2, v_sheets0_items, v_sheets1_items, v_sheets2_items, v_sheets3_items))
        else none
      else if a0 = (3 : Int32) then
        if a2 = (0 : Int32) then
          if v_sheets3_form = (-1 : Int32) then
            f_x_copy_N51 v_sheets0_form v_sheets0_size v_sheets1_form v_sheets1_size v_sheets2_form v_sheets2_size v_sheets3_form v_sheets3_size v_latestFinding v_sheets0_items v_sheets1_items v_sheets2_items v_sheets3_items
          else
            if v_sheets0_form = (-1 : Int32) then
              f_x_copy_N51 v_sheets0_form v_sheets0_size v_sheets1_form v_sheets1_size v_sheets2_form v_sheets2_size v_sheets3_form v_sheets3_size v_latestFinding v_sheets0_items v_sheets1_items v_sheets2_items v_sheets3_items
            else
              if v_sheets3_form = v_sheets0_form then
                (f_sh_hasItems v_sheets3_size a1 a4).bind (fun o81 =>
                if o81 = 0 then
                  f_x_copy_N99 v_sheets0_form v_sheets0_size v_sheets1_form v_sheets1_size v_sheets2_form v_sheets2_size v_sheets3_form v_sheets3_size v_latestFinding v_sheets0_items v_sheets1_items v_sheets2_items v_sheets3_items
                else
                  (f_sh_hasItems v_sheets0_size a3 a4).bind (fun o93 =>
                  if o93 = 0 then
                    f_x_copy_N99 v_sheets0_form v_sheets0_size v_sheets1_form v_sheets1_size v_sheets2_form v_sheets2_size v_sheets3_form v_sheets3_size v_latestFinding v_sheets0_items v_sheets1_items v_sheets2_items v_sheets3_items
                  else
                    gd (cpyok a1 a3 a4 60 60) (
                    some ((1 : Int32), v_latestFinding, va_cpy v_sheets3_items v_sheets0_items a1.toNatClampNeg a3.toNatClampNeg a4.toNatClampNeg, v_sheets1_items, v_sheets2_items, v_sheets3_items))))
              else
                (f_x_found v_latestFinding (4 : Int32)).bind (fun o72 =>
                some (o72.1, o72.2, v_sheets0_items, v_sheets1_items, v_sheets2_items, v_sheets3_items))
        else if a2 = (1 : Int32) then
          if v_sheets3_form = (-1 : Int32) then
            f_x_copy_N51 v_sheets0_form v_sheets0_size v_sheets1_form v_sheets1_size v_sheets2_form v_sheets2_size v_sheets3_form v_sheets3_size v_latestFinding v_sheets0_items v_sheets1_items v_sheets2_items v_sheets3_items
          else
            if v_sheets1_form = (-1 : Int32) then
              f_x_copy_N51 v_sheets0_form v_sheets0_size v_sheets1_form v_sheets1_size v_sheets2_form v_sheets2_size v_sheets3_form v_sheets3_size v_latestFinding v_sheets0_items v_sheets1_items v_sheets2_items v_sheets3_items
            else
              if v_sheets3_form = v_sheets1_form then
                (f_sh_hasItems v_sheets3_size a1 a4).bind (fun o81 =>
                if o81 = 0 then
                  f_x_copy_N99 v_sheets0_form v_sheets0_size v_sheets1_form v_sheets1_size v_sheets2_form v_sheets2_size v_sheets3_form v_sheets3_size v_latestFinding v_sheets0_items v_sheets1_items v_sheets2_items v_sheets3_items
                else
                  (f_sh_hasItems v_sheets1_size a3 a4).bind (fun o93 =>
                  if o93 = 0 then
                    f_x_copy_N99 v_sheets0_form v_sheets0_size v_sheets1_form v_sheets1_size v_sheets2_form v_sheets2_size v_sheets3_form v_sheets3_size v_latestFinding v_sheets0_items v_sheets1_items v_sheets2_items v_sheets3_items
                  else
                    gd (cpyok a1 a3 a4 60 60) (
                    some ((1 : Int32), v_latestFinding, v_sheets0_items, va_cpy v_sheets3_items v_sheets1_items a1.toNatClampNeg a3.toNatClampNeg a4.toNatClampNeg, v_sheets2_items, v_sheets3_items))))
              else
                (f_x_found v_latestFinding (4 : Int32)).bind (fun o72 =>
                some (o72.1, o72.2, v_sheets0_items, v_sheets1_items, v_sheets2_items, v_sheets3_items))
        else if a2 = (2 : Int32) then
          if v_sheets3_form = (-1 : Int32) then
            f_x_copy_N51 v_sheets0_form v_sheets0_size v_sheets1_form v_sheets1_size v_sheets2_form v_sheets2_size v_sheets3_form v_sheets3_size v_latestFinding v_sheets0_items v_sheets1_items v_sheets2_items v_sheets3_items
          else
            if v_sheets2_form = (-1 : Int32) then
              f_x_copy_N51 v_sheets0_form v_sheets0_size v_sheets1_form v_sheets1_size v_sheets2_form v_sheets2_size v_sheets3_form v_sheets3_size v_latestFinding v_sheets0_items v_sheets1_items v_sheets2_items v_sheets3_items
            else
              if v_sheets3_form = v_sheets2_form then
                (f_sh_hasItems v_sheets3_size a1 a4).bind (fun o81 =>
                if o81 = 0 then
                  f_x_copy_N99 v_sheets0_form v_sheets0_size v_sheets1_form v_sheets1_size v_sheets2_form v_sheets2_size v_sheets3_form v_sheets3_size v_latestFinding v_sheets0_items v_sheets1_items v_sheets2_items v_sheets3_items
                else
                  (f_sh_hasItems v_sheets2_size a3 a4).bind (fun o93 =>
                  if o93 = 0 then
                    f_x_copy_N99 v_sheets0_form v_sheets0_size v_sheets1_form v_sheets1_size v_sheets2_form v_sheets2_size v_sheets3_form v_sheets3_size v_latestFinding v_sheets0_items v_sheets1_items v_sheets2_items v_sheets3_items
                  else
                    gd (cpyok a1 a3 a4 60 60) (
                    some ((1 : Int32), v_latestFinding, v_sheets0_items, v_sheets1_items, va_cpy v_sheets3_items v_sheets2_items a1.toNatClampNeg a3.toNatClampNeg a4.toNatClampNeg, v_sheets3_items))))
              else
                (f_x_found v_latestFinding (4 : Int32)).bind (fun o72 =>
                some (o72.1, o72.2, v_sheets0_items, v_sheets1_items, v_sheets2_items, v_sheets3_items))
        else if a2 = (3 : Int32) then
          if v_sheets3_form = (-1 : Int32) then
            f_x_copy_N51 v_sheets0_form v_sheets0_size v_sheets1_form v_sheets1_size v_sheets2_form v_sheets2_size v_sheets3_form v_sheets3_size v_latestFinding v_sheets0_items v_sheets1_items v_sheets2_items v_sheets3_items
          else
            if v_sheets3_form = (-1 : Int32) then
              f_x_copy_N51 v_sheets0_form v_sheets0_size v_sheets1_form v_sheets1_size v_sheets2_form v_sheets2_size v_sheets3_form v_sheets3_size v_latestFinding v_sheets0_items v_sheets1_items v_sheets2_items v_sheets3_items
            else
              if v_sheets3_form = v_sheets3_form then
                (f_sh_hasItems v_sheets3_size a1 a4).bind (fun o81 =>
                if o81 = 0 then
                  f_x_copy_N99 v_sheets0_form v_sheets0_size v_sheets1_form v_sheets1_size v_sheets2_form v_sheets2_size v_sheets3_form v_sheets3_size v_latestFinding v_sheets0_items v_sheets1_items v_sheets2_items v_sheets3_items
                else
                  (f_sh_hasItems v_sheets3_size a3 a4).bind (fun o93 =>
                  if o93 = 0 then
                    f_x_copy_N99 v_sheets0_form v_sheets0_size v_sheets1_form v_sheets1_size v_sheets2_form v_sheets2_size v_sheets3_form v_sheets3_size v_latestFinding v_sheets0_items v_sheets1_items v_sheets2_items v_sheets3_items
                  else
                    gd (cpyok a1 a3 a4 60 60) (
                    some ((1 : Int32), v_latestFinding, v_sheets0_items, v_sheets1_items, v_sheets2_items, va_cpy v_sheets3_items v_sheets3_items a1.toNatClampNeg a3.toNatClampNeg a4.toNatClampNeg))))
              else
                (f_x_found v_latestFinding (4 : Int32)).bind (fun o72 =>
                some (o72.1, o72.2, v_sheets0_items, v_sheets1_items, v_sheets2_items, v_sheets3_items))
        else none
      else none))

-- WallHands.write(II)I
def f_x_write_N63_0 (v_wall_courses : Int32) (v_wall_columns : Int32) (v_wall_jump : Int32) (v_wall_stones : Nat → Int64) (v_hands_told : Int32) (v_hands_mood : Nat → Int32) (v_hands_strong : Nat → Int32) (v_frosts_told : Int32) (v_frosts_year : Nat → Int32) (v_frosts_force : Nat → Int32) (v_gappings_told : Int32) (v_gappings_year : Nat → Int32) (v_gappings_column : Nat → Int32) (v_gappings_hand : Nat → Int32) (v_sheets0_form : Int32) (v_sheets0_size : Int32) (v_sheets1_form : Int32) (v_sheets1_size : Int32) (v_sheets2_form : Int32) (v_sheets2_size : Int32) (v_sheets3_form : Int32) (v_sheets3_size : Int32) (k63 : Int32 → Int32 → (Nat → Int32) → (Nat → Int32) → (Nat → Int32) → (Nat → Int32) → Int64 → Int32 → (Nat → Int64) → (Nat → Int64) → (Nat → Int64) → (Nat → Int32) → (Nat → Int32) → Int32 → Int32 → Int32 → Option (Int32 × Int32 × Int32 × (Nat → Int32) × (Nat → Int32) × (Nat → Int32) × (Nat → Int32) × Int64 × Int32 × (Nat → Int64) × (Nat → Int64) × (Nat → Int64) × (Nat → Int32) × (Nat → Int32))) (v_toldIsStale : Int32) (v_latestFinding : Int32) (v_sheets0_items : Nat → Int32) (v_sheets1_items : Nat → Int32) (v_sheets2_items : Nat → Int32) (v_sheets3_items : Nat → Int32) (v_told_all : Int64) (v_told_losers : Int32) (v_told_now : Nat → Int64) (v_told_stones : Nat → Int64) (v_told_standing : Nat → Int64) (v_told_open : Nat → Int32) (v_told_fallen : Nat → Int32) (x1 : Int32) (x4 : Int32) (x6 : Int32) : Option (Int32 × Int32 × Int32 × (Nat → Int32) × (Nat → Int32) × (Nat → Int32) × (Nat → Int32) × Int64 × Int32 × (Nat → Int64) × (Nat → Int64) × (Nat → Int64) × (Nat → Int32) × (Nat → Int32)) :=
  if x4 ≤ x6 then
    some (x4, v_toldIsStale, v_latestFinding, v_sheets0_items, v_sheets1_items, v_sheets2_items, v_sheets3_items, v_told_all, v_told_losers, v_told_now, v_told_stones, v_told_standing, v_told_open, v_told_fallen)
  else
    (f_ys_highBehind v_told_standing x1 x6).bind (fun o81 =>
    gd (inb x6 60) (
    k63 v_toldIsStale v_latestFinding (upd v_sheets0_items x6.toNatClampNeg o81) v_sheets1_items v_sheets2_items v_sheets3_items v_told_all v_told_losers v_told_now v_told_stones v_told_standing v_told_open v_told_fallen x1 x4 (x6 + (1 : Int32))))

def f_x_write_N63_1 (v_wall_courses : Int32) (v_wall_columns : Int32) (v_wall_jump : Int32) (v_wall_stones : Nat → Int64) (v_hands_told : Int32) (v_hands_mood : Nat → Int32) (v_hands_strong : Nat → Int32) (v_frosts_told : Int32) (v_frosts_year : Nat → Int32) (v_frosts_force : Nat → Int32) (v_gappings_told : Int32) (v_gappings_year : Nat → Int32) (v_gappings_column : Nat → Int32) (v_gappings_hand : Nat → Int32) (v_sheets0_form : Int32) (v_sheets0_size : Int32) (v_sheets1_form : Int32) (v_sheets1_size : Int32) (v_sheets2_form : Int32) (v_sheets2_size : Int32) (v_sheets3_form : Int32) (v_sheets3_size : Int32) (k63 : Int32 → Int32 → (Nat → Int32) → (Nat → Int32) → (Nat → Int32) → (Nat → Int32) → Int64 → Int32 → (Nat → Int64) → (Nat → Int64) → (Nat → Int64) → (Nat → Int32) → (Nat → Int32) → Int32 → Int32 → Int32 → Option (Int32 × Int32 × Int32 × (Nat → Int32) × (Nat → Int32) × (Nat → Int32) × (Nat → Int32) × Int64 × Int32 × (Nat → Int64) × (Nat → Int64) × (Nat → Int64) × (Nat → Int32) × (Nat → Int32))) (v_toldIsStale : Int32) (v_latestFinding : Int32) (v_sheets0_items : Nat → Int32) (v_sheets1_items : Nat → Int32) (v_sheets2_items : Nat → Int32) (v_sheets3_items : Nat → Int32) (v_told_all : Int64) (v_told_losers : Int32) (v_told_now : Nat → Int64) (v_told_stones : Nat → Int64) (v_told_standing : Nat → Int64) (v_told_open : Nat → Int32) (v_told_fallen : Nat → Int32) (x1 : Int32) (x4 : Int32) (x6 : Int32) : Option (Int32 × Int32 × Int32 × (Nat → Int32) × (Nat → Int32) × (Nat → Int32) × (Nat → Int32) × Int64 × Int32 × (Nat → Int64) × (Nat → Int64) × (Nat → Int64) × (Nat → Int32) × (Nat → Int32)) :=
  if x4 ≤ x6 then
    some (x4, v_toldIsStale, v_latestFinding, v_sheets0_items, v_sheets1_items, v_sheets2_items, v_sheets3_items, v_told_all, v_told_losers, v_told_now, v_told_stones, v_told_standing, v_told_open, v_told_fallen)
  else
    (f_ys_highBehind v_told_standing x1 x6).bind (fun o81 =>
    gd (inb x6 60) (
    k63 v_toldIsStale v_latestFinding v_sheets0_items (upd v_sheets1_items x6.toNatClampNeg o81) v_sheets2_items v_sheets3_items v_told_all v_told_losers v_told_now v_told_stones v_told_standing v_told_open v_told_fallen x1 x4 (x6 + (1 : Int32))))

def f_x_write_N63_2 (v_wall_courses : Int32) (v_wall_columns : Int32) (v_wall_jump : Int32) (v_wall_stones : Nat → Int64) (v_hands_told : Int32) (v_hands_mood : Nat → Int32) (v_hands_strong : Nat → Int32) (v_frosts_told : Int32) (v_frosts_year : Nat → Int32) (v_frosts_force : Nat → Int32) (v_gappings_told : Int32) (v_gappings_year : Nat → Int32) (v_gappings_column : Nat → Int32) (v_gappings_hand : Nat → Int32) (v_sheets0_form : Int32) (v_sheets0_size : Int32) (v_sheets1_form : Int32) (v_sheets1_size : Int32) (v_sheets2_form : Int32) (v_sheets2_size : Int32) (v_sheets3_form : Int32) (v_sheets3_size : Int32) (k63 : Int32 → Int32 → (Nat → Int32) → (Nat → Int32) → (Nat → Int32) → (Nat → Int32) → Int64 → Int32 → (Nat → Int64) → (Nat → Int64) → (Nat → Int64) → (Nat → Int32) → (Nat → Int32) → Int32 → Int32 → Int32 → Option (Int32 × Int32 × Int32 × (Nat → Int32) × (Nat → Int32) × (Nat → Int32) × (Nat → Int32) × Int64 × Int32 × (Nat → Int64) × (Nat → Int64) × (Nat → Int64) × (Nat → Int32) × (Nat → Int32))) (v_toldIsStale : Int32) (v_latestFinding : Int32) (v_sheets0_items : Nat → Int32) (v_sheets1_items : Nat → Int32) (v_sheets2_items : Nat → Int32) (v_sheets3_items : Nat → Int32) (v_told_all : Int64) (v_told_losers : Int32) (v_told_now : Nat → Int64) (v_told_stones : Nat → Int64) (v_told_standing : Nat → Int64) (v_told_open : Nat → Int32) (v_told_fallen : Nat → Int32) (x1 : Int32) (x4 : Int32) (x6 : Int32) : Option (Int32 × Int32 × Int32 × (Nat → Int32) × (Nat → Int32) × (Nat → Int32) × (Nat → Int32) × Int64 × Int32 × (Nat → Int64) × (Nat → Int64) × (Nat → Int64) × (Nat → Int32) × (Nat → Int32)) :=
  if x4 ≤ x6 then
    some (x4, v_toldIsStale, v_latestFinding, v_sheets0_items, v_sheets1_items, v_sheets2_items, v_sheets3_items, v_told_all, v_told_losers, v_told_now, v_told_stones, v_told_standing, v_told_open, v_told_fallen)
  else
    (f_ys_highBehind v_told_standing x1 x6).bind (fun o81 =>
    gd (inb x6 60) (
    k63 v_toldIsStale v_latestFinding v_sheets0_items v_sheets1_items (upd v_sheets2_items x6.toNatClampNeg o81) v_sheets3_items v_told_all v_told_losers v_told_now v_told_stones v_told_standing v_told_open v_told_fallen x1 x4 (x6 + (1 : Int32))))

def f_x_write_N63_3 (v_wall_courses : Int32) (v_wall_columns : Int32) (v_wall_jump : Int32) (v_wall_stones : Nat → Int64) (v_hands_told : Int32) (v_hands_mood : Nat → Int32) (v_hands_strong : Nat → Int32) (v_frosts_told : Int32) (v_frosts_year : Nat → Int32) (v_frosts_force : Nat → Int32) (v_gappings_told : Int32) (v_gappings_year : Nat → Int32) (v_gappings_column : Nat → Int32) (v_gappings_hand : Nat → Int32) (v_sheets0_form : Int32) (v_sheets0_size : Int32) (v_sheets1_form : Int32) (v_sheets1_size : Int32) (v_sheets2_form : Int32) (v_sheets2_size : Int32) (v_sheets3_form : Int32) (v_sheets3_size : Int32) (k63 : Int32 → Int32 → (Nat → Int32) → (Nat → Int32) → (Nat → Int32) → (Nat → Int32) → Int64 → Int32 → (Nat → Int64) → (Nat → Int64) → (Nat → Int64) → (Nat → Int32) → (Nat → Int32) → Int32 → Int32 → Int32 → Option (Int32 × Int32 × Int32 × (Nat → Int32) × (Nat → Int32) × (Nat → Int32) × (Nat → Int32) × Int64 × Int32 × (Nat → Int64) × (Nat → Int64) × (Nat → Int64) × (Nat → Int32) × (Nat → Int32))) (v_toldIsStale : Int32) (v_latestFinding : Int32) (v_sheets0_items : Nat → Int32) (v_sheets1_items : Nat → Int32) (v_sheets2_items : Nat → Int32) (v_sheets3_items : Nat → Int32) (v_told_all : Int64) (v_told_losers : Int32) (v_told_now : Nat → Int64) (v_told_stones : Nat → Int64) (v_told_standing : Nat → Int64) (v_told_open : Nat → Int32) (v_told_fallen : Nat → Int32) (x1 : Int32) (x4 : Int32) (x6 : Int32) : Option (Int32 × Int32 × Int32 × (Nat → Int32) × (Nat → Int32) × (Nat → Int32) × (Nat → Int32) × Int64 × Int32 × (Nat → Int64) × (Nat → Int64) × (Nat → Int64) × (Nat → Int32) × (Nat → Int32)) :=
  if x4 ≤ x6 then
    some (x4, v_toldIsStale, v_latestFinding, v_sheets0_items, v_sheets1_items, v_sheets2_items, v_sheets3_items, v_told_all, v_told_losers, v_told_now, v_told_stones, v_told_standing, v_told_open, v_told_fallen)
  else
    (f_ys_highBehind v_told_standing x1 x6).bind (fun o81 =>
    gd (inb x6 60) (
    k63 v_toldIsStale v_latestFinding v_sheets0_items v_sheets1_items v_sheets2_items (upd v_sheets3_items x6.toNatClampNeg o81) v_told_all v_told_losers v_told_now v_told_stones v_told_standing v_told_open v_told_fallen x1 x4 (x6 + (1 : Int32))))

def f_x_write (v_toldIsStale : Int32) (v_latestFinding : Int32) (v_wall_courses : Int32) (v_wall_columns : Int32) (v_wall_jump : Int32) (v_wall_stones : Nat → Int64) (v_hands_told : Int32) (v_hands_mood : Nat → Int32) (v_hands_strong : Nat → Int32) (v_frosts_told : Int32) (v_frosts_year : Nat → Int32) (v_frosts_force : Nat → Int32) (v_gappings_told : Int32) (v_gappings_year : Nat → Int32) (v_gappings_column : Nat → Int32) (v_gappings_hand : Nat → Int32) (v_sheets0_form : Int32) (v_sheets0_size : Int32) (v_sheets0_items : Nat → Int32) (v_sheets1_form : Int32) (v_sheets1_size : Int32) (v_sheets1_items : Nat → Int32) (v_sheets2_form : Int32) (v_sheets2_size : Int32) (v_sheets2_items : Nat → Int32) (v_sheets3_form : Int32) (v_sheets3_size : Int32) (v_sheets3_items : Nat → Int32) (v_told_all : Int64) (v_told_losers : Int32) (v_told_now : Nat → Int64) (v_told_stones : Nat → Int64) (v_told_standing : Nat → Int64) (v_told_open : Nat → Int32) (v_told_fallen : Nat → Int32) (a0 : Int32) (a1 : Int32) : Option (Int32 × Int32 × Int32 × (Nat → Int32) × (Nat → Int32) × (Nat → Int32) × (Nat → Int32) × Int64 × Int32 × (Nat → Int64) × (Nat → Int64) × (Nat → Int64) × (Nat → Int32) × (Nat → Int32)) :=
  (f_x_isYear a0).bind (fun o1 =>
  if o1 = 0 then
    some ((-2 : Int32), v_toldIsStale, v_latestFinding, v_sheets0_items, v_sheets1_items, v_sheets2_items, v_sheets3_items, v_told_all, v_told_losers, v_told_now, v_told_stones, v_told_standing, v_told_open, v_told_fallen)
  else
    (f_x_isSheet a1).bind (fun o8 =>
    if o8 = 0 then
      some ((-2 : Int32), v_toldIsStale, v_latestFinding, v_sheets0_items, v_sheets1_items, v_sheets2_items, v_sheets3_items, v_told_all, v_told_losers, v_told_now, v_told_stones, v_told_standing, v_told_open, v_told_fallen)
    else
      if a1 = (0 : Int32) then
        if v_sheets0_form = (-1 : Int32) then
          (f_x_found v_latestFinding (1 : Int32)).bind (fun o34 =>
          some (o34.1, v_toldIsStale, o34.2, v_sheets0_items, v_sheets1_items, v_sheets2_items, v_sheets3_items, v_told_all, v_told_losers, v_told_now, v_told_stones, v_told_standing, v_told_open, v_told_fallen))
        else
          (f_x_asTold v_toldIsStale v_wall_courses v_wall_columns v_wall_jump v_wall_stones v_hands_told v_hands_mood v_hands_strong v_frosts_told v_frosts_year v_frosts_force v_gappings_told v_gappings_year v_gappings_column v_gappings_hand v_told_all v_told_losers v_told_now v_told_stones v_told_standing v_told_open v_told_fallen).bind (fun o55 =>
          iter (fun _ _ _ _ _ _ _ _ _ _ _ _ _ _ _ _ => none) (f_x_write_N63_0 v_wall_courses v_wall_columns v_wall_jump v_wall_stones v_hands_told v_hands_mood v_hands_strong v_frosts_told v_frosts_year v_frosts_force v_gappings_told v_gappings_year v_gappings_column v_gappings_hand v_sheets0_form v_sheets0_size v_sheets1_form v_sheets1_size v_sheets2_form v_sheets2_size v_sheets3_form v_sheets3_size) 1000 o55.1 v_latestFinding v_sheets0_items v_sheets1_items v_sheets2_items v_sheets3_items o55.2.1 o55.2.2.1 o55.2.2.2.1 o55.2.2.2.2.1 o55.2.2.2.2.2.1 o55.2.2.2.2.2.2.1 o55.2.2.2.2.2.2.2 a0 (mmin v_sheets0_size v_wall_columns) (0 : Int32))
      else if a1 = (1 : Int32) then
        if v_sheets1_form = (-1 : Int32) then
          (f_x_found v_latestFinding (1 : Int32)).bind (fun o34 =>
          some (o34.1, v_toldIsStale, o34.2, v_sheets0_items, v_sheets1_items, v_sheets2_items, v_sheets3_items, v_told_all, v_told_losers, v_told_now, v_told_stones, v_told_standing, v_told_open, v_told_fallen))
        else
          (f_x_asTold v_toldIsStale v_wall_courses v_wall_columns v_wall_jump v_wall_stones v_hands_told v_hands_mood v_hands_strong v_frosts_told v_frosts_year v_frosts_force v_gappings_told v_gappings_year v_gappings_column v_gappings_hand v_told_all v_told_losers v_told_now v_told_stones v_told_standing v_told_open v_told_fallen).bind (fun o55 =>
          iter (fun _ _ _ _ _ _ _ _ _ _ _ _ _ _ _ _ => none) (f_x_write_N63_1 v_wall_courses v_wall_columns v_wall_jump v_wall_stones v_hands_told v_hands_mood v_hands_strong v_frosts_told v_frosts_year v_frosts_force v_gappings_told v_gappings_year v_gappings_column v_gappings_hand v_sheets0_form v_sheets0_size v_sheets1_form v_sheets1_size v_sheets2_form v_sheets2_size v_sheets3_form v_sheets3_size) 1000 o55.1 v_latestFinding v_sheets0_items v_sheets1_items v_sheets2_items v_sheets3_items o55.2.1 o55.2.2.1 o55.2.2.2.1 o55.2.2.2.2.1 o55.2.2.2.2.2.1 o55.2.2.2.2.2.2.1 o55.2.2.2.2.2.2.2 a0 (mmin v_sheets1_size v_wall_columns) (0 : Int32))
      else if a1 = (2 : Int32) then
        if v_sheets2_form = (-1 : Int32) then
          (f_x_found v_latestFinding (1 : Int32)).bind (fun o34 =>
          some (o34.1, v_toldIsStale, o34.2, v_sheets0_items, v_sheets1_items, v_sheets2_items, v_sheets3_items, v_told_all, v_told_losers, v_told_now, v_told_stones, v_told_standing, v_told_open, v_told_fallen))
        else
          (f_x_asTold v_toldIsStale v_wall_courses v_wall_columns v_wall_jump v_wall_stones v_hands_told v_hands_mood v_hands_strong v_frosts_told v_frosts_year v_frosts_force v_gappings_told v_gappings_year v_gappings_column v_gappings_hand v_told_all v_told_losers v_told_now v_told_stones v_told_standing v_told_open v_told_fallen).bind (fun o55 =>
          iter (fun _ _ _ _ _ _ _ _ _ _ _ _ _ _ _ _ => none) (f_x_write_N63_2 v_wall_courses v_wall_columns v_wall_jump v_wall_stones v_hands_told v_hands_mood v_hands_strong v_frosts_told v_frosts_year v_frosts_force v_gappings_told v_gappings_year v_gappings_column v_gappings_hand v_sheets0_form v_sheets0_size v_sheets1_form v_sheets1_size v_sheets2_form v_sheets2_size v_sheets3_form v_sheets3_size) 1000 o55.1 v_latestFinding v_sheets0_items v_sheets1_items v_sheets2_items v_sheets3_items o55.2.1 o55.2.2.1 o55.2.2.2.1 o55.2.2.2.2.1 o55.2.2.2.2.2.1 o55.2.2.2.2.2.2.1 o55.2.2.2.2.2.2.2 a0 (mmin v_sheets2_size v_wall_columns) (0 : Int32))
      else if a1 = (3 : Int32) then
        if v_sheets3_form = (-1 : Int32) then
          (f_x_found v_latestFinding (1 : Int32)).bind (fun o34 =>
          some (o34.1, v_toldIsStale, o34.2, v_sheets0_items, v_sheets1_items, v_sheets2_items, v_sheets3_items, v_told_all, v_told_losers, v_told_now, v_told_stones, v_told_standing, v_told_open, v_told_fallen))
        else
          (f_x_asTold v_toldIsStale v_wall_courses v_wall_columns v_wall_jump v_wall_stones v_hands_told v_hands_mood v_hands_strong v_frosts_told v_frosts_year v_frosts_force v_gappings_told v_gappings_year v_gappings_column v_gappings_hand v_told_all v_told_losers v_told_now v_told_stones v_told_standing v_told_open v_told_fallen).bind (fun o55 =>
          iter (fun _ _ _ _ _ _ _ _ _ _ _ _ _ _ _ _ => none) (f_x_write_N63_3 v_wall_courses v_wall_columns v_wall_jump v_wall_stones v_hands_told v_hands_mood v_hands_strong v_frosts_told v_frosts_year v_frosts_force v_gappings_told v_gappings_year v_gappings_column v_gappings_hand v_sheets0_form v_sheets0_size v_sheets1_form v_sheets1_size v_sheets2_form v_sheets2_size v_sheets3_form v_sheets3_size) 1000 o55.1 v_latestFinding v_sheets0_items v_sheets1_items v_sheets2_items v_sheets3_items o55.2.1 o55.2.2.1 o55.2.2.2.1 o55.2.2.2.2.1 o55.2.2.2.2.2.1 o55.2.2.2.2.2.2.1 o55.2.2.2.2.2.2.2 a0 (mmin v_sheets3_size v_wall_columns) (0 : Int32))
      else none))

-- WallHands.count(I)I
def f_x_count (v_toldIsStale : Int32) (v_latestFinding : Int32) (v_wallText_length : Int32) (v_handsText_length : Int32) (v_wall_courses : Int32) (v_wall_columns : Int32) (v_wall_jump : Int32) (v_wall_stones : Nat → Int64) (v_hands_told : Int32) (v_hands_mood : Nat → Int32) (v_hands_strong : Nat → Int32) (v_frosts_told : Int32) (v_frosts_year : Nat → Int32) (v_frosts_force : Nat → Int32) (v_gappings_told : Int32) (v_gappings_year : Nat → Int32) (v_gappings_column : Nat → Int32) (v_gappings_hand : Nat → Int32) (v_sights_told : Int32) (v_told_all : Int64) (v_told_losers : Int32) (v_told_now : Nat → Int64) (v_told_stones : Nat → Int64) (v_told_standing : Nat → Int64) (v_told_open : Nat → Int32) (v_told_fallen : Nat → Int32) (a0 : Int32) : Option (Int32 × Int32 × Int64 × Int32 × (Nat → Int64) × (Nat → Int64) × (Nat → Int64) × (Nat → Int32) × (Nat → Int32)) :=
  if a0 = (0 : Int32) then
    (f_x_union v_wall_stones 8).bind (fun o59 =>
    (f_jl_bitCount o59).bind (fun o62 =>
    some (o62, v_toldIsStale, v_told_all, v_told_losers, v_told_now, v_told_stones, v_told_standing, v_told_open, v_told_fallen)))
  else if a0 = (1 : Int32) then
    some (v_hands_told, v_toldIsStale, v_told_all, v_told_losers, v_told_now, v_told_stones, v_told_standing, v_told_open, v_told_fallen)
  else if a0 = (2 : Int32) then
    some (v_wallText_length, v_toldIsStale, v_told_all, v_told_losers, v_told_now, v_told_stones, v_told_standing, v_told_open, v_told_fallen)
  else if a0 = (3 : Int32) then
    some (v_handsText_length, v_toldIsStale, v_told_all, v_told_losers, v_told_now, v_told_stones, v_told_standing, v_told_open, v_told_fallen)
  else if a0 = (4 : Int32) then
    some (v_frosts_told, v_toldIsStale, v_told_all, v_told_losers, v_told_now, v_told_stones, v_told_standing, v_told_open, v_told_fallen)
  else if a0 = (5 : Int32) then
    some (v_gappings_told, v_toldIsStale, v_told_all, v_told_losers, v_told_now, v_told_stones, v_told_standing, v_told_open, v_told_fallen)
  else if a0 = (6 : Int32) then
    (f_x_asTold v_toldIsStale v_wall_courses v_wall_columns v_wall_jump v_wall_stones v_hands_told v_hands_mood v_hands_strong v_frosts_told v_frosts_year v_frosts_force v_gappings_told v_gappings_year v_gappings_column v_gappings_hand v_told_all v_told_losers v_told_now v_told_stones v_told_standing v_told_open v_told_fallen).bind (fun o107 =>
    (f_ys_allFallen o107.2.2.2.2.2.2.2).bind (fun o110 =>
    some (o110, o107.1, o107.2.1, o107.2.2.1, o107.2.2.2.1, o107.2.2.2.2.1, o107.2.2.2.2.2.1, o107.2.2.2.2.2.2.1, o107.2.2.2.2.2.2.2)))
  else if a0 = (7 : Int32) then
    some (v_sights_told, v_toldIsStale, v_told_all, v_told_losers, v_told_now, v_told_stones, v_told_standing, v_told_open, v_told_fallen)
  else if a0 = (8 : Int32) then
    some (v_latestFinding, v_toldIsStale, v_told_all, v_told_losers, v_told_now, v_told_stones, v_told_standing, v_told_open, v_told_fallen)
  else some ((-2 : Int32), v_toldIsStale, v_told_all, v_told_losers, v_told_now, v_told_stones, v_told_standing, v_told_open, v_told_fallen)

-- WallHands.digest()J
def f_x_digest_N298 (v_latestFinding : Int32) (v_wallText_length : Int32) (v_handsText_length : Int32) (v_wall_courses : Int32) (v_wall_columns : Int32) (v_wall_fault : Int32) (v_wall_jump : Int32) (v_hands_told : Int32) (v_hands_fault : Int32) (v_frosts_told : Int32) (v_frosts_year : Nat → Int32) (v_frosts_force : Nat → Int32) (v_sights_told : Int32) (v_sights_year : Nat → Int32) (v_sights_place : Nat → Int32) (v_sights_setter : Nat → Int32) (k298 : Int32 → (Nat → Int64) → (Nat → Int32) → (Nat → Int32) → Int32 → (Nat → Int32) → (Nat → Int32) → Int32 → (Nat → Int32) → (Nat → Int32) → (Nat → Int32) → Int64 → Int32 → (Nat → Int64) → (Nat → Int64) → (Nat → Int64) → (Nat → Int32) → (Nat → Int32) → Int64 → Int32 → (Nat → Int64) → (Nat → Int64) → (Nat → Int64) → (Nat → Int32) → (Nat → Int32) → (Nat → Int32) → Int64 → Int32 → Option (Int64 × Int32 × (Nat → Int64) × (Nat → Int32) × (Nat → Int32) × Int32 × (Nat → Int32) × (Nat → Int32) × Int32 × (Nat → Int32) × (Nat → Int32) × (Nat → Int32) × Int64 × Int32 × (Nat → Int64) × (Nat → Int64) × (Nat → Int64) × (Nat → Int32) × (Nat → Int32) × Int64 × Int32 × (Nat → Int64) × (Nat → Int64) × (Nat → Int64) × (Nat → Int32) × (Nat → Int32) × (Nat → Int32))) (v_toldIsStale : Int32) (v_wall_stones : Nat → Int64) (v_hands_mood : Nat → Int32) (v_hands_strong : Nat → Int32) (v_chanceFrosts_told : Int32) (v_chanceFrosts_year : Nat → Int32) (v_chanceFrosts_force : Nat → Int32) (v_gappings_told : Int32) (v_gappings_year : Nat → Int32) (v_gappings_column : Nat → Int32) (v_gappings_hand : Nat → Int32) (v_told_all : Int64) (v_told_losers : Int32) (v_told_now : Nat → Int64) (v_told_stones : Nat → Int64) (v_told_standing : Nat → Int64) (v_told_open : Nat → Int32) (v_told_fallen : Nat → Int32) (v_trial_all : Int64) (v_trial_losers : Int32) (v_trial_now : Nat → Int64) (v_trial_stones : Nat → Int64) (v_trial_standing : Nat → Int64) (v_trial_open : Nat → Int32) (v_trial_fallen : Nat → Int32) (v_stood : Nat → Int32) (x1 : Int64) (x3 : Int32) : Option (Int64 × Int32 × (Nat → Int64) × (Nat → Int32) × (Nat → Int32) × Int32 × (Nat → Int32) × (Nat → Int32) × Int32 × (Nat → Int32) × (Nat → Int32) × (Nat → Int32) × Int64 × Int32 × (Nat → Int64) × (Nat → Int64) × (Nat → Int64) × (Nat → Int32) × (Nat → Int32) × Int64 × Int32 × (Nat → Int64) × (Nat → Int64) × (Nat → Int64) × (Nat → Int32) × (Nat → Int32) × (Nat → Int32)) :=
  if v_hands_told ≤ x3 then
    (f_x_sheep v_toldIsStale v_wall_courses v_wall_columns v_wall_jump v_wall_stones v_hands_told v_hands_mood v_hands_strong v_frosts_told v_frosts_year v_frosts_force v_gappings_told v_gappings_year v_gappings_column v_gappings_hand v_told_all v_told_losers v_told_now v_told_stones v_told_standing v_told_open v_told_fallen (0 : Int32)).bind (fun o445 =>
    (f_x_sheep o445.2.1 v_wall_courses v_wall_columns v_wall_jump v_wall_stones v_hands_told v_hands_mood v_hands_strong v_frosts_told v_frosts_year v_frosts_force v_gappings_told v_gappings_year v_gappings_column v_gappings_hand o445.2.2.1 o445.2.2.2.1 o445.2.2.2.2.1 o445.2.2.2.2.2.1 o445.2.2.2.2.2.2.1 o445.2.2.2.2.2.2.2.1 o445.2.2.2.2.2.2.2.2 (1 : Int32)).bind (fun o458 =>
    (f_x_best o458.2.1 v_wall_courses v_wall_columns v_wall_jump v_wall_stones v_hands_told v_hands_mood v_hands_strong v_frosts_told v_frosts_year v_frosts_force v_gappings_told v_gappings_year v_gappings_column v_gappings_hand o458.2.2.1 o458.2.2.2.1 o458.2.2.2.2.1 o458.2.2.2.2.2.1 o458.2.2.2.2.2.2.1 o458.2.2.2.2.2.2.2.1 o458.2.2.2.2.2.2.2.2).bind (fun o470 =>
    (f_x_mend v_wall_courses v_wall_columns v_wall_jump v_wall_stones v_hands_told v_hands_mood v_hands_strong v_frosts_told v_frosts_year v_frosts_force v_gappings_told v_gappings_year v_gappings_column v_gappings_hand v_trial_all v_trial_losers v_trial_now v_trial_stones v_trial_standing v_trial_open v_trial_fallen (5 : Int32) (0 : Int32)).bind (fun o484 =>
    (f_x_mend v_wall_courses v_wall_columns v_wall_jump v_wall_stones v_hands_told v_hands_mood v_hands_strong v_frosts_told v_frosts_year v_frosts_force o484.2.1 o484.2.2.1 o484.2.2.2.1 o484.2.2.2.2.1 o484.2.2.2.2.2.1 o484.2.2.2.2.2.2.1 o484.2.2.2.2.2.2.2.1 o484.2.2.2.2.2.2.2.2.1 o484.2.2.2.2.2.2.2.2.2.1 o484.2.2.2.2.2.2.2.2.2.2.1 o484.2.2.2.2.2.2.2.2.2.2.2 (5 : Int32) (1 : Int32)).bind (fun o498 =>
    (f_x_mend v_wall_courses v_wall_columns v_wall_jump v_wall_stones v_hands_told v_hands_mood v_hands_strong v_frosts_told v_frosts_year v_frosts_force o498.2.1 o498.2.2.1 o498.2.2.2.1 o498.2.2.2.2.1 o498.2.2.2.2.2.1 o498.2.2.2.2.2.2.1 o498.2.2.2.2.2.2.2.1 o498.2.2.2.2.2.2.2.2.1 o498.2.2.2.2.2.2.2.2.2.1 o498.2.2.2.2.2.2.2.2.2.2.1 o498.2.2.2.2.2.2.2.2.2.2.2 (5 : Int32) (2 : Int32)).bind (fun o512 =>
    (f_x_never v_wall_courses v_wall_columns v_wall_jump v_wall_stones v_hands_told v_hands_mood v_hands_strong v_frosts_told v_frosts_year v_frosts_force o512.2.1 o512.2.2.1 o512.2.2.2.1 o512.2.2.2.2.1 v_sights_told v_sights_year v_sights_place v_sights_setter o512.2.2.2.2.2.1 o512.2.2.2.2.2.2.1 o512.2.2.2.2.2.2.2.1 o512.2.2.2.2.2.2.2.2.1 o512.2.2.2.2.2.2.2.2.2.1 o512.2.2.2.2.2.2.2.2.2.2.1 o512.2.2.2.2.2.2.2.2.2.2.2).bind (fun o524 =>
    (f_x_luck v_wall_courses v_wall_columns v_wall_jump v_wall_stones v_hands_told v_hands_mood v_hands_strong v_frosts_told v_frosts_year v_frosts_force o512.2.1 o512.2.2.1 o512.2.2.2.1 o512.2.2.2.2.1 o524.2.1 o524.2.2.1 o524.2.2.2.1 o524.2.2.2.2.1 o524.2.2.2.2.2.1 o524.2.2.2.2.2.2.1 o524.2.2.2.2.2.2.2 (5 : Int32) (0 : Int32)).bind (fun o538 =>
    (f_x_luck v_wall_courses v_wall_columns v_wall_jump v_wall_stones v_hands_told v_hands_mood v_hands_strong v_frosts_told v_frosts_year v_frosts_force o512.2.1 o512.2.2.1 o512.2.2.2.1 o512.2.2.2.2.1 o538.2.1 o538.2.2.1 o538.2.2.2.1 o538.2.2.2.2.1 o538.2.2.2.2.2.1 o538.2.2.2.2.2.2.1 o538.2.2.2.2.2.2.2 (5 : Int32) (1 : Int32)).bind (fun o551 =>
    (f_x_ages v_wall_courses v_wall_columns v_wall_jump v_wall_stones v_hands_told v_hands_mood v_hands_strong v_chanceFrosts_told v_chanceFrosts_year v_chanceFrosts_force o512.2.1 o512.2.2.1 o512.2.2.2.1 o512.2.2.2.2.1 o551.2.1 o551.2.2.1 o551.2.2.2.1 o551.2.2.2.2.1 o551.2.2.2.2.2.1 o551.2.2.2.2.2.2.1 o551.2.2.2.2.2.2.2 (7 : Int32) (5 : Int32) (0 : Int32)).bind (fun o566 =>
    (f_x_ages v_wall_courses v_wall_columns v_wall_jump v_wall_stones v_hands_told v_hands_mood v_hands_strong o566.2.1 o566.2.2.1 o566.2.2.2.1 o512.2.1 o512.2.2.1 o512.2.2.2.1 o512.2.2.2.2.1 o566.2.2.2.2.1 o566.2.2.2.2.2.1 o566.2.2.2.2.2.2.1 o566.2.2.2.2.2.2.2.1 o566.2.2.2.2.2.2.2.2.1 o566.2.2.2.2.2.2.2.2.2.1 o566.2.2.2.2.2.2.2.2.2.2 (7 : Int32) (5 : Int32) (1 : Int32)).bind (fun o582 =>
    some (((31 : Int64) * (((31 : Int64) * (((31 : Int64) * (((31 : Int64) * (((31 : Int64) * (((31 : Int64) * (((31 : Int64) * (((31 : Int64) * (((31 : Int64) * (((31 : Int64) * (((31 : Int64) * x1) + o445.1.toInt64)) + o458.1.toInt64)) + o470.1.toInt64)) + o484.1.toInt64)) + o498.1.toInt64)) + o512.1.toInt64)) + o524.1.toInt64)) + o538.1)) + o551.1)) + o566.1.toInt64)) + o582.1.toInt64, o470.2.1, v_wall_stones, v_hands_mood, v_hands_strong, o582.2.1, o582.2.2.1, o582.2.2.2.1, o512.2.1, o512.2.2.1, o512.2.2.2.1, o512.2.2.2.2.1, o470.2.2.1, o470.2.2.2.1, o470.2.2.2.2.1, o470.2.2.2.2.2.1, o470.2.2.2.2.2.2.1, o470.2.2.2.2.2.2.2.1, o470.2.2.2.2.2.2.2.2, o582.2.2.2.2.1, o582.2.2.2.2.2.1, o582.2.2.2.2.2.2.1, o582.2.2.2.2.2.2.2.1, o582.2.2.2.2.2.2.2.2.1, o582.2.2.2.2.2.2.2.2.2.1, o582.2.2.2.2.2.2.2.2.2.2, v_stood))))))))))))
  else
    (f_x_hand v_hands_told v_hands_mood v_hands_strong x3 (0 : Int32)).bind (fun o317 =>
    (f_x_hand v_hands_told v_hands_mood v_hands_strong x3 (1 : Int32)).bind (fun o331 =>
    (f_x_mine v_toldIsStale v_wall_courses v_wall_columns v_wall_jump v_wall_stones v_hands_told v_hands_mood v_hands_strong v_frosts_told v_frosts_year v_frosts_force v_gappings_told v_gappings_year v_gappings_column v_gappings_hand v_told_all v_told_losers v_told_now v_told_stones v_told_standing v_told_open v_told_fallen x3).bind (fun o344 =>
    (f_x_firm v_wall_courses v_wall_columns v_wall_jump v_wall_stones v_hands_told v_hands_mood v_hands_strong v_frosts_told v_frosts_year v_frosts_force v_gappings_told v_gappings_year v_gappings_column v_gappings_hand v_trial_all v_trial_losers v_trial_now v_trial_stones v_trial_standing v_trial_open v_trial_fallen x3).bind (fun o357 =>
    (f_x_relay v_wall_courses v_wall_columns v_wall_jump v_wall_stones v_hands_told v_hands_mood o357.2.1 v_frosts_told v_frosts_year v_frosts_force v_gappings_told v_gappings_year v_gappings_column v_gappings_hand o357.2.2.1 o357.2.2.2.1 o357.2.2.2.2.1 o357.2.2.2.2.2.1 o357.2.2.2.2.2.2.1 o357.2.2.2.2.2.2.2.1 o357.2.2.2.2.2.2.2.2 x3 (0 : Int32)).bind (fun o371 =>
    (f_x_relay v_wall_courses v_wall_columns v_wall_jump o371.2.1 v_hands_told v_hands_mood o357.2.1 v_frosts_told v_frosts_year v_frosts_force v_gappings_told v_gappings_year v_gappings_column v_gappings_hand o371.2.2.1 o371.2.2.2.1 o371.2.2.2.2.1 o371.2.2.2.2.2.1 o371.2.2.2.2.2.2.1 o371.2.2.2.2.2.2.2.1 o371.2.2.2.2.2.2.2.2 x3 (1 : Int32)).bind (fun o385 =>
    (f_x_was v_wall_courses v_wall_columns v_wall_jump o385.2.1 v_hands_told v_hands_mood o357.2.1 v_frosts_told v_frosts_year v_frosts_force v_gappings_told v_gappings_year v_gappings_column v_gappings_hand v_sights_told v_sights_year v_sights_place v_sights_setter o385.2.2.1 o385.2.2.2.1 o385.2.2.2.2.1 o385.2.2.2.2.2.1 o385.2.2.2.2.2.2.1 o385.2.2.2.2.2.2.2.1 o385.2.2.2.2.2.2.2.2 x3 (0 : Int32)).bind (fun o399 =>
    (f_x_was v_wall_courses v_wall_columns v_wall_jump o385.2.1 v_hands_told o399.2.1 o399.2.2.1 v_frosts_told v_frosts_year v_frosts_force v_gappings_told v_gappings_year v_gappings_column v_gappings_hand v_sights_told v_sights_year v_sights_place v_sights_setter o399.2.2.2.1 o399.2.2.2.2.1 o399.2.2.2.2.2.1 o399.2.2.2.2.2.2.1 o399.2.2.2.2.2.2.2.1 o399.2.2.2.2.2.2.2.2.1 o399.2.2.2.2.2.2.2.2.2 x3 (1 : Int32)).bind (fun o413 =>
    (f_x_ask v_wall_courses v_wall_columns v_wall_jump o385.2.1 v_hands_told o413.2.1 o413.2.2.1 v_frosts_told v_frosts_year v_frosts_force v_gappings_told v_gappings_year v_gappings_column v_gappings_hand v_sights_told v_sights_year v_sights_place v_sights_setter o413.2.2.2.1 o413.2.2.2.2.1 o413.2.2.2.2.2.1 o413.2.2.2.2.2.2.1 o413.2.2.2.2.2.2.2.1 o413.2.2.2.2.2.2.2.2.1 o413.2.2.2.2.2.2.2.2.2 v_stood x3).bind (fun o426 =>
    k298 o344.2.1 o385.2.1 o413.2.1 o426.2.1 v_chanceFrosts_told v_chanceFrosts_year v_chanceFrosts_force v_gappings_told v_gappings_year v_gappings_column v_gappings_hand o344.2.2.1 o344.2.2.2.1 o344.2.2.2.2.1 o344.2.2.2.2.2.1 o344.2.2.2.2.2.2.1 o344.2.2.2.2.2.2.2.1 o344.2.2.2.2.2.2.2.2 o426.2.2.1 o426.2.2.2.1 o426.2.2.2.2.1 o426.2.2.2.2.2.1 o426.2.2.2.2.2.2.1 o426.2.2.2.2.2.2.2.1 o426.2.2.2.2.2.2.2.2.1 o426.2.2.2.2.2.2.2.2.2 (((31 : Int64) * (((31 : Int64) * (((31 : Int64) * (((31 : Int64) * (((31 : Int64) * (((31 : Int64) * (((31 : Int64) * (((31 : Int64) * (((31 : Int64) * x1) + o317.toInt64)) + o331.toInt64)) + o344.1.toInt64)) + o357.1.toInt64)) + o371.1.toInt64)) + o385.1.toInt64)) + o399.1.toInt64)) + o413.1.toInt64)) + o426.1.toInt64) (x3 + (1 : Int32)))))))))))

def f_x_digest_N271 (v_latestFinding : Int32) (v_wallText_length : Int32) (v_handsText_length : Int32) (v_wall_courses : Int32) (v_wall_columns : Int32) (v_wall_fault : Int32) (v_wall_jump : Int32) (v_hands_told : Int32) (v_hands_fault : Int32) (v_frosts_told : Int32) (v_frosts_year : Nat → Int32) (v_frosts_force : Nat → Int32) (v_sights_told : Int32) (v_sights_year : Nat → Int32) (v_sights_place : Nat → Int32) (v_sights_setter : Nat → Int32) (k271 : Int32 → (Nat → Int64) → (Nat → Int32) → (Nat → Int32) → Int32 → (Nat → Int32) → (Nat → Int32) → Int32 → (Nat → Int32) → (Nat → Int32) → (Nat → Int32) → Int64 → Int32 → (Nat → Int64) → (Nat → Int64) → (Nat → Int64) → (Nat → Int32) → (Nat → Int32) → Int64 → Int32 → (Nat → Int64) → (Nat → Int64) → (Nat → Int64) → (Nat → Int32) → (Nat → Int32) → (Nat → Int32) → Int64 → Int32 → Option (Int64 × Int32 × (Nat → Int64) × (Nat → Int32) × (Nat → Int32) × Int32 × (Nat → Int32) × (Nat → Int32) × Int32 × (Nat → Int32) × (Nat → Int32) × (Nat → Int32) × Int64 × Int32 × (Nat → Int64) × (Nat → Int64) × (Nat → Int64) × (Nat → Int32) × (Nat → Int32) × Int64 × Int32 × (Nat → Int64) × (Nat → Int64) × (Nat → Int64) × (Nat → Int32) × (Nat → Int32) × (Nat → Int32))) (v_toldIsStale : Int32) (v_wall_stones : Nat → Int64) (v_hands_mood : Nat → Int32) (v_hands_strong : Nat → Int32) (v_chanceFrosts_told : Int32) (v_chanceFrosts_year : Nat → Int32) (v_chanceFrosts_force : Nat → Int32) (v_gappings_told : Int32) (v_gappings_year : Nat → Int32) (v_gappings_column : Nat → Int32) (v_gappings_hand : Nat → Int32) (v_told_all : Int64) (v_told_losers : Int32) (v_told_now : Nat → Int64) (v_told_stones : Nat → Int64) (v_told_standing : Nat → Int64) (v_told_open : Nat → Int32) (v_told_fallen : Nat → Int32) (v_trial_all : Int64) (v_trial_losers : Int32) (v_trial_now : Nat → Int64) (v_trial_stones : Nat → Int64) (v_trial_standing : Nat → Int64) (v_trial_open : Nat → Int32) (v_trial_fallen : Nat → Int32) (v_stood : Nat → Int32) (x1 : Int64) (x3 : Int32) : Option (Int64 × Int32 × (Nat → Int64) × (Nat → Int32) × (Nat → Int32) × Int32 × (Nat → Int32) × (Nat → Int32) × Int32 × (Nat → Int32) × (Nat → Int32) × (Nat → Int32) × Int64 × Int32 × (Nat → Int64) × (Nat → Int64) × (Nat → Int64) × (Nat → Int32) × (Nat → Int32) × Int64 × Int32 × (Nat → Int64) × (Nat → Int64) × (Nat → Int64) × (Nat → Int32) × (Nat → Int32) × (Nat → Int32)) :=
  if (20 : Int32) ≤ x3 then
    iter (fun _ _ _ _ _ _ _ _ _ _ _ _ _ _ _ _ _ _ _ _ _ _ _ _ _ _ _ _ => none) (f_x_digest_N298 v_latestFinding v_wallText_length v_handsText_length v_wall_courses v_wall_columns v_wall_fault v_wall_jump v_hands_told v_hands_fault v_frosts_told v_frosts_year v_frosts_force v_sights_told v_sights_year v_sights_place v_sights_setter) 1000 v_toldIsStale v_wall_stones v_hands_mood v_hands_strong v_chanceFrosts_told v_chanceFrosts_year v_chanceFrosts_force v_gappings_told v_gappings_year v_gappings_column v_gappings_hand v_told_all v_told_losers v_told_now v_told_stones v_told_standing v_told_open v_told_fallen v_trial_all v_trial_losers v_trial_now v_trial_stones v_trial_standing v_trial_open v_trial_fallen v_stood x1 (0 : Int32)
  else
    (f_x_falls v_toldIsStale v_wall_courses v_wall_columns v_wall_jump v_wall_stones v_hands_told v_hands_mood v_hands_strong v_frosts_told v_frosts_year v_frosts_force v_gappings_told v_gappings_year v_gappings_column v_gappings_hand v_told_all v_told_losers v_told_now v_told_stones v_told_standing v_told_open v_told_fallen x3).bind (fun o284 =>
    k271 o284.2.1 v_wall_stones v_hands_mood v_hands_strong v_chanceFrosts_told v_chanceFrosts_year v_chanceFrosts_force v_gappings_told v_gappings_year v_gappings_column v_gappings_hand o284.2.2.1 o284.2.2.2.1 o284.2.2.2.2.1 o284.2.2.2.2.2.1 o284.2.2.2.2.2.2.1 o284.2.2.2.2.2.2.2.1 o284.2.2.2.2.2.2.2.2 v_trial_all v_trial_losers v_trial_now v_trial_stones v_trial_standing v_trial_open v_trial_fallen v_stood (((31 : Int64) * x1) + o284.1.toInt64) (x3 + (1 : Int32)))

def f_x_digest_N188 (v_latestFinding : Int32) (v_wallText_length : Int32) (v_handsText_length : Int32) (v_wall_courses : Int32) (v_wall_columns : Int32) (v_wall_fault : Int32) (v_wall_jump : Int32) (v_hands_told : Int32) (v_hands_fault : Int32) (v_frosts_told : Int32) (v_frosts_year : Nat → Int32) (v_frosts_force : Nat → Int32) (v_sights_told : Int32) (v_sights_year : Nat → Int32) (v_sights_place : Nat → Int32) (v_sights_setter : Nat → Int32) (k188 : Int32 → (Nat → Int64) → (Nat → Int32) → (Nat → Int32) → Int32 → (Nat → Int32) → (Nat → Int32) → Int32 → (Nat → Int32) → (Nat → Int32) → (Nat → Int32) → Int64 → Int32 → (Nat → Int64) → (Nat → Int64) → (Nat → Int64) → (Nat → Int32) → (Nat → Int32) → Int64 → Int32 → (Nat → Int64) → (Nat → Int64) → (Nat → Int64) → (Nat → Int32) → (Nat → Int32) → (Nat → Int32) → Int64 → Int32 → Option (Int64 × Int32 × (Nat → Int64) × (Nat → Int32) × (Nat → Int32) × Int32 × (Nat → Int32) × (Nat → Int32) × Int32 × (Nat → Int32) × (Nat → Int32) × (Nat → Int32) × Int64 × Int32 × (Nat → Int64) × (Nat → Int64) × (Nat → Int64) × (Nat → Int32) × (Nat → Int32) × Int64 × Int32 × (Nat → Int64) × (Nat → Int64) × (Nat → Int64) × (Nat → Int32) × (Nat → Int32) × (Nat → Int32))) (v_toldIsStale : Int32) (v_wall_stones : Nat → Int64) (v_hands_mood : Nat → Int32) (v_hands_strong : Nat → Int32) (v_chanceFrosts_told : Int32) (v_chanceFrosts_year : Nat → Int32) (v_chanceFrosts_force : Nat → Int32) (v_gappings_told : Int32) (v_gappings_year : Nat → Int32) (v_gappings_column : Nat → Int32) (v_gappings_hand : Nat → Int32) (v_told_all : Int64) (v_told_losers : Int32) (v_told_now : Nat → Int64) (v_told_stones : Nat → Int64) (v_told_standing : Nat → Int64) (v_told_open : Nat → Int32) (v_told_fallen : Nat → Int32) (v_trial_all : Int64) (v_trial_losers : Int32) (v_trial_now : Nat → Int64) (v_trial_stones : Nat → Int64) (v_trial_standing : Nat → Int64) (v_trial_open : Nat → Int32) (v_trial_fallen : Nat → Int32) (v_stood : Nat → Int32) (x1 : Int64) (x3 : Int32) : Option (Int64 × Int32 × (Nat → Int64) × (Nat → Int32) × (Nat → Int32) × Int32 × (Nat → Int32) × (Nat → Int32) × Int32 × (Nat → Int32) × (Nat → Int32) × (Nat → Int32) × Int64 × Int32 × (Nat → Int64) × (Nat → Int64) × (Nat → Int64) × (Nat → Int32) × (Nat → Int32) × Int64 × Int32 × (Nat → Int64) × (Nat → Int64) × (Nat → Int64) × (Nat → Int32) × (Nat → Int32) × (Nat → Int32)) :=
  if v_wall_columns ≤ x3 then
    iter (fun _ _ _ _ _ _ _ _ _ _ _ _ _ _ _ _ _ _ _ _ _ _ _ _ _ _ _ _ => none) (f_x_digest_N271 v_latestFinding v_wallText_length v_handsText_length v_wall_courses v_wall_columns v_wall_fault v_wall_jump v_hands_told v_hands_fault v_frosts_told v_frosts_year v_frosts_force v_sights_told v_sights_year v_sights_place v_sights_setter) 1000 v_toldIsStale v_wall_stones v_hands_mood v_hands_strong v_chanceFrosts_told v_chanceFrosts_year v_chanceFrosts_force v_gappings_told v_gappings_year v_gappings_column v_gappings_hand v_told_all v_told_losers v_told_now v_told_stones v_told_standing v_told_open v_told_fallen v_trial_all v_trial_losers v_trial_now v_trial_stones v_trial_standing v_trial_open v_trial_fallen v_stood x1 (0 : Int32)
  else
    (f_x_column v_toldIsStale v_wall_courses v_wall_columns v_wall_jump v_wall_stones v_hands_told v_hands_mood v_hands_strong v_frosts_told v_frosts_year v_frosts_force v_gappings_told v_gappings_year v_gappings_column v_gappings_hand v_told_all v_told_losers v_told_now v_told_stones v_told_standing v_told_open v_told_fallen (9 : Int32) x3 (0 : Int32)).bind (fun o209 =>
    (f_x_column o209.2.1 v_wall_courses v_wall_columns v_wall_jump v_wall_stones v_hands_told v_hands_mood v_hands_strong v_frosts_told v_frosts_year v_frosts_force v_gappings_told v_gappings_year v_gappings_column v_gappings_hand o209.2.2.1 o209.2.2.2.1 o209.2.2.2.2.1 o209.2.2.2.2.2.1 o209.2.2.2.2.2.2.1 o209.2.2.2.2.2.2.2.1 o209.2.2.2.2.2.2.2.2 (9 : Int32) x3 (1 : Int32)).bind (fun o225 =>
    (f_x_column o225.2.1 v_wall_courses v_wall_columns v_wall_jump v_wall_stones v_hands_told v_hands_mood v_hands_strong v_frosts_told v_frosts_year v_frosts_force v_gappings_told v_gappings_year v_gappings_column v_gappings_hand o225.2.2.1 o225.2.2.2.1 o225.2.2.2.2.1 o225.2.2.2.2.2.1 o225.2.2.2.2.2.2.1 o225.2.2.2.2.2.2.2.1 o225.2.2.2.2.2.2.2.2 (19 : Int32) x3 (0 : Int32)).bind (fun o241 =>
    (f_x_column o241.2.1 v_wall_courses v_wall_columns v_wall_jump v_wall_stones v_hands_told v_hands_mood v_hands_strong v_frosts_told v_frosts_year v_frosts_force v_gappings_told v_gappings_year v_gappings_column v_gappings_hand o241.2.2.1 o241.2.2.2.1 o241.2.2.2.2.1 o241.2.2.2.2.2.1 o241.2.2.2.2.2.2.1 o241.2.2.2.2.2.2.2.1 o241.2.2.2.2.2.2.2.2 (19 : Int32) x3 (1 : Int32)).bind (fun o257 =>
    k188 o257.2.1 v_wall_stones v_hands_mood v_hands_strong v_chanceFrosts_told v_chanceFrosts_year v_chanceFrosts_force v_gappings_told v_gappings_year v_gappings_column v_gappings_hand o257.2.2.1 o257.2.2.2.1 o257.2.2.2.2.1 o257.2.2.2.2.2.1 o257.2.2.2.2.2.2.1 o257.2.2.2.2.2.2.2.1 o257.2.2.2.2.2.2.2.2 v_trial_all v_trial_losers v_trial_now v_trial_stones v_trial_standing v_trial_open v_trial_fallen v_stood (((31 : Int64) * (((31 : Int64) * (((31 : Int64) * (((31 : Int64) * x1) + o209.1.toInt64)) + o225.1.toInt64)) + o241.1.toInt64)) + o257.1.toInt64) (x3 + (1 : Int32))))))

def f_x_digest_N67 (v_latestFinding : Int32) (v_wallText_length : Int32) (v_handsText_length : Int32) (v_wall_courses : Int32) (v_wall_columns : Int32) (v_wall_fault : Int32) (v_wall_jump : Int32) (v_hands_told : Int32) (v_hands_fault : Int32) (v_frosts_told : Int32) (v_frosts_year : Nat → Int32) (v_frosts_force : Nat → Int32) (v_sights_told : Int32) (v_sights_year : Nat → Int32) (v_sights_place : Nat → Int32) (v_sights_setter : Nat → Int32) (k59 : Int32 → (Nat → Int64) → (Nat → Int32) → (Nat → Int32) → Int32 → (Nat → Int32) → (Nat → Int32) → Int32 → (Nat → Int32) → (Nat → Int32) → (Nat → Int32) → Int64 → Int32 → (Nat → Int64) → (Nat → Int64) → (Nat → Int64) → (Nat → Int32) → (Nat → Int32) → Int64 → Int32 → (Nat → Int64) → (Nat → Int64) → (Nat → Int64) → (Nat → Int32) → (Nat → Int32) → (Nat → Int32) → Int64 → Int32 → Option (Int64 × Int32 × (Nat → Int64) × (Nat → Int32) × (Nat → Int32) × Int32 × (Nat → Int32) × (Nat → Int32) × Int32 × (Nat → Int32) × (Nat → Int32) × (Nat → Int32) × Int64 × Int32 × (Nat → Int64) × (Nat → Int64) × (Nat → Int64) × (Nat → Int32) × (Nat → Int32) × Int64 × Int32 × (Nat → Int64) × (Nat → Int64) × (Nat → Int64) × (Nat → Int32) × (Nat → Int32) × (Nat → Int32))) (k67 : Int32 → (Nat → Int64) → (Nat → Int32) → (Nat → Int32) → Int32 → (Nat → Int32) → (Nat → Int32) → Int32 → (Nat → Int32) → (Nat → Int32) → (Nat → Int32) → Int64 → Int32 → (Nat → Int64) → (Nat → Int64) → (Nat → Int64) → (Nat → Int32) → (Nat → Int32) → Int64 → Int32 → (Nat → Int64) → (Nat → Int64) → (Nat → Int64) → (Nat → Int32) → (Nat → Int32) → (Nat → Int32) → Int64 → Int32 → Int32 → Option (Int64 × Int32 × (Nat → Int64) × (Nat → Int32) × (Nat → Int32) × Int32 × (Nat → Int32) × (Nat → Int32) × Int32 × (Nat → Int32) × (Nat → Int32) × (Nat → Int32) × Int64 × Int32 × (Nat → Int64) × (Nat → Int64) × (Nat → Int64) × (Nat → Int32) × (Nat → Int32) × Int64 × Int32 × (Nat → Int64) × (Nat → Int64) × (Nat → Int64) × (Nat → Int32) × (Nat → Int32) × (Nat → Int32))) (v_toldIsStale : Int32) (v_wall_stones : Nat → Int64) (v_hands_mood : Nat → Int32) (v_hands_strong : Nat → Int32) (v_chanceFrosts_told : Int32) (v_chanceFrosts_year : Nat → Int32) (v_chanceFrosts_force : Nat → Int32) (v_gappings_told : Int32) (v_gappings_year : Nat → Int32) (v_gappings_column : Nat → Int32) (v_gappings_hand : Nat → Int32) (v_told_all : Int64) (v_told_losers : Int32) (v_told_now : Nat → Int64) (v_told_stones : Nat → Int64) (v_told_standing : Nat → Int64) (v_told_open : Nat → Int32) (v_told_fallen : Nat → Int32) (v_trial_all : Int64) (v_trial_losers : Int32) (v_trial_now : Nat → Int64) (v_trial_stones : Nat → Int64) (v_trial_standing : Nat → Int64) (v_trial_open : Nat → Int32) (v_trial_fallen : Nat → Int32) (v_stood : Nat → Int32) (x1 : Int64) (x3 : Int32) (x4 : Int32) : Option (Int64 × Int32 × (Nat → Int64) × (Nat → Int32) × (Nat → Int32) × Int32 × (Nat → Int32) × (Nat → Int32) × Int32 × (Nat → Int32) × (Nat → Int32) × (Nat → Int32) × Int64 × Int32 × (Nat → Int64) × (Nat → Int64) × (Nat → Int64) × (Nat → Int32) × (Nat → Int32) × Int64 × Int32 × (Nat → Int64) × (Nat → Int64) × (Nat → Int64) × (Nat → Int32) × (Nat → Int32) × (Nat → Int32)) :=
  if (8 : Int32) ≤ x4 then
    k59 v_toldIsStale v_wall_stones v_hands_mood v_hands_strong v_chanceFrosts_told v_chanceFrosts_year v_chanceFrosts_force v_gappings_told v_gappings_year v_gappings_column v_gappings_hand v_told_all v_told_losers v_told_now v_told_stones v_told_standing v_told_open v_told_fallen v_trial_all v_trial_losers v_trial_now v_trial_stones v_trial_standing v_trial_open v_trial_fallen v_stood x1 (x3 + (1 : Int32))
  else
    (f_x_stone v_wall_stones x3 x4).bind (fun o83 =>
    (f_x_at v_toldIsStale v_wall_courses v_wall_columns v_wall_jump v_wall_stones v_hands_told v_hands_mood v_hands_strong v_frosts_told v_frosts_year v_frosts_force v_gappings_told v_gappings_year v_gappings_column v_gappings_hand v_told_all v_told_losers v_told_now v_told_stones v_told_standing v_told_open v_told_fallen (0 : Int32) x3 x4 (0 : Int32)).bind (fun o100 =>
    (f_x_at o100.2.1 v_wall_courses v_wall_columns v_wall_jump v_wall_stones v_hands_told v_hands_mood v_hands_strong v_frosts_told v_frosts_year v_frosts_force v_gappings_told v_gappings_year v_gappings_column v_gappings_hand o100.2.2.1 o100.2.2.2.1 o100.2.2.2.2.1 o100.2.2.2.2.2.1 o100.2.2.2.2.2.2.1 o100.2.2.2.2.2.2.2.1 o100.2.2.2.2.2.2.2.2 (0 : Int32) x3 x4 (1 : Int32)).bind (fun o117 =>
    (f_x_at o117.2.1 v_wall_courses v_wall_columns v_wall_jump v_wall_stones v_hands_told v_hands_mood v_hands_strong v_frosts_told v_frosts_year v_frosts_force v_gappings_told v_gappings_year v_gappings_column v_gappings_hand o117.2.2.1 o117.2.2.2.1 o117.2.2.2.2.1 o117.2.2.2.2.2.1 o117.2.2.2.2.2.2.1 o117.2.2.2.2.2.2.2.1 o117.2.2.2.2.2.2.2.2 (19 : Int32) x3 x4 (0 : Int32)).bind (fun o135 =>
    (f_x_at o135.2.1 v_wall_courses v_wall_columns v_wall_jump v_wall_stones v_hands_told v_hands_mood v_hands_strong v_frosts_told v_frosts_year v_frosts_force v_gappings_told v_gappings_year v_gappings_column v_gappings_hand o135.2.2.1 o135.2.2.2.1 o135.2.2.2.2.1 o135.2.2.2.2.2.1 o135.2.2.2.2.2.2.1 o135.2.2.2.2.2.2.2.1 o135.2.2.2.2.2.2.2.2 (19 : Int32) x3 x4 (1 : Int32)).bind (fun o153 =>
    (f_x_lift v_wall_stones x3 x4).bind (fun o168 =>
    k67 o153.2.1 v_wall_stones v_hands_mood v_hands_strong v_chanceFrosts_told v_chanceFrosts_year v_chanceFrosts_force v_gappings_told v_gappings_year v_gappings_column v_gappings_hand o153.2.2.1 o153.2.2.2.1 o153.2.2.2.2.1 o153.2.2.2.2.2.1 o153.2.2.2.2.2.2.1 o153.2.2.2.2.2.2.2.1 o153.2.2.2.2.2.2.2.2 v_trial_all v_trial_losers v_trial_now v_trial_stones v_trial_standing v_trial_open v_trial_fallen v_stood (((31 : Int64) * (((31 : Int64) * (((31 : Int64) * (((31 : Int64) * (((31 : Int64) * (((31 : Int64) * x1) + o83.toInt64)) + o100.1.toInt64)) + o117.1.toInt64)) + o135.1.toInt64)) + o153.1.toInt64)) + o168.toInt64) x3 (x4 + (1 : Int32))))))))

def f_x_digest_N59 (v_latestFinding : Int32) (v_wallText_length : Int32) (v_handsText_length : Int32) (v_wall_courses : Int32) (v_wall_columns : Int32) (v_wall_fault : Int32) (v_wall_jump : Int32) (v_hands_told : Int32) (v_hands_fault : Int32) (v_frosts_told : Int32) (v_frosts_year : Nat → Int32) (v_frosts_force : Nat → Int32) (v_sights_told : Int32) (v_sights_year : Nat → Int32) (v_sights_place : Nat → Int32) (v_sights_setter : Nat → Int32) (k59 : Int32 → (Nat → Int64) → (Nat → Int32) → (Nat → Int32) → Int32 → (Nat → Int32) → (Nat → Int32) → Int32 → (Nat → Int32) → (Nat → Int32) → (Nat → Int32) → Int64 → Int32 → (Nat → Int64) → (Nat → Int64) → (Nat → Int64) → (Nat → Int32) → (Nat → Int32) → Int64 → Int32 → (Nat → Int64) → (Nat → Int64) → (Nat → Int64) → (Nat → Int32) → (Nat → Int32) → (Nat → Int32) → Int64 → Int32 → Option (Int64 × Int32 × (Nat → Int64) × (Nat → Int32) × (Nat → Int32) × Int32 × (Nat → Int32) × (Nat → Int32) × Int32 × (Nat → Int32) × (Nat → Int32) × (Nat → Int32) × Int64 × Int32 × (Nat → Int64) × (Nat → Int64) × (Nat → Int64) × (Nat → Int32) × (Nat → Int32) × Int64 × Int32 × (Nat → Int64) × (Nat → Int64) × (Nat → Int64) × (Nat → Int32) × (Nat → Int32) × (Nat → Int32))) (v_toldIsStale : Int32) (v_wall_stones : Nat → Int64) (v_hands_mood : Nat → Int32) (v_hands_strong : Nat → Int32) (v_chanceFrosts_told : Int32) (v_chanceFrosts_year : Nat → Int32) (v_chanceFrosts_force : Nat → Int32) (v_gappings_told : Int32) (v_gappings_year : Nat → Int32) (v_gappings_column : Nat → Int32) (v_gappings_hand : Nat → Int32) (v_told_all : Int64) (v_told_losers : Int32) (v_told_now : Nat → Int64) (v_told_stones : Nat → Int64) (v_told_standing : Nat → Int64) (v_told_open : Nat → Int32) (v_told_fallen : Nat → Int32) (v_trial_all : Int64) (v_trial_losers : Int32) (v_trial_now : Nat → Int64) (v_trial_stones : Nat → Int64) (v_trial_standing : Nat → Int64) (v_trial_open : Nat → Int32) (v_trial_fallen : Nat → Int32) (v_stood : Nat → Int32) (x1 : Int64) (x3 : Int32) : Option (Int64 × Int32 × (Nat → Int64) × (Nat → Int32) × (Nat → Int32) × Int32 × (Nat → Int32) × (Nat → Int32) × Int32 × (Nat → Int32) × (Nat → Int32) × (Nat → Int32) × Int64 × Int32 × (Nat → Int64) × (Nat → Int64) × (Nat → Int64) × (Nat → Int32) × (Nat → Int32) × Int64 × Int32 × (Nat → Int64) × (Nat → Int64) × (Nat → Int64) × (Nat → Int32) × (Nat → Int32) × (Nat → Int32)) :=
  if (5 : Int32) ≤ x3 then
    iter (fun _ _ _ _ _ _ _ _ _ _ _ _ _ _ _ _ _ _ _ _ _ _ _ _ _ _ _ _ => none) (f_x_digest_N188 v_latestFinding v_wallText_length v_handsText_length v_wall_courses v_wall_columns v_wall_fault v_wall_jump v_hands_told v_hands_fault v_frosts_told v_frosts_year v_frosts_force v_sights_told v_sights_year v_sights_place v_sights_setter) 1000 v_toldIsStale v_wall_stones v_hands_mood v_hands_strong v_chanceFrosts_told v_chanceFrosts_year v_chanceFrosts_force v_gappings_told v_gappings_year v_gappings_column v_gappings_hand v_told_all v_told_losers v_told_now v_told_stones v_told_standing v_told_open v_told_fallen v_trial_all v_trial_losers v_trial_now v_trial_stones v_trial_standing v_trial_open v_trial_fallen v_stood x1 (0 : Int32)
  else
    iter (fun _ _ _ _ _ _ _ _ _ _ _ _ _ _ _ _ _ _ _ _ _ _ _ _ _ _ _ _ _ => none) (f_x_digest_N67 v_latestFinding v_wallText_length v_handsText_length v_wall_courses v_wall_columns v_wall_fault v_wall_jump v_hands_told v_hands_fault v_frosts_told v_frosts_year v_frosts_force v_sights_told v_sights_year v_sights_place v_sights_setter k59) 1000 v_toldIsStale v_wall_stones v_hands_mood v_hands_strong v_chanceFrosts_told v_chanceFrosts_year v_chanceFrosts_force v_gappings_told v_gappings_year v_gappings_column v_gappings_hand v_told_all v_told_losers v_told_now v_told_stones v_told_standing v_told_open v_told_fallen v_trial_all v_trial_losers v_trial_now v_trial_stones v_trial_standing v_trial_open v_trial_fallen v_stood x1 x3 (0 : Int32)

def f_x_digest_N6 (v_latestFinding : Int32) (v_wallText_length : Int32) (v_handsText_length : Int32) (v_wall_courses : Int32) (v_wall_columns : Int32) (v_wall_fault : Int32) (v_wall_jump : Int32) (v_hands_told : Int32) (v_hands_fault : Int32) (v_frosts_told : Int32) (v_frosts_year : Nat → Int32) (v_frosts_force : Nat → Int32) (v_sights_told : Int32) (v_sights_year : Nat → Int32) (v_sights_place : Nat → Int32) (v_sights_setter : Nat → Int32) (k6 : Int32 → (Nat → Int64) → (Nat → Int32) → (Nat → Int32) → Int32 → (Nat → Int32) → (Nat → Int32) → Int32 → (Nat → Int32) → (Nat → Int32) → (Nat → Int32) → Int64 → Int32 → (Nat → Int64) → (Nat → Int64) → (Nat → Int64) → (Nat → Int32) → (Nat → Int32) → Int64 → Int32 → (Nat → Int64) → (Nat → Int64) → (Nat → Int64) → (Nat → Int32) → (Nat → Int32) → (Nat → Int32) → Int64 → Int32 → Option (Int64 × Int32 × (Nat → Int64) × (Nat → Int32) × (Nat → Int32) × Int32 × (Nat → Int32) × (Nat → Int32) × Int32 × (Nat → Int32) × (Nat → Int32) × (Nat → Int32) × Int64 × Int32 × (Nat → Int64) × (Nat → Int64) × (Nat → Int64) × (Nat → Int32) × (Nat → Int32) × Int64 × Int32 × (Nat → Int64) × (Nat → Int64) × (Nat → Int64) × (Nat → Int32) × (Nat → Int32) × (Nat → Int32))) (v_toldIsStale : Int32) (v_wall_stones : Nat → Int64) (v_hands_mood : Nat → Int32) (v_hands_strong : Nat → Int32) (v_chanceFrosts_told : Int32) (v_chanceFrosts_year : Nat → Int32) (v_chanceFrosts_force : Nat → Int32) (v_gappings_told : Int32) (v_gappings_year : Nat → Int32) (v_gappings_column : Nat → Int32) (v_gappings_hand : Nat → Int32) (v_told_all : Int64) (v_told_losers : Int32) (v_told_now : Nat → Int64) (v_told_stones : Nat → Int64) (v_told_standing : Nat → Int64) (v_told_open : Nat → Int32) (v_told_fallen : Nat → Int32) (v_trial_all : Int64) (v_trial_losers : Int32) (v_trial_now : Nat → Int64) (v_trial_stones : Nat → Int64) (v_trial_standing : Nat → Int64) (v_trial_open : Nat → Int32) (v_trial_fallen : Nat → Int32) (v_stood : Nat → Int32) (x1 : Int64) (x3 : Int32) : Option (Int64 × Int32 × (Nat → Int64) × (Nat → Int32) × (Nat → Int32) × Int32 × (Nat → Int32) × (Nat → Int32) × Int32 × (Nat → Int32) × (Nat → Int32) × (Nat → Int32) × Int64 × Int32 × (Nat → Int64) × (Nat → Int64) × (Nat → Int64) × (Nat → Int32) × (Nat → Int32) × Int64 × Int32 × (Nat → Int64) × (Nat → Int64) × (Nat → Int64) × (Nat → Int32) × (Nat → Int32) × (Nat → Int32)) :=
  if (7 : Int32) < x3 then
    (f_x_fault v_wall_fault v_hands_fault (0 : Int32)).bind (fun o38 =>
    (f_x_fault v_wall_fault v_hands_fault (1 : Int32)).bind (fun o51 =>
    iter (fun _ _ _ _ _ _ _ _ _ _ _ _ _ _ _ _ _ _ _ _ _ _ _ _ _ _ _ _ => none) (f_x_digest_N59 v_latestFinding v_wallText_length v_handsText_length v_wall_courses v_wall_columns v_wall_fault v_wall_jump v_hands_told v_hands_fault v_frosts_told v_frosts_year v_frosts_force v_sights_told v_sights_year v_sights_place v_sights_setter) 1000 v_toldIsStale v_wall_stones v_hands_mood v_hands_strong v_chanceFrosts_told v_chanceFrosts_year v_chanceFrosts_force v_gappings_told v_gappings_year v_gappings_column v_gappings_hand v_told_all v_told_losers v_told_now v_told_stones v_told_standing v_told_open v_told_fallen v_trial_all v_trial_losers v_trial_now v_trial_stones v_trial_standing v_trial_open v_trial_fallen v_stood (((31 : Int64) * (((31 : Int64) * x1) + o38.toInt64)) + o51.toInt64) (0 : Int32)))
  else
    (f_x_count v_toldIsStale v_latestFinding v_wallText_length v_handsText_length v_wall_courses v_wall_columns v_wall_jump v_wall_stones v_hands_told v_hands_mood v_hands_strong v_frosts_told v_frosts_year v_frosts_force v_gappings_told v_gappings_year v_gappings_column v_gappings_hand v_sights_told v_told_all v_told_losers v_told_now v_told_stones v_told_standing v_told_open v_told_fallen x3).bind (fun o19 =>
    k6 o19.2.1 v_wall_stones v_hands_mood v_hands_strong v_chanceFrosts_told v_chanceFrosts_year v_chanceFrosts_force v_gappings_told v_gappings_year v_gappings_column v_gappings_hand o19.2.2.1 o19.2.2.2.1 o19.2.2.2.2.1 o19.2.2.2.2.2.1 o19.2.2.2.2.2.2.1 o19.2.2.2.2.2.2.2.1 o19.2.2.2.2.2.2.2.2 v_trial_all v_trial_losers v_trial_now v_trial_stones v_trial_standing v_trial_open v_trial_fallen v_stood (((31 : Int64) * x1) + o19.1.toInt64) (x3 + (1 : Int32)))

def f_x_digest (v_toldIsStale : Int32) (v_latestFinding : Int32) (v_wallText_length : Int32) (v_handsText_length : Int32) (v_wall_courses : Int32) (v_wall_columns : Int32) (v_wall_fault : Int32) (v_wall_jump : Int32) (v_wall_stones : Nat → Int64) (v_hands_told : Int32) (v_hands_fault : Int32) (v_hands_mood : Nat → Int32) (v_hands_strong : Nat → Int32) (v_frosts_told : Int32) (v_frosts_year : Nat → Int32) (v_frosts_force : Nat → Int32) (v_chanceFrosts_told : Int32) (v_chanceFrosts_year : Nat → Int32) (v_chanceFrosts_force : Nat → Int32) (v_gappings_told : Int32) (v_gappings_year : Nat → Int32) (v_gappings_column : Nat → Int32) (v_gappings_hand : Nat → Int32) (v_sights_told : Int32) (v_sights_year : Nat → Int32) (v_sights_place : Nat → Int32) (v_sights_setter : Nat → Int32) (v_told_all : Int64) (v_told_losers : Int32) (v_told_now : Nat → Int64) (v_told_stones : Nat → Int64) (v_told_standing : Nat → Int64) (v_told_open : Nat → Int32) (v_told_fallen : Nat → Int32) (v_trial_all : Int64) (v_trial_losers : Int32) (v_trial_now : Nat → Int64) (v_trial_stones : Nat → Int64) (v_trial_standing : Nat → Int64) (v_trial_open : Nat → Int32) (v_trial_fallen : Nat → Int32) (v_stood : Nat → Int32) : Option (Int64 × Int32 × (Nat → Int64) × (Nat → Int32) × (Nat → Int32) × Int32 × (Nat → Int32) × (Nat → Int32) × Int32 × (Nat → Int32) × (Nat → Int32) × (Nat → Int32) × Int64 × Int32 × (Nat → Int64) × (Nat → Int64) × (Nat → Int64) × (Nat → Int32) × (Nat → Int32) × Int64 × Int32 × (Nat → Int64) × (Nat → Int64) × (Nat → Int64) × (Nat → Int32) × (Nat → Int32) × (Nat → Int32)) :=
  iter (fun _ _ _ _ _ _ _ _ _ _ _ _ _ _ _ _ _ _ _ _ _ _ _ _ _ _ _ _ => none) (f_x_digest_N6 v_latestFinding v_wallText_length v_handsText_length v_wall_courses v_wall_columns v_wall_fault v_wall_jump v_hands_told v_hands_fault v_frosts_told v_frosts_year v_frosts_force v_sights_told v_sights_year v_sights_place v_sights_setter) 1000 v_toldIsStale v_wall_stones v_hands_mood v_hands_strong v_chanceFrosts_told v_chanceFrosts_year v_chanceFrosts_force v_gappings_told v_gappings_year v_gappings_column v_gappings_hand v_told_all v_told_losers v_told_now v_told_stones v_told_standing v_told_open v_told_fallen v_trial_all v_trial_losers v_trial_now v_trial_stones v_trial_standing v_trial_open v_trial_fallen v_stood (17 : Int64) (0 : Int32)

-- WallHandsModel.in(III)Z
def f_m_in (a0 : Int32) (a1 : Int32) (a2 : Int32) : Option Int32 :=
  if a0 < a1 then
    some (0 : Int32)
  else
    if a2 < a0 then
      some (0 : Int32)
    else
      some (1 : Int32)

-- WallHandsModel.isIn(II)Z
def f_m_isIn (a0 : Int32) (a1 : Int32) : Option Int32 :=
  if ((a0 >>> (a1 &&& 31)) &&& (1 : Int32)) = (1 : Int32) then
    some (1 : Int32)
  else
    some (0 : Int32)

-- WallHandsModel.no(I)J
def f_m_no (a0 : Int32) : Option Int64 :=
  some ((-9223372036854775808 : Int64) - a0.toInt64)

-- WallHandsModel.lowest(JJI)J
def f_m_lowest_N6 (k6 : Int64 → Int64 → Int32 → Int64 → Int64 → Option Int64) (x0 : Int64) (x2 : Int64) (x4 : Int32) (x5 : Int64) (x7 : Int64) : Option Int64 :=
  if (lg_cmp x7 (0 : Int64)) = 0 then
    if x4 = 0 then
      gd (nzL x5) (
      some (x0 / x5))
    else
      gd (nzL x5) (
      some (x2 / x5))
  else
    gd (nzL x7) (
    k6 x0 x2 x4 x7 (x5 - x5 / x7 * x7))

def f_m_lowest (a0 : Int64) (a1 : Int64) (a2 : Int32) : Option Int64 :=
  iter (fun _ _ _ _ _ => none) (f_m_lowest_N6) 1000 a0 a1 a2 a0 a1

-- WallHandsModel.isText(I)Z
def f_m_isText (a0 : Int32) : Option Int32 :=
  (f_m_in a0 (0 : Int32) (1 : Int32)).bind (fun o3 =>
  gd (isB o3) (
  some o3))

-- WallHandsModel.isYear(I)Z
def f_m_isYear (a0 : Int32) : Option Int32 :=
  (f_m_in a0 (0 : Int32) (19 : Int32)).bind (fun o4 =>
  gd (isB o4) (
  some o4))

-- WallHandsModel.isEight(I)Z
def f_m_isEight (a0 : Int32) : Option Int32 :=
  (f_m_in a0 (0 : Int32) (7 : Int32)).bind (fun o4 =>
  gd (isB o4) (
  some o4))

-- WallHandsModel.isPlace(II)Z
def f_m_isPlace (a0 : Int32) (a1 : Int32) : Option Int32 :=
  (f_m_in a0 (0 : Int32) (4 : Int32)).bind (fun o3 =>
  if o3 = 0 then
    some (0 : Int32)
  else
    (f_m_isEight a1).bind (fun o10 =>
    if o10 = 0 then
      some (0 : Int32)
    else
      some (1 : Int32)))

-- WallHandsModel.type(II)I
def f_m_type_N38 (v_typed : Nat → Int32) (v_texts : Nat → Int32) (x1 : Int32) (x2 : Int32) (y0 : Int32) (y1 : Int32) : Option (Int32 × (Nat → Int32) × (Nat → Int32)) :=
  if y0 = y1 then
    some ((-4 : Int32), v_typed, v_texts)
  else
    gd (inb x1 2) (
    gd (inb (((44 : Int32) * x1) + (v_typed x1.toNatClampNeg)) 88) (
    gd (inb x1 2) (
    gd (inb x1 2) (
    gd (inb x1 2) (
    some ((upd v_typed x1.toNatClampNeg ((v_typed x1.toNatClampNeg) + (1 : Int32))) x1.toNatClampNeg, upd v_typed x1.toNatClampNeg ((v_typed x1.toNatClampNeg) + (1 : Int32)), upd v_texts (((44 : Int32) * x1) + (v_typed x1.toNatClampNeg)).toNatClampNeg x2))))))

def f_m_type (v_typed : Nat → Int32) (v_texts : Nat → Int32) (a0 : Int32) (a1 : Int32) : Option (Int32 × (Nat → Int32) × (Nat → Int32)) :=
  (f_m_isText a0).bind (fun o1 =>
  if o1 = 0 then
    some ((-2 : Int32), v_typed, v_texts)
  else
    (f_m_in a1 (0 : Int32) (255 : Int32)).bind (fun o12 =>
    if o12 = 0 then
      some ((-2 : Int32), v_typed, v_texts)
    else
      gd (inb a0 2) (
      if a0 = 0 then
        f_m_type_N38 v_typed v_texts a0 a1 (v_typed a0.toNatClampNeg) (44 : Int32)
      else
        f_m_type_N38 v_typed v_texts a0 a1 (v_typed a0.toNatClampNeg) (23 : Int32))))

-- WallHandsModel.wipe(I)I
def f_m_wipe (v_typed : Nat → Int32) (a0 : Int32) : Option (Int32 × (Nat → Int32)) :=
  (f_m_isText a0).bind (fun o1 =>
  if o1 = 0 then
    some ((-2 : Int32), v_typed)
  else
    gd (inb a0 2) (
    gd (inb a0 2) (
    some (v_typed a0.toNatClampNeg, upd v_typed a0.toNatClampNeg (0 : Int32)))))

-- WallHandsModel.undo(I)I
def f_m_undo (v_typed : Nat → Int32) (a0 : Int32) : Option (Int32 × (Nat → Int32)) :=
  (f_m_isText a0).bind (fun o1 =>
  if o1 = 0 then
    some ((-2 : Int32), v_typed)
  else
    gd (inb a0 2) (
    if (v_typed a0.toNatClampNeg) = 0 then
      some ((-3 : Int32), v_typed)
    else
      gd (inb a0 2) (
      gd (inb a0 2) (
      gd (inb a0 2) (
      some ((upd v_typed a0.toNatClampNeg ((v_typed a0.toNatClampNeg) - (1 : Int32))) a0.toNatClampNeg, upd v_typed a0.toNatClampNeg ((v_typed a0.toNatClampNeg) - (1 : Int32))))))))

-- WallHandsModel.noWall()V
def f_m_noWall_N12 (k12 : Int32 → Int32 → (Nat → Int32) → Int32 → Option (Int32 × Int32 × (Nat → Int32))) (v_courses : Int32) (v_wide : Int32) (v_told : Nat → Int32) (x1 : Int32) : Option (Int32 × Int32 × (Nat → Int32)) :=
  if (48 : Int32) ≤ x1 then
    some (v_courses, v_wide, v_told)
  else
    gd (inb x1 48) (
    k12 v_courses v_wide (upd v_told x1.toNatClampNeg (-1 : Int32)) (x1 + (1 : Int32)))

def f_m_noWall (v_courses : Int32) (v_wide : Int32) (v_told : Nat → Int32) : Option (Int32 × Int32 × (Nat → Int32)) :=
  iter (fun _ _ _ _ => none) (f_m_noWall_N12) 1000 (0 : Int32) (0 : Int32) v_told (0 : Int32)

-- WallHandsModel.faultOfWall()I
def f_m_faultOfWall_N226 (v_typed : Nat → Int32) (v_texts : Nat → Int32) (v_courses : Int32) (v_wide : Int32) (v_told : Nat → Int32) (x2 : Int32) (y1 : Int32) : Option (Int32 × Int32 × Int32 × (Nat → Int32)) :=
  gd (inb (0 : Int32) 2) (
  if (v_typed (0 : Int32).toNatClampNeg) = 0 then
    some ((-1 : Int32), y1, (0 : Int32), v_told)
  else
    some ((-1 : Int32), y1, x2, v_told))

def f_m_faultOfWall_N209 (v_typed : Nat → Int32) (v_texts : Nat → Int32) (v_courses : Int32) (v_wide : Int32) (v_told : Nat → Int32) (x1 : Int32) (x2 : Int32) : Option (Int32 × Int32 × Int32 × (Nat → Int32)) :=
  gd (inb (0 : Int32) 2) (
  if (v_typed (0 : Int32).toNatClampNeg) = 0 then
    f_m_faultOfWall_N226 v_typed v_texts v_courses v_wide v_told x2 (0 : Int32)
  else
    f_m_faultOfWall_N226 v_typed v_texts v_courses v_wide v_told x2 (x1 + (1 : Int32)))

def f_m_faultOfWall_N170 (v_typed : Nat → Int32) (v_texts : Nat → Int32) (k10 : Int32 → Int32 → (Nat → Int32) → Int32 → Int32 → Int32 → Int32 → Option (Int32 × Int32 × Int32 × (Nat → Int32))) (v_courses : Int32) (v_wide : Int32) (v_told : Nat → Int32) (x1 : Int32) (x2 : Int32) (x3 : Int32) (x4 : Int32) (y1 : Int32) (y2 : Int32) : Option (Int32 × Int32 × Int32 × (Nat → Int32)) :=
  gd (inb y1 48) (
  k10 v_courses v_wide (upd v_told y1.toNatClampNeg y2) x1 (x2 + (1 : Int32)) x3 (x4 + (1 : Int32)))

def f_m_faultOfWall_N135 (v_typed : Nat → Int32) (v_texts : Nat → Int32) (k10 : Int32 → Int32 → (Nat → Int32) → Int32 → Int32 → Int32 → Int32 → Option (Int32 × Int32 × Int32 × (Nat → Int32))) (v_courses : Int32) (v_wide : Int32) (v_told : Nat → Int32) (x1 : Int32) (x4 : Int32) (y0 : Int32) : Option (Int32 × Int32 × Int32 × (Nat → Int32)) :=
  k10 v_courses v_wide v_told (x1 + (1 : Int32)) (0 : Int32) y0 (x4 + (1 : Int32))

def f_m_faultOfWall_N121 (v_typed : Nat → Int32) (v_texts : Nat → Int32) (k10 : Int32 → Int32 → (Nat → Int32) → Int32 → Int32 → Int32 → Int32 → Option (Int32 × Int32 × Int32 × (Nat → Int32))) (v_courses : Int32) (v_wide : Int32) (v_told : Nat → Int32) (x1 : Int32) (x2 : Int32) (x3 : Int32) (x4 : Int32) (x5 : Int32) (x6 : Int32) : Option (Int32 × Int32 × Int32 × (Nat → Int32)) :=
  if x6 = 0 then
    if x5 = (46 : Int32) then
      f_m_faultOfWall_N170 v_typed v_texts k10 v_courses v_wide v_told x1 x2 x3 x4 (((8 : Int32) * x1) + x2) (-1 : Int32)
    else
      f_m_faultOfWall_N170 v_typed v_texts k10 v_courses v_wide v_told x1 x2 x3 x4 (((8 : Int32) * x1) + x2) (x5 - (97 : Int32))
  else
    if x1 = 0 then
      f_m_faultOfWall_N135 v_typed v_texts k10 v_courses v_wide v_told x1 x4 x2
    else
      f_m_faultOfWall_N135 v_typed v_texts k10 v_courses v_wide v_told x1 x4 x3

def f_m_faultOfWall_N88 (v_typed : Nat → Int32) (v_texts : Nat → Int32) (k10 : Int32 → Int32 → (Nat → Int32) → Int32 → Int32 → Int32 → Int32 → Option (Int32 × Int32 × Int32 × (Nat → Int32))) (v_courses : Int32) (v_wide : Int32) (v_told : Nat → Int32) (x1 : Int32) (x2 : Int32) (x3 : Int32) (x4 : Int32) (x5 : Int32) (x6 : Int32) (x7 : Int32) (y0 : Int32) : Option (Int32 × Int32 × Int32 × (Nat → Int32)) :=
  if x1 = (5 : Int32) then
    some (x4, v_courses, v_wide, v_told)
  else
    if x6 = 0 then
      if y0 = 0 then
        some (x4, v_courses, v_wide, v_told)
      else
        if x2 = x3 then
          some (x4, v_courses, v_wide, v_told)
        else
          f_m_faultOfWall_N121 v_typed v_texts k10 v_courses v_wide v_told x1 x2 x3 x4 x5 x6
    else
      if x7 = 0 then
        f_m_faultOfWall_N121 v_typed v_texts k10 v_courses v_wide v_told x1 x2 x3 x4 x5 x6
      else
        some (x4, v_courses, v_wide, v_told)

def f_m_faultOfWall_N83 (v_typed : Nat → Int32) (v_texts : Nat → Int32) (k10 : Int32 → Int32 → (Nat → Int32) → Int32 → Int32 → Int32 → Int32 → Option (Int32 × Int32 × Int32 × (Nat → Int32))) (v_courses : Int32) (v_wide : Int32) (v_told : Nat → Int32) (x1 : Int32) (x2 : Int32) (x3 : Int32) (x4 : Int32) (x5 : Int32) (x6 : Int32) (x7 : Int32) : Option (Int32 × Int32 × Int32 × (Nat → Int32)) :=
  f_m_faultOfWall_N88 v_typed v_texts k10 v_courses v_wide v_told x1 x2 x3 x4 x5 x6 x7 (1 : Int32)

def f_m_faultOfWall_N62 (v_typed : Nat → Int32) (v_texts : Nat → Int32) (k10 : Int32 → Int32 → (Nat → Int32) → Int32 → Int32 → Int32 → Int32 → Option (Int32 × Int32 × Int32 × (Nat → Int32))) (v_courses : Int32) (v_wide : Int32) (v_told : Nat → Int32) (x1 : Int32) (x2 : Int32) (x3 : Int32) (x4 : Int32) (x5 : Int32) (x6 : Int32) (y0 : Int32) : Option (Int32 × Int32 × Int32 × (Nat → Int32)) :=
  if x5 = (46 : Int32) then
    f_m_faultOfWall_N83 v_typed v_texts k10 v_courses v_wide v_told x1 x2 x3 x4 x5 x6 y0
  else
    (f_m_in x5 (97 : Int32) (104 : Int32)).bind (fun o77 =>
    if o77 = 0 then
      f_m_faultOfWall_N88 v_typed v_texts k10 v_courses v_wide v_told x1 x2 x3 x4 x5 x6 y0 (0 : Int32)
    else
      f_m_faultOfWall_N83 v_typed v_texts k10 v_courses v_wide v_told x1 x2 x3 x4 x5 x6 y0)

def f_m_faultOfWall_N57 (v_typed : Nat → Int32) (v_texts : Nat → Int32) (k10 : Int32 → Int32 → (Nat → Int32) → Int32 → Int32 → Int32 → Int32 → Option (Int32 × Int32 × Int32 × (Nat → Int32))) (v_courses : Int32) (v_wide : Int32) (v_told : Nat → Int32) (x1 : Int32) (x2 : Int32) (x3 : Int32) (x4 : Int32) (x5 : Int32) (x6 : Int32) : Option (Int32 × Int32 × Int32 × (Nat → Int32)) :=
  f_m_faultOfWall_N62 v_typed v_texts k10 v_courses v_wide v_told x1 x2 x3 x4 x5 x6 (1 : Int32)

def f_m_faultOfWall_N61 (v_typed : Nat → Int32) (v_texts : Nat → Int32) (k10 : Int32 → Int32 → (Nat → Int32) → Int32 → Int32 → Int32 → Int32 → Option (Int32 × Int32 × Int32 × (Nat → Int32))) (v_courses : Int32) (v_wide : Int32) (v_told : Nat → Int32) (x1 : Int32) (x2 : Int32) (x3 : Int32) (x4 : Int32) (x5 : Int32) (x6 : Int32) : Option (Int32 × Int32 × Int32 × (Nat → Int32)) :=
  f_m_faultOfWall_N62 v_typed v_texts k10 v_courses v_wide v_told x1 x2 x3 x4 x5 x6 (0 : Int32)

def f_m_faultOfWall_N42 (v_typed : Nat → Int32) (v_texts : Nat → Int32) (k10 : Int32 → Int32 → (Nat → Int32) → Int32 → Int32 → Int32 → Int32 → Option (Int32 × Int32 × Int32 × (Nat → Int32))) (v_courses : Int32) (v_wide : Int32) (v_told : Nat → Int32) (x1 : Int32) (x2 : Int32) (x3 : Int32) (x4 : Int32) (x5 : Int32) (y0 : Int32) : Option (Int32 × Int32 × Int32 × (Nat → Int32)) :=
  if x2 = 0 then
    f_m_faultOfWall_N57 v_typed v_texts k10 v_courses v_wide v_told x1 x2 x3 x4 x5 y0
  else
    if x1 ≤ 0 then
      f_m_faultOfWall_N61 v_typed v_texts k10 v_courses v_wide v_told x1 x2 x3 x4 x5 y0
    else
      if x3 ≤ x2 then
        f_m_faultOfWall_N61 v_typed v_texts k10 v_courses v_wide v_told x1 x2 x3 x4 x5 y0
      else
        f_m_faultOfWall_N57 v_typed v_texts k10 v_courses v_wide v_told x1 x2 x3 x4 x5 y0

def f_m_faultOfWall_N10 (v_typed : Nat → Int32) (v_texts : Nat → Int32) (k10 : Int32 → Int32 → (Nat → Int32) → Int32 → Int32 → Int32 → Int32 → Option (Int32 × Int32 × Int32 × (Nat → Int32))) (v_courses : Int32) (v_wide : Int32) (v_told : Nat → Int32) (x1 : Int32) (x2 : Int32) (x3 : Int32) (x4 : Int32) : Option (Int32 × Int32 × Int32 × (Nat → Int32)) :=
  gd (inb (0 : Int32) 2) (
  if (v_typed (0 : Int32).toNatClampNeg) ≤ x4 then
    gd (inb (0 : Int32) 2) (
    if (v_typed (0 : Int32).toNatClampNeg) ≤ 0 then
      f_m_faultOfWall_N209 v_typed v_texts v_courses v_wide v_told x1 x2
    else
      if x2 = 0 then
        gd (inb (0 : Int32) 2) (
        some (v_typed (0 : Int32).toNatClampNeg, v_courses, v_wide, v_told))
      else
        if x1 ≤ 0 then
          f_m_faultOfWall_N209 v_typed v_texts v_courses v_wide v_told x1 x2
        else
          if x3 ≤ x2 then
            f_m_faultOfWall_N209 v_typed v_texts v_courses v_wide v_told x1 x2
          else
            gd (inb (0 : Int32) 2) (
            some (v_typed (0 : Int32).toNatClampNeg, v_courses, v_wide, v_told)))
  else
    gd (inb x4 88) (
    if (v_texts x4.toNatClampNeg) = (59 : Int32) then
      f_m_faultOfWall_N42 v_typed v_texts k10 v_courses v_wide v_told x1 x2 x3 x4 (v_texts x4.toNatClampNeg) (1 : Int32)
    else
      f_m_faultOfWall_N42 v_typed v_texts k10 v_courses v_wide v_told x1 x2 x3 x4 (v_texts x4.toNatClampNeg) (0 : Int32)))

def f_m_faultOfWall (v_courses : Int32) (v_wide : Int32) (v_typed : Nat → Int32) (v_texts : Nat → Int32) (v_told : Nat → Int32) : Option (Int32 × Int32 × Int32 × (Nat → Int32)) :=
  iter (fun _ _ _ _ _ _ _ => none) (f_m_faultOfWall_N10 v_typed v_texts) 1000 v_courses v_wide v_told (0 : Int32) (0 : Int32) (8 : Int32) (0 : Int32)

-- WallHandsModel.readsWall()I
def f_m_readsWall (v_courses : Int32) (v_wide : Int32) (v_typed : Nat → Int32) (v_texts : Nat → Int32) (v_told : Nat → Int32) : Option (Int32 × Int32 × Int32 × (Nat → Int32)) :=
  (f_m_noWall v_courses v_wide v_told).bind (fun o1 =>
  (f_m_faultOfWall o1.1 o1.2.1 v_typed v_texts o1.2.2).bind (fun o5 =>
  if o5.1 = (-1 : Int32) then
    some (o5.1, o5.2.1, o5.2.2.1, o5.2.2.2)
  else
    (f_m_noWall o5.2.1 o5.2.2.1 o5.2.2.2).bind (fun o15 =>
    some (o5.1, o15.1, o15.2.1, o15.2.2))))

-- WallHandsModel.handByte(I)I
def f_m_handByte (v_typed : Nat → Int32) (v_texts : Nat → Int32) (a0 : Int32) : Option Int32 :=
  gd (inb (1 : Int32) 2) (
  if (v_typed (1 : Int32).toNatClampNeg) ≤ a0 then
    some (-1 : Int32)
  else
    gd (inb ((44 : Int32) + a0) 88) (
    some (v_texts ((44 : Int32) + a0).toNatClampNeg)))

-- WallHandsModel.readsHand(II)I
def f_m_readsHand_N47 (v_typed : Nat → Int32) (v_texts : Nat → Int32) (v_moods : Nat → Int32) (v_strongs : Nat → Int32) (x1 : Int32) (x2 : Int32) (y0 : Int32) : Option (Int32 × (Nat → Int32) × (Nat → Int32)) :=
  (f_m_handByte v_typed v_texts (x2 + (1 : Int32))).bind (fun o53 =>
  if x1 = (8 : Int32) then
    some ((0 : Int32), v_moods, v_strongs)
  else
    if y0 = (-1 : Int32) then
      some ((0 : Int32), v_moods, v_strongs)
    else
      (f_m_in o53 (49 : Int32) (57 : Int32)).bind (fun o78 =>
      if o78 = 0 then
        some ((1 : Int32), v_moods, v_strongs)
      else
        gd (inb x1 9) (
        gd (inb x1 9) (
        some ((2 : Int32), upd v_moods x1.toNatClampNeg y0, upd v_strongs x1.toNatClampNeg (o53 - (48 : Int32)))))))

def f_m_readsHand (v_typed : Nat → Int32) (v_texts : Nat → Int32) (v_moods : Nat → Int32) (v_strongs : Nat → Int32) (a0 : Int32) (a1 : Int32) : Option (Int32 × (Nat → Int32) × (Nat → Int32)) :=
  (f_m_handByte v_typed v_texts a1).bind (fun o2 =>
  if o2 = (112 : Int32) then
    f_m_readsHand_N47 v_typed v_texts v_moods v_strongs a0 a1 (0 : Int32)
  else
    if o2 = (116 : Int32) then
      f_m_readsHand_N47 v_typed v_texts v_moods v_strongs a0 a1 (1 : Int32)
    else
      if o2 = (108 : Int32) then
        f_m_readsHand_N47 v_typed v_texts v_moods v_strongs a0 a1 (2 : Int32)
      else
        if o2 = (115 : Int32) then
          f_m_readsHand_N47 v_typed v_texts v_moods v_strongs a0 a1 (3 : Int32)
        else
          f_m_readsHand_N47 v_typed v_texts v_moods v_strongs a0 a1 (-1 : Int32))

-- WallHandsModel.readsHands()I
def f_m_readsHands_N23 (v_typed : Nat → Int32) (v_texts : Nat → Int32) (k9 : Int32 → (Nat → Int32) → (Nat → Int32) → Int32 → Int32 → Option (Int32 × Int32 × (Nat → Int32) × (Nat → Int32))) (v_hands : Int32) (v_moods : Nat → Int32) (v_strongs : Nat → Int32) (x1 : Int32) (x2 : Int32) : Option (Int32 × Int32 × (Nat → Int32) × (Nat → Int32)) :=
  (f_m_readsHand v_typed v_texts v_moods v_strongs x1 x2).bind (fun o26 =>
  if (2 : Int32) ≤ o26.1 then
    gd (inb (1 : Int32) 2) (
    if (x2 + (2 : Int32)) = (v_typed (1 : Int32).toNatClampNeg) then
      some ((-1 : Int32), x1 + (1 : Int32), o26.2.1, o26.2.2)
    else
      (f_m_handByte v_typed v_texts (x2 + (2 : Int32))).bind (fun o64 =>
      if o64 = (59 : Int32) then
        k9 v_hands o26.2.1 o26.2.2 (x1 + (1 : Int32)) ((x2 + (2 : Int32)) + (1 : Int32))
      else
        some (x2 + (2 : Int32), v_hands, o26.2.1, o26.2.2)))
  else
    some (x2 + o26.1, v_hands, o26.2.1, o26.2.2))

def f_m_readsHands_N9 (v_typed : Nat → Int32) (v_texts : Nat → Int32) (k9 : Int32 → (Nat → Int32) → (Nat → Int32) → Int32 → Int32 → Option (Int32 × Int32 × (Nat → Int32) × (Nat → Int32))) (v_hands : Int32) (v_moods : Nat → Int32) (v_strongs : Nat → Int32) (x1 : Int32) (x2 : Int32) : Option (Int32 × Int32 × (Nat → Int32) × (Nat → Int32)) :=
  gd (inb (1 : Int32) 2) (
  if x2 < (v_typed (1 : Int32).toNatClampNeg) then
    f_m_readsHands_N23 v_typed v_texts k9 v_hands v_moods v_strongs x1 x2
  else
    if x2 ≤ 0 then
      some ((-1 : Int32), v_hands, v_moods, v_strongs)
    else
      f_m_readsHands_N23 v_typed v_texts k9 v_hands v_moods v_strongs x1 x2)

def f_m_readsHands (v_hands : Int32) (v_typed : Nat → Int32) (v_texts : Nat → Int32) (v_moods : Nat → Int32) (v_strongs : Nat → Int32) : Option (Int32 × Int32 × (Nat → Int32) × (Nat → Int32)) :=
  iter (fun _ _ _ _ _ => none) (f_m_readsHands_N9 v_typed v_texts) 1000 (0 : Int32) v_moods v_strongs (0 : Int32) (0 : Int32)

-- WallHandsModel.faultOf(I)I
def f_m_faultOf (v_courses : Int32) (v_wide : Int32) (v_hands : Int32) (v_typed : Nat → Int32) (v_texts : Nat → Int32) (v_told : Nat → Int32) (v_moods : Nat → Int32) (v_strongs : Nat → Int32) (a0 : Int32) : Option (Int32 × Int32 × Int32 × Int32 × (Nat → Int32) × (Nat → Int32) × (Nat → Int32)) :=
  (f_m_readsWall v_courses v_wide v_typed v_texts v_told).bind (fun o1 =>
  (f_m_readsHands v_hands v_typed v_texts v_moods v_strongs).bind (fun o6 =>
  if a0 = 0 then
    some (o1.1, o1.2.1, o1.2.2.1, o6.2.1, o1.2.2.2, o6.2.2.1, o6.2.2.2)
  else
    some (o6.1, o1.2.1, o1.2.2.1, o6.2.1, o1.2.2.2, o6.2.2.1, o6.2.2.2)))

-- WallHandsModel.reads()V
def f_m_reads (v_courses : Int32) (v_wide : Int32) (v_hands : Int32) (v_typed : Nat → Int32) (v_texts : Nat → Int32) (v_told : Nat → Int32) (v_moods : Nat → Int32) (v_strongs : Nat → Int32) : Option (Int32 × Int32 × Int32 × (Nat → Int32) × (Nat → Int32) × (Nat → Int32)) :=
  (f_m_faultOf v_courses v_wide v_hands v_typed v_texts v_told v_moods v_strongs (0 : Int32)).bind (fun o2 =>
  some (o2.2.1, o2.2.2.1, o2.2.2.2.1, o2.2.2.2.2.1, o2.2.2.2.2.2.1, o2.2.2.2.2.2.2))

-- WallHandsModel.fault(I)I
def f_m_fault (v_courses : Int32) (v_wide : Int32) (v_hands : Int32) (v_typed : Nat → Int32) (v_texts : Nat → Int32) (v_told : Nat → Int32) (v_moods : Nat → Int32) (v_strongs : Nat → Int32) (a0 : Int32) : Option (Int32 × Int32 × Int32 × Int32 × (Nat → Int32) × (Nat → Int32) × (Nat → Int32)) :=
  (f_m_isText a0).bind (fun o1 =>
  if o1 = 0 then
    some ((-2 : Int32), v_courses, v_wide, v_hands, v_told, v_moods, v_strongs)
  else
    (f_m_faultOf v_courses v_wide v_hands v_typed v_texts v_told v_moods v_strongs a0).bind (fun o9 =>
    some (o9.1, o9.2.1, o9.2.2.1, o9.2.2.2.1, o9.2.2.2.2.1, o9.2.2.2.2.2.1, o9.2.2.2.2.2.2)))

-- WallHandsModel.isHand(I)Z
def f_m_isHand (v_courses : Int32) (v_wide : Int32) (v_hands : Int32) (v_typed : Nat → Int32) (v_texts : Nat → Int32) (v_told : Nat → Int32) (v_moods : Nat → Int32) (v_strongs : Nat → Int32) (a0 : Int32) : Option (Int32 × Int32 × Int32 × Int32 × (Nat → Int32) × (Nat → Int32) × (Nat → Int32)) :=
  (f_m_reads v_courses v_wide v_hands v_typed v_texts v_told v_moods v_strongs).bind (fun o1 =>
  (f_m_in a0 (0 : Int32) (o1.2.2.1 - (1 : Int32))).bind (fun o12 =>
  gd (isB o12) (
  some (o12, o1.1, o1.2.1, o1.2.2.1, o1.2.2.2.1, o1.2.2.2.2.1, o1.2.2.2.2.2))))

-- WallHandsModel.stoneOf(I)I
def f_m_stoneOf (v_courses : Int32) (v_wide : Int32) (v_hands : Int32) (v_typed : Nat → Int32) (v_texts : Nat → Int32) (v_told : Nat → Int32) (v_moods : Nat → Int32) (v_strongs : Nat → Int32) (a0 : Int32) : Option (Int32 × Int32 × Int32 × Int32 × (Nat → Int32) × (Nat → Int32) × (Nat → Int32)) :=
  (f_m_reads v_courses v_wide v_hands v_typed v_texts v_told v_moods v_strongs).bind (fun o1 =>
  gd (inb a0 48) (
  some (o1.2.2.2.1 a0.toNatClampNeg, o1.1, o1.2.1, o1.2.2.1, o1.2.2.2.1, o1.2.2.2.2.1, o1.2.2.2.2.2)))

-- WallHandsModel.stone(II)I
def f_m_stone (v_courses : Int32) (v_wide : Int32) (v_hands : Int32) (v_typed : Nat → Int32) (v_texts : Nat → Int32) (v_told : Nat → Int32) (v_moods : Nat → Int32) (v_strongs : Nat → Int32) (a0 : Int32) (a1 : Int32) : Option (Int32 × Int32 × Int32 × Int32 × (Nat → Int32) × (Nat → Int32) × (Nat → Int32)) :=
  (f_m_isPlace a0 a1).bind (fun o2 =>
  if o2 = 0 then
    some ((-2 : Int32), v_courses, v_wide, v_hands, v_told, v_moods, v_strongs)
  else
    (f_m_stoneOf v_courses v_wide v_hands v_typed v_texts v_told v_moods v_strongs (((8 : Int32) * a0) + a1)).bind (fun o15 =>
    some (o15.1, o15.2.1, o15.2.2.1, o15.2.2.2.1, o15.2.2.2.2.1, o15.2.2.2.2.2.1, o15.2.2.2.2.2.2)))

-- WallHandsModel.handOf(II)I
def f_m_handOf (v_moods : Nat → Int32) (v_strongs : Nat → Int32) (a0 : Int32) (a1 : Int32) : Option Int32 :=
  if a1 = 0 then
    gd (inb a0 9) (
    some (v_moods a0.toNatClampNeg))
  else
    gd (inb a0 9) (
    some (v_strongs a0.toNatClampNeg))

-- WallHandsModel.hand(II)I
def f_m_hand (v_courses : Int32) (v_wide : Int32) (v_hands : Int32) (v_typed : Nat → Int32) (v_texts : Nat → Int32) (v_told : Nat → Int32) (v_moods : Nat → Int32) (v_strongs : Nat → Int32) (a0 : Int32) (a1 : Int32) : Option (Int32 × Int32 × Int32 × Int32 × (Nat → Int32) × (Nat → Int32) × (Nat → Int32)) :=
  (f_m_isHand v_courses v_wide v_hands v_typed v_texts v_told v_moods v_strongs a0).bind (fun o2 =>
  if o2.1 = 0 then
    some ((-2 : Int32), o2.2.1, o2.2.2.1, o2.2.2.2.1, o2.2.2.2.2.1, o2.2.2.2.2.2.1, o2.2.2.2.2.2.2)
  else
    (f_m_in a1 (0 : Int32) (1 : Int32)).bind (fun o11 =>
    if o11 = 0 then
      some ((-2 : Int32), o2.2.1, o2.2.2.1, o2.2.2.2.1, o2.2.2.2.2.1, o2.2.2.2.2.2.1, o2.2.2.2.2.2.2)
    else
      (f_m_handOf o2.2.2.2.2.2.1 o2.2.2.2.2.2.2 a0 a1).bind (fun o20 =>
      some (o20, o2.2.1, o2.2.2.1, o2.2.2.2.1, o2.2.2.2.2.1, o2.2.2.2.2.2.1, o2.2.2.2.2.2.2))))

-- WallHandsModel.jump(I)I
def f_m_jump (v_jumpTold : Int32) (a0 : Int32) : Option (Int32 × Int32) :=
  (f_m_in a0 (1 : Int32) (5 : Int32)).bind (fun o3 =>
  if o3 = 0 then
    some ((-2 : Int32), v_jumpTold)
  else
    some (v_jumpTold, a0))

-- WallHandsModel.frost(II)I
def f_m_frost (v_frosts : Int32) (v_frostYear : Nat → Int32) (v_frostForce : Nat → Int32) (a0 : Int32) (a1 : Int32) : Option (Int32 × Int32 × (Nat → Int32) × (Nat → Int32)) :=
  (f_m_isYear a0).bind (fun o1 =>
  if o1 = 0 then
    some ((-2 : Int32), v_frosts, v_frostYear, v_frostForce)
  else
    (f_m_in a1 (1 : Int32) (15 : Int32)).bind (fun o11 =>
    if o11 = 0 then
      some ((-2 : Int32), v_frosts, v_frostYear, v_frostForce)
    else
      if v_frosts = (6 : Int32) then
        some ((-4 : Int32), v_frosts, v_frostYear, v_frostForce)
      else
        gd (inb v_frosts 6) (
        gd (inb v_frosts 6) (
        some (v_frosts + (1 : Int32), v_frosts + (1 : Int32), upd v_frostYear v_frosts.toNatClampNeg a0, upd v_frostForce v_frosts.toNatClampNeg a1)))))

-- WallHandsModel.gapping(III)I
def f_m_gapping (v_gaps : Int32) (v_gapYear : Nat → Int32) (v_gapColumn : Nat → Int32) (v_gapHand : Nat → Int32) (a0 : Int32) (a1 : Int32) (a2 : Int32) : Option (Int32 × Int32 × (Nat → Int32) × (Nat → Int32) × (Nat → Int32)) :=
  (f_m_isYear a0).bind (fun o1 =>
  if o1 = 0 then
    some ((-2 : Int32), v_gaps, v_gapYear, v_gapColumn, v_gapHand)
  else
    (f_m_isEight a1).bind (fun o8 =>
    if o8 = 0 then
      some ((-2 : Int32), v_gaps, v_gapYear, v_gapColumn, v_gapHand)
    else
      (f_m_isEight a2).bind (fun o15 =>
      if o15 = 0 then
        some ((-2 : Int32), v_gaps, v_gapYear, v_gapColumn, v_gapHand)
      else
        if v_gaps = (6 : Int32) then
          some ((-4 : Int32), v_gaps, v_gapYear, v_gapColumn, v_gapHand)
        else
          gd (inb v_gaps 7) (
          gd (inb v_gaps 7) (
          gd (inb v_gaps 7) (
          some (v_gaps + (1 : Int32), v_gaps + (1 : Int32), upd v_gapYear v_gaps.toNatClampNeg a0, upd v_gapColumn v_gaps.toNatClampNeg a1, upd v_gapHand v_gaps.toNatClampNeg a2)))))))

-- WallHandsModel.back(I)I
def f_m_back_N49 (v_frosts : Int32) (v_gaps : Int32) (x1 : Int32) (x2 : Int32) (y1 : Int32) (y2 : Int32) : Option (Int32 × Int32 × Int32) :=
  if x1 = (1 : Int32) then
    some (x2 - (1 : Int32), y1 - y2, v_gaps - (1 : Int32))
  else
    some (x2 - (1 : Int32), y1 - y2, v_gaps - (0 : Int32))

def f_m_back_N27 (v_frosts : Int32) (v_gaps : Int32) (x1 : Int32) (y0 : Int32) : Option (Int32 × Int32 × Int32) :=
  if y0 = 0 then
    some ((-3 : Int32), v_frosts, v_gaps)
  else
    if x1 = 0 then
      f_m_back_N49 v_frosts v_gaps x1 y0 v_frosts (1 : Int32)
    else
      f_m_back_N49 v_frosts v_gaps x1 y0 v_frosts (0 : Int32)

def f_m_back (v_frosts : Int32) (v_gaps : Int32) (a0 : Int32) : Option (Int32 × Int32 × Int32) :=
  (f_m_in a0 (0 : Int32) (1 : Int32)).bind (fun o3 =>
  if o3 = 0 then
    some ((-2 : Int32), v_frosts, v_gaps)
  else
    if a0 = 0 then
      f_m_back_N27 v_frosts v_gaps a0 v_frosts
    else
      f_m_back_N27 v_frosts v_gaps a0 v_gaps)

-- WallHandsModel.isSheet(I)Z
def f_m_isSheet (a0 : Int32) : Option Int32 :=
  (f_m_in a0 (0 : Int32) (3 : Int32)).bind (fun o3 =>
  gd (isB o3) (
  some o3))

-- WallHandsModel.meets(I)I
def f_m_meets (v_finding : Int32) (a0 : Int32) : Option (Int32 × Int32) :=
  some ((-10 : Int32) - a0, a0)

-- WallHandsModel.read(I)I
def f_m_read_N27 (v_isThere : Nat → Int32) (v_sizes : Nat → Int32) (v_items : Nat → Int32) (k27 : Int32 → Int32 → (Nat → Int32) → (Nat → Int32) → Int32 → Int32 → Option (Int32 × Int32 × Int32 × (Nat → Int32) × (Nat → Int32))) (v_frosts : Int32) (v_finding : Int32) (v_frostYear : Nat → Int32) (v_frostForce : Nat → Int32) (x1 : Int32) (x2 : Int32) : Option (Int32 × Int32 × Int32 × (Nat → Int32) × (Nat → Int32)) :=
  gd (inb x1 4) (
  if (v_sizes x1.toNatClampNeg) ≤ (((2 : Int32) * x2) + (1 : Int32)) then
    some (x2, v_frosts, v_finding, v_frostYear, v_frostForce)
  else
    gd (inb (((60 : Int32) * x1) + ((2 : Int32) * x2)) 240) (
    gd (inb ((((60 : Int32) * x1) + ((2 : Int32) * x2)) + (1 : Int32)) 240) (
    (f_m_frost v_frosts v_frostYear v_frostForce (v_items (((60 : Int32) * x1) + ((2 : Int32) * x2)).toNatClampNeg) (v_items ((((60 : Int32) * x1) + ((2 : Int32) * x2)) + (1 : Int32)).toNatClampNeg)).bind (fun o70 =>
    if o70.1 ≤ 0 then
      some (x2, o70.2.1, v_finding, o70.2.2.1, o70.2.2.2)
    else
      k27 o70.2.1 v_finding o70.2.2.1 o70.2.2.2 x1 (x2 + (1 : Int32))))))

def f_m_read (v_frosts : Int32) (v_finding : Int32) (v_frostYear : Nat → Int32) (v_frostForce : Nat → Int32) (v_isThere : Nat → Int32) (v_sizes : Nat → Int32) (v_items : Nat → Int32) (a0 : Int32) : Option (Int32 × Int32 × Int32 × (Nat → Int32) × (Nat → Int32)) :=
  (f_m_isSheet a0).bind (fun o1 =>
  if o1 = 0 then
    some ((-2 : Int32), v_frosts, v_finding, v_frostYear, v_frostForce)
  else
    gd (inb a0 4) (
    if (v_isThere a0.toNatClampNeg) = 0 then
      (f_m_meets v_finding (1 : Int32)).bind (fun o21 =>
      some (o21.1, v_frosts, o21.2, v_frostYear, v_frostForce))
    else
      iter (fun _ _ _ _ _ _ => none) (f_m_read_N27 v_isThere v_sizes v_items) 1000 v_frosts v_finding v_frostYear v_frostForce a0 (0 : Int32)))

-- WallHandsModel.asTold()V
def f_m_asTold_N14 (v_frosts : Int32) (v_gaps : Int32) (v_typed : Nat → Int32) (v_texts : Nat → Int32) (v_frostYear : Nat → Int32) (v_frostForce : Nat → Int32) (k14 : Int32 → Int32 → Int32 → Int32 → Int32 → Int32 → (Nat → Int32) → (Nat → Int32) → (Nat → Int32) → (Nat → Int32) → (Nat → Int32) → Int32 → Option (Int32 × Int32 × Int32 × Int32 × Int32 × Int32 × (Nat → Int32) × (Nat → Int32) × (Nat → Int32) × (Nat → Int32) × (Nat → Int32))) (v_courses : Int32) (v_wide : Int32) (v_hands : Int32) (v_frostsNow : Int32) (v_notFrosts : Int32) (v_gapsNow : Int32) (v_told : Nat → Int32) (v_moods : Nat → Int32) (v_strongs : Nat → Int32) (v_yearNow : Nat → Int32) (v_forceNow : Nat → Int32) (x1 : Int32) : Option (Int32 × Int32 × Int32 × Int32 × Int32 × Int32 × (Nat → Int32) × (Nat → Int32) × (Nat → Int32) × (Nat → Int32) × (Nat → Int32)) :=
  if v_frosts ≤ x1 then
    some (v_courses, v_wide, v_hands, v_frostsNow, (0 : Int32), v_gaps, v_told, v_moods, v_strongs, v_yearNow, v_forceNow)
  else
    gd (inb x1 6) (
    gd (inb x1 6) (
    gd (inb x1 6) (
    gd (inb x1 6) (
    k14 v_courses v_wide v_hands v_frostsNow v_notFrosts v_gapsNow v_told v_moods v_strongs (upd v_yearNow x1.toNatClampNeg (v_frostYear x1.toNatClampNeg)) (upd v_forceNow x1.toNatClampNeg (v_frostForce x1.toNatClampNeg)) (x1 + (1 : Int32))))))

def f_m_asTold (v_courses : Int32) (v_wide : Int32) (v_hands : Int32) (v_frosts : Int32) (v_gaps : Int32) (v_frostsNow : Int32) (v_notFrosts : Int32) (v_gapsNow : Int32) (v_typed : Nat → Int32) (v_texts : Nat → Int32) (v_told : Nat → Int32) (v_moods : Nat → Int32) (v_strongs : Nat → Int32) (v_frostYear : Nat → Int32) (v_frostForce : Nat → Int32) (v_yearNow : Nat → Int32) (v_forceNow : Nat → Int32) : Option (Int32 × Int32 × Int32 × Int32 × Int32 × Int32 × (Nat → Int32) × (Nat → Int32) × (Nat → Int32) × (Nat → Int32) × (Nat → Int32)) :=
  (f_m_reads v_courses v_wide v_hands v_typed v_texts v_told v_moods v_strongs).bind (fun o1 =>
  iter (fun _ _ _ _ _ _ _ _ _ _ _ _ => none) (f_m_asTold_N14 v_frosts v_gaps v_typed v_texts v_frostYear v_frostForce) 1000 o1.1 o1.2.1 o1.2.2.1 v_frosts v_notFrosts v_gapsNow o1.2.2.2.1 o1.2.2.2.2.1 o1.2.2.2.2.2 v_yearNow v_forceNow (0 : Int32))

-- WallHandsModel.handNow(II)I
def f_m_handNow (v_courses : Int32) (v_wide : Int32) (v_wall : Nat → Int32) (a0 : Int32) (a1 : Int32) : Option Int32 :=
  (f_m_in a0 (0 : Int32) (v_courses - (1 : Int32))).bind (fun o8 =>
  if o8 = 0 then
    some (-1 : Int32)
  else
    (f_m_in a1 (0 : Int32) (v_wide - (1 : Int32))).bind (fun o22 =>
    if o22 = 0 then
      some (-1 : Int32)
    else
      gd (inb (((8 : Int32) * a0) + a1) 40) (
      some (v_wall (((8 : Int32) * a0) + a1).toNatClampNeg))))

-- WallHandsModel.isBorne(II)Z
def f_m_isBorne_N51 (v_courses : Int32) (v_wide : Int32) (v_wall : Nat → Int32) (x1 : Int32) (x3 : Int32) (y0 : Int32) : Option Int32 :=
  if x1 = 0 then
    some (1 : Int32)
  else
    if x3 = 0 then
      if y0 = 0 then
        some (0 : Int32)
      else
        some (1 : Int32)
    else
      some (1 : Int32)

def f_m_isBorne_N50 (v_courses : Int32) (v_wide : Int32) (v_wall : Nat → Int32) (x1 : Int32) (x3 : Int32) : Option Int32 :=
  f_m_isBorne_N51 v_courses v_wide v_wall x1 x3 (0 : Int32)

def f_m_isBorne_N17 (v_courses : Int32) (v_wide : Int32) (v_wall : Nat → Int32) (x1 : Int32) (x2 : Int32) (y0 : Int32) : Option Int32 :=
  (f_m_handNow v_courses v_wide v_wall (x1 - (1 : Int32)) (x2 - (1 : Int32))).bind (fun o25 =>
  if o25 = (-1 : Int32) then
    f_m_isBorne_N50 v_courses v_wide v_wall x1 y0
  else
    (f_m_handNow v_courses v_wide v_wall (x1 - (1 : Int32)) (x2 + (1 : Int32))).bind (fun o39 =>
    if o39 = (-1 : Int32) then
      f_m_isBorne_N50 v_courses v_wide v_wall x1 y0
    else
      f_m_isBorne_N51 v_courses v_wide v_wall x1 y0 (1 : Int32)))

def f_m_isBorne (v_courses : Int32) (v_wide : Int32) (v_wall : Nat → Int32) (a0 : Int32) (a1 : Int32) : Option Int32 :=
  (f_m_handNow v_courses v_wide v_wall (a0 - (1 : Int32)) a1).bind (fun o5 =>
  if o5 = (-1 : Int32) then
    f_m_isBorne_N17 v_courses v_wide v_wall a0 a1 (0 : Int32)
  else
    f_m_isBorne_N17 v_courses v_wide v_wall a0 a1 (1 : Int32))

-- WallHandsModel.alike(II)I
def f_m_alike (a0 : Int32) (a1 : Int32) : Option Int32 :=
  if a1 = a0 then
    some (1 : Int32)
  else
    some (0 : Int32)

-- WallHandsModel.unlike(II)I
def f_m_unlike (a0 : Int32) (a1 : Int32) : Option Int32 :=
  if a1 = (-1 : Int32) then
    some (0 : Int32)
  else
    if a1 = a0 then
      some (0 : Int32)
    else
      some (1 : Int32)

-- WallHandsModel.isLover(I)Z
def f_m_isLover (v_hands : Int32) (v_moods : Nat → Int32) (a0 : Int32) : Option Int32 :=
  if a0 = (-1 : Int32) then
    some (0 : Int32)
  else
    if v_hands ≤ a0 then
      some (0 : Int32)
    else
      gd (inb a0 9) (
      if (v_moods a0.toNatClampNeg) = (2 : Int32) then
        some (1 : Int32)
      else
        some (0 : Int32))

-- WallHandsModel.loves(II)Z
def f_m_loves (v_hands : Int32) (v_moods : Nat → Int32) (a0 : Int32) (a1 : Int32) : Option Int32 :=
  if a1 = a0 then
    some (0 : Int32)
  else
    (f_m_isLover v_hands v_moods a1).bind (fun o7 =>
    if o7 = 0 then
      some (0 : Int32)
    else
      some (1 : Int32))

-- WallHandsModel.holds(II)I
def f_m_holds_N213 (v_courses : Int32) (v_wide : Int32) (v_hands : Int32) (v_moods : Nat → Int32) (v_strongs : Nat → Int32) (v_wall : Nat → Int32) (y0 : Int32) (y1 : Int32) : Option Int32 :=
  if (y0 - y1) ≤ 0 then
    some (0 : Int32)
  else
    some (y0 - y1)

def f_m_holds_N196 (v_courses : Int32) (v_wide : Int32) (v_hands : Int32) (v_moods : Nat → Int32) (v_strongs : Nat → Int32) (v_wall : Nat → Int32) (x1 : Int32) (x3 : Int32) (x8 : Int32) : Option Int32 :=
  gd (inb x3 9) (
  if (v_moods x3.toNatClampNeg) = (3 : Int32) then
    f_m_holds_N213 v_courses v_wide v_hands v_moods v_strongs v_wall x8 x1
  else
    f_m_holds_N213 v_courses v_wide v_hands v_moods v_strongs v_wall x8 (0 : Int32))

def f_m_holds_N193 (v_courses : Int32) (v_wide : Int32) (v_hands : Int32) (v_moods : Nat → Int32) (v_strongs : Nat → Int32) (v_wall : Nat → Int32) (x1 : Int32) (x3 : Int32) (x8 : Int32) : Option Int32 :=
  f_m_holds_N196 v_courses v_wide v_hands v_moods v_strongs v_wall x1 x3 (x8 + (2 : Int32))

def f_m_holds_N143 (v_courses : Int32) (v_wide : Int32) (v_hands : Int32) (v_moods : Nat → Int32) (v_strongs : Nat → Int32) (v_wall : Nat → Int32) (x1 : Int32) (x3 : Int32) (x4 : Int32) (x5 : Int32) (x6 : Int32) (x7 : Int32) (x8 : Int32) : Option Int32 :=
  gd (inb x3 9) (
  if (v_moods x3.toNatClampNeg) = (2 : Int32) then
    (f_m_loves v_hands v_moods x3 x4).bind (fun o157 =>
    if o157 = 0 then
      (f_m_loves v_hands v_moods x3 x5).bind (fun o167 =>
      if o167 = 0 then
        (f_m_loves v_hands v_moods x3 x6).bind (fun o177 =>
        if o177 = 0 then
          (f_m_loves v_hands v_moods x3 x7).bind (fun o187 =>
          if o187 = 0 then
            f_m_holds_N196 v_courses v_wide v_hands v_moods v_strongs v_wall x1 x3 x8
          else
            f_m_holds_N193 v_courses v_wide v_hands v_moods v_strongs v_wall x1 x3 x8)
        else
          f_m_holds_N193 v_courses v_wide v_hands v_moods v_strongs v_wall x1 x3 x8)
      else
        f_m_holds_N193 v_courses v_wide v_hands v_moods v_strongs v_wall x1 x3 x8)
    else
      f_m_holds_N193 v_courses v_wide v_hands v_moods v_strongs v_wall x1 x3 x8)
  else
    f_m_holds_N196 v_courses v_wide v_hands v_moods v_strongs v_wall x1 x3 x8)

def f_m_holds (v_courses : Int32) (v_wide : Int32) (v_hands : Int32) (v_moods : Nat → Int32) (v_strongs : Nat → Int32) (v_wall : Nat → Int32) (a0 : Int32) (a1 : Int32) : Option Int32 :=
  (f_m_handNow v_courses v_wide v_wall a0 a1).bind (fun o3 =>
  if o3 < v_hands then
    (f_m_handNow v_courses v_wide v_wall a0 (a1 - (1 : Int32))).bind (fun o22 =>
    (f_m_handNow v_courses v_wide v_wall a0 (a1 + (1 : Int32))).bind (fun o32 =>
    (f_m_handNow v_courses v_wide v_wall (a0 - (1 : Int32)) a1).bind (fun o42 =>
    (f_m_handNow v_courses v_wide v_wall (a0 + (1 : Int32)) a1).bind (fun o52 =>
    gd (inb o3 9) (
    (f_m_alike o3 o22).bind (fun o67 =>
    (f_m_alike o3 o32).bind (fun o75 =>
    (f_m_alike o3 o42).bind (fun o83 =>
    (f_m_alike o3 o52).bind (fun o91 =>
    gd (inb o3 9) (
    if (v_moods o3.toNatClampNeg) = (1 : Int32) then
      (f_m_unlike o3 o22).bind (fun o113 =>
      (f_m_unlike o3 o32).bind (fun o120 =>
      (f_m_unlike o3 o42).bind (fun o128 =>
      (f_m_unlike o3 o52).bind (fun o136 =>
      f_m_holds_N143 v_courses v_wide v_hands v_moods v_strongs v_wall a0 o3 o22 o32 o42 o52 ((((((v_strongs o3.toNatClampNeg) + o67) + o75) + o83) + o91) - (((o113 + o120) + o128) + o136))))))
    else
      f_m_holds_N143 v_courses v_wide v_hands v_moods v_strongs v_wall a0 o3 o22 o32 o42 o52 (((((v_strongs o3.toNatClampNeg) + o67) + o75) + o83) + o91)))))))))))
  else
    some (0 : Int32))

-- WallHandsModel.holdAll()V
def f_m_holdAll_N2 (v_courses : Int32) (v_wide : Int32) (v_hands : Int32) (v_moods : Nat → Int32) (v_strongs : Nat → Int32) (v_wall : Nat → Int32) (k2 : (Nat → Int32) → Int32 → Option (Nat → Int32)) (v_holdNow : Nat → Int32) (x1 : Int32) : Option (Nat → Int32) :=
  if (40 : Int32) ≤ x1 then
    some v_holdNow
  else
    (f_m_handNow v_courses v_wide v_wall (x1 / (8 : Int32)) (x1 - x1 / (8 : Int32) * (8 : Int32))).bind (fun o22 =>
    if o22 = (-1 : Int32) then
      gd (inb x1 40) (
      k2 (upd v_holdNow x1.toNatClampNeg (-1 : Int32)) (x1 + (1 : Int32)))
    else
      (f_m_holds v_courses v_wide v_hands v_moods v_strongs v_wall (x1 / (8 : Int32)) (x1 - x1 / (8 : Int32) * (8 : Int32))).bind (fun o42 =>
      gd (inb x1 40) (
      k2 (upd v_holdNow x1.toNatClampNeg o42) (x1 + (1 : Int32)))))

def f_m_holdAll (v_courses : Int32) (v_wide : Int32) (v_hands : Int32) (v_moods : Nat → Int32) (v_strongs : Nat → Int32) (v_wall : Nat → Int32) (v_holdNow : Nat → Int32) : Option (Nat → Int32) :=
  iter (fun _ _ => none) (f_m_holdAll_N2 v_courses v_wide v_hands v_moods v_strongs v_wall) 1000 v_holdNow (0 : Int32)

-- WallHandsModel.drops(I)V
def f_m_drops (v_fell : Int32) (v_wall : Nat → Int32) (v_fellOf : Nat → Int32) (a0 : Int32) : Option (Int32 × (Nat → Int32) × (Nat → Int32)) :=
  gd (inb a0 40) (
  gd (inb (v_wall a0.toNatClampNeg) 8) (
  gd (inb (v_wall a0.toNatClampNeg) 8) (
  gd (inb a0 40) (
  some (v_fell + (1 : Int32), upd v_wall a0.toNatClampNeg (-1 : Int32), upd v_fellOf (v_wall a0.toNatClampNeg).toNatClampNeg ((v_fellOf (v_wall a0.toNatClampNeg).toNatClampNeg) + (1 : Int32)))))))

-- WallHandsModel.settles()V
def f_m_settles_N3 (v_courses : Int32) (v_wide : Int32) (k3 : Int32 → (Nat → Int32) → (Nat → Int32) → Int32 → Option (Int32 × (Nat → Int32) × (Nat → Int32))) (v_fell : Int32) (v_wall : Nat → Int32) (v_fellOf : Nat → Int32) (x1 : Int32) : Option (Int32 × (Nat → Int32) × (Nat → Int32)) :=
  if (40 : Int32) ≤ x1 then
    some (v_fell, v_wall, v_fellOf)
  else
    (f_m_handNow v_courses v_wide v_wall (x1 / (8 : Int32)) (x1 - x1 / (8 : Int32) * (8 : Int32))).bind (fun o18 =>
    if o18 = (-1 : Int32) then
      k3 v_fell v_wall v_fellOf (x1 + (1 : Int32))
    else
      (f_m_isBorne v_courses v_wide v_wall (x1 / (8 : Int32)) (x1 - x1 / (8 : Int32) * (8 : Int32))).bind (fun o34 =>
      if o34 = 0 then
        (f_m_drops v_fell v_wall v_fellOf x1).bind (fun o42 =>
        k3 o42.1 o42.2.1 o42.2.2 (x1 + (1 : Int32)))
      else
        k3 v_fell v_wall v_fellOf (x1 + (1 : Int32))))

def f_m_settles (v_courses : Int32) (v_wide : Int32) (v_fell : Int32) (v_wall : Nat → Int32) (v_fellOf : Nat → Int32) : Option (Int32 × (Nat → Int32) × (Nat → Int32)) :=
  iter (fun _ _ _ _ => none) (f_m_settles_N3 v_courses v_wide) 1000 v_fell v_wall v_fellOf (8 : Int32)

-- WallHandsModel.freezes(I)V
def f_m_freezes_N6 (v_courses : Int32) (v_wide : Int32) (v_hands : Int32) (v_moods : Nat → Int32) (v_strongs : Nat → Int32) (k6 : Int32 → (Nat → Int32) → (Nat → Int32) → (Nat → Int32) → Int32 → Int32 → Option (Int32 × (Nat → Int32) × (Nat → Int32) × (Nat → Int32))) (v_fell : Int32) (v_wall : Nat → Int32) (v_holdNow : Nat → Int32) (v_fellOf : Nat → Int32) (x1 : Int32) (x2 : Int32) : Option (Int32 × (Nat → Int32) × (Nat → Int32) × (Nat → Int32)) :=
  if (40 : Int32) ≤ x2 then
    (f_m_settles v_courses v_wide v_fell v_wall v_fellOf).bind (fun o44 =>
    some (o44.1, o44.2.1, v_holdNow, o44.2.2))
  else
    gd (inb x2 40) (
    if (v_holdNow x2.toNatClampNeg) = (-1 : Int32) then
      k6 v_fell v_wall v_holdNow v_fellOf x1 (x2 + (1 : Int32))
    else
      gd (inb x2 40) (
      if x1 ≤ (v_holdNow x2.toNatClampNeg) then
        k6 v_fell v_wall v_holdNow v_fellOf x1 (x2 + (1 : Int32))
      else
        (f_m_drops v_fell v_wall v_fellOf x2).bind (fun o34 =>
        k6 o34.1 o34.2.1 v_holdNow o34.2.2 x1 (x2 + (1 : Int32)))))

def f_m_freezes (v_courses : Int32) (v_wide : Int32) (v_hands : Int32) (v_fell : Int32) (v_moods : Nat → Int32) (v_strongs : Nat → Int32) (v_wall : Nat → Int32) (v_holdNow : Nat → Int32) (v_fellOf : Nat → Int32) (a0 : Int32) : Option (Int32 × (Nat → Int32) × (Nat → Int32) × (Nat → Int32)) :=
  (f_m_holdAll v_courses v_wide v_hands v_moods v_strongs v_wall v_holdNow).bind (fun o1 =>
  iter (fun _ _ _ _ _ _ => none) (f_m_freezes_N6 v_courses v_wide v_hands v_moods v_strongs) 1000 v_fell v_wall o1 v_fellOf a0 (0 : Int32))

-- WallHandsModel.mends(II)V
def f_m_mends_N2 (v_courses : Int32) (v_wide : Int32) (k2 : (Nat → Int32) → Int32 → Int32 → Int32 → Option (Nat → Int32)) (v_wall : Nat → Int32) (x1 : Int32) (x2 : Int32) (x3 : Int32) : Option (Nat → Int32) :=
  if v_courses ≤ x3 then
    some v_wall
  else
    if v_wide ≤ x1 then
      some v_wall
    else
      gd (inb (((8 : Int32) * x3) + x1) 40) (
      if (v_wall (((8 : Int32) * x3) + x1).toNatClampNeg) = (-1 : Int32) then
        (f_m_isBorne v_courses v_wide v_wall x3 x1).bind (fun o46 =>
        if o46 = 0 then
          gd (inb (((8 : Int32) * x3) + x1) 40) (
          some (upd v_wall (((8 : Int32) * x3) + x1).toNatClampNeg (-1 : Int32)))
        else
          gd (inb (((8 : Int32) * x3) + x1) 40) (
          some (upd v_wall (((8 : Int32) * x3) + x1).toNatClampNeg x2)))
      else
        k2 v_wall x1 x2 (x3 + (1 : Int32)))

def f_m_mends (v_courses : Int32) (v_wide : Int32) (v_wall : Nat → Int32) (a0 : Int32) (a1 : Int32) : Option (Nat → Int32) :=
  iter (fun _ _ _ _ => none) (f_m_mends_N2 v_courses v_wide) 1000 v_wall a0 a1 (0 : Int32)

-- WallHandsModel.isThrough(II)Z
def f_m_isThrough_N81 (v_courses : Int32) (v_hands : Int32) (v_jumpTold : Int32) (v_moods : Nat → Int32) (v_wall : Nat → Int32) (k8 : Int32 → Int32 → Int32 → Int32 → Int32 → Option Int32) (x1 : Int32) (x2 : Int32) (x3 : Int32) (x5 : Int32) : Option Int32 :=
  k8 x1 x2 x3 (1 : Int32) (x5 + (1 : Int32))

def f_m_isThrough_N85 (v_courses : Int32) (v_hands : Int32) (v_jumpTold : Int32) (v_moods : Nat → Int32) (v_wall : Nat → Int32) (k8 : Int32 → Int32 → Int32 → Int32 → Int32 → Option Int32) (x1 : Int32) (x2 : Int32) (x3 : Int32) (x5 : Int32) : Option Int32 :=
  k8 x1 x2 x3 (0 : Int32) (x5 + (1 : Int32))

def f_m_isThrough_N49 (v_courses : Int32) (v_hands : Int32) (v_jumpTold : Int32) (v_moods : Nat → Int32) (v_wall : Nat → Int32) (k8 : Int32 → Int32 → Int32 → Int32 → Int32 → Option Int32) (x1 : Int32) (x2 : Int32) (x4 : Int32) (x5 : Int32) (x6 : Int32) (y0 : Int32) : Option Int32 :=
  if x4 = 0 then
    if x6 = (-1 : Int32) then
      f_m_isThrough_N85 v_courses v_hands v_jumpTold v_moods v_wall k8 x1 x2 y0 x5
    else
      if v_hands ≤ x6 then
        f_m_isThrough_N85 v_courses v_hands v_jumpTold v_moods v_wall k8 x1 x2 y0 x5
      else
        gd (inb x6 9) (
        if (v_moods x6.toNatClampNeg) = (1 : Int32) then
          f_m_isThrough_N81 v_courses v_hands v_jumpTold v_moods v_wall k8 x1 x2 y0 x5
        else
          f_m_isThrough_N85 v_courses v_hands v_jumpTold v_moods v_wall k8 x1 x2 y0 x5)
  else
    f_m_isThrough_N81 v_courses v_hands v_jumpTold v_moods v_wall k8 x1 x2 y0 x5

def f_m_isThrough_N44 (v_courses : Int32) (v_hands : Int32) (v_jumpTold : Int32) (v_moods : Nat → Int32) (v_wall : Nat → Int32) (k8 : Int32 → Int32 → Int32 → Int32 → Int32 → Option Int32) (x1 : Int32) (x2 : Int32) (x4 : Int32) (x5 : Int32) (x6 : Int32) : Option Int32 :=
  f_m_isThrough_N49 v_courses v_hands v_jumpTold v_moods v_wall k8 x1 x2 x4 x5 x6 (1 : Int32)

def f_m_isThrough_N8 (v_courses : Int32) (v_hands : Int32) (v_jumpTold : Int32) (v_moods : Nat → Int32) (v_wall : Nat → Int32) (k8 : Int32 → Int32 → Int32 → Int32 → Int32 → Option Int32) (x1 : Int32) (x2 : Int32) (x3 : Int32) (x4 : Int32) (x5 : Int32) : Option Int32 :=
  if v_courses ≤ x5 then
    if x4 = 0 then
      if x2 < v_jumpTold then
        some (1 : Int32)
      else
        if x2 = v_jumpTold then
          if x3 = 0 then
            some (0 : Int32)
          else
            some (1 : Int32)
        else
          some (0 : Int32)
    else
      some (0 : Int32)
  else
    gd (inb (((8 : Int32) * x5) + x1) 40) (
    if x3 = 0 then
      (f_m_isLover v_hands v_moods (v_wall (((8 : Int32) * x5) + x1).toNatClampNeg)).bind (fun o38 =>
      if o38 = 0 then
        f_m_isThrough_N49 v_courses v_hands v_jumpTold v_moods v_wall k8 x1 x2 x4 x5 (v_wall (((8 : Int32) * x5) + x1).toNatClampNeg) (0 : Int32)
      else
        f_m_isThrough_N44 v_courses v_hands v_jumpTold v_moods v_wall k8 x1 x2 x4 x5 (v_wall (((8 : Int32) * x5) + x1).toNatClampNeg))
    else
      f_m_isThrough_N44 v_courses v_hands v_jumpTold v_moods v_wall k8 x1 x2 x4 x5 (v_wall (((8 : Int32) * x5) + x1).toNatClampNeg))

def f_m_isThrough (v_courses : Int32) (v_hands : Int32) (v_jumpTold : Int32) (v_moods : Nat → Int32) (v_wall : Nat → Int32) (a0 : Int32) (a1 : Int32) : Option Int32 :=
  iter (fun _ _ _ _ _ => none) (f_m_isThrough_N8 v_courses v_hands v_jumpTold v_moods v_wall) 1000 a0 a1 (0 : Int32) (0 : Int32) (0 : Int32)

-- WallHandsModel.keeps(I)V
def f_m_keeps_N230 (v_courses : Int32) (v_wide : Int32) (v_hands : Int32) (v_jumpTold : Int32) (v_moods : Nat → Int32) (v_strongs : Nat → Int32) (v_wall : Nat → Int32) (v_sheepFirst : Int32) (v_sheepMany : Int32) (v_holdNow : Nat → Int32) (v_handAt : Nat → Int32) (v_holdAt : Nat → Int32) (v_standAt : Nat → Int32) (v_highAt : Nat → Int32) (v_throughAt : Nat → Int32) (x2 : Int32) (y1 : Int32) : Option (Int32 × Int32 × (Nat → Int32) × (Nat → Int32) × (Nat → Int32) × (Nat → Int32) × (Nat → Int32) × (Nat → Int32)) :=
  if x2 = 0 then
    some (y1, v_sheepMany + (0 : Int32), v_holdNow, v_handAt, v_holdAt, v_standAt, v_highAt, v_throughAt)
  else
    some (y1, v_sheepMany + (1 : Int32), v_holdNow, v_handAt, v_holdAt, v_standAt, v_highAt, v_throughAt)

def f_m_keeps_N226 (v_courses : Int32) (v_wide : Int32) (v_hands : Int32) (v_jumpTold : Int32) (v_moods : Nat → Int32) (v_strongs : Nat → Int32) (v_wall : Nat → Int32) (v_sheepFirst : Int32) (v_sheepMany : Int32) (v_holdNow : Nat → Int32) (v_handAt : Nat → Int32) (v_holdAt : Nat → Int32) (v_standAt : Nat → Int32) (v_highAt : Nat → Int32) (v_throughAt : Nat → Int32) (x2 : Int32) : Option (Int32 × Int32 × (Nat → Int32) × (Nat → Int32) × (Nat → Int32) × (Nat → Int32) × (Nat → Int32) × (Nat → Int32)) :=
  f_m_keeps_N230 v_courses v_wide v_hands v_jumpTold v_moods v_strongs v_wall v_sheepFirst v_sheepMany v_holdNow v_handAt v_holdAt v_standAt v_highAt v_throughAt x2 v_sheepFirst

def f_m_keeps_N197 (v_courses : Int32) (v_wide : Int32) (v_hands : Int32) (v_jumpTold : Int32) (v_moods : Nat → Int32) (v_strongs : Nat → Int32) (v_wall : Nat → Int32) (k93 : Int32 → Int32 → (Nat → Int32) → (Nat → Int32) → (Nat → Int32) → (Nat → Int32) → (Nat → Int32) → (Nat → Int32) → Int32 → Int32 → Int32 → Option (Int32 × Int32 × (Nat → Int32) × (Nat → Int32) × (Nat → Int32) × (Nat → Int32) × (Nat → Int32) × (Nat → Int32))) (v_sheepFirst : Int32) (v_sheepMany : Int32) (v_holdNow : Nat → Int32) (v_handAt : Nat → Int32) (v_holdAt : Nat → Int32) (v_standAt : Nat → Int32) (v_highAt : Nat → Int32) (v_throughAt : Nat → Int32) (x1 : Int32) (x3 : Int32) : Option (Int32 × Int32 × (Nat → Int32) × (Nat → Int32) × (Nat → Int32) × (Nat → Int32) × (Nat → Int32) × (Nat → Int32)) :=
  k93 v_sheepFirst v_sheepMany v_holdNow v_handAt v_holdAt v_standAt v_highAt v_throughAt x1 (1 : Int32) (x3 + (1 : Int32))

def f_m_keeps_N139 (v_courses : Int32) (v_wide : Int32) (v_hands : Int32) (v_jumpTold : Int32) (v_moods : Nat → Int32) (v_strongs : Nat → Int32) (v_wall : Nat → Int32) (k93 : Int32 → Int32 → (Nat → Int32) → (Nat → Int32) → (Nat → Int32) → (Nat → Int32) → (Nat → Int32) → (Nat → Int32) → Int32 → Int32 → Int32 → Option (Int32 × Int32 × (Nat → Int32) × (Nat → Int32) × (Nat → Int32) × (Nat → Int32) × (Nat → Int32) × (Nat → Int32))) (k107 : Int32 → Int32 → (Nat → Int32) → (Nat → Int32) → (Nat → Int32) → (Nat → Int32) → (Nat → Int32) → (Nat → Int32) → Int32 → Int32 → Int32 → Int32 → Int32 → Option (Int32 × Int32 × (Nat → Int32) × (Nat → Int32) × (Nat → Int32) × (Nat → Int32) × (Nat → Int32) × (Nat → Int32))) (v_sheepFirst : Int32) (v_sheepMany : Int32) (v_holdNow : Nat → Int32) (v_handAt : Nat → Int32) (v_holdAt : Nat → Int32) (v_standAt : Nat → Int32) (v_highAt : Nat → Int32) (v_throughAt : Nat → Int32) (x1 : Int32) (x2 : Int32) (x3 : Int32) (x5 : Int32) (y0 : Int32) (y1 : Int32) : Option (Int32 × Int32 × (Nat → Int32) × (Nat → Int32) × (Nat → Int32) × (Nat → Int32) × (Nat → Int32) × (Nat → Int32)) :=
  k107 v_sheepFirst v_sheepMany v_holdNow v_handAt v_holdAt v_standAt v_highAt v_throughAt x1 x2 x3 (y0 + y1) (x5 + (1 : Int32))

def f_m_keeps_N107 (v_courses : Int32) (v_wide : Int32) (v_hands : Int32) (v_jumpTold : Int32) (v_moods : Nat → Int32) (v_strongs : Nat → Int32) (v_wall : Nat → Int32) (k93 : Int32 → Int32 → (Nat → Int32) → (Nat → Int32) → (Nat → Int32) → (Nat → Int32) → (Nat → Int32) → (Nat → Int32) → Int32 → Int32 → Int32 → Option (Int32 × Int32 × (Nat → Int32) × (Nat → Int32) × (Nat → Int32) × (Nat → Int32) × (Nat → Int32) × (Nat → Int32))) (k107 : Int32 → Int32 → (Nat → Int32) → (Nat → Int32) → (Nat → Int32) → (Nat → Int32) → (Nat → Int32) → (Nat → Int32) → Int32 → Int32 → Int32 → Int32 → Int32 → Option (Int32 × Int32 × (Nat → Int32) × (Nat → Int32) × (Nat → Int32) × (Nat → Int32) × (Nat → Int32) × (Nat → Int32))) (v_sheepFirst : Int32) (v_sheepMany : Int32) (v_holdNow : Nat → Int32) (v_handAt : Nat → Int32) (v_holdAt : Nat → Int32) (v_standAt : Nat → Int32) (v_highAt : Nat → Int32) (v_throughAt : Nat → Int32) (x1 : Int32) (x2 : Int32) (x3 : Int32) (x4 : Int32) (x5 : Int32) : Option (Int32 × Int32 × (Nat → Int32) × (Nat → Int32) × (Nat → Int32) × (Nat → Int32) × (Nat → Int32) × (Nat → Int32)) :=
  if v_courses ≤ x5 then
    gd (inb (((8 : Int32) * x1) + x3) 160) (
    (f_m_isThrough v_courses v_hands v_jumpTold v_moods v_wall x3 x4).bind (fun o175 =>
    gd (inb (((8 : Int32) * x1) + x3) 160) (
    if x2 = 0 then
      gd (inb (((8 : Int32) * x1) + x3) 160) (
      if ((upd v_throughAt (((8 : Int32) * x1) + x3).toNatClampNeg (vp_nar .boolean o175)) (((8 : Int32) * x1) + x3).toNatClampNeg) = 0 then
        k93 v_sheepFirst v_sheepMany v_holdNow v_handAt v_holdAt v_standAt (upd v_highAt (((8 : Int32) * x1) + x3).toNatClampNeg x4) (upd v_throughAt (((8 : Int32) * x1) + x3).toNatClampNeg (vp_nar .boolean o175)) x1 (0 : Int32) (x3 + (1 : Int32))
      else
        f_m_keeps_N197 v_courses v_wide v_hands v_jumpTold v_moods v_strongs v_wall k93 v_sheepFirst v_sheepMany v_holdNow v_handAt v_holdAt v_standAt (upd v_highAt (((8 : Int32) * x1) + x3).toNatClampNeg x4) (upd v_throughAt (((8 : Int32) * x1) + x3).toNatClampNeg (vp_nar .boolean o175)) x1 x3)
    else
      f_m_keeps_N197 v_courses v_wide v_hands v_jumpTold v_moods v_strongs v_wall k93 v_sheepFirst v_sheepMany v_holdNow v_handAt v_holdAt v_standAt (upd v_highAt (((8 : Int32) * x1) + x3).toNatClampNeg x4) (upd v_throughAt (((8 : Int32) * x1) + x3).toNatClampNeg (vp_nar .boolean o175)) x1 x3)))
  else
    gd (inb (((8 : Int32) * x5) + x3) 40) (
    if (v_wall (((8 : Int32) * x5) + x3).toNatClampNeg) = (-1 : Int32) then
      f_m_keeps_N139 v_courses v_wide v_hands v_jumpTold v_moods v_strongs v_wall k93 k107 v_sheepFirst v_sheepMany v_holdNow v_handAt v_holdAt v_standAt v_highAt v_throughAt x1 x2 x3 x5 x4 (0 : Int32)
    else
      f_m_keeps_N139 v_courses v_wide v_hands v_jumpTold v_moods v_strongs v_wall k93 k107 v_sheepFirst v_sheepMany v_holdNow v_handAt v_holdAt v_standAt v_highAt v_throughAt x1 x2 x3 x5 x4 (1 : Int32))

def f_m_keeps_N93 (v_courses : Int32) (v_wide : Int32) (v_hands : Int32) (v_jumpTold : Int32) (v_moods : Nat → Int32) (v_strongs : Nat → Int32) (v_wall : Nat → Int32) (k93 : Int32 → Int32 → (Nat → Int32) → (Nat → Int32) → (Nat → Int32) → (Nat → Int32) → (Nat → Int32) → (Nat → Int32) → Int32 → Int32 → Int32 → Option (Int32 × Int32 × (Nat → Int32) × (Nat → Int32) × (Nat → Int32) × (Nat → Int32) × (Nat → Int32) × (Nat → Int32))) (v_sheepFirst : Int32) (v_sheepMany : Int32) (v_holdNow : Nat → Int32) (v_handAt : Nat → Int32) (v_holdAt : Nat → Int32) (v_standAt : Nat → Int32) (v_highAt : Nat → Int32) (v_throughAt : Nat → Int32) (x1 : Int32) (x2 : Int32) (x3 : Int32) : Option (Int32 × Int32 × (Nat → Int32) × (Nat → Int32) × (Nat → Int32) × (Nat → Int32) × (Nat → Int32) × (Nat → Int32)) :=
  if v_wide ≤ x3 then
    if x2 = 0 then
      f_m_keeps_N226 v_courses v_wide v_hands v_jumpTold v_moods v_strongs v_wall v_sheepFirst v_sheepMany v_holdNow v_handAt v_holdAt v_standAt v_highAt v_throughAt x2
    else
      if v_sheepFirst = (-1 : Int32) then
        f_m_keeps_N230 v_courses v_wide v_hands v_jumpTold v_moods v_strongs v_wall v_sheepFirst v_sheepMany v_holdNow v_handAt v_holdAt v_standAt v_highAt v_throughAt x2 x1
      else
        f_m_keeps_N226 v_courses v_wide v_hands v_jumpTold v_moods v_strongs v_wall v_sheepFirst v_sheepMany v_holdNow v_handAt v_holdAt v_standAt v_highAt v_throughAt x2
  else
    iter (fun _ _ _ _ _ _ _ _ _ _ _ _ _ => none) (f_m_keeps_N107 v_courses v_wide v_hands v_jumpTold v_moods v_strongs v_wall k93) 1000 v_sheepFirst v_sheepMany v_holdNow v_handAt v_holdAt v_standAt v_highAt v_throughAt x1 x2 x3 (0 : Int32) (0 : Int32)

def f_m_keeps_N83 (v_courses : Int32) (v_wide : Int32) (v_hands : Int32) (v_jumpTold : Int32) (v_moods : Nat → Int32) (v_strongs : Nat → Int32) (v_wall : Nat → Int32) (k15 : Int32 → Int32 → (Nat → Int32) → (Nat → Int32) → (Nat → Int32) → (Nat → Int32) → (Nat → Int32) → (Nat → Int32) → Int32 → Int32 → Int32 → Option (Int32 × Int32 × (Nat → Int32) × (Nat → Int32) × (Nat → Int32) × (Nat → Int32) × (Nat → Int32) × (Nat → Int32))) (v_sheepFirst : Int32) (v_sheepMany : Int32) (v_holdNow : Nat → Int32) (v_handAt : Nat → Int32) (v_holdAt : Nat → Int32) (v_standAt : Nat → Int32) (v_highAt : Nat → Int32) (v_throughAt : Nat → Int32) (x1 : Int32) (x2 : Int32) (x3 : Int32) (y1 : Int32) (y2 : Int32) (y3 : Int32) : Option (Int32 × Int32 × (Nat → Int32) × (Nat → Int32) × (Nat → Int32) × (Nat → Int32) × (Nat → Int32) × (Nat → Int32)) :=
  gd (inb y1 20) (
  k15 v_sheepFirst v_sheepMany v_holdNow v_handAt v_holdAt (upd v_standAt y1.toNatClampNeg (y2 + y3)) v_highAt v_throughAt x1 x2 (x3 + (1 : Int32)))

def f_m_keeps_N15 (v_courses : Int32) (v_wide : Int32) (v_hands : Int32) (v_jumpTold : Int32) (v_moods : Nat → Int32) (v_strongs : Nat → Int32) (v_wall : Nat → Int32) (k15 : Int32 → Int32 → (Nat → Int32) → (Nat → Int32) → (Nat → Int32) → (Nat → Int32) → (Nat → Int32) → (Nat → Int32) → Int32 → Int32 → Int32 → Option (Int32 × Int32 × (Nat → Int32) × (Nat → Int32) × (Nat → Int32) × (Nat → Int32) × (Nat → Int32) × (Nat → Int32))) (v_sheepFirst : Int32) (v_sheepMany : Int32) (v_holdNow : Nat → Int32) (v_handAt : Nat → Int32) (v_holdAt : Nat → Int32) (v_standAt : Nat → Int32) (v_highAt : Nat → Int32) (v_throughAt : Nat → Int32) (x1 : Int32) (x2 : Int32) (x3 : Int32) : Option (Int32 × Int32 × (Nat → Int32) × (Nat → Int32) × (Nat → Int32) × (Nat → Int32) × (Nat → Int32) × (Nat → Int32)) :=
  if (40 : Int32) ≤ x3 then
    iter (fun _ _ _ _ _ _ _ _ _ _ _ => none) (f_m_keeps_N93 v_courses v_wide v_hands v_jumpTold v_moods v_strongs v_wall) 1000 v_sheepFirst v_sheepMany v_holdNow v_handAt v_holdAt v_standAt v_highAt v_throughAt x1 x2 (0 : Int32)
  else
    (f_m_handNow v_courses v_wide v_wall (x3 / (8 : Int32)) (x3 - x3 / (8 : Int32) * (8 : Int32))).bind (fun o40 =>
    gd (inb (((40 : Int32) * x1) + x3) 800) (
    gd (inb x3 40) (
    gd (inb (((40 : Int32) * x1) + x3) 800) (
    gd (inb x1 20) (
    gd (inb x3 40) (
    if (v_holdNow x3.toNatClampNeg) = (-1 : Int32) then
      f_m_keeps_N83 v_courses v_wide v_hands v_jumpTold v_moods v_strongs v_wall k15 v_sheepFirst v_sheepMany v_holdNow (upd v_handAt (((40 : Int32) * x1) + x3).toNatClampNeg o40) (upd v_holdAt (((40 : Int32) * x1) + x3).toNatClampNeg (v_holdNow x3.toNatClampNeg)) v_standAt v_highAt v_throughAt x1 x2 x3 x1 (v_standAt x1.toNatClampNeg) (0 : Int32)
    else
      f_m_keeps_N83 v_courses v_wide v_hands v_jumpTold v_moods v_strongs v_wall k15 v_sheepFirst v_sheepMany v_holdNow (upd v_handAt (((40 : Int32) * x1) + x3).toNatClampNeg o40) (upd v_holdAt (((40 : Int32) * x1) + x3).toNatClampNeg (v_holdNow x3.toNatClampNeg)) v_standAt v_highAt v_throughAt x1 x2 x3 x1 (v_standAt x1.toNatClampNeg) (1 : Int32)))))))

def f_m_keeps (v_courses : Int32) (v_wide : Int32) (v_hands : Int32) (v_jumpTold : Int32) (v_sheepFirst : Int32) (v_sheepMany : Int32) (v_moods : Nat → Int32) (v_strongs : Nat → Int32) (v_wall : Nat → Int32) (v_holdNow : Nat → Int32) (v_handAt : Nat → Int32) (v_holdAt : Nat → Int32) (v_standAt : Nat → Int32) (v_highAt : Nat → Int32) (v_throughAt : Nat → Int32) (a0 : Int32) : Option (Int32 × Int32 × (Nat → Int32) × (Nat → Int32) × (Nat → Int32) × (Nat → Int32) × (Nat → Int32) × (Nat → Int32)) :=
  (f_m_holdAll v_courses v_wide v_hands v_moods v_strongs v_wall v_holdNow).bind (fun o3 =>
  gd (inb a0 20) (
  iter (fun _ _ _ _ _ _ _ _ _ _ _ => none) (f_m_keeps_N15 v_courses v_wide v_hands v_jumpTold v_moods v_strongs v_wall) 1000 v_sheepFirst v_sheepMany o3 v_handAt v_holdAt (upd v_standAt a0.toNatClampNeg (0 : Int32)) v_highAt v_throughAt a0 (0 : Int32) (0 : Int32)))

-- WallHandsModel.goesBy(I)V
def f_m_goesBy_N66 (v_courses : Int32) (v_wide : Int32) (v_hands : Int32) (v_jumpTold : Int32) (v_frostsNow : Int32) (v_notFrosts : Int32) (v_gapsNow : Int32) (v_moods : Nat → Int32) (v_strongs : Nat → Int32) (v_gapYear : Nat → Int32) (v_gapColumn : Nat → Int32) (v_gapHand : Nat → Int32) (v_yearNow : Nat → Int32) (v_forceNow : Nat → Int32) (k66 : Int32 → Int32 → Int32 → Int32 → (Nat → Int32) → (Nat → Int32) → (Nat → Int32) → (Nat → Int32) → (Nat → Int32) → (Nat → Int32) → (Nat → Int32) → (Nat → Int32) → (Nat → Int32) → Int32 → Int32 → Option (Int32 × Int32 × Int32 × Int32 × (Nat → Int32) × (Nat → Int32) × (Nat → Int32) × (Nat → Int32) × (Nat → Int32) × (Nat → Int32) × (Nat → Int32) × (Nat → Int32) × (Nat → Int32))) (v_fell : Int32) (v_fellAll : Int32) (v_sheepFirst : Int32) (v_sheepMany : Int32) (v_wall : Nat → Int32) (v_holdNow : Nat → Int32) (v_fellOf : Nat → Int32) (v_handAt : Nat → Int32) (v_holdAt : Nat → Int32) (v_fallsAt : Nat → Int32) (v_standAt : Nat → Int32) (v_highAt : Nat → Int32) (v_throughAt : Nat → Int32) (x1 : Int32) (x3 : Int32) : Option (Int32 × Int32 × Int32 × Int32 × (Nat → Int32) × (Nat → Int32) × (Nat → Int32) × (Nat → Int32) × (Nat → Int32) × (Nat → Int32) × (Nat → Int32) × (Nat → Int32) × (Nat → Int32)) :=
  if v_gapsNow ≤ x3 then
    gd (inb x1 20) (
    (f_m_keeps v_courses v_wide v_hands v_jumpTold v_sheepFirst v_sheepMany v_moods v_strongs v_wall v_holdNow v_handAt v_holdAt v_standAt v_highAt v_throughAt x1).bind (fun o131 =>
    some (v_fell, v_fellAll + v_fell, o131.1, o131.2.1, v_wall, o131.2.2.1, v_fellOf, o131.2.2.2.1, o131.2.2.2.2.1, upd v_fallsAt x1.toNatClampNeg v_fell, o131.2.2.2.2.2.1, o131.2.2.2.2.2.2.1, o131.2.2.2.2.2.2.2)))
  else
    gd (inb x3 7) (
    if (v_gapYear x3.toNatClampNeg) = x1 then
      gd (inb x3 7) (
      gd (inb x3 7) (
      (f_m_mends v_courses v_wide v_wall (v_gapColumn x3.toNatClampNeg) (v_gapHand x3.toNatClampNeg)).bind (fun o97 =>
      k66 v_fell v_fellAll v_sheepFirst v_sheepMany o97 v_holdNow v_fellOf v_handAt v_holdAt v_fallsAt v_standAt v_highAt v_throughAt x1 (x3 + (1 : Int32)))))
    else
      k66 v_fell v_fellAll v_sheepFirst v_sheepMany v_wall v_holdNow v_fellOf v_handAt v_holdAt v_fallsAt v_standAt v_highAt v_throughAt x1 (x3 + (1 : Int32)))

def f_m_goesBy_N9 (v_courses : Int32) (v_wide : Int32) (v_hands : Int32) (v_jumpTold : Int32) (v_frostsNow : Int32) (v_notFrosts : Int32) (v_gapsNow : Int32) (v_moods : Nat → Int32) (v_strongs : Nat → Int32) (v_gapYear : Nat → Int32) (v_gapColumn : Nat → Int32) (v_gapHand : Nat → Int32) (v_yearNow : Nat → Int32) (v_forceNow : Nat → Int32) (k9 : Int32 → Int32 → Int32 → Int32 → (Nat → Int32) → (Nat → Int32) → (Nat → Int32) → (Nat → Int32) → (Nat → Int32) → (Nat → Int32) → (Nat → Int32) → (Nat → Int32) → (Nat → Int32) → Int32 → Int32 → Int32 → Option (Int32 × Int32 × Int32 × Int32 × (Nat → Int32) × (Nat → Int32) × (Nat → Int32) × (Nat → Int32) × (Nat → Int32) × (Nat → Int32) × (Nat → Int32) × (Nat → Int32) × (Nat → Int32))) (v_fell : Int32) (v_fellAll : Int32) (v_sheepFirst : Int32) (v_sheepMany : Int32) (v_wall : Nat → Int32) (v_holdNow : Nat → Int32) (v_fellOf : Nat → Int32) (v_handAt : Nat → Int32) (v_holdAt : Nat → Int32) (v_fallsAt : Nat → Int32) (v_standAt : Nat → Int32) (v_highAt : Nat → Int32) (v_throughAt : Nat → Int32) (x1 : Int32) (x2 : Int32) (x3 : Int32) : Option (Int32 × Int32 × Int32 × Int32 × (Nat → Int32) × (Nat → Int32) × (Nat → Int32) × (Nat → Int32) × (Nat → Int32) × (Nat → Int32) × (Nat → Int32) × (Nat → Int32) × (Nat → Int32)) :=
  if v_frostsNow ≤ x3 then
    if x2 = 0 then
      (f_m_settles v_courses v_wide v_fell v_wall v_fellOf).bind (fun o61 =>
      iter (fun _ _ _ _ _ _ _ _ _ _ _ _ _ _ _ => none) (f_m_goesBy_N66 v_courses v_wide v_hands v_jumpTold v_frostsNow v_notFrosts v_gapsNow v_moods v_strongs v_gapYear v_gapColumn v_gapHand v_yearNow v_forceNow) 1000 o61.1 v_fellAll v_sheepFirst v_sheepMany o61.2.1 v_holdNow o61.2.2 v_handAt v_holdAt v_fallsAt v_standAt v_highAt v_throughAt x1 (0 : Int32))
    else
      iter (fun _ _ _ _ _ _ _ _ _ _ _ _ _ _ _ => none) (f_m_goesBy_N66 v_courses v_wide v_hands v_jumpTold v_frostsNow v_notFrosts v_gapsNow v_moods v_strongs v_gapYear v_gapColumn v_gapHand v_yearNow v_forceNow) 1000 v_fell v_fellAll v_sheepFirst v_sheepMany v_wall v_holdNow v_fellOf v_handAt v_holdAt v_fallsAt v_standAt v_highAt v_throughAt x1 (0 : Int32)
  else
    gd (inb x3 6) (
    if (v_yearNow x3.toNatClampNeg) = x1 then
      (f_m_isIn v_notFrosts x3).bind (fun o32 =>
      if o32 = 0 then
        gd (inb x3 6) (
        (f_m_freezes v_courses v_wide v_hands v_fell v_moods v_strongs v_wall v_holdNow v_fellOf (v_forceNow x3.toNatClampNeg)).bind (fun o47 =>
        k9 o47.1 v_fellAll v_sheepFirst v_sheepMany o47.2.1 o47.2.2.1 o47.2.2.2 v_handAt v_holdAt v_fallsAt v_standAt v_highAt v_throughAt x1 (1 : Int32) (x3 + (1 : Int32))))
      else
        k9 v_fell v_fellAll v_sheepFirst v_sheepMany v_wall v_holdNow v_fellOf v_handAt v_holdAt v_fallsAt v_standAt v_highAt v_throughAt x1 x2 (x3 + (1 : Int32)))
    else
      k9 v_fell v_fellAll v_sheepFirst v_sheepMany v_wall v_holdNow v_fellOf v_handAt v_holdAt v_fallsAt v_standAt v_highAt v_throughAt x1 x2 (x3 + (1 : Int32)))

def f_m_goesBy (v_courses : Int32) (v_wide : Int32) (v_hands : Int32) (v_jumpTold : Int32) (v_frostsNow : Int32) (v_notFrosts : Int32) (v_gapsNow : Int32) (v_fell : Int32) (v_fellAll : Int32) (v_sheepFirst : Int32) (v_sheepMany : Int32) (v_moods : Nat → Int32) (v_strongs : Nat → Int32) (v_gapYear : Nat → Int32) (v_gapColumn : Nat → Int32) (v_gapHand : Nat → Int32) (v_wall : Nat → Int32) (v_yearNow : Nat → Int32) (v_forceNow : Nat → Int32) (v_holdNow : Nat → Int32) (v_fellOf : Nat → Int32) (v_handAt : Nat → Int32) (v_holdAt : Nat → Int32) (v_fallsAt : Nat → Int32) (v_standAt : Nat → Int32) (v_highAt : Nat → Int32) (v_throughAt : Nat → Int32) (a0 : Int32) : Option (Int32 × Int32 × Int32 × Int32 × (Nat → Int32) × (Nat → Int32) × (Nat → Int32) × (Nat → Int32) × (Nat → Int32) × (Nat → Int32) × (Nat → Int32) × (Nat → Int32) × (Nat → Int32)) :=
  iter (fun _ _ _ _ _ _ _ _ _ _ _ _ _ _ _ _ => none) (f_m_goesBy_N9 v_courses v_wide v_hands v_jumpTold v_frostsNow v_notFrosts v_gapsNow v_moods v_strongs v_gapYear v_gapColumn v_gapHand v_yearNow v_forceNow) 1000 (0 : Int32) v_fellAll v_sheepFirst v_sheepMany v_wall v_holdNow v_fellOf v_handAt v_holdAt v_fallsAt v_standAt v_highAt v_throughAt a0 (0 : Int32) (0 : Int32)

-- WallHandsModel.runs()V
def f_m_runs_N64 (v_courses : Int32) (v_wide : Int32) (v_hands : Int32) (v_jumpTold : Int32) (v_frostsNow : Int32) (v_notFrosts : Int32) (v_gapsNow : Int32) (v_told : Nat → Int32) (v_moods : Nat → Int32) (v_strongs : Nat → Int32) (v_gapYear : Nat → Int32) (v_gapColumn : Nat → Int32) (v_gapHand : Nat → Int32) (v_yearNow : Nat → Int32) (v_forceNow : Nat → Int32) (k64 : Int32 → Int32 → Int32 → Int32 → (Nat → Int32) → (Nat → Int32) → (Nat → Int32) → (Nat → Int32) → (Nat → Int32) → (Nat → Int32) → (Nat → Int32) → (Nat → Int32) → (Nat → Int32) → Int32 → Option (Int32 × Int32 × Int32 × Int32 × (Nat → Int32) × (Nat → Int32) × (Nat → Int32) × (Nat → Int32) × (Nat → Int32) × (Nat → Int32) × (Nat → Int32) × (Nat → Int32) × (Nat → Int32))) (v_fell : Int32) (v_fellAll : Int32) (v_sheepFirst : Int32) (v_sheepMany : Int32) (v_wall : Nat → Int32) (v_holdNow : Nat → Int32) (v_fellOf : Nat → Int32) (v_handAt : Nat → Int32) (v_holdAt : Nat → Int32) (v_fallsAt : Nat → Int32) (v_standAt : Nat → Int32) (v_highAt : Nat → Int32) (v_throughAt : Nat → Int32) (x1 : Int32) : Option (Int32 × Int32 × Int32 × Int32 × (Nat → Int32) × (Nat → Int32) × (Nat → Int32) × (Nat → Int32) × (Nat → Int32) × (Nat → Int32) × (Nat → Int32) × (Nat → Int32) × (Nat → Int32)) :=
  if (20 : Int32) ≤ x1 then
    some (v_fell, v_fellAll, v_sheepFirst, v_sheepMany, v_wall, v_holdNow, v_fellOf, v_handAt, v_holdAt, v_fallsAt, v_standAt, v_highAt, v_throughAt)
  else
    (f_m_goesBy v_courses v_wide v_hands v_jumpTold v_frostsNow v_notFrosts v_gapsNow v_fell v_fellAll v_sheepFirst v_sheepMany v_moods v_strongs v_gapYear v_gapColumn v_gapHand v_wall v_yearNow v_forceNow v_holdNow v_fellOf v_handAt v_holdAt v_fallsAt v_standAt v_highAt v_throughAt x1).bind (fun o72 =>
    k64 o72.1 o72.2.1 o72.2.2.1 o72.2.2.2.1 o72.2.2.2.2.1 o72.2.2.2.2.2.1 o72.2.2.2.2.2.2.1 o72.2.2.2.2.2.2.2.1 o72.2.2.2.2.2.2.2.2.1 o72.2.2.2.2.2.2.2.2.2.1 o72.2.2.2.2.2.2.2.2.2.2.1 o72.2.2.2.2.2.2.2.2.2.2.2.1 o72.2.2.2.2.2.2.2.2.2.2.2.2 (x1 + (1 : Int32)))

def f_m_runs_N28 (v_courses : Int32) (v_wide : Int32) (v_hands : Int32) (v_jumpTold : Int32) (v_frostsNow : Int32) (v_notFrosts : Int32) (v_gapsNow : Int32) (v_told : Nat → Int32) (v_moods : Nat → Int32) (v_strongs : Nat → Int32) (v_gapYear : Nat → Int32) (v_gapColumn : Nat → Int32) (v_gapHand : Nat → Int32) (v_yearNow : Nat → Int32) (v_forceNow : Nat → Int32) (k28 : Int32 → Int32 → Int32 → Int32 → (Nat → Int32) → (Nat → Int32) → (Nat → Int32) → (Nat → Int32) → (Nat → Int32) → (Nat → Int32) → (Nat → Int32) → (Nat → Int32) → (Nat → Int32) → Int32 → Option (Int32 × Int32 × Int32 × Int32 × (Nat → Int32) × (Nat → Int32) × (Nat → Int32) × (Nat → Int32) × (Nat → Int32) × (Nat → Int32) × (Nat → Int32) × (Nat → Int32) × (Nat → Int32))) (v_fell : Int32) (v_fellAll : Int32) (v_sheepFirst : Int32) (v_sheepMany : Int32) (v_wall : Nat → Int32) (v_holdNow : Nat → Int32) (v_fellOf : Nat → Int32) (v_handAt : Nat → Int32) (v_holdAt : Nat → Int32) (v_fallsAt : Nat → Int32) (v_standAt : Nat → Int32) (v_highAt : Nat → Int32) (v_throughAt : Nat → Int32) (x1 : Int32) : Option (Int32 × Int32 × Int32 × Int32 × (Nat → Int32) × (Nat → Int32) × (Nat → Int32) × (Nat → Int32) × (Nat → Int32) × (Nat → Int32) × (Nat → Int32) × (Nat → Int32) × (Nat → Int32)) :=
  if (8 : Int32) ≤ x1 then
    iter (fun _ _ _ _ _ _ _ _ _ _ _ _ _ _ => none) (f_m_runs_N64 v_courses v_wide v_hands v_jumpTold v_frostsNow v_notFrosts v_gapsNow v_told v_moods v_strongs v_gapYear v_gapColumn v_gapHand v_yearNow v_forceNow) 1000 v_fell (0 : Int32) (-1 : Int32) (0 : Int32) v_wall v_holdNow v_fellOf v_handAt v_holdAt v_fallsAt v_standAt v_highAt v_throughAt (0 : Int32)
  else
    gd (inb x1 8) (
    k28 v_fell v_fellAll v_sheepFirst v_sheepMany v_wall v_holdNow (upd v_fellOf x1.toNatClampNeg (0 : Int32)) v_handAt v_holdAt v_fallsAt v_standAt v_highAt v_throughAt (x1 + (1 : Int32)))

def f_m_runs_N2 (v_courses : Int32) (v_wide : Int32) (v_hands : Int32) (v_jumpTold : Int32) (v_frostsNow : Int32) (v_notFrosts : Int32) (v_gapsNow : Int32) (v_told : Nat → Int32) (v_moods : Nat → Int32) (v_strongs : Nat → Int32) (v_gapYear : Nat → Int32) (v_gapColumn : Nat → Int32) (v_gapHand : Nat → Int32) (v_yearNow : Nat → Int32) (v_forceNow : Nat → Int32) (k2 : Int32 → Int32 → Int32 → Int32 → (Nat → Int32) → (Nat → Int32) → (Nat → Int32) → (Nat → Int32) → (Nat → Int32) → (Nat → Int32) → (Nat → Int32) → (Nat → Int32) → (Nat → Int32) → Int32 → Option (Int32 × Int32 × Int32 × Int32 × (Nat → Int32) × (Nat → Int32) × (Nat → Int32) × (Nat → Int32) × (Nat → Int32) × (Nat → Int32) × (Nat → Int32) × (Nat → Int32) × (Nat → Int32))) (v_fell : Int32) (v_fellAll : Int32) (v_sheepFirst : Int32) (v_sheepMany : Int32) (v_wall : Nat → Int32) (v_holdNow : Nat → Int32) (v_fellOf : Nat → Int32) (v_handAt : Nat → Int32) (v_holdAt : Nat → Int32) (v_fallsAt : Nat → Int32) (v_standAt : Nat → Int32) (v_highAt : Nat → Int32) (v_throughAt : Nat → Int32) (x1 : Int32) : Option (Int32 × Int32 × Int32 × Int32 × (Nat → Int32) × (Nat → Int32) × (Nat → Int32) × (Nat → Int32) × (Nat → Int32) × (Nat → Int32) × (Nat → Int32) × (Nat → Int32) × (Nat → Int32)) :=
  if (40 : Int32) ≤ x1 then
    iter (fun _ _ _ _ _ _ _ _ _ _ _ _ _ _ => none) (f_m_runs_N28 v_courses v_wide v_hands v_jumpTold v_frostsNow v_notFrosts v_gapsNow v_told v_moods v_strongs v_gapYear v_gapColumn v_gapHand v_yearNow v_forceNow) 1000 v_fell v_fellAll v_sheepFirst v_sheepMany v_wall v_holdNow v_fellOf v_handAt v_holdAt v_fallsAt v_standAt v_highAt v_throughAt (0 : Int32)
  else
    gd (inb x1 48) (
    gd (inb x1 40) (
    k2 v_fell v_fellAll v_sheepFirst v_sheepMany (upd v_wall x1.toNatClampNeg (v_told x1.toNatClampNeg)) v_holdNow v_fellOf v_handAt v_holdAt v_fallsAt v_standAt v_highAt v_throughAt (x1 + (1 : Int32))))

def f_m_runs (v_courses : Int32) (v_wide : Int32) (v_hands : Int32) (v_jumpTold : Int32) (v_frostsNow : Int32) (v_notFrosts : Int32) (v_gapsNow : Int32) (v_fell : Int32) (v_fellAll : Int32) (v_sheepFirst : Int32) (v_sheepMany : Int32) (v_told : Nat → Int32) (v_moods : Nat → Int32) (v_strongs : Nat → Int32) (v_gapYear : Nat → Int32) (v_gapColumn : Nat → Int32) (v_gapHand : Nat → Int32) (v_wall : Nat → Int32) (v_yearNow : Nat → Int32) (v_forceNow : Nat → Int32) (v_holdNow : Nat → Int32) (v_fellOf : Nat → Int32) (v_handAt : Nat → Int32) (v_holdAt : Nat → Int32) (v_fallsAt : Nat → Int32) (v_standAt : Nat → Int32) (v_highAt : Nat → Int32) (v_throughAt : Nat → Int32) : Option (Int32 × Int32 × Int32 × Int32 × (Nat → Int32) × (Nat → Int32) × (Nat → Int32) × (Nat → Int32) × (Nat → Int32) × (Nat → Int32) × (Nat → Int32) × (Nat → Int32) × (Nat → Int32)) :=
  iter (fun _ _ _ _ _ _ _ _ _ _ _ _ _ _ => none) (f_m_runs_N2 v_courses v_wide v_hands v_jumpTold v_frostsNow v_notFrosts v_gapsNow v_told v_moods v_strongs v_gapYear v_gapColumn v_gapHand v_yearNow v_forceNow) 1000 v_fell v_fellAll v_sheepFirst v_sheepMany v_wall v_holdNow v_fellOf v_handAt v_holdAt v_fallsAt v_standAt v_highAt v_throughAt (0 : Int32)

-- WallHandsModel.runsTold()V
def f_m_runsTold (v_courses : Int32) (v_wide : Int32) (v_hands : Int32) (v_jumpTold : Int32) (v_frosts : Int32) (v_gaps : Int32) (v_frostsNow : Int32) (v_notFrosts : Int32) (v_gapsNow : Int32) (v_fell : Int32) (v_fellAll : Int32) (v_sheepFirst : Int32) (v_sheepMany : Int32) (v_typed : Nat → Int32) (v_texts : Nat → Int32) (v_told : Nat → Int32) (v_moods : Nat → Int32) (v_strongs : Nat → Int32) (v_frostYear : Nat → Int32) (v_frostForce : Nat → Int32) (v_gapYear : Nat → Int32) (v_gapColumn : Nat → Int32) (v_gapHand : Nat → Int32) (v_wall : Nat → Int32) (v_yearNow : Nat → Int32) (v_forceNow : Nat → Int32) (v_holdNow : Nat → Int32) (v_fellOf : Nat → Int32) (v_handAt : Nat → Int32) (v_holdAt : Nat → Int32) (v_fallsAt : Nat → Int32) (v_standAt : Nat → Int32) (v_highAt : Nat → Int32) (v_throughAt : Nat → Int32) : Option (Int32 × Int32 × Int32 × Int32 × Int32 × Int32 × Int32 × Int32 × Int32 × Int32 × (Nat → Int32) × (Nat → Int32) × (Nat → Int32) × (Nat → Int32) × (Nat → Int32) × (Nat → Int32) × (Nat → Int32) × (Nat → Int32) × (Nat → Int32) × (Nat → Int32) × (Nat → Int32) × (Nat → Int32) × (Nat → Int32) × (Nat → Int32)) :=
  (f_m_asTold v_courses v_wide v_hands v_frosts v_gaps v_frostsNow v_notFrosts v_gapsNow v_typed v_texts v_told v_moods v_strongs v_frostYear v_frostForce v_yearNow v_forceNow).bind (fun o1 =>
  (f_m_runs o1.1 o1.2.1 o1.2.2.1 v_jumpTold o1.2.2.2.1 o1.2.2.2.2.1 o1.2.2.2.2.2.1 v_fell v_fellAll v_sheepFirst v_sheepMany o1.2.2.2.2.2.2.1 o1.2.2.2.2.2.2.2.1 o1.2.2.2.2.2.2.2.2.1 v_gapYear v_gapColumn v_gapHand v_wall o1.2.2.2.2.2.2.2.2.2.1 o1.2.2.2.2.2.2.2.2.2.2 v_holdNow v_fellOf v_handAt v_holdAt v_fallsAt v_standAt v_highAt v_throughAt).bind (fun o5 =>
  some (o1.1, o1.2.1, o1.2.2.1, o1.2.2.2.1, o1.2.2.2.2.1, o1.2.2.2.2.2.1, o5.1, o5.2.1, o5.2.2.1, o5.2.2.2.1, o1.2.2.2.2.2.2.1, o1.2.2.2.2.2.2.2.1, o1.2.2.2.2.2.2.2.2.1, o5.2.2.2.2.1, o1.2.2.2.2.2.2.2.2.2.1, o1.2.2.2.2.2.2.2.2.2.2, o5.2.2.2.2.2.1, o5.2.2.2.2.2.2.1, o5.2.2.2.2.2.2.2.1, o5.2.2.2.2.2.2.2.2.1, o5.2.2.2.2.2.2.2.2.2.1, o5.2.2.2.2.2.2.2.2.2.2.1, o5.2.2.2.2.2.2.2.2.2.2.2.1, o5.2.2.2.2.2.2.2.2.2.2.2.2)))

-- WallHandsModel.atOf(III)I
def f_m_atOf (v_courses : Int32) (v_wide : Int32) (v_hands : Int32) (v_jumpTold : Int32) (v_frosts : Int32) (v_gaps : Int32) (v_frostsNow : Int32) (v_notFrosts : Int32) (v_gapsNow : Int32) (v_fell : Int32) (v_fellAll : Int32) (v_sheepFirst : Int32) (v_sheepMany : Int32) (v_typed : Nat → Int32) (v_texts : Nat → Int32) (v_told : Nat → Int32) (v_moods : Nat → Int32) (v_strongs : Nat → Int32) (v_frostYear : Nat → Int32) (v_frostForce : Nat → Int32) (v_gapYear : Nat → Int32) (v_gapColumn : Nat → Int32) (v_gapHand : Nat → Int32) (v_wall : Nat → Int32) (v_yearNow : Nat → Int32) (v_forceNow : Nat → Int32) (v_holdNow : Nat → Int32) (v_fellOf : Nat → Int32) (v_handAt : Nat → Int32) (v_holdAt : Nat → Int32) (v_fallsAt : Nat → Int32) (v_standAt : Nat → Int32) (v_highAt : Nat → Int32) (v_throughAt : Nat → Int32) (a0 : Int32) (a1 : Int32) (a2 : Int32) : Option (Int32 × Int32 × Int32 × Int32 × Int32 × Int32 × Int32 × Int32 × Int32 × Int32 × Int32 × (Nat → Int32) × (Nat → Int32) × (Nat → Int32) × (Nat → Int32) × (Nat → Int32) × (Nat → Int32) × (Nat → Int32) × (Nat → Int32) × (Nat → Int32) × (Nat → Int32) × (Nat → Int32) × (Nat → Int32) × (Nat → Int32) × (Nat → Int32)) :=
  (f_m_runsTold v_courses v_wide v_hands v_jumpTold v_frosts v_gaps v_frostsNow v_notFrosts v_gapsNow v_fell v_fellAll v_sheepFirst v_sheepMany v_typed v_texts v_told v_moods v_strongs v_frostYear v_frostForce v_gapYear v_gapColumn v_gapHand v_wall v_yearNow v_forceNow v_holdNow v_fellOf v_handAt v_holdAt v_fallsAt v_standAt v_highAt v_throughAt).bind (fun o1 =>
  if a2 = 0 then
    gd (inb (((40 : Int32) * a0) + a1) 800) (
    some (o1.2.2.2.2.2.2.2.2.2.2.2.2.2.2.2.2.2.2.1 (((40 : Int32) * a0) + a1).toNatClampNeg, o1.1, o1.2.1, o1.2.2.1, o1.2.2.2.1, o1.2.2.2.2.1, o1.2.2.2.2.2.1, o1.2.2.2.2.2.2.1, o1.2.2.2.2.2.2.2.1, o1.2.2.2.2.2.2.2.2.1, o1.2.2.2.2.2.2.2.2.2.1, o1.2.2.2.2.2.2.2.2.2.2.1, o1.2.2.2.2.2.2.2.2.2.2.2.1, o1.2.2.2.2.2.2.2.2.2.2.2.2.1, o1.2.2.2.2.2.2.2.2.2.2.2.2.2.1, o1.2.2.2.2.2.2.2.2.2.2.2.2.2.2.1, o1.2.2.2.2.2.2.2.2.2.2.2.2.2.2.2.1, o1.2.2.2.2.2.2.2.2.2.2.2.2.2.2.2.2.1, o1.2.2.2.2.2.2.2.2.2.2.2.2.2.2.2.2.2.1, o1.2.2.2.2.2.2.2.2.2.2.2.2.2.2.2.2.2.2.1, o1.2.2.2.2.2.2.2.2.2.2.2.2.2.2.2.2.2.2.2.1, o1.2.2.2.2.2.2.2.2.2.2.2.2.2.2.2.2.2.2.2.2.1, o1.2.2.2.2.2.2.2.2.2.2.2.2.2.2.2.2.2.2.2.2.2.1, o1.2.2.2.2.2.2.2.2.2.2.2.2.2.2.2.2.2.2.2.2.2.2.1, o1.2.2.2.2.2.2.2.2.2.2.2.2.2.2.2.2.2.2.2.2.2.2.2))
  else
    gd (inb (((40 : Int32) * a0) + a1) 800) (
    some (o1.2.2.2.2.2.2.2.2.2.2.2.2.2.2.2.2.2.2.2.1 (((40 : Int32) * a0) + a1).toNatClampNeg, o1.1, o1.2.1, o1.2.2.1, o1.2.2.2.1, o1.2.2.2.2.1, o1.2.2.2.2.2.1, o1.2.2.2.2.2.2.1, o1.2.2.2.2.2.2.2.1, o1.2.2.2.2.2.2.2.2.1, o1.2.2.2.2.2.2.2.2.2.1, o1.2.2.2.2.2.2.2.2.2.2.1, o1.2.2.2.2.2.2.2.2.2.2.2.1, o1.2.2.2.2.2.2.2.2.2.2.2.2.1, o1.2.2.2.2.2.2.2.2.2.2.2.2.2.1, o1.2.2.2.2.2.2.2.2.2.2.2.2.2.2.1, o1.2.2.2.2.2.2.2.2.2.2.2.2.2.2.2.1, o1.2.2.2.2.2.2.2.2.2.2.2.2.2.2.2.2.1, o1.2.2.2.2.2.2.2.2.2.2.2.2.2.2.2.2.2.1, o1.2.2.2.2.2.2.2.2.2.2.2.2.2.2.2.2.2.2.1, o1.2.2.2.2.2.2.2.2.2.2.2.2.2.2.2.2.2.2.2.1, o1.2.2.2.2.2.2.2.2.2.2.2.2.2.2.2.2.2.2.2.2.1, o1.2.2.2.2.2.2.2.2.2.2.2.2.2.2.2.2.2.2.2.2.2.1, o1.2.2.2.2.2.2.2.2.2.2.2.2.2.2.2.2.2.2.2.2.2.2.1, o1.2.2.2.2.2.2.2.2.2.2.2.2.2.2.2.2.2.2.2.2.2.2.2)))

-- WallHandsModel.at(IIII)I
def f_m_at (v_courses : Int32) (v_wide : Int32) (v_hands : Int32) (v_jumpTold : Int32) (v_frosts : Int32) (v_gaps : Int32) (v_frostsNow : Int32) (v_notFrosts : Int32) (v_gapsNow : Int32) (v_fell : Int32) (v_fellAll : Int32) (v_sheepFirst : Int32) (v_sheepMany : Int32) (v_typed : Nat → Int32) (v_texts : Nat → Int32) (v_told : Nat → Int32) (v_moods : Nat → Int32) (v_strongs : Nat → Int32) (v_frostYear : Nat → Int32) (v_frostForce : Nat → Int32) (v_gapYear : Nat → Int32) (v_gapColumn : Nat → Int32) (v_gapHand : Nat → Int32) (v_wall : Nat → Int32) (v_yearNow : Nat → Int32) (v_forceNow : Nat → Int32) (v_holdNow : Nat → Int32) (v_fellOf : Nat → Int32) (v_handAt : Nat → Int32) (v_holdAt : Nat → Int32) (v_fallsAt : Nat → Int32) (v_standAt : Nat → Int32) (v_highAt : Nat → Int32) (v_throughAt : Nat → Int32) (a0 : Int32) (a1 : Int32) (a2 : Int32) (a3 : Int32) : Option (Int32 × Int32 × Int32 × Int32 × Int32 × Int32 × Int32 × Int32 × Int32 × Int32 × Int32 × (Nat → Int32) × (Nat → Int32) × (Nat → Int32) × (Nat → Int32) × (Nat → Int32) × (Nat → Int32) × (Nat → Int32) × (Nat → Int32) × (Nat → Int32) × (Nat → Int32) × (Nat → Int32) × (Nat → Int32) × (Nat → Int32) × (Nat → Int32)) :=
  (f_m_isYear a0).bind (fun o1 =>
  if o1 = 0 then
    some ((-2 : Int32), v_courses, v_wide, v_hands, v_frostsNow, v_notFrosts, v_gapsNow, v_fell, v_fellAll, v_sheepFirst, v_sheepMany, v_told, v_moods, v_strongs, v_wall, v_yearNow, v_forceNow, v_holdNow, v_fellOf, v_handAt, v_holdAt, v_fallsAt, v_standAt, v_highAt, v_throughAt)
  else
    (f_m_isPlace a1 a2).bind (fun o9 =>
    if o9 = 0 then
      some ((-2 : Int32), v_courses, v_wide, v_hands, v_frostsNow, v_notFrosts, v_gapsNow, v_fell, v_fellAll, v_sheepFirst, v_sheepMany, v_told, v_moods, v_strongs, v_wall, v_yearNow, v_forceNow, v_holdNow, v_fellOf, v_handAt, v_holdAt, v_fallsAt, v_standAt, v_highAt, v_throughAt)
    else
      (f_m_in a3 (0 : Int32) (1 : Int32)).bind (fun o19 =>
      if o19 = 0 then
        some ((-2 : Int32), v_courses, v_wide, v_hands, v_frostsNow, v_notFrosts, v_gapsNow, v_fell, v_fellAll, v_sheepFirst, v_sheepMany, v_told, v_moods, v_strongs, v_wall, v_yearNow, v_forceNow, v_holdNow, v_fellOf, v_handAt, v_holdAt, v_fallsAt, v_standAt, v_highAt, v_throughAt)
      else
        (f_m_atOf v_courses v_wide v_hands v_jumpTold v_frosts v_gaps v_frostsNow v_notFrosts v_gapsNow v_fell v_fellAll v_sheepFirst v_sheepMany v_typed v_texts v_told v_moods v_strongs v_frostYear v_frostForce v_gapYear v_gapColumn v_gapHand v_wall v_yearNow v_forceNow v_holdNow v_fellOf v_handAt v_holdAt v_fallsAt v_standAt v_highAt v_throughAt a0 (((8 : Int32) * a1) + a2) a3).bind (fun o35 =>
        some (o35.1, o35.2.1, o35.2.2.1, o35.2.2.2.1, o35.2.2.2.2.1, o35.2.2.2.2.2.1, o35.2.2.2.2.2.2.1, o35.2.2.2.2.2.2.2.1, o35.2.2.2.2.2.2.2.2.1, o35.2.2.2.2.2.2.2.2.2.1, o35.2.2.2.2.2.2.2.2.2.2.1, o35.2.2.2.2.2.2.2.2.2.2.2.1, o35.2.2.2.2.2.2.2.2.2.2.2.2.1, o35.2.2.2.2.2.2.2.2.2.2.2.2.2.1, o35.2.2.2.2.2.2.2.2.2.2.2.2.2.2.1, o35.2.2.2.2.2.2.2.2.2.2.2.2.2.2.2.1, o35.2.2.2.2.2.2.2.2.2.2.2.2.2.2.2.2.1, o35.2.2.2.2.2.2.2.2.2.2.2.2.2.2.2.2.2.1, o35.2.2.2.2.2.2.2.2.2.2.2.2.2.2.2.2.2.2.1, o35.2.2.2.2.2.2.2.2.2.2.2.2.2.2.2.2.2.2.2.1, o35.2.2.2.2.2.2.2.2.2.2.2.2.2.2.2.2.2.2.2.2.1, o35.2.2.2.2.2.2.2.2.2.2.2.2.2.2.2.2.2.2.2.2.2.1, o35.2.2.2.2.2.2.2.2.2.2.2.2.2.2.2.2.2.2.2.2.2.2.1, o35.2.2.2.2.2.2.2.2.2.2.2.2.2.2.2.2.2.2.2.2.2.2.2.1, o35.2.2.2.2.2.2.2.2.2.2.2.2.2.2.2.2.2.2.2.2.2.2.2.2)))))

-- WallHandsModel.isColumn(I)Z
def f_m_isColumn (v_courses : Int32) (v_wide : Int32) (v_hands : Int32) (v_typed : Nat → Int32) (v_texts : Nat → Int32) (v_told : Nat → Int32) (v_moods : Nat → Int32) (v_strongs : Nat → Int32) (a0 : Int32) : Option (Int32 × Int32 × Int32 × Int32 × (Nat → Int32) × (Nat → Int32) × (Nat → Int32)) :=
  (f_m_reads v_courses v_wide v_hands v_typed v_texts v_told v_moods v_strongs).bind (fun o1 =>
  (f_m_in a0 (0 : Int32) (o1.2.1 - (1 : Int32))).bind (fun o12 =>
  gd (isB o12) (
  some (o12, o1.1, o1.2.1, o1.2.2.1, o1.2.2.2.1, o1.2.2.2.2.1, o1.2.2.2.2.2))))

-- WallHandsModel.columnOf(III)I
def f_m_columnOf (v_courses : Int32) (v_wide : Int32) (v_hands : Int32) (v_jumpTold : Int32) (v_frosts : Int32) (v_gaps : Int32) (v_frostsNow : Int32) (v_notFrosts : Int32) (v_gapsNow : Int32) (v_fell : Int32) (v_fellAll : Int32) (v_sheepFirst : Int32) (v_sheepMany : Int32) (v_typed : Nat → Int32) (v_texts : Nat → Int32) (v_told : Nat → Int32) (v_moods : Nat → Int32) (v_strongs : Nat → Int32) (v_frostYear : Nat → Int32) (v_frostForce : Nat → Int32) (v_gapYear : Nat → Int32) (v_gapColumn : Nat → Int32) (v_gapHand : Nat → Int32) (v_wall : Nat → Int32) (v_yearNow : Nat → Int32) (v_forceNow : Nat → Int32) (v_holdNow : Nat → Int32) (v_fellOf : Nat → Int32) (v_handAt : Nat → Int32) (v_holdAt : Nat → Int32) (v_fallsAt : Nat → Int32) (v_standAt : Nat → Int32) (v_highAt : Nat → Int32) (v_throughAt : Nat → Int32) (a0 : Int32) (a1 : Int32) (a2 : Int32) : Option (Int32 × Int32 × Int32 × Int32 × Int32 × Int32 × Int32 × Int32 × Int32 × Int32 × Int32 × (Nat → Int32) × (Nat → Int32) × (Nat → Int32) × (Nat → Int32) × (Nat → Int32) × (Nat → Int32) × (Nat → Int32) × (Nat → Int32) × (Nat → Int32) × (Nat → Int32) × (Nat → Int32) × (Nat → Int32) × (Nat → Int32) × (Nat → Int32)) :=
  (f_m_runsTold v_courses v_wide v_hands v_jumpTold v_frosts v_gaps v_frostsNow v_notFrosts v_gapsNow v_fell v_fellAll v_sheepFirst v_sheepMany v_typed v_texts v_told v_moods v_strongs v_frostYear v_frostForce v_gapYear v_gapColumn v_gapHand v_wall v_yearNow v_forceNow v_holdNow v_fellOf v_handAt v_holdAt v_fallsAt v_standAt v_highAt v_throughAt).bind (fun o1 =>
  if a2 = 0 then
    gd (inb (((8 : Int32) * a0) + a1) 160) (
    some (o1.2.2.2.2.2.2.2.2.2.2.2.2.2.2.2.2.2.2.2.2.2.2.1 (((8 : Int32) * a0) + a1).toNatClampNeg, o1.1, o1.2.1, o1.2.2.1, o1.2.2.2.1, o1.2.2.2.2.1, o1.2.2.2.2.2.1, o1.2.2.2.2.2.2.1, o1.2.2.2.2.2.2.2.1, o1.2.2.2.2.2.2.2.2.1, o1.2.2.2.2.2.2.2.2.2.1, o1.2.2.2.2.2.2.2.2.2.2.1, o1.2.2.2.2.2.2.2.2.2.2.2.1, o1.2.2.2.2.2.2.2.2.2.2.2.2.1, o1.2.2.2.2.2.2.2.2.2.2.2.2.2.1, o1.2.2.2.2.2.2.2.2.2.2.2.2.2.2.1, o1.2.2.2.2.2.2.2.2.2.2.2.2.2.2.2.1, o1.2.2.2.2.2.2.2.2.2.2.2.2.2.2.2.2.1, o1.2.2.2.2.2.2.2.2.2.2.2.2.2.2.2.2.2.1, o1.2.2.2.2.2.2.2.2.2.2.2.2.2.2.2.2.2.2.1, o1.2.2.2.2.2.2.2.2.2.2.2.2.2.2.2.2.2.2.2.1, o1.2.2.2.2.2.2.2.2.2.2.2.2.2.2.2.2.2.2.2.2.1, o1.2.2.2.2.2.2.2.2.2.2.2.2.2.2.2.2.2.2.2.2.2.1, o1.2.2.2.2.2.2.2.2.2.2.2.2.2.2.2.2.2.2.2.2.2.2.1, o1.2.2.2.2.2.2.2.2.2.2.2.2.2.2.2.2.2.2.2.2.2.2.2))
  else
    gd (inb (((8 : Int32) * a0) + a1) 160) (
    if (o1.2.2.2.2.2.2.2.2.2.2.2.2.2.2.2.2.2.2.2.2.2.2.2 (((8 : Int32) * a0) + a1).toNatClampNeg) = 0 then
      some ((0 : Int32), o1.1, o1.2.1, o1.2.2.1, o1.2.2.2.1, o1.2.2.2.2.1, o1.2.2.2.2.2.1, o1.2.2.2.2.2.2.1, o1.2.2.2.2.2.2.2.1, o1.2.2.2.2.2.2.2.2.1, o1.2.2.2.2.2.2.2.2.2.1, o1.2.2.2.2.2.2.2.2.2.2.1, o1.2.2.2.2.2.2.2.2.2.2.2.1, o1.2.2.2.2.2.2.2.2.2.2.2.2.1, o1.2.2.2.2.2.2.2.2.2.2.2.2.2.1, o1.2.2.2.2.2.2.2.2.2.2.2.2.2.2.1, o1.2.2.2.2.2.2.2.2.2.2.2.2.2.2.2.1, o1.2.2.2.2.2.2.2.2.2.2.2.2.2.2.2.2.1, o1.2.2.2.2.2.2.2.2.2.2.2.2.2.2.2.2.2.1, o1.2.2.2.2.2.2.2.2.2.2.2.2.2.2.2.2.2.2.1, o1.2.2.2.2.2.2.2.2.2.2.2.2.2.2.2.2.2.2.2.1, o1.2.2.2.2.2.2.2.2.2.2.2.2.2.2.2.2.2.2.2.2.1, o1.2.2.2.2.2.2.2.2.2.2.2.2.2.2.2.2.2.2.2.2.2.1, o1.2.2.2.2.2.2.2.2.2.2.2.2.2.2.2.2.2.2.2.2.2.2.1, o1.2.2.2.2.2.2.2.2.2.2.2.2.2.2.2.2.2.2.2.2.2.2.2)
    else
      some ((1 : Int32), o1.1, o1.2.1, o1.2.2.1, o1.2.2.2.1, o1.2.2.2.2.1, o1.2.2.2.2.2.1, o1.2.2.2.2.2.2.1, o1.2.2.2.2.2.2.2.1, o1.2.2.2.2.2.2.2.2.1, o1.2.2.2.2.2.2.2.2.2.1, o1.2.2.2.2.2.2.2.2.2.2.1, o1.2.2.2.2.2.2.2.2.2.2.2.1, o1.2.2.2.2.2.2.2.2.2.2.2.2.1, o1.2.2.2.2.2.2.2.2.2.2.2.2.2.1, o1.2.2.2.2.2.2.2.2.2.2.2.2.2.2.1, o1.2.2.2.2.2.2.2.2.2.2.2.2.2.2.2.1, o1.2.2.2.2.2.2.2.2.2.2.2.2.2.2.2.2.1, o1.2.2.2.2.2.2.2.2.2.2.2.2.2.2.2.2.2.1, o1.2.2.2.2.2.2.2.2.2.2.2.2.2.2.2.2.2.2.1, o1.2.2.2.2.2.2.2.2.2.2.2.2.2.2.2.2.2.2.2.1, o1.2.2.2.2.2.2.2.2.2.2.2.2.2.2.2.2.2.2.2.2.1, o1.2.2.2.2.2.2.2.2.2.2.2.2.2.2.2.2.2.2.2.2.2.1, o1.2.2.2.2.2.2.2.2.2.2.2.2.2.2.2.2.2.2.2.2.2.2.1, o1.2.2.2.2.2.2.2.2.2.2.2.2.2.2.2.2.2.2.2.2.2.2.2)))

-- WallHandsModel.column(III)I
def f_m_column (v_courses : Int32) (v_wide : Int32) (v_hands : Int32) (v_jumpTold : Int32) (v_frosts : Int32) (v_gaps : Int32) (v_frostsNow : Int32) (v_notFrosts : Int32) (v_gapsNow : Int32) (v_fell : Int32) (v_fellAll : Int32) (v_sheepFirst : Int32) (v_sheepMany : Int32) (v_typed : Nat → Int32) (v_texts : Nat → Int32) (v_told : Nat → Int32) (v_moods : Nat → Int32) (v_strongs : Nat → Int32) (v_frostYear : Nat → Int32) (v_frostForce : Nat → Int32) (v_gapYear : Nat → Int32) (v_gapColumn : Nat → Int32) (v_gapHand : Nat → Int32) (v_wall : Nat → Int32) (v_yearNow : Nat → Int32) (v_forceNow : Nat → Int32) (v_holdNow : Nat → Int32) (v_fellOf : Nat → Int32) (v_handAt : Nat → Int32) (v_holdAt : Nat → Int32) (v_fallsAt : Nat → Int32) (v_standAt : Nat → Int32) (v_highAt : Nat → Int32) (v_throughAt : Nat → Int32) (a0 : Int32) (a1 : Int32) (a2 : Int32) : Option (Int32 × Int32 × Int32 × Int32 × Int32 × Int32 × Int32 × Int32 × Int32 × Int32 × Int32 × (Nat → Int32) × (Nat → Int32) × (Nat → Int32) × (Nat → Int32) × (Nat → Int32) × (Nat → Int32) × (Nat → Int32) × (Nat → Int32) × (Nat → Int32) × (Nat → Int32) × (Nat → Int32) × (Nat → Int32) × (Nat → Int32) × (Nat → Int32)) :=
  (f_m_isYear a0).bind (fun o1 =>
  if o1 = 0 then
    some ((-2 : Int32), v_courses, v_wide, v_hands, v_frostsNow, v_notFrosts, v_gapsNow, v_fell, v_fellAll, v_sheepFirst, v_sheepMany, v_told, v_moods, v_strongs, v_wall, v_yearNow, v_forceNow, v_holdNow, v_fellOf, v_handAt, v_holdAt, v_fallsAt, v_standAt, v_highAt, v_throughAt)
  else
    (f_m_isColumn v_courses v_wide v_hands v_typed v_texts v_told v_moods v_strongs a1).bind (fun o9 =>
    if o9.1 = 0 then
      some ((-2 : Int32), o9.2.1, o9.2.2.1, o9.2.2.2.1, v_frostsNow, v_notFrosts, v_gapsNow, v_fell, v_fellAll, v_sheepFirst, v_sheepMany, o9.2.2.2.2.1, o9.2.2.2.2.2.1, o9.2.2.2.2.2.2, v_wall, v_yearNow, v_forceNow, v_holdNow, v_fellOf, v_handAt, v_holdAt, v_fallsAt, v_standAt, v_highAt, v_throughAt)
    else
      (f_m_in a2 (0 : Int32) (1 : Int32)).bind (fun o18 =>
      if o18 = 0 then
        some ((-2 : Int32), o9.2.1, o9.2.2.1, o9.2.2.2.1, v_frostsNow, v_notFrosts, v_gapsNow, v_fell, v_fellAll, v_sheepFirst, v_sheepMany, o9.2.2.2.2.1, o9.2.2.2.2.2.1, o9.2.2.2.2.2.2, v_wall, v_yearNow, v_forceNow, v_holdNow, v_fellOf, v_handAt, v_holdAt, v_fallsAt, v_standAt, v_highAt, v_throughAt)
      else
        (f_m_columnOf o9.2.1 o9.2.2.1 o9.2.2.2.1 v_jumpTold v_frosts v_gaps v_frostsNow v_notFrosts v_gapsNow v_fell v_fellAll v_sheepFirst v_sheepMany v_typed v_texts o9.2.2.2.2.1 o9.2.2.2.2.2.1 o9.2.2.2.2.2.2 v_frostYear v_frostForce v_gapYear v_gapColumn v_gapHand v_wall v_yearNow v_forceNow v_holdNow v_fellOf v_handAt v_holdAt v_fallsAt v_standAt v_highAt v_throughAt a0 a1 a2).bind (fun o28 =>
        some (o28.1, o28.2.1, o28.2.2.1, o28.2.2.2.1, o28.2.2.2.2.1, o28.2.2.2.2.2.1, o28.2.2.2.2.2.2.1, o28.2.2.2.2.2.2.2.1, o28.2.2.2.2.2.2.2.2.1, o28.2.2.2.2.2.2.2.2.2.1, o28.2.2.2.2.2.2.2.2.2.2.1, o28.2.2.2.2.2.2.2.2.2.2.2.1, o28.2.2.2.2.2.2.2.2.2.2.2.2.1, o28.2.2.2.2.2.2.2.2.2.2.2.2.2.1, o28.2.2.2.2.2.2.2.2.2.2.2.2.2.2.1, o28.2.2.2.2.2.2.2.2.2.2.2.2.2.2.2.1, o28.2.2.2.2.2.2.2.2.2.2.2.2.2.2.2.2.1, o28.2.2.2.2.2.2.2.2.2.2.2.2.2.2.2.2.2.1, o28.2.2.2.2.2.2.2.2.2.2.2.2.2.2.2.2.2.2.1, o28.2.2.2.2.2.2.2.2.2.2.2.2.2.2.2.2.2.2.2.1, o28.2.2.2.2.2.2.2.2.2.2.2.2.2.2.2.2.2.2.2.2.1, o28.2.2.2.2.2.2.2.2.2.2.2.2.2.2.2.2.2.2.2.2.2.1, o28.2.2.2.2.2.2.2.2.2.2.2.2.2.2.2.2.2.2.2.2.2.2.1, o28.2.2.2.2.2.2.2.2.2.2.2.2.2.2.2.2.2.2.2.2.2.2.2.1, o28.2.2.2.2.2.2.2.2.2.2.2.2.2.2.2.2.2.2.2.2.2.2.2.2)))))

-- WallHandsModel.fallsOf(I)I
def f_m_fallsOf (v_courses : Int32) (v_wide : Int32) (v_hands : Int32) (v_jumpTold : Int32) (v_frosts : Int32) (v_gaps : Int32) (v_frostsNow : Int32) (v_notFrosts : Int32) (v_gapsNow : Int32) (v_fell : Int32) (v_fellAll : Int32) (v_sheepFirst : Int32) (v_sheepMany : Int32) (v_typed : Nat → Int32) (v_texts : Nat → Int32) (v_told : Nat → Int32) (v_moods : Nat → Int32) (v_strongs : Nat → Int32) (v_frostYear : Nat → Int32) (v_frostForce : Nat → Int32) (v_gapYear : Nat → Int32) (v_gapColumn : Nat → Int32) (v_gapHand : Nat → Int32) (v_wall : Nat → Int32) (v_yearNow : Nat → Int32) (v_forceNow : Nat → Int32) (v_holdNow : Nat → Int32) (v_fellOf : Nat → Int32) (v_handAt : Nat → Int32) (v_holdAt : Nat → Int32) (v_fallsAt : Nat → Int32) (v_standAt : Nat → Int32) (v_highAt : Nat → Int32) (v_throughAt : Nat → Int32) (a0 : Int32) : Option (Int32 × Int32 × Int32 × Int32 × Int32 × Int32 × Int32 × Int32 × Int32 × Int32 × Int32 × (Nat → Int32) × (Nat → Int32) × (Nat → Int32) × (Nat → Int32) × (Nat → Int32) × (Nat → Int32) × (Nat → Int32) × (Nat → Int32) × (Nat → Int32) × (Nat → Int32) × (Nat → Int32) × (Nat → Int32) × (Nat → Int32) × (Nat → Int32)) :=
  (f_m_runsTold v_courses v_wide v_hands v_jumpTold v_frosts v_gaps v_frostsNow v_notFrosts v_gapsNow v_fell v_fellAll v_sheepFirst v_sheepMany v_typed v_texts v_told v_moods v_strongs v_frostYear v_frostForce v_gapYear v_gapColumn v_gapHand v_wall v_yearNow v_forceNow v_holdNow v_fellOf v_handAt v_holdAt v_fallsAt v_standAt v_highAt v_throughAt).bind (fun o1 =>
  gd (inb a0 20) (
  some (o1.2.2.2.2.2.2.2.2.2.2.2.2.2.2.2.2.2.2.2.2.1 a0.toNatClampNeg, o1.1, o1.2.1, o1.2.2.1, o1.2.2.2.1, o1.2.2.2.2.1, o1.2.2.2.2.2.1, o1.2.2.2.2.2.2.1, o1.2.2.2.2.2.2.2.1, o1.2.2.2.2.2.2.2.2.1, o1.2.2.2.2.2.2.2.2.2.1, o1.2.2.2.2.2.2.2.2.2.2.1, o1.2.2.2.2.2.2.2.2.2.2.2.1, o1.2.2.2.2.2.2.2.2.2.2.2.2.1, o1.2.2.2.2.2.2.2.2.2.2.2.2.2.1, o1.2.2.2.2.2.2.2.2.2.2.2.2.2.2.1, o1.2.2.2.2.2.2.2.2.2.2.2.2.2.2.2.1, o1.2.2.2.2.2.2.2.2.2.2.2.2.2.2.2.2.1, o1.2.2.2.2.2.2.2.2.2.2.2.2.2.2.2.2.2.1, o1.2.2.2.2.2.2.2.2.2.2.2.2.2.2.2.2.2.2.1, o1.2.2.2.2.2.2.2.2.2.2.2.2.2.2.2.2.2.2.2.1, o1.2.2.2.2.2.2.2.2.2.2.2.2.2.2.2.2.2.2.2.2.1, o1.2.2.2.2.2.2.2.2.2.2.2.2.2.2.2.2.2.2.2.2.2.1, o1.2.2.2.2.2.2.2.2.2.2.2.2.2.2.2.2.2.2.2.2.2.2.1, o1.2.2.2.2.2.2.2.2.2.2.2.2.2.2.2.2.2.2.2.2.2.2.2)))

-- WallHandsModel.falls(I)I
def f_m_falls (v_courses : Int32) (v_wide : Int32) (v_hands : Int32) (v_jumpTold : Int32) (v_frosts : Int32) (v_gaps : Int32) (v_frostsNow : Int32) (v_notFrosts : Int32) (v_gapsNow : Int32) (v_fell : Int32) (v_fellAll : Int32) (v_sheepFirst : Int32) (v_sheepMany : Int32) (v_typed : Nat → Int32) (v_texts : Nat → Int32) (v_told : Nat → Int32) (v_moods : Nat → Int32) (v_strongs : Nat → Int32) (v_frostYear : Nat → Int32) (v_frostForce : Nat → Int32) (v_gapYear : Nat → Int32) (v_gapColumn : Nat → Int32) (v_gapHand : Nat → Int32) (v_wall : Nat → Int32) (v_yearNow : Nat → Int32) (v_forceNow : Nat → Int32) (v_holdNow : Nat → Int32) (v_fellOf : Nat → Int32) (v_handAt : Nat → Int32) (v_holdAt : Nat → Int32) (v_fallsAt : Nat → Int32) (v_standAt : Nat → Int32) (v_highAt : Nat → Int32) (v_throughAt : Nat → Int32) (a0 : Int32) : Option (Int32 × Int32 × Int32 × Int32 × Int32 × Int32 × Int32 × Int32 × Int32 × Int32 × Int32 × (Nat → Int32) × (Nat → Int32) × (Nat → Int32) × (Nat → Int32) × (Nat → Int32) × (Nat → Int32) × (Nat → Int32) × (Nat → Int32) × (Nat → Int32) × (Nat → Int32) × (Nat → Int32) × (Nat → Int32) × (Nat → Int32) × (Nat → Int32)) :=
  (f_m_isYear a0).bind (fun o1 =>
  if o1 = 0 then
    some ((-2 : Int32), v_courses, v_wide, v_hands, v_frostsNow, v_notFrosts, v_gapsNow, v_fell, v_fellAll, v_sheepFirst, v_sheepMany, v_told, v_moods, v_strongs, v_wall, v_yearNow, v_forceNow, v_holdNow, v_fellOf, v_handAt, v_holdAt, v_fallsAt, v_standAt, v_highAt, v_throughAt)
  else
    (f_m_fallsOf v_courses v_wide v_hands v_jumpTold v_frosts v_gaps v_frostsNow v_notFrosts v_gapsNow v_fell v_fellAll v_sheepFirst v_sheepMany v_typed v_texts v_told v_moods v_strongs v_frostYear v_frostForce v_gapYear v_gapColumn v_gapHand v_wall v_yearNow v_forceNow v_holdNow v_fellOf v_handAt v_holdAt v_fallsAt v_standAt v_highAt v_throughAt a0).bind (fun o9 =>
    some (o9.1, o9.2.1, o9.2.2.1, o9.2.2.2.1, o9.2.2.2.2.1, o9.2.2.2.2.2.1, o9.2.2.2.2.2.2.1, o9.2.2.2.2.2.2.2.1, o9.2.2.2.2.2.2.2.2.1, o9.2.2.2.2.2.2.2.2.2.1, o9.2.2.2.2.2.2.2.2.2.2.1, o9.2.2.2.2.2.2.2.2.2.2.2.1, o9.2.2.2.2.2.2.2.2.2.2.2.2.1, o9.2.2.2.2.2.2.2.2.2.2.2.2.2.1, o9.2.2.2.2.2.2.2.2.2.2.2.2.2.2.1, o9.2.2.2.2.2.2.2.2.2.2.2.2.2.2.2.1, o9.2.2.2.2.2.2.2.2.2.2.2.2.2.2.2.2.1, o9.2.2.2.2.2.2.2.2.2.2.2.2.2.2.2.2.2.1, o9.2.2.2.2.2.2.2.2.2.2.2.2.2.2.2.2.2.2.1, o9.2.2.2.2.2.2.2.2.2.2.2.2.2.2.2.2.2.2.2.1, o9.2.2.2.2.2.2.2.2.2.2.2.2.2.2.2.2.2.2.2.2.1, o9.2.2.2.2.2.2.2.2.2.2.2.2.2.2.2.2.2.2.2.2.2.1, o9.2.2.2.2.2.2.2.2.2.2.2.2.2.2.2.2.2.2.2.2.2.2.1, o9.2.2.2.2.2.2.2.2.2.2.2.2.2.2.2.2.2.2.2.2.2.2.2.1, o9.2.2.2.2.2.2.2.2.2.2.2.2.2.2.2.2.2.2.2.2.2.2.2.2)))

-- WallHandsModel.sheepOf(I)I
def f_m_sheepOf (v_courses : Int32) (v_wide : Int32) (v_hands : Int32) (v_jumpTold : Int32) (v_frosts : Int32) (v_gaps : Int32) (v_frostsNow : Int32) (v_notFrosts : Int32) (v_gapsNow : Int32) (v_fell : Int32) (v_fellAll : Int32) (v_sheepFirst : Int32) (v_sheepMany : Int32) (v_typed : Nat → Int32) (v_texts : Nat → Int32) (v_told : Nat → Int32) (v_moods : Nat → Int32) (v_strongs : Nat → Int32) (v_frostYear : Nat → Int32) (v_frostForce : Nat → Int32) (v_gapYear : Nat → Int32) (v_gapColumn : Nat → Int32) (v_gapHand : Nat → Int32) (v_wall : Nat → Int32) (v_yearNow : Nat → Int32) (v_forceNow : Nat → Int32) (v_holdNow : Nat → Int32) (v_fellOf : Nat → Int32) (v_handAt : Nat → Int32) (v_holdAt : Nat → Int32) (v_fallsAt : Nat → Int32) (v_standAt : Nat → Int32) (v_highAt : Nat → Int32) (v_throughAt : Nat → Int32) (a0 : Int32) : Option (Int32 × Int32 × Int32 × Int32 × Int32 × Int32 × Int32 × Int32 × Int32 × Int32 × Int32 × (Nat → Int32) × (Nat → Int32) × (Nat → Int32) × (Nat → Int32) × (Nat → Int32) × (Nat → Int32) × (Nat → Int32) × (Nat → Int32) × (Nat → Int32) × (Nat → Int32) × (Nat → Int32) × (Nat → Int32) × (Nat → Int32) × (Nat → Int32)) :=
  (f_m_runsTold v_courses v_wide v_hands v_jumpTold v_frosts v_gaps v_frostsNow v_notFrosts v_gapsNow v_fell v_fellAll v_sheepFirst v_sheepMany v_typed v_texts v_told v_moods v_strongs v_frostYear v_frostForce v_gapYear v_gapColumn v_gapHand v_wall v_yearNow v_forceNow v_holdNow v_fellOf v_handAt v_holdAt v_fallsAt v_standAt v_highAt v_throughAt).bind (fun o1 =>
  if a0 = 0 then
    some (o1.2.2.2.2.2.2.2.2.1, o1.1, o1.2.1, o1.2.2.1, o1.2.2.2.1, o1.2.2.2.2.1, o1.2.2.2.2.2.1, o1.2.2.2.2.2.2.1, o1.2.2.2.2.2.2.2.1, o1.2.2.2.2.2.2.2.2.1, o1.2.2.2.2.2.2.2.2.2.1, o1.2.2.2.2.2.2.2.2.2.2.1, o1.2.2.2.2.2.2.2.2.2.2.2.1, o1.2.2.2.2.2.2.2.2.2.2.2.2.1, o1.2.2.2.2.2.2.2.2.2.2.2.2.2.1, o1.2.2.2.2.2.2.2.2.2.2.2.2.2.2.1, o1.2.2.2.2.2.2.2.2.2.2.2.2.2.2.2.1, o1.2.2.2.2.2.2.2.2.2.2.2.2.2.2.2.2.1, o1.2.2.2.2.2.2.2.2.2.2.2.2.2.2.2.2.2.1, o1.2.2.2.2.2.2.2.2.2.2.2.2.2.2.2.2.2.2.1, o1.2.2.2.2.2.2.2.2.2.2.2.2.2.2.2.2.2.2.2.1, o1.2.2.2.2.2.2.2.2.2.2.2.2.2.2.2.2.2.2.2.2.1, o1.2.2.2.2.2.2.2.2.2.2.2.2.2.2.2.2.2.2.2.2.2.1, o1.2.2.2.2.2.2.2.2.2.2.2.2.2.2.2.2.2.2.2.2.2.2.1, o1.2.2.2.2.2.2.2.2.2.2.2.2.2.2.2.2.2.2.2.2.2.2.2)
  else
    some (o1.2.2.2.2.2.2.2.2.2.1, o1.1, o1.2.1, o1.2.2.1, o1.2.2.2.1, o1.2.2.2.2.1, o1.2.2.2.2.2.1, o1.2.2.2.2.2.2.1, o1.2.2.2.2.2.2.2.1, o1.2.2.2.2.2.2.2.2.1, o1.2.2.2.2.2.2.2.2.2.1, o1.2.2.2.2.2.2.2.2.2.2.1, o1.2.2.2.2.2.2.2.2.2.2.2.1, o1.2.2.2.2.2.2.2.2.2.2.2.2.1, o1.2.2.2.2.2.2.2.2.2.2.2.2.2.1, o1.2.2.2.2.2.2.2.2.2.2.2.2.2.2.1, o1.2.2.2.2.2.2.2.2.2.2.2.2.2.2.2.1, o1.2.2.2.2.2.2.2.2.2.2.2.2.2.2.2.2.1, o1.2.2.2.2.2.2.2.2.2.2.2.2.2.2.2.2.2.1, o1.2.2.2.2.2.2.2.2.2.2.2.2.2.2.2.2.2.2.1, o1.2.2.2.2.2.2.2.2.2.2.2.2.2.2.2.2.2.2.2.1, o1.2.2.2.2.2.2.2.2.2.2.2.2.2.2.2.2.2.2.2.2.1, o1.2.2.2.2.2.2.2.2.2.2.2.2.2.2.2.2.2.2.2.2.2.1, o1.2.2.2.2.2.2.2.2.2.2.2.2.2.2.2.2.2.2.2.2.2.2.1, o1.2.2.2.2.2.2.2.2.2.2.2.2.2.2.2.2.2.2.2.2.2.2.2))

-- WallHandsModel.sheep(I)I
def f_m_sheep (v_courses : Int32) (v_wide : Int32) (v_hands : Int32) (v_jumpTold : Int32) (v_frosts : Int32) (v_gaps : Int32) (v_frostsNow : Int32) (v_notFrosts : Int32) (v_gapsNow : Int32) (v_fell : Int32) (v_fellAll : Int32) (v_sheepFirst : Int32) (v_sheepMany : Int32) (v_typed : Nat → Int32) (v_texts : Nat → Int32) (v_told : Nat → Int32) (v_moods : Nat → Int32) (v_strongs : Nat → Int32) (v_frostYear : Nat → Int32) (v_frostForce : Nat → Int32) (v_gapYear : Nat → Int32) (v_gapColumn : Nat → Int32) (v_gapHand : Nat → Int32) (v_wall : Nat → Int32) (v_yearNow : Nat → Int32) (v_forceNow : Nat → Int32) (v_holdNow : Nat → Int32) (v_fellOf : Nat → Int32) (v_handAt : Nat → Int32) (v_holdAt : Nat → Int32) (v_fallsAt : Nat → Int32) (v_standAt : Nat → Int32) (v_highAt : Nat → Int32) (v_throughAt : Nat → Int32) (a0 : Int32) : Option (Int32 × Int32 × Int32 × Int32 × Int32 × Int32 × Int32 × Int32 × Int32 × Int32 × Int32 × (Nat → Int32) × (Nat → Int32) × (Nat → Int32) × (Nat → Int32) × (Nat → Int32) × (Nat → Int32) × (Nat → Int32) × (Nat → Int32) × (Nat → Int32) × (Nat → Int32) × (Nat → Int32) × (Nat → Int32) × (Nat → Int32) × (Nat → Int32)) :=
  (f_m_in a0 (0 : Int32) (1 : Int32)).bind (fun o3 =>
  if o3 = 0 then
    some ((-2 : Int32), v_courses, v_wide, v_hands, v_frostsNow, v_notFrosts, v_gapsNow, v_fell, v_fellAll, v_sheepFirst, v_sheepMany, v_told, v_moods, v_strongs, v_wall, v_yearNow, v_forceNow, v_holdNow, v_fellOf, v_handAt, v_holdAt, v_fallsAt, v_standAt, v_highAt, v_throughAt)
  else
    (f_m_sheepOf v_courses v_wide v_hands v_jumpTold v_frosts v_gaps v_frostsNow v_notFrosts v_gapsNow v_fell v_fellAll v_sheepFirst v_sheepMany v_typed v_texts v_told v_moods v_strongs v_frostYear v_frostForce v_gapYear v_gapColumn v_gapHand v_wall v_yearNow v_forceNow v_holdNow v_fellOf v_handAt v_holdAt v_fallsAt v_standAt v_highAt v_throughAt a0).bind (fun o11 =>
    some (o11.1, o11.2.1, o11.2.2.1, o11.2.2.2.1, o11.2.2.2.2.1, o11.2.2.2.2.2.1, o11.2.2.2.2.2.2.1, o11.2.2.2.2.2.2.2.1, o11.2.2.2.2.2.2.2.2.1, o11.2.2.2.2.2.2.2.2.2.1, o11.2.2.2.2.2.2.2.2.2.2.1, o11.2.2.2.2.2.2.2.2.2.2.2.1, o11.2.2.2.2.2.2.2.2.2.2.2.2.1, o11.2.2.2.2.2.2.2.2.2.2.2.2.2.1, o11.2.2.2.2.2.2.2.2.2.2.2.2.2.2.1, o11.2.2.2.2.2.2.2.2.2.2.2.2.2.2.2.1, o11.2.2.2.2.2.2.2.2.2.2.2.2.2.2.2.2.1, o11.2.2.2.2.2.2.2.2.2.2.2.2.2.2.2.2.2.1, o11.2.2.2.2.2.2.2.2.2.2.2.2.2.2.2.2.2.2.1, o11.2.2.2.2.2.2.2.2.2.2.2.2.2.2.2.2.2.2.2.1, o11.2.2.2.2.2.2.2.2.2.2.2.2.2.2.2.2.2.2.2.2.1, o11.2.2.2.2.2.2.2.2.2.2.2.2.2.2.2.2.2.2.2.2.2.1, o11.2.2.2.2.2.2.2.2.2.2.2.2.2.2.2.2.2.2.2.2.2.2.1, o11.2.2.2.2.2.2.2.2.2.2.2.2.2.2.2.2.2.2.2.2.2.2.2.1, o11.2.2.2.2.2.2.2.2.2.2.2.2.2.2.2.2.2.2.2.2.2.2.2.2)))

-- WallHandsModel.mineNow(I)I
def f_m_mineNow_N30 (v_handAt : Nat → Int32) (k4 : Int32 → Int32 → Int32 → Option Int32) (x1 : Int32) (x3 : Int32) (y0 : Int32) (y1 : Int32) : Option Int32 :=
  k4 x1 (y0 + y1) (x3 + (1 : Int32))

def f_m_mineNow_N4 (v_handAt : Nat → Int32) (k4 : Int32 → Int32 → Int32 → Option Int32) (x1 : Int32) (x2 : Int32) (x3 : Int32) : Option Int32 :=
  if (40 : Int32) ≤ x3 then
    some x2
  else
    gd (inb ((760 : Int32) + x3) 800) (
    if (v_handAt ((760 : Int32) + x3).toNatClampNeg) = x1 then
      f_m_mineNow_N30 v_handAt k4 x1 x3 x2 (1 : Int32)
    else
      f_m_mineNow_N30 v_handAt k4 x1 x3 x2 (0 : Int32))

def f_m_mineNow (v_handAt : Nat → Int32) (a0 : Int32) : Option Int32 :=
  iter (fun _ _ _ => none) (f_m_mineNow_N4 v_handAt) 1000 a0 (0 : Int32) (0 : Int32)

-- WallHandsModel.mineOf(I)I
def f_m_mineOf (v_courses : Int32) (v_wide : Int32) (v_hands : Int32) (v_jumpTold : Int32) (v_frosts : Int32) (v_gaps : Int32) (v_frostsNow : Int32) (v_notFrosts : Int32) (v_gapsNow : Int32) (v_fell : Int32) (v_fellAll : Int32) (v_sheepFirst : Int32) (v_sheepMany : Int32) (v_typed : Nat → Int32) (v_texts : Nat → Int32) (v_told : Nat → Int32) (v_moods : Nat → Int32) (v_strongs : Nat → Int32) (v_frostYear : Nat → Int32) (v_frostForce : Nat → Int32) (v_gapYear : Nat → Int32) (v_gapColumn : Nat → Int32) (v_gapHand : Nat → Int32) (v_wall : Nat → Int32) (v_yearNow : Nat → Int32) (v_forceNow : Nat → Int32) (v_holdNow : Nat → Int32) (v_fellOf : Nat → Int32) (v_handAt : Nat → Int32) (v_holdAt : Nat → Int32) (v_fallsAt : Nat → Int32) (v_standAt : Nat → Int32) (v_highAt : Nat → Int32) (v_throughAt : Nat → Int32) (a0 : Int32) : Option (Int32 × Int32 × Int32 × Int32 × Int32 × Int32 × Int32 × Int32 × Int32 × Int32 × Int32 × (Nat → Int32) × (Nat → Int32) × (Nat → Int32) × (Nat → Int32) × (Nat → Int32) × (Nat → Int32) × (Nat → Int32) × (Nat → Int32) × (Nat → Int32) × (Nat → Int32) × (Nat → Int32) × (Nat → Int32) × (Nat → Int32) × (Nat → Int32)) :=
  (f_m_runsTold v_courses v_wide v_hands v_jumpTold v_frosts v_gaps v_frostsNow v_notFrosts v_gapsNow v_fell v_fellAll v_sheepFirst v_sheepMany v_typed v_texts v_told v_moods v_strongs v_frostYear v_frostForce v_gapYear v_gapColumn v_gapHand v_wall v_yearNow v_forceNow v_holdNow v_fellOf v_handAt v_holdAt v_fallsAt v_standAt v_highAt v_throughAt).bind (fun o1 =>
  (f_m_mineNow o1.2.2.2.2.2.2.2.2.2.2.2.2.2.2.2.2.2.2.1 a0).bind (fun o6 =>
  some (o6, o1.1, o1.2.1, o1.2.2.1, o1.2.2.2.1, o1.2.2.2.2.1, o1.2.2.2.2.2.1, o1.2.2.2.2.2.2.1, o1.2.2.2.2.2.2.2.1, o1.2.2.2.2.2.2.2.2.1, o1.2.2.2.2.2.2.2.2.2.1, o1.2.2.2.2.2.2.2.2.2.2.1, o1.2.2.2.2.2.2.2.2.2.2.2.1, o1.2.2.2.2.2.2.2.2.2.2.2.2.1, o1.2.2.2.2.2.2.2.2.2.2.2.2.2.1, o1.2.2.2.2.2.2.2.2.2.2.2.2.2.2.1, o1.2.2.2.2.2.2.2.2.2.2.2.2.2.2.2.1, o1.2.2.2.2.2.2.2.2.2.2.2.2.2.2.2.2.1, o1.2.2.2.2.2.2.2.2.2.2.2.2.2.2.2.2.2.1, o1.2.2.2.2.2.2.2.2.2.2.2.2.2.2.2.2.2.2.1, o1.2.2.2.2.2.2.2.2.2.2.2.2.2.2.2.2.2.2.2.1, o1.2.2.2.2.2.2.2.2.2.2.2.2.2.2.2.2.2.2.2.2.1, o1.2.2.2.2.2.2.2.2.2.2.2.2.2.2.2.2.2.2.2.2.2.1, o1.2.2.2.2.2.2.2.2.2.2.2.2.2.2.2.2.2.2.2.2.2.2.1, o1.2.2.2.2.2.2.2.2.2.2.2.2.2.2.2.2.2.2.2.2.2.2.2)))

-- WallHandsModel.mine(I)I
def f_m_mine (v_courses : Int32) (v_wide : Int32) (v_hands : Int32) (v_jumpTold : Int32) (v_frosts : Int32) (v_gaps : Int32) (v_frostsNow : Int32) (v_notFrosts : Int32) (v_gapsNow : Int32) (v_fell : Int32) (v_fellAll : Int32) (v_sheepFirst : Int32) (v_sheepMany : Int32) (v_typed : Nat → Int32) (v_texts : Nat → Int32) (v_told : Nat → Int32) (v_moods : Nat → Int32) (v_strongs : Nat → Int32) (v_frostYear : Nat → Int32) (v_frostForce : Nat → Int32) (v_gapYear : Nat → Int32) (v_gapColumn : Nat → Int32) (v_gapHand : Nat → Int32) (v_wall : Nat → Int32) (v_yearNow : Nat → Int32) (v_forceNow : Nat → Int32) (v_holdNow : Nat → Int32) (v_fellOf : Nat → Int32) (v_handAt : Nat → Int32) (v_holdAt : Nat → Int32) (v_fallsAt : Nat → Int32) (v_standAt : Nat → Int32) (v_highAt : Nat → Int32) (v_throughAt : Nat → Int32) (a0 : Int32) : Option (Int32 × Int32 × Int32 × Int32 × Int32 × Int32 × Int32 × Int32 × Int32 × Int32 × Int32 × (Nat → Int32) × (Nat → Int32) × (Nat → Int32) × (Nat → Int32) × (Nat → Int32) × (Nat → Int32) × (Nat → Int32) × (Nat → Int32) × (Nat → Int32) × (Nat → Int32) × (Nat → Int32) × (Nat → Int32) × (Nat → Int32) × (Nat → Int32)) :=
  (f_m_isEight a0).bind (fun o1 =>
  if o1 = 0 then
    some ((-2 : Int32), v_courses, v_wide, v_hands, v_frostsNow, v_notFrosts, v_gapsNow, v_fell, v_fellAll, v_sheepFirst, v_sheepMany, v_told, v_moods, v_strongs, v_wall, v_yearNow, v_forceNow, v_holdNow, v_fellOf, v_handAt, v_holdAt, v_fallsAt, v_standAt, v_highAt, v_throughAt)
  else
    (f_m_mineOf v_courses v_wide v_hands v_jumpTold v_frosts v_gaps v_frostsNow v_notFrosts v_gapsNow v_fell v_fellAll v_sheepFirst v_sheepMany v_typed v_texts v_told v_moods v_strongs v_frostYear v_frostForce v_gapYear v_gapColumn v_gapHand v_wall v_yearNow v_forceNow v_holdNow v_fellOf v_handAt v_holdAt v_fallsAt v_standAt v_highAt v_throughAt a0).bind (fun o9 =>
    some (o9.1, o9.2.1, o9.2.2.1, o9.2.2.2.1, o9.2.2.2.2.1, o9.2.2.2.2.2.1, o9.2.2.2.2.2.2.1, o9.2.2.2.2.2.2.2.1, o9.2.2.2.2.2.2.2.2.1, o9.2.2.2.2.2.2.2.2.2.1, o9.2.2.2.2.2.2.2.2.2.2.1, o9.2.2.2.2.2.2.2.2.2.2.2.1, o9.2.2.2.2.2.2.2.2.2.2.2.2.1, o9.2.2.2.2.2.2.2.2.2.2.2.2.2.1, o9.2.2.2.2.2.2.2.2.2.2.2.2.2.2.1, o9.2.2.2.2.2.2.2.2.2.2.2.2.2.2.2.1, o9.2.2.2.2.2.2.2.2.2.2.2.2.2.2.2.2.1, o9.2.2.2.2.2.2.2.2.2.2.2.2.2.2.2.2.2.1, o9.2.2.2.2.2.2.2.2.2.2.2.2.2.2.2.2.2.2.1, o9.2.2.2.2.2.2.2.2.2.2.2.2.2.2.2.2.2.2.2.1, o9.2.2.2.2.2.2.2.2.2.2.2.2.2.2.2.2.2.2.2.2.1, o9.2.2.2.2.2.2.2.2.2.2.2.2.2.2.2.2.2.2.2.2.2.1, o9.2.2.2.2.2.2.2.2.2.2.2.2.2.2.2.2.2.2.2.2.2.2.1, o9.2.2.2.2.2.2.2.2.2.2.2.2.2.2.2.2.2.2.2.2.2.2.2.1, o9.2.2.2.2.2.2.2.2.2.2.2.2.2.2.2.2.2.2.2.2.2.2.2.2)))

-- WallHandsModel.bestNow()I
def f_m_bestNow_N34 (v_jumpTold : Int32) (v_frosts : Int32) (v_gaps : Int32) (v_typed : Nat → Int32) (v_texts : Nat → Int32) (v_frostYear : Nat → Int32) (v_frostForce : Nat → Int32) (v_gapYear : Nat → Int32) (v_gapColumn : Nat → Int32) (v_gapHand : Nat → Int32) (k10 : Int32 → Int32 → Int32 → Int32 → Int32 → Int32 → Int32 → Int32 → Int32 → Int32 → (Nat → Int32) → (Nat → Int32) → (Nat → Int32) → (Nat → Int32) → (Nat → Int32) → (Nat → Int32) → (Nat → Int32) → (Nat → Int32) → (Nat → Int32) → (Nat → Int32) → (Nat → Int32) → (Nat → Int32) → (Nat → Int32) → (Nat → Int32) → Int32 → Int32 → Int32 → Option (Int32 × Int32 × Int32 × Int32 × Int32 × Int32 × Int32 × Int32 × Int32 × Int32 × Int32 × (Nat → Int32) × (Nat → Int32) × (Nat → Int32) × (Nat → Int32) × (Nat → Int32) × (Nat → Int32) × (Nat → Int32) × (Nat → Int32) × (Nat → Int32) × (Nat → Int32) × (Nat → Int32) × (Nat → Int32) × (Nat → Int32) × (Nat → Int32))) (v_courses : Int32) (v_wide : Int32) (v_hands : Int32) (v_frostsNow : Int32) (v_notFrosts : Int32) (v_gapsNow : Int32) (v_fell : Int32) (v_fellAll : Int32) (v_sheepFirst : Int32) (v_sheepMany : Int32) (v_told : Nat → Int32) (v_moods : Nat → Int32) (v_strongs : Nat → Int32) (v_wall : Nat → Int32) (v_yearNow : Nat → Int32) (v_forceNow : Nat → Int32) (v_holdNow : Nat → Int32) (v_fellOf : Nat → Int32) (v_handAt : Nat → Int32) (v_holdAt : Nat → Int32) (v_fallsAt : Nat → Int32) (v_standAt : Nat → Int32) (v_highAt : Nat → Int32) (v_throughAt : Nat → Int32) (x2 : Int32) (x3 : Int32) (x4 : Int32) (y0 : Int32) : Option (Int32 × Int32 × Int32 × Int32 × Int32 × Int32 × Int32 × Int32 × Int32 × Int32 × Int32 × (Nat → Int32) × (Nat → Int32) × (Nat → Int32) × (Nat → Int32) × (Nat → Int32) × (Nat → Int32) × (Nat → Int32) × (Nat → Int32) × (Nat → Int32) × (Nat → Int32) × (Nat → Int32) × (Nat → Int32) × (Nat → Int32) × (Nat → Int32)) :=
  if x4 ≤ x2 then
    k10 v_courses v_wide v_hands v_frostsNow v_notFrosts v_gapsNow v_fell v_fellAll v_sheepFirst v_sheepMany v_told v_moods v_strongs v_wall v_yearNow v_forceNow v_holdNow v_fellOf v_handAt v_holdAt v_fallsAt v_standAt v_highAt v_throughAt y0 x2 (x3 + (1 : Int32))
  else
    k10 v_courses v_wide v_hands v_frostsNow v_notFrosts v_gapsNow v_fell v_fellAll v_sheepFirst v_sheepMany v_told v_moods v_strongs v_wall v_yearNow v_forceNow v_holdNow v_fellOf v_handAt v_holdAt v_fallsAt v_standAt v_highAt v_throughAt y0 x4 (x3 + (1 : Int32))

def f_m_bestNow_N10 (v_jumpTold : Int32) (v_frosts : Int32) (v_gaps : Int32) (v_typed : Nat → Int32) (v_texts : Nat → Int32) (v_frostYear : Nat → Int32) (v_frostForce : Nat → Int32) (v_gapYear : Nat → Int32) (v_gapColumn : Nat → Int32) (v_gapHand : Nat → Int32) (k10 : Int32 → Int32 → Int32 → Int32 → Int32 → Int32 → Int32 → Int32 → Int32 → Int32 → (Nat → Int32) → (Nat → Int32) → (Nat → Int32) → (Nat → Int32) → (Nat → Int32) → (Nat → Int32) → (Nat → Int32) → (Nat → Int32) → (Nat → Int32) → (Nat → Int32) → (Nat → Int32) → (Nat → Int32) → (Nat → Int32) → (Nat → Int32) → Int32 → Int32 → Int32 → Option (Int32 × Int32 × Int32 × Int32 × Int32 × Int32 × Int32 × Int32 × Int32 × Int32 × Int32 × (Nat → Int32) × (Nat → Int32) × (Nat → Int32) × (Nat → Int32) × (Nat → Int32) × (Nat → Int32) × (Nat → Int32) × (Nat → Int32) × (Nat → Int32) × (Nat → Int32) × (Nat → Int32) × (Nat → Int32) × (Nat → Int32) × (Nat → Int32))) (v_courses : Int32) (v_wide : Int32) (v_hands : Int32) (v_frostsNow : Int32) (v_notFrosts : Int32) (v_gapsNow : Int32) (v_fell : Int32) (v_fellAll : Int32) (v_sheepFirst : Int32) (v_sheepMany : Int32) (v_told : Nat → Int32) (v_moods : Nat → Int32) (v_strongs : Nat → Int32) (v_wall : Nat → Int32) (v_yearNow : Nat → Int32) (v_forceNow : Nat → Int32) (v_holdNow : Nat → Int32) (v_fellOf : Nat → Int32) (v_handAt : Nat → Int32) (v_holdAt : Nat → Int32) (v_fallsAt : Nat → Int32) (v_standAt : Nat → Int32) (v_highAt : Nat → Int32) (v_throughAt : Nat → Int32) (x1 : Int32) (x2 : Int32) (x3 : Int32) : Option (Int32 × Int32 × Int32 × Int32 × Int32 × Int32 × Int32 × Int32 × Int32 × Int32 × Int32 × (Nat → Int32) × (Nat → Int32) × (Nat → Int32) × (Nat → Int32) × (Nat → Int32) × (Nat → Int32) × (Nat → Int32) × (Nat → Int32) × (Nat → Int32) × (Nat → Int32) × (Nat → Int32) × (Nat → Int32) × (Nat → Int32) × (Nat → Int32)) :=
  if (8 : Int32) ≤ x3 then
    some (x1, v_courses, v_wide, v_hands, v_frostsNow, v_notFrosts, v_gapsNow, v_fell, v_fellAll, v_sheepFirst, v_sheepMany, v_told, v_moods, v_strongs, v_wall, v_yearNow, v_forceNow, v_holdNow, v_fellOf, v_handAt, v_holdAt, v_fallsAt, v_standAt, v_highAt, v_throughAt)
  else
    (f_m_mineNow v_handAt x3).bind (fun o18 =>
    if o18 ≤ x2 then
      f_m_bestNow_N34 v_jumpTold v_frosts v_gaps v_typed v_texts v_frostYear v_frostForce v_gapYear v_gapColumn v_gapHand k10 v_courses v_wide v_hands v_frostsNow v_notFrosts v_gapsNow v_fell v_fellAll v_sheepFirst v_sheepMany v_told v_moods v_strongs v_wall v_yearNow v_forceNow v_holdNow v_fellOf v_handAt v_holdAt v_fallsAt v_standAt v_highAt v_throughAt x2 x3 o18 x1
    else
      f_m_bestNow_N34 v_jumpTold v_frosts v_gaps v_typed v_texts v_frostYear v_frostForce v_gapYear v_gapColumn v_gapHand k10 v_courses v_wide v_hands v_frostsNow v_notFrosts v_gapsNow v_fell v_fellAll v_sheepFirst v_sheepMany v_told v_moods v_strongs v_wall v_yearNow v_forceNow v_holdNow v_fellOf v_handAt v_holdAt v_fallsAt v_standAt v_highAt v_throughAt x2 x3 o18 x3)

def f_m_bestNow (v_courses : Int32) (v_wide : Int32) (v_hands : Int32) (v_jumpTold : Int32) (v_frosts : Int32) (v_gaps : Int32) (v_frostsNow : Int32) (v_notFrosts : Int32) (v_gapsNow : Int32) (v_fell : Int32) (v_fellAll : Int32) (v_sheepFirst : Int32) (v_sheepMany : Int32) (v_typed : Nat → Int32) (v_texts : Nat → Int32) (v_told : Nat → Int32) (v_moods : Nat → Int32) (v_strongs : Nat → Int32) (v_frostYear : Nat → Int32) (v_frostForce : Nat → Int32) (v_gapYear : Nat → Int32) (v_gapColumn : Nat → Int32) (v_gapHand : Nat → Int32) (v_wall : Nat → Int32) (v_yearNow : Nat → Int32) (v_forceNow : Nat → Int32) (v_holdNow : Nat → Int32) (v_fellOf : Nat → Int32) (v_handAt : Nat → Int32) (v_holdAt : Nat → Int32) (v_fallsAt : Nat → Int32) (v_standAt : Nat → Int32) (v_highAt : Nat → Int32) (v_throughAt : Nat → Int32) : Option (Int32 × Int32 × Int32 × Int32 × Int32 × Int32 × Int32 × Int32 × Int32 × Int32 × Int32 × (Nat → Int32) × (Nat → Int32) × (Nat → Int32) × (Nat → Int32) × (Nat → Int32) × (Nat → Int32) × (Nat → Int32) × (Nat → Int32) × (Nat → Int32) × (Nat → Int32) × (Nat → Int32) × (Nat → Int32) × (Nat → Int32) × (Nat → Int32)) :=
  (f_m_runsTold v_courses v_wide v_hands v_jumpTold v_frosts v_gaps v_frostsNow v_notFrosts v_gapsNow v_fell v_fellAll v_sheepFirst v_sheepMany v_typed v_texts v_told v_moods v_strongs v_frostYear v_frostForce v_gapYear v_gapColumn v_gapHand v_wall v_yearNow v_forceNow v_holdNow v_fellOf v_handAt v_holdAt v_fallsAt v_standAt v_highAt v_throughAt).bind (fun o1 =>
  iter (fun _ _ _ _ _ _ _ _ _ _ _ _ _ _ _ _ _ _ _ _ _ _ _ _ _ _ _ => none) (f_m_bestNow_N10 v_jumpTold v_frosts v_gaps v_typed v_texts v_frostYear v_frostForce v_gapYear v_gapColumn v_gapHand) 1000 o1.1 o1.2.1 o1.2.2.1 o1.2.2.2.1 o1.2.2.2.2.1 o1.2.2.2.2.2.1 o1.2.2.2.2.2.2.1 o1.2.2.2.2.2.2.2.1 o1.2.2.2.2.2.2.2.2.1 o1.2.2.2.2.2.2.2.2.2.1 o1.2.2.2.2.2.2.2.2.2.2.1 o1.2.2.2.2.2.2.2.2.2.2.2.1 o1.2.2.2.2.2.2.2.2.2.2.2.2.1 o1.2.2.2.2.2.2.2.2.2.2.2.2.2.1 o1.2.2.2.2.2.2.2.2.2.2.2.2.2.2.1 o1.2.2.2.2.2.2.2.2.2.2.2.2.2.2.2.1 o1.2.2.2.2.2.2.2.2.2.2.2.2.2.2.2.2.1 o1.2.2.2.2.2.2.2.2.2.2.2.2.2.2.2.2.2.1 o1.2.2.2.2.2.2.2.2.2.2.2.2.2.2.2.2.2.2.1 o1.2.2.2.2.2.2.2.2.2.2.2.2.2.2.2.2.2.2.2.1 o1.2.2.2.2.2.2.2.2.2.2.2.2.2.2.2.2.2.2.2.2.1 o1.2.2.2.2.2.2.2.2.2.2.2.2.2.2.2.2.2.2.2.2.2.1 o1.2.2.2.2.2.2.2.2.2.2.2.2.2.2.2.2.2.2.2.2.2.2.1 o1.2.2.2.2.2.2.2.2.2.2.2.2.2.2.2.2.2.2.2.2.2.2.2 (-1 : Int32) (0 : Int32) (0 : Int32))

-- WallHandsModel.best()I
def f_m_best (v_courses : Int32) (v_wide : Int32) (v_hands : Int32) (v_jumpTold : Int32) (v_frosts : Int32) (v_gaps : Int32) (v_frostsNow : Int32) (v_notFrosts : Int32) (v_gapsNow : Int32) (v_fell : Int32) (v_fellAll : Int32) (v_sheepFirst : Int32) (v_sheepMany : Int32) (v_typed : Nat → Int32) (v_texts : Nat → Int32) (v_told : Nat → Int32) (v_moods : Nat → Int32) (v_strongs : Nat → Int32) (v_frostYear : Nat → Int32) (v_frostForce : Nat → Int32) (v_gapYear : Nat → Int32) (v_gapColumn : Nat → Int32) (v_gapHand : Nat → Int32) (v_wall : Nat → Int32) (v_yearNow : Nat → Int32) (v_forceNow : Nat → Int32) (v_holdNow : Nat → Int32) (v_fellOf : Nat → Int32) (v_handAt : Nat → Int32) (v_holdAt : Nat → Int32) (v_fallsAt : Nat → Int32) (v_standAt : Nat → Int32) (v_highAt : Nat → Int32) (v_throughAt : Nat → Int32) : Option (Int32 × Int32 × Int32 × Int32 × Int32 × Int32 × Int32 × Int32 × Int32 × Int32 × Int32 × (Nat → Int32) × (Nat → Int32) × (Nat → Int32) × (Nat → Int32) × (Nat → Int32) × (Nat → Int32) × (Nat → Int32) × (Nat → Int32) × (Nat → Int32) × (Nat → Int32) × (Nat → Int32) × (Nat → Int32) × (Nat → Int32) × (Nat → Int32)) :=
  (f_m_bestNow v_courses v_wide v_hands v_jumpTold v_frosts v_gaps v_frostsNow v_notFrosts v_gapsNow v_fell v_fellAll v_sheepFirst v_sheepMany v_typed v_texts v_told v_moods v_strongs v_frostYear v_frostForce v_gapYear v_gapColumn v_gapHand v_wall v_yearNow v_forceNow v_holdNow v_fellOf v_handAt v_holdAt v_fallsAt v_standAt v_highAt v_throughAt).bind (fun o1 =>
  some (o1.1, o1.2.1, o1.2.2.1, o1.2.2.2.1, o1.2.2.2.2.1, o1.2.2.2.2.2.1, o1.2.2.2.2.2.2.1, o1.2.2.2.2.2.2.2.1, o1.2.2.2.2.2.2.2.2.1, o1.2.2.2.2.2.2.2.2.2.1, o1.2.2.2.2.2.2.2.2.2.2.1, o1.2.2.2.2.2.2.2.2.2.2.2.1, o1.2.2.2.2.2.2.2.2.2.2.2.2.1, o1.2.2.2.2.2.2.2.2.2.2.2.2.2.1, o1.2.2.2.2.2.2.2.2.2.2.2.2.2.2.1, o1.2.2.2.2.2.2.2.2.2.2.2.2.2.2.2.1, o1.2.2.2.2.2.2.2.2.2.2.2.2.2.2.2.2.1, o1.2.2.2.2.2.2.2.2.2.2.2.2.2.2.2.2.2.1, o1.2.2.2.2.2.2.2.2.2.2.2.2.2.2.2.2.2.2.1, o1.2.2.2.2.2.2.2.2.2.2.2.2.2.2.2.2.2.2.2.1, o1.2.2.2.2.2.2.2.2.2.2.2.2.2.2.2.2.2.2.2.2.1, o1.2.2.2.2.2.2.2.2.2.2.2.2.2.2.2.2.2.2.2.2.2.1, o1.2.2.2.2.2.2.2.2.2.2.2.2.2.2.2.2.2.2.2.2.2.2.1, o1.2.2.2.2.2.2.2.2.2.2.2.2.2.2.2.2.2.2.2.2.2.2.2.1, o1.2.2.2.2.2.2.2.2.2.2.2.2.2.2.2.2.2.2.2.2.2.2.2.2))

-- WallHandsModel.mendOf(II)I
def f_m_mendOf_N98 (v_jumpTold : Int32) (v_frosts : Int32) (v_gaps : Int32) (v_typed : Nat → Int32) (v_texts : Nat → Int32) (v_frostYear : Nat → Int32) (v_frostForce : Nat → Int32) (k33 : Int32 → Int32 → Int32 → Int32 → Int32 → Int32 → Int32 → Int32 → Int32 → Int32 → (Nat → Int32) → (Nat → Int32) → (Nat → Int32) → (Nat → Int32) → (Nat → Int32) → (Nat → Int32) → (Nat → Int32) → (Nat → Int32) → (Nat → Int32) → (Nat → Int32) → (Nat → Int32) → (Nat → Int32) → (Nat → Int32) → (Nat → Int32) → (Nat → Int32) → (Nat → Int32) → (Nat → Int32) → Int32 → Int32 → Int32 → Int32 → Option (Int32 × Int32 × Int32 × Int32 × Int32 × Int32 × Int32 × Int32 × Int32 × Int32 × Int32 × (Nat → Int32) × (Nat → Int32) × (Nat → Int32) × (Nat → Int32) × (Nat → Int32) × (Nat → Int32) × (Nat → Int32) × (Nat → Int32) × (Nat → Int32) × (Nat → Int32) × (Nat → Int32) × (Nat → Int32) × (Nat → Int32) × (Nat → Int32) × (Nat → Int32) × (Nat → Int32) × (Nat → Int32))) (v_courses : Int32) (v_wide : Int32) (v_hands : Int32) (v_frostsNow : Int32) (v_notFrosts : Int32) (v_gapsNow : Int32) (v_fell : Int32) (v_fellAll : Int32) (v_sheepFirst : Int32) (v_sheepMany : Int32) (v_told : Nat → Int32) (v_moods : Nat → Int32) (v_strongs : Nat → Int32) (v_gapYear : Nat → Int32) (v_gapColumn : Nat → Int32) (v_gapHand : Nat → Int32) (v_wall : Nat → Int32) (v_yearNow : Nat → Int32) (v_forceNow : Nat → Int32) (v_holdNow : Nat → Int32) (v_fellOf : Nat → Int32) (v_handAt : Nat → Int32) (v_holdAt : Nat → Int32) (v_fallsAt : Nat → Int32) (v_standAt : Nat → Int32) (v_highAt : Nat → Int32) (v_throughAt : Nat → Int32) (x2 : Int32) (x4 : Int32) (x5 : Int32) (y0 : Int32) : Option (Int32 × Int32 × Int32 × Int32 × Int32 × Int32 × Int32 × Int32 × Int32 × Int32 × Int32 × (Nat → Int32) × (Nat → Int32) × (Nat → Int32) × (Nat → Int32) × (Nat → Int32) × (Nat → Int32) × (Nat → Int32) × (Nat → Int32) × (Nat → Int32) × (Nat → Int32) × (Nat → Int32) × (Nat → Int32) × (Nat → Int32) × (Nat → Int32) × (Nat → Int32) × (Nat → Int32) × (Nat → Int32)) :=
  if x4 ≤ v_sheepMany then
    k33 v_courses v_wide v_hands v_frostsNow v_notFrosts v_gapsNow v_fell v_fellAll v_sheepFirst v_sheepMany v_told v_moods v_strongs v_gapYear v_gapColumn v_gapHand v_wall v_yearNow v_forceNow v_holdNow v_fellOf v_handAt v_holdAt v_fallsAt v_standAt v_highAt v_throughAt x2 y0 x4 (x5 + (1 : Int32))
  else
    k33 v_courses v_wide v_hands v_frostsNow v_notFrosts v_gapsNow v_fell v_fellAll v_sheepFirst v_sheepMany v_told v_moods v_strongs v_gapYear v_gapColumn v_gapHand v_wall v_yearNow v_forceNow v_holdNow v_fellOf v_handAt v_holdAt v_fallsAt v_standAt v_highAt v_throughAt x2 y0 v_sheepMany (x5 + (1 : Int32))

def f_m_mendOf_N33 (v_jumpTold : Int32) (v_frosts : Int32) (v_gaps : Int32) (v_typed : Nat → Int32) (v_texts : Nat → Int32) (v_frostYear : Nat → Int32) (v_frostForce : Nat → Int32) (k33 : Int32 → Int32 → Int32 → Int32 → Int32 → Int32 → Int32 → Int32 → Int32 → Int32 → (Nat → Int32) → (Nat → Int32) → (Nat → Int32) → (Nat → Int32) → (Nat → Int32) → (Nat → Int32) → (Nat → Int32) → (Nat → Int32) → (Nat → Int32) → (Nat → Int32) → (Nat → Int32) → (Nat → Int32) → (Nat → Int32) → (Nat → Int32) → (Nat → Int32) → (Nat → Int32) → (Nat → Int32) → Int32 → Int32 → Int32 → Int32 → Option (Int32 × Int32 × Int32 × Int32 × Int32 × Int32 × Int32 × Int32 × Int32 × Int32 × Int32 × (Nat → Int32) × (Nat → Int32) × (Nat → Int32) × (Nat → Int32) × (Nat → Int32) × (Nat → Int32) × (Nat → Int32) × (Nat → Int32) × (Nat → Int32) × (Nat → Int32) × (Nat → Int32) × (Nat → Int32) × (Nat → Int32) × (Nat → Int32) × (Nat → Int32) × (Nat → Int32) × (Nat → Int32))) (v_courses : Int32) (v_wide : Int32) (v_hands : Int32) (v_frostsNow : Int32) (v_notFrosts : Int32) (v_gapsNow : Int32) (v_fell : Int32) (v_fellAll : Int32) (v_sheepFirst : Int32) (v_sheepMany : Int32) (v_told : Nat → Int32) (v_moods : Nat → Int32) (v_strongs : Nat → Int32) (v_gapYear : Nat → Int32) (v_gapColumn : Nat → Int32) (v_gapHand : Nat → Int32) (v_wall : Nat → Int32) (v_yearNow : Nat → Int32) (v_forceNow : Nat → Int32) (v_holdNow : Nat → Int32) (v_fellOf : Nat → Int32) (v_handAt : Nat → Int32) (v_holdAt : Nat → Int32) (v_fallsAt : Nat → Int32) (v_standAt : Nat → Int32) (v_highAt : Nat → Int32) (v_throughAt : Nat → Int32) (x2 : Int32) (x3 : Int32) (x4 : Int32) (x5 : Int32) : Option (Int32 × Int32 × Int32 × Int32 × Int32 × Int32 × Int32 × Int32 × Int32 × Int32 × Int32 × (Nat → Int32) × (Nat → Int32) × (Nat → Int32) × (Nat → Int32) × (Nat → Int32) × (Nat → Int32) × (Nat → Int32) × (Nat → Int32) × (Nat → Int32) × (Nat → Int32) × (Nat → Int32) × (Nat → Int32) × (Nat → Int32) × (Nat → Int32) × (Nat → Int32) × (Nat → Int32) × (Nat → Int32)) :=
  if (v_wide * v_hands) ≤ x5 then
    if x3 = (-1 : Int32) then
      some ((-1 : Int32), v_courses, v_wide, v_hands, v_frostsNow, v_notFrosts, v_gapsNow, v_fell, v_fellAll, v_sheepFirst, v_sheepMany, v_told, v_moods, v_strongs, v_gapYear, v_gapColumn, v_gapHand, v_wall, v_yearNow, v_forceNow, v_holdNow, v_fellOf, v_handAt, v_holdAt, v_fallsAt, v_standAt, v_highAt, v_throughAt)
    else
      if x2 = 0 then
        gd (nz v_hands) (
        some (x3 / v_hands, v_courses, v_wide, v_hands, v_frostsNow, v_notFrosts, v_gapsNow, v_fell, v_fellAll, v_sheepFirst, v_sheepMany, v_told, v_moods, v_strongs, v_gapYear, v_gapColumn, v_gapHand, v_wall, v_yearNow, v_forceNow, v_holdNow, v_fellOf, v_handAt, v_holdAt, v_fallsAt, v_standAt, v_highAt, v_throughAt))
      else
        if x2 = (1 : Int32) then
          gd (nz v_hands) (
          some (x3 - x3 / v_hands * v_hands, v_courses, v_wide, v_hands, v_frostsNow, v_notFrosts, v_gapsNow, v_fell, v_fellAll, v_sheepFirst, v_sheepMany, v_told, v_moods, v_strongs, v_gapYear, v_gapColumn, v_gapHand, v_wall, v_yearNow, v_forceNow, v_holdNow, v_fellOf, v_handAt, v_holdAt, v_fallsAt, v_standAt, v_highAt, v_throughAt))
        else
          some (x4, v_courses, v_wide, v_hands, v_frostsNow, v_notFrosts, v_gapsNow, v_fell, v_fellAll, v_sheepFirst, v_sheepMany, v_told, v_moods, v_strongs, v_gapYear, v_gapColumn, v_gapHand, v_wall, v_yearNow, v_forceNow, v_holdNow, v_fellOf, v_handAt, v_holdAt, v_fallsAt, v_standAt, v_highAt, v_throughAt)
  else
    gd (nz v_hands) (
    gd (inb v_gaps 7) (
    gd (nz v_hands) (
    gd (inb v_gaps 7) (
    (f_m_runs v_courses v_wide v_hands v_jumpTold v_frostsNow v_notFrosts v_gapsNow v_fell v_fellAll v_sheepFirst v_sheepMany v_told v_moods v_strongs v_gapYear (upd v_gapColumn v_gaps.toNatClampNeg (x5 / v_hands)) (upd v_gapHand v_gaps.toNatClampNeg (x5 - x5 / v_hands * v_hands)) v_wall v_yearNow v_forceNow v_holdNow v_fellOf v_handAt v_holdAt v_fallsAt v_standAt v_highAt v_throughAt).bind (fun o80 =>
    if x4 ≤ o80.2.2.2.1 then
      f_m_mendOf_N98 v_jumpTold v_frosts v_gaps v_typed v_texts v_frostYear v_frostForce k33 v_courses v_wide v_hands v_frostsNow v_notFrosts v_gapsNow o80.1 o80.2.1 o80.2.2.1 o80.2.2.2.1 v_told v_moods v_strongs v_gapYear (upd v_gapColumn v_gaps.toNatClampNeg (x5 / v_hands)) (upd v_gapHand v_gaps.toNatClampNeg (x5 - x5 / v_hands * v_hands)) o80.2.2.2.2.1 v_yearNow v_forceNow o80.2.2.2.2.2.1 o80.2.2.2.2.2.2.1 o80.2.2.2.2.2.2.2.1 o80.2.2.2.2.2.2.2.2.1 o80.2.2.2.2.2.2.2.2.2.1 o80.2.2.2.2.2.2.2.2.2.2.1 o80.2.2.2.2.2.2.2.2.2.2.2.1 o80.2.2.2.2.2.2.2.2.2.2.2.2 x2 x4 x5 x3
    else
      f_m_mendOf_N98 v_jumpTold v_frosts v_gaps v_typed v_texts v_frostYear v_frostForce k33 v_courses v_wide v_hands v_frostsNow v_notFrosts v_gapsNow o80.1 o80.2.1 o80.2.2.1 o80.2.2.2.1 v_told v_moods v_strongs v_gapYear (upd v_gapColumn v_gaps.toNatClampNeg (x5 / v_hands)) (upd v_gapHand v_gaps.toNatClampNeg (x5 - x5 / v_hands * v_hands)) o80.2.2.2.2.1 v_yearNow v_forceNow o80.2.2.2.2.2.1 o80.2.2.2.2.2.2.1 o80.2.2.2.2.2.2.2.1 o80.2.2.2.2.2.2.2.2.1 o80.2.2.2.2.2.2.2.2.2.1 o80.2.2.2.2.2.2.2.2.2.2.1 o80.2.2.2.2.2.2.2.2.2.2.2.1 o80.2.2.2.2.2.2.2.2.2.2.2.2 x2 x4 x5 x5)))))

def f_m_mendOf (v_courses : Int32) (v_wide : Int32) (v_hands : Int32) (v_jumpTold : Int32) (v_frosts : Int32) (v_gaps : Int32) (v_frostsNow : Int32) (v_notFrosts : Int32) (v_gapsNow : Int32) (v_fell : Int32) (v_fellAll : Int32) (v_sheepFirst : Int32) (v_sheepMany : Int32) (v_typed : Nat → Int32) (v_texts : Nat → Int32) (v_told : Nat → Int32) (v_moods : Nat → Int32) (v_strongs : Nat → Int32) (v_frostYear : Nat → Int32) (v_frostForce : Nat → Int32) (v_gapYear : Nat → Int32) (v_gapColumn : Nat → Int32) (v_gapHand : Nat → Int32) (v_wall : Nat → Int32) (v_yearNow : Nat → Int32) (v_forceNow : Nat → Int32) (v_holdNow : Nat → Int32) (v_fellOf : Nat → Int32) (v_handAt : Nat → Int32) (v_holdAt : Nat → Int32) (v_fallsAt : Nat → Int32) (v_standAt : Nat → Int32) (v_highAt : Nat → Int32) (v_throughAt : Nat → Int32) (a0 : Int32) (a1 : Int32) : Option (Int32 × Int32 × Int32 × Int32 × Int32 × Int32 × Int32 × Int32 × Int32 × Int32 × Int32 × (Nat → Int32) × (Nat → Int32) × (Nat → Int32) × (Nat → Int32) × (Nat → Int32) × (Nat → Int32) × (Nat → Int32) × (Nat → Int32) × (Nat → Int32) × (Nat → Int32) × (Nat → Int32) × (Nat → Int32) × (Nat → Int32) × (Nat → Int32) × (Nat → Int32) × (Nat → Int32) × (Nat → Int32)) :=
  (f_m_asTold v_courses v_wide v_hands v_frosts v_gaps v_frostsNow v_notFrosts v_gapsNow v_typed v_texts v_told v_moods v_strongs v_frostYear v_frostForce v_yearNow v_forceNow).bind (fun o1 =>
  gd (inb v_gaps 7) (
  iter (fun _ _ _ _ _ _ _ _ _ _ _ _ _ _ _ _ _ _ _ _ _ _ _ _ _ _ _ _ _ _ _ => none) (f_m_mendOf_N33 v_jumpTold v_frosts v_gaps v_typed v_texts v_frostYear v_frostForce) 1000 o1.1 o1.2.1 o1.2.2.1 o1.2.2.2.1 o1.2.2.2.2.1 (v_gaps + (1 : Int32)) v_fell v_fellAll v_sheepFirst v_sheepMany o1.2.2.2.2.2.2.1 o1.2.2.2.2.2.2.2.1 o1.2.2.2.2.2.2.2.2.1 (upd v_gapYear v_gaps.toNatClampNeg a0) v_gapColumn v_gapHand v_wall o1.2.2.2.2.2.2.2.2.2.1 o1.2.2.2.2.2.2.2.2.2.2 v_holdNow v_fellOf v_handAt v_holdAt v_fallsAt v_standAt v_highAt v_throughAt a1 (-1 : Int32) (99 : Int32) (0 : Int32)))

-- WallHandsModel.mend(II)I
def f_m_mend (v_courses : Int32) (v_wide : Int32) (v_hands : Int32) (v_jumpTold : Int32) (v_frosts : Int32) (v_gaps : Int32) (v_frostsNow : Int32) (v_notFrosts : Int32) (v_gapsNow : Int32) (v_fell : Int32) (v_fellAll : Int32) (v_sheepFirst : Int32) (v_sheepMany : Int32) (v_typed : Nat → Int32) (v_texts : Nat → Int32) (v_told : Nat → Int32) (v_moods : Nat → Int32) (v_strongs : Nat → Int32) (v_frostYear : Nat → Int32) (v_frostForce : Nat → Int32) (v_gapYear : Nat → Int32) (v_gapColumn : Nat → Int32) (v_gapHand : Nat → Int32) (v_wall : Nat → Int32) (v_yearNow : Nat → Int32) (v_forceNow : Nat → Int32) (v_holdNow : Nat → Int32) (v_fellOf : Nat → Int32) (v_handAt : Nat → Int32) (v_holdAt : Nat → Int32) (v_fallsAt : Nat → Int32) (v_standAt : Nat → Int32) (v_highAt : Nat → Int32) (v_throughAt : Nat → Int32) (a0 : Int32) (a1 : Int32) : Option (Int32 × Int32 × Int32 × Int32 × Int32 × Int32 × Int32 × Int32 × Int32 × Int32 × Int32 × (Nat → Int32) × (Nat → Int32) × (Nat → Int32) × (Nat → Int32) × (Nat → Int32) × (Nat → Int32) × (Nat → Int32) × (Nat → Int32) × (Nat → Int32) × (Nat → Int32) × (Nat → Int32) × (Nat → Int32) × (Nat → Int32) × (Nat → Int32) × (Nat → Int32) × (Nat → Int32) × (Nat → Int32)) :=
  (f_m_isYear a0).bind (fun o1 =>
  if o1 = 0 then
    some ((-2 : Int32), v_courses, v_wide, v_hands, v_frostsNow, v_notFrosts, v_gapsNow, v_fell, v_fellAll, v_sheepFirst, v_sheepMany, v_told, v_moods, v_strongs, v_gapYear, v_gapColumn, v_gapHand, v_wall, v_yearNow, v_forceNow, v_holdNow, v_fellOf, v_handAt, v_holdAt, v_fallsAt, v_standAt, v_highAt, v_throughAt)
  else
    (f_m_in a1 (0 : Int32) (2 : Int32)).bind (fun o10 =>
    if o10 = 0 then
      some ((-2 : Int32), v_courses, v_wide, v_hands, v_frostsNow, v_notFrosts, v_gapsNow, v_fell, v_fellAll, v_sheepFirst, v_sheepMany, v_told, v_moods, v_strongs, v_gapYear, v_gapColumn, v_gapHand, v_wall, v_yearNow, v_forceNow, v_holdNow, v_fellOf, v_handAt, v_holdAt, v_fallsAt, v_standAt, v_highAt, v_throughAt)
    else
      (f_m_mendOf v_courses v_wide v_hands v_jumpTold v_frosts v_gaps v_frostsNow v_notFrosts v_gapsNow v_fell v_fellAll v_sheepFirst v_sheepMany v_typed v_texts v_told v_moods v_strongs v_frostYear v_frostForce v_gapYear v_gapColumn v_gapHand v_wall v_yearNow v_forceNow v_holdNow v_fellOf v_handAt v_holdAt v_fallsAt v_standAt v_highAt v_throughAt a0 a1).bind (fun o19 =>
      some (o19.1, o19.2.1, o19.2.2.1, o19.2.2.2.1, o19.2.2.2.2.1, o19.2.2.2.2.2.1, o19.2.2.2.2.2.2.1, o19.2.2.2.2.2.2.2.1, o19.2.2.2.2.2.2.2.2.1, o19.2.2.2.2.2.2.2.2.2.1, o19.2.2.2.2.2.2.2.2.2.2.1, o19.2.2.2.2.2.2.2.2.2.2.2.1, o19.2.2.2.2.2.2.2.2.2.2.2.2.1, o19.2.2.2.2.2.2.2.2.2.2.2.2.2.1, o19.2.2.2.2.2.2.2.2.2.2.2.2.2.2.1, o19.2.2.2.2.2.2.2.2.2.2.2.2.2.2.2.1, o19.2.2.2.2.2.2.2.2.2.2.2.2.2.2.2.2.1, o19.2.2.2.2.2.2.2.2.2.2.2.2.2.2.2.2.2.1, o19.2.2.2.2.2.2.2.2.2.2.2.2.2.2.2.2.2.2.1, o19.2.2.2.2.2.2.2.2.2.2.2.2.2.2.2.2.2.2.2.1, o19.2.2.2.2.2.2.2.2.2.2.2.2.2.2.2.2.2.2.2.2.1, o19.2.2.2.2.2.2.2.2.2.2.2.2.2.2.2.2.2.2.2.2.2.1, o19.2.2.2.2.2.2.2.2.2.2.2.2.2.2.2.2.2.2.2.2.2.2.1, o19.2.2.2.2.2.2.2.2.2.2.2.2.2.2.2.2.2.2.2.2.2.2.2.1, o19.2.2.2.2.2.2.2.2.2.2.2.2.2.2.2.2.2.2.2.2.2.2.2.2.1, o19.2.2.2.2.2.2.2.2.2.2.2.2.2.2.2.2.2.2.2.2.2.2.2.2.2.1, o19.2.2.2.2.2.2.2.2.2.2.2.2.2.2.2.2.2.2.2.2.2.2.2.2.2.2.1, o19.2.2.2.2.2.2.2.2.2.2.2.2.2.2.2.2.2.2.2.2.2.2.2.2.2.2.2))))

-- WallHandsModel.firmOf(I)I
def f_m_firmOf_N62 (v_jumpTold : Int32) (v_frosts : Int32) (v_gaps : Int32) (v_typed : Nat → Int32) (v_texts : Nat → Int32) (v_frostYear : Nat → Int32) (v_frostForce : Nat → Int32) (v_gapYear : Nat → Int32) (v_gapColumn : Nat → Int32) (v_gapHand : Nat → Int32) (v_courses : Int32) (v_wide : Int32) (v_hands : Int32) (v_frostsNow : Int32) (v_notFrosts : Int32) (v_gapsNow : Int32) (v_fell : Int32) (v_fellAll : Int32) (v_sheepFirst : Int32) (v_sheepMany : Int32) (v_told : Nat → Int32) (v_moods : Nat → Int32) (v_strongs : Nat → Int32) (v_wall : Nat → Int32) (v_yearNow : Nat → Int32) (v_forceNow : Nat → Int32) (v_holdNow : Nat → Int32) (v_fellOf : Nat → Int32) (v_handAt : Nat → Int32) (v_holdAt : Nat → Int32) (v_fallsAt : Nat → Int32) (v_standAt : Nat → Int32) (v_highAt : Nat → Int32) (v_throughAt : Nat → Int32) (x1 : Int32) (x2 : Int32) (x3 : Int32) : Option (Int32 × Int32 × Int32 × Int32 × Int32 × Int32 × Int32 × Int32 × Int32 × Int32 × Int32 × (Nat → Int32) × (Nat → Int32) × (Nat → Int32) × (Nat → Int32) × (Nat → Int32) × (Nat → Int32) × (Nat → Int32) × (Nat → Int32) × (Nat → Int32) × (Nat → Int32) × (Nat → Int32) × (Nat → Int32) × (Nat → Int32) × (Nat → Int32)) :=
  gd (inb x1 9) (
  some (x3, v_courses, v_wide, v_hands, v_frostsNow, v_notFrosts, v_gapsNow, v_fell, v_fellAll, v_sheepFirst, v_sheepMany, v_told, v_moods, upd v_strongs x1.toNatClampNeg x2, v_wall, v_yearNow, v_forceNow, v_holdNow, v_fellOf, v_handAt, v_holdAt, v_fallsAt, v_standAt, v_highAt, v_throughAt))

def f_m_firmOf_N16 (v_jumpTold : Int32) (v_frosts : Int32) (v_gaps : Int32) (v_typed : Nat → Int32) (v_texts : Nat → Int32) (v_frostYear : Nat → Int32) (v_frostForce : Nat → Int32) (v_gapYear : Nat → Int32) (v_gapColumn : Nat → Int32) (v_gapHand : Nat → Int32) (k16 : Int32 → Int32 → Int32 → Int32 → Int32 → Int32 → Int32 → Int32 → Int32 → Int32 → (Nat → Int32) → (Nat → Int32) → (Nat → Int32) → (Nat → Int32) → (Nat → Int32) → (Nat → Int32) → (Nat → Int32) → (Nat → Int32) → (Nat → Int32) → (Nat → Int32) → (Nat → Int32) → (Nat → Int32) → (Nat → Int32) → (Nat → Int32) → Int32 → Int32 → Int32 → Int32 → Option (Int32 × Int32 × Int32 × Int32 × Int32 × Int32 × Int32 × Int32 × Int32 × Int32 × Int32 × (Nat → Int32) × (Nat → Int32) × (Nat → Int32) × (Nat → Int32) × (Nat → Int32) × (Nat → Int32) × (Nat → Int32) × (Nat → Int32) × (Nat → Int32) × (Nat → Int32) × (Nat → Int32) × (Nat → Int32) × (Nat → Int32) × (Nat → Int32))) (v_courses : Int32) (v_wide : Int32) (v_hands : Int32) (v_frostsNow : Int32) (v_notFrosts : Int32) (v_gapsNow : Int32) (v_fell : Int32) (v_fellAll : Int32) (v_sheepFirst : Int32) (v_sheepMany : Int32) (v_told : Nat → Int32) (v_moods : Nat → Int32) (v_strongs : Nat → Int32) (v_wall : Nat → Int32) (v_yearNow : Nat → Int32) (v_forceNow : Nat → Int32) (v_holdNow : Nat → Int32) (v_fellOf : Nat → Int32) (v_handAt : Nat → Int32) (v_holdAt : Nat → Int32) (v_fallsAt : Nat → Int32) (v_standAt : Nat → Int32) (v_highAt : Nat → Int32) (v_throughAt : Nat → Int32) (x1 : Int32) (x2 : Int32) (x3 : Int32) (x4 : Int32) : Option (Int32 × Int32 × Int32 × Int32 × Int32 × Int32 × Int32 × Int32 × Int32 × Int32 × Int32 × (Nat → Int32) × (Nat → Int32) × (Nat → Int32) × (Nat → Int32) × (Nat → Int32) × (Nat → Int32) × (Nat → Int32) × (Nat → Int32) × (Nat → Int32) × (Nat → Int32) × (Nat → Int32) × (Nat → Int32) × (Nat → Int32) × (Nat → Int32)) :=
  if (10 : Int32) ≤ x4 then
    f_m_firmOf_N62 v_jumpTold v_frosts v_gaps v_typed v_texts v_frostYear v_frostForce v_gapYear v_gapColumn v_gapHand v_courses v_wide v_hands v_frostsNow v_notFrosts v_gapsNow v_fell v_fellAll v_sheepFirst v_sheepMany v_told v_moods v_strongs v_wall v_yearNow v_forceNow v_holdNow v_fellOf v_handAt v_holdAt v_fallsAt v_standAt v_highAt v_throughAt x1 x2 x3
  else
    if x3 = (-1 : Int32) then
      gd (inb x1 9) (
      (f_m_runs v_courses v_wide v_hands v_jumpTold v_frostsNow v_notFrosts v_gapsNow v_fell v_fellAll v_sheepFirst v_sheepMany v_told v_moods (upd v_strongs x1.toNatClampNeg x4) v_gapYear v_gapColumn v_gapHand v_wall v_yearNow v_forceNow v_holdNow v_fellOf v_handAt v_holdAt v_fallsAt v_standAt v_highAt v_throughAt).bind (fun o37 =>
      gd (inb x1 8) (
      if (o37.2.2.2.2.2.2.1 x1.toNatClampNeg) = 0 then
        k16 v_courses v_wide v_hands v_frostsNow v_notFrosts v_gapsNow o37.1 o37.2.1 o37.2.2.1 o37.2.2.2.1 v_told v_moods (upd v_strongs x1.toNatClampNeg x4) o37.2.2.2.2.1 v_yearNow v_forceNow o37.2.2.2.2.2.1 o37.2.2.2.2.2.2.1 o37.2.2.2.2.2.2.2.1 o37.2.2.2.2.2.2.2.2.1 o37.2.2.2.2.2.2.2.2.2.1 o37.2.2.2.2.2.2.2.2.2.2.1 o37.2.2.2.2.2.2.2.2.2.2.2.1 o37.2.2.2.2.2.2.2.2.2.2.2.2 x1 x2 x4 (x4 + (1 : Int32))
      else
        k16 v_courses v_wide v_hands v_frostsNow v_notFrosts v_gapsNow o37.1 o37.2.1 o37.2.2.1 o37.2.2.2.1 v_told v_moods (upd v_strongs x1.toNatClampNeg x4) o37.2.2.2.2.1 v_yearNow v_forceNow o37.2.2.2.2.2.1 o37.2.2.2.2.2.2.1 o37.2.2.2.2.2.2.2.1 o37.2.2.2.2.2.2.2.2.1 o37.2.2.2.2.2.2.2.2.2.1 o37.2.2.2.2.2.2.2.2.2.2.1 o37.2.2.2.2.2.2.2.2.2.2.2.1 o37.2.2.2.2.2.2.2.2.2.2.2.2 x1 x2 (-1 : Int32) (x4 + (1 : Int32)))))
    else
      f_m_firmOf_N62 v_jumpTold v_frosts v_gaps v_typed v_texts v_frostYear v_frostForce v_gapYear v_gapColumn v_gapHand v_courses v_wide v_hands v_frostsNow v_notFrosts v_gapsNow v_fell v_fellAll v_sheepFirst v_sheepMany v_told v_moods v_strongs v_wall v_yearNow v_forceNow v_holdNow v_fellOf v_handAt v_holdAt v_fallsAt v_standAt v_highAt v_throughAt x1 x2 x3

def f_m_firmOf (v_courses : Int32) (v_wide : Int32) (v_hands : Int32) (v_jumpTold : Int32) (v_frosts : Int32) (v_gaps : Int32) (v_frostsNow : Int32) (v_notFrosts : Int32) (v_gapsNow : Int32) (v_fell : Int32) (v_fellAll : Int32) (v_sheepFirst : Int32) (v_sheepMany : Int32) (v_typed : Nat → Int32) (v_texts : Nat → Int32) (v_told : Nat → Int32) (v_moods : Nat → Int32) (v_strongs : Nat → Int32) (v_frostYear : Nat → Int32) (v_frostForce : Nat → Int32) (v_gapYear : Nat → Int32) (v_gapColumn : Nat → Int32) (v_gapHand : Nat → Int32) (v_wall : Nat → Int32) (v_yearNow : Nat → Int32) (v_forceNow : Nat → Int32) (v_holdNow : Nat → Int32) (v_fellOf : Nat → Int32) (v_handAt : Nat → Int32) (v_holdAt : Nat → Int32) (v_fallsAt : Nat → Int32) (v_standAt : Nat → Int32) (v_highAt : Nat → Int32) (v_throughAt : Nat → Int32) (a0 : Int32) : Option (Int32 × Int32 × Int32 × Int32 × Int32 × Int32 × Int32 × Int32 × Int32 × Int32 × Int32 × (Nat → Int32) × (Nat → Int32) × (Nat → Int32) × (Nat → Int32) × (Nat → Int32) × (Nat → Int32) × (Nat → Int32) × (Nat → Int32) × (Nat → Int32) × (Nat → Int32) × (Nat → Int32) × (Nat → Int32) × (Nat → Int32) × (Nat → Int32)) :=
  (f_m_asTold v_courses v_wide v_hands v_frosts v_gaps v_frostsNow v_notFrosts v_gapsNow v_typed v_texts v_told v_moods v_strongs v_frostYear v_frostForce v_yearNow v_forceNow).bind (fun o1 =>
  gd (inb a0 9) (
  iter (fun _ _ _ _ _ _ _ _ _ _ _ _ _ _ _ _ _ _ _ _ _ _ _ _ _ _ _ _ => none) (f_m_firmOf_N16 v_jumpTold v_frosts v_gaps v_typed v_texts v_frostYear v_frostForce v_gapYear v_gapColumn v_gapHand) 1000 o1.1 o1.2.1 o1.2.2.1 o1.2.2.2.1 o1.2.2.2.2.1 o1.2.2.2.2.2.1 v_fell v_fellAll v_sheepFirst v_sheepMany o1.2.2.2.2.2.2.1 o1.2.2.2.2.2.2.2.1 o1.2.2.2.2.2.2.2.2.1 v_wall o1.2.2.2.2.2.2.2.2.2.1 o1.2.2.2.2.2.2.2.2.2.2 v_holdNow v_fellOf v_handAt v_holdAt v_fallsAt v_standAt v_highAt v_throughAt a0 (o1.2.2.2.2.2.2.2.2.1 a0.toNatClampNeg) (-1 : Int32) (1 : Int32)))

-- WallHandsModel.firm(I)I
def f_m_firm (v_courses : Int32) (v_wide : Int32) (v_hands : Int32) (v_jumpTold : Int32) (v_frosts : Int32) (v_gaps : Int32) (v_frostsNow : Int32) (v_notFrosts : Int32) (v_gapsNow : Int32) (v_fell : Int32) (v_fellAll : Int32) (v_sheepFirst : Int32) (v_sheepMany : Int32) (v_typed : Nat → Int32) (v_texts : Nat → Int32) (v_told : Nat → Int32) (v_moods : Nat → Int32) (v_strongs : Nat → Int32) (v_frostYear : Nat → Int32) (v_frostForce : Nat → Int32) (v_gapYear : Nat → Int32) (v_gapColumn : Nat → Int32) (v_gapHand : Nat → Int32) (v_wall : Nat → Int32) (v_yearNow : Nat → Int32) (v_forceNow : Nat → Int32) (v_holdNow : Nat → Int32) (v_fellOf : Nat → Int32) (v_handAt : Nat → Int32) (v_holdAt : Nat → Int32) (v_fallsAt : Nat → Int32) (v_standAt : Nat → Int32) (v_highAt : Nat → Int32) (v_throughAt : Nat → Int32) (a0 : Int32) : Option (Int32 × Int32 × Int32 × Int32 × Int32 × Int32 × Int32 × Int32 × Int32 × Int32 × Int32 × (Nat → Int32) × (Nat → Int32) × (Nat → Int32) × (Nat → Int32) × (Nat → Int32) × (Nat → Int32) × (Nat → Int32) × (Nat → Int32) × (Nat → Int32) × (Nat → Int32) × (Nat → Int32) × (Nat → Int32) × (Nat → Int32) × (Nat → Int32)) :=
  (f_m_isHand v_courses v_wide v_hands v_typed v_texts v_told v_moods v_strongs a0).bind (fun o2 =>
  if o2.1 = 0 then
    some ((-2 : Int32), o2.2.1, o2.2.2.1, o2.2.2.2.1, v_frostsNow, v_notFrosts, v_gapsNow, v_fell, v_fellAll, v_sheepFirst, v_sheepMany, o2.2.2.2.2.1, o2.2.2.2.2.2.1, o2.2.2.2.2.2.2, v_wall, v_yearNow, v_forceNow, v_holdNow, v_fellOf, v_handAt, v_holdAt, v_fallsAt, v_standAt, v_highAt, v_throughAt)
  else
    (f_m_firmOf o2.2.1 o2.2.2.1 o2.2.2.2.1 v_jumpTold v_frosts v_gaps v_frostsNow v_notFrosts v_gapsNow v_fell v_fellAll v_sheepFirst v_sheepMany v_typed v_texts o2.2.2.2.2.1 o2.2.2.2.2.2.1 o2.2.2.2.2.2.2 v_frostYear v_frostForce v_gapYear v_gapColumn v_gapHand v_wall v_yearNow v_forceNow v_holdNow v_fellOf v_handAt v_holdAt v_fallsAt v_standAt v_highAt v_throughAt a0).bind (fun o10 =>
    some (o10.1, o10.2.1, o10.2.2.1, o10.2.2.2.1, o10.2.2.2.2.1, o10.2.2.2.2.2.1, o10.2.2.2.2.2.2.1, o10.2.2.2.2.2.2.2.1, o10.2.2.2.2.2.2.2.2.1, o10.2.2.2.2.2.2.2.2.2.1, o10.2.2.2.2.2.2.2.2.2.2.1, o10.2.2.2.2.2.2.2.2.2.2.2.1, o10.2.2.2.2.2.2.2.2.2.2.2.2.1, o10.2.2.2.2.2.2.2.2.2.2.2.2.2.1, o10.2.2.2.2.2.2.2.2.2.2.2.2.2.2.1, o10.2.2.2.2.2.2.2.2.2.2.2.2.2.2.2.1, o10.2.2.2.2.2.2.2.2.2.2.2.2.2.2.2.2.1, o10.2.2.2.2.2.2.2.2.2.2.2.2.2.2.2.2.2.1, o10.2.2.2.2.2.2.2.2.2.2.2.2.2.2.2.2.2.2.1, o10.2.2.2.2.2.2.2.2.2.2.2.2.2.2.2.2.2.2.2.1, o10.2.2.2.2.2.2.2.2.2.2.2.2.2.2.2.2.2.2.2.2.1, o10.2.2.2.2.2.2.2.2.2.2.2.2.2.2.2.2.2.2.2.2.2.1, o10.2.2.2.2.2.2.2.2.2.2.2.2.2.2.2.2.2.2.2.2.2.2.1, o10.2.2.2.2.2.2.2.2.2.2.2.2.2.2.2.2.2.2.2.2.2.2.2.1, o10.2.2.2.2.2.2.2.2.2.2.2.2.2.2.2.2.2.2.2.2.2.2.2.2)))

-- WallHandsModel.relayOf(II)I
def f_m_relayOf_N72 (v_jumpTold : Int32) (v_frosts : Int32) (v_gaps : Int32) (v_typed : Nat → Int32) (v_texts : Nat → Int32) (v_frostYear : Nat → Int32) (v_frostForce : Nat → Int32) (v_gapYear : Nat → Int32) (v_gapColumn : Nat → Int32) (v_gapHand : Nat → Int32) (k14 : Int32 → Int32 → Int32 → Int32 → Int32 → Int32 → Int32 → Int32 → Int32 → Int32 → (Nat → Int32) → (Nat → Int32) → (Nat → Int32) → (Nat → Int32) → (Nat → Int32) → (Nat → Int32) → (Nat → Int32) → (Nat → Int32) → (Nat → Int32) → (Nat → Int32) → (Nat → Int32) → (Nat → Int32) → (Nat → Int32) → (Nat → Int32) → Int32 → Int32 → Int32 → Int32 → Int32 → Option (Int32 × Int32 × Int32 × Int32 × Int32 × Int32 × Int32 × Int32 × Int32 × Int32 × Int32 × (Nat → Int32) × (Nat → Int32) × (Nat → Int32) × (Nat → Int32) × (Nat → Int32) × (Nat → Int32) × (Nat → Int32) × (Nat → Int32) × (Nat → Int32) × (Nat → Int32) × (Nat → Int32) × (Nat → Int32) × (Nat → Int32) × (Nat → Int32))) (v_courses : Int32) (v_wide : Int32) (v_hands : Int32) (v_frostsNow : Int32) (v_notFrosts : Int32) (v_gapsNow : Int32) (v_fell : Int32) (v_fellAll : Int32) (v_sheepFirst : Int32) (v_sheepMany : Int32) (v_told : Nat → Int32) (v_moods : Nat → Int32) (v_strongs : Nat → Int32) (v_wall : Nat → Int32) (v_yearNow : Nat → Int32) (v_forceNow : Nat → Int32) (v_holdNow : Nat → Int32) (v_fellOf : Nat → Int32) (v_handAt : Nat → Int32) (v_holdAt : Nat → Int32) (v_fallsAt : Nat → Int32) (v_standAt : Nat → Int32) (v_highAt : Nat → Int32) (v_throughAt : Nat → Int32) (x1 : Int32) (x2 : Int32) (x4 : Int32) (x5 : Int32) (y0 : Int32) : Option (Int32 × Int32 × Int32 × Int32 × Int32 × Int32 × Int32 × Int32 × Int32 × Int32 × Int32 × (Nat → Int32) × (Nat → Int32) × (Nat → Int32) × (Nat → Int32) × (Nat → Int32) × (Nat → Int32) × (Nat → Int32) × (Nat → Int32) × (Nat → Int32) × (Nat → Int32) × (Nat → Int32) × (Nat → Int32) × (Nat → Int32) × (Nat → Int32)) :=
  if x4 ≤ v_fellAll then
    k14 v_courses v_wide v_hands v_frostsNow v_notFrosts v_gapsNow v_fell v_fellAll v_sheepFirst v_sheepMany v_told v_moods v_strongs v_wall v_yearNow v_forceNow v_holdNow v_fellOf v_handAt v_holdAt v_fallsAt v_standAt v_highAt v_throughAt x1 x2 y0 x4 (x5 + (1 : Int32))
  else
    k14 v_courses v_wide v_hands v_frostsNow v_notFrosts v_gapsNow v_fell v_fellAll v_sheepFirst v_sheepMany v_told v_moods v_strongs v_wall v_yearNow v_forceNow v_holdNow v_fellOf v_handAt v_holdAt v_fallsAt v_standAt v_highAt v_throughAt x1 x2 y0 v_fellAll (x5 + (1 : Int32))

def f_m_relayOf_N14 (v_jumpTold : Int32) (v_frosts : Int32) (v_gaps : Int32) (v_typed : Nat → Int32) (v_texts : Nat → Int32) (v_frostYear : Nat → Int32) (v_frostForce : Nat → Int32) (v_gapYear : Nat → Int32) (v_gapColumn : Nat → Int32) (v_gapHand : Nat → Int32) (k14 : Int32 → Int32 → Int32 → Int32 → Int32 → Int32 → Int32 → Int32 → Int32 → Int32 → (Nat → Int32) → (Nat → Int32) → (Nat → Int32) → (Nat → Int32) → (Nat → Int32) → (Nat → Int32) → (Nat → Int32) → (Nat → Int32) → (Nat → Int32) → (Nat → Int32) → (Nat → Int32) → (Nat → Int32) → (Nat → Int32) → (Nat → Int32) → Int32 → Int32 → Int32 → Int32 → Int32 → Option (Int32 × Int32 × Int32 × Int32 × Int32 × Int32 × Int32 × Int32 × Int32 × Int32 × Int32 × (Nat → Int32) × (Nat → Int32) × (Nat → Int32) × (Nat → Int32) × (Nat → Int32) × (Nat → Int32) × (Nat → Int32) × (Nat → Int32) × (Nat → Int32) × (Nat → Int32) × (Nat → Int32) × (Nat → Int32) × (Nat → Int32) × (Nat → Int32))) (v_courses : Int32) (v_wide : Int32) (v_hands : Int32) (v_frostsNow : Int32) (v_notFrosts : Int32) (v_gapsNow : Int32) (v_fell : Int32) (v_fellAll : Int32) (v_sheepFirst : Int32) (v_sheepMany : Int32) (v_told : Nat → Int32) (v_moods : Nat → Int32) (v_strongs : Nat → Int32) (v_wall : Nat → Int32) (v_yearNow : Nat → Int32) (v_forceNow : Nat → Int32) (v_holdNow : Nat → Int32) (v_fellOf : Nat → Int32) (v_handAt : Nat → Int32) (v_holdAt : Nat → Int32) (v_fallsAt : Nat → Int32) (v_standAt : Nat → Int32) (v_highAt : Nat → Int32) (v_throughAt : Nat → Int32) (x1 : Int32) (x2 : Int32) (x3 : Int32) (x4 : Int32) (x5 : Int32) : Option (Int32 × Int32 × Int32 × Int32 × Int32 × Int32 × Int32 × Int32 × Int32 × Int32 × Int32 × (Nat → Int32) × (Nat → Int32) × (Nat → Int32) × (Nat → Int32) × (Nat → Int32) × (Nat → Int32) × (Nat → Int32) × (Nat → Int32) × (Nat → Int32) × (Nat → Int32) × (Nat → Int32) × (Nat → Int32) × (Nat → Int32) × (Nat → Int32)) :=
  if (40 : Int32) ≤ x5 then
    if x3 = (-1 : Int32) then
      some (x3, v_courses, v_wide, v_hands, v_frostsNow, v_notFrosts, v_gapsNow, v_fell, v_fellAll, v_sheepFirst, v_sheepMany, v_told, v_moods, v_strongs, v_wall, v_yearNow, v_forceNow, v_holdNow, v_fellOf, v_handAt, v_holdAt, v_fallsAt, v_standAt, v_highAt, v_throughAt)
    else
      if x2 = 0 then
        some (x3, v_courses, v_wide, v_hands, v_frostsNow, v_notFrosts, v_gapsNow, v_fell, v_fellAll, v_sheepFirst, v_sheepMany, v_told, v_moods, v_strongs, v_wall, v_yearNow, v_forceNow, v_holdNow, v_fellOf, v_handAt, v_holdAt, v_fallsAt, v_standAt, v_highAt, v_throughAt)
      else
        some (x4, v_courses, v_wide, v_hands, v_frostsNow, v_notFrosts, v_gapsNow, v_fell, v_fellAll, v_sheepFirst, v_sheepMany, v_told, v_moods, v_strongs, v_wall, v_yearNow, v_forceNow, v_holdNow, v_fellOf, v_handAt, v_holdAt, v_fallsAt, v_standAt, v_highAt, v_throughAt)
  else
    gd (inb x5 48) (
    if (v_told x5.toNatClampNeg) = (-1 : Int32) then
      k14 v_courses v_wide v_hands v_frostsNow v_notFrosts v_gapsNow v_fell v_fellAll v_sheepFirst v_sheepMany v_told v_moods v_strongs v_wall v_yearNow v_forceNow v_holdNow v_fellOf v_handAt v_holdAt v_fallsAt v_standAt v_highAt v_throughAt x1 x2 x3 x4 (x5 + (1 : Int32))
    else
      gd (inb x5 48) (
      (f_m_runs v_courses v_wide v_hands v_jumpTold v_frostsNow v_notFrosts v_gapsNow v_fell v_fellAll v_sheepFirst v_sheepMany (upd v_told x5.toNatClampNeg x1) v_moods v_strongs v_gapYear v_gapColumn v_gapHand v_wall v_yearNow v_forceNow v_holdNow v_fellOf v_handAt v_holdAt v_fallsAt v_standAt v_highAt v_throughAt).bind (fun o45 =>
      gd (inb x5 48) (
      if x4 ≤ o45.2.1 then
        f_m_relayOf_N72 v_jumpTold v_frosts v_gaps v_typed v_texts v_frostYear v_frostForce v_gapYear v_gapColumn v_gapHand k14 v_courses v_wide v_hands v_frostsNow v_notFrosts v_gapsNow o45.1 o45.2.1 o45.2.2.1 o45.2.2.2.1 (upd (upd v_told x5.toNatClampNeg x1) x5.toNatClampNeg (v_told x5.toNatClampNeg)) v_moods v_strongs o45.2.2.2.2.1 v_yearNow v_forceNow o45.2.2.2.2.2.1 o45.2.2.2.2.2.2.1 o45.2.2.2.2.2.2.2.1 o45.2.2.2.2.2.2.2.2.1 o45.2.2.2.2.2.2.2.2.2.1 o45.2.2.2.2.2.2.2.2.2.2.1 o45.2.2.2.2.2.2.2.2.2.2.2.1 o45.2.2.2.2.2.2.2.2.2.2.2.2 x1 x2 x4 x5 x3
      else
        f_m_relayOf_N72 v_jumpTold v_frosts v_gaps v_typed v_texts v_frostYear v_frostForce v_gapYear v_gapColumn v_gapHand k14 v_courses v_wide v_hands v_frostsNow v_notFrosts v_gapsNow o45.1 o45.2.1 o45.2.2.1 o45.2.2.2.1 (upd (upd v_told x5.toNatClampNeg x1) x5.toNatClampNeg (v_told x5.toNatClampNeg)) v_moods v_strongs o45.2.2.2.2.1 v_yearNow v_forceNow o45.2.2.2.2.2.1 o45.2.2.2.2.2.2.1 o45.2.2.2.2.2.2.2.1 o45.2.2.2.2.2.2.2.2.1 o45.2.2.2.2.2.2.2.2.2.1 o45.2.2.2.2.2.2.2.2.2.2.1 o45.2.2.2.2.2.2.2.2.2.2.2.1 o45.2.2.2.2.2.2.2.2.2.2.2.2 x1 x2 x4 x5 x5))))

def f_m_relayOf (v_courses : Int32) (v_wide : Int32) (v_hands : Int32) (v_jumpTold : Int32) (v_frosts : Int32) (v_gaps : Int32) (v_frostsNow : Int32) (v_notFrosts : Int32) (v_gapsNow : Int32) (v_fell : Int32) (v_fellAll : Int32) (v_sheepFirst : Int32) (v_sheepMany : Int32) (v_typed : Nat → Int32) (v_texts : Nat → Int32) (v_told : Nat → Int32) (v_moods : Nat → Int32) (v_strongs : Nat → Int32) (v_frostYear : Nat → Int32) (v_frostForce : Nat → Int32) (v_gapYear : Nat → Int32) (v_gapColumn : Nat → Int32) (v_gapHand : Nat → Int32) (v_wall : Nat → Int32) (v_yearNow : Nat → Int32) (v_forceNow : Nat → Int32) (v_holdNow : Nat → Int32) (v_fellOf : Nat → Int32) (v_handAt : Nat → Int32) (v_holdAt : Nat → Int32) (v_fallsAt : Nat → Int32) (v_standAt : Nat → Int32) (v_highAt : Nat → Int32) (v_throughAt : Nat → Int32) (a0 : Int32) (a1 : Int32) : Option (Int32 × Int32 × Int32 × Int32 × Int32 × Int32 × Int32 × Int32 × Int32 × Int32 × Int32 × (Nat → Int32) × (Nat → Int32) × (Nat → Int32) × (Nat → Int32) × (Nat → Int32) × (Nat → Int32) × (Nat → Int32) × (Nat → Int32) × (Nat → Int32) × (Nat → Int32) × (Nat → Int32) × (Nat → Int32) × (Nat → Int32) × (Nat → Int32)) :=
  (f_m_asTold v_courses v_wide v_hands v_frosts v_gaps v_frostsNow v_notFrosts v_gapsNow v_typed v_texts v_told v_moods v_strongs v_frostYear v_frostForce v_yearNow v_forceNow).bind (fun o1 =>
  iter (fun _ _ _ _ _ _ _ _ _ _ _ _ _ _ _ _ _ _ _ _ _ _ _ _ _ _ _ _ _ => none) (f_m_relayOf_N14 v_jumpTold v_frosts v_gaps v_typed v_texts v_frostYear v_frostForce v_gapYear v_gapColumn v_gapHand) 1000 o1.1 o1.2.1 o1.2.2.1 o1.2.2.2.1 o1.2.2.2.2.1 o1.2.2.2.2.2.1 v_fell v_fellAll v_sheepFirst v_sheepMany o1.2.2.2.2.2.2.1 o1.2.2.2.2.2.2.2.1 o1.2.2.2.2.2.2.2.2.1 v_wall o1.2.2.2.2.2.2.2.2.2.1 o1.2.2.2.2.2.2.2.2.2.2 v_holdNow v_fellOf v_handAt v_holdAt v_fallsAt v_standAt v_highAt v_throughAt a0 a1 (-1 : Int32) (9999 : Int32) (0 : Int32))

-- WallHandsModel.relay(II)I
def f_m_relay (v_courses : Int32) (v_wide : Int32) (v_hands : Int32) (v_jumpTold : Int32) (v_frosts : Int32) (v_gaps : Int32) (v_frostsNow : Int32) (v_notFrosts : Int32) (v_gapsNow : Int32) (v_fell : Int32) (v_fellAll : Int32) (v_sheepFirst : Int32) (v_sheepMany : Int32) (v_typed : Nat → Int32) (v_texts : Nat → Int32) (v_told : Nat → Int32) (v_moods : Nat → Int32) (v_strongs : Nat → Int32) (v_frostYear : Nat → Int32) (v_frostForce : Nat → Int32) (v_gapYear : Nat → Int32) (v_gapColumn : Nat → Int32) (v_gapHand : Nat → Int32) (v_wall : Nat → Int32) (v_yearNow : Nat → Int32) (v_forceNow : Nat → Int32) (v_holdNow : Nat → Int32) (v_fellOf : Nat → Int32) (v_handAt : Nat → Int32) (v_holdAt : Nat → Int32) (v_fallsAt : Nat → Int32) (v_standAt : Nat → Int32) (v_highAt : Nat → Int32) (v_throughAt : Nat → Int32) (a0 : Int32) (a1 : Int32) : Option (Int32 × Int32 × Int32 × Int32 × Int32 × Int32 × Int32 × Int32 × Int32 × Int32 × Int32 × (Nat → Int32) × (Nat → Int32) × (Nat → Int32) × (Nat → Int32) × (Nat → Int32) × (Nat → Int32) × (Nat → Int32) × (Nat → Int32) × (Nat → Int32) × (Nat → Int32) × (Nat → Int32) × (Nat → Int32) × (Nat → Int32) × (Nat → Int32)) :=
  (f_m_isHand v_courses v_wide v_hands v_typed v_texts v_told v_moods v_strongs a0).bind (fun o2 =>
  if o2.1 = 0 then
    some ((-2 : Int32), o2.2.1, o2.2.2.1, o2.2.2.2.1, v_frostsNow, v_notFrosts, v_gapsNow, v_fell, v_fellAll, v_sheepFirst, v_sheepMany, o2.2.2.2.2.1, o2.2.2.2.2.2.1, o2.2.2.2.2.2.2, v_wall, v_yearNow, v_forceNow, v_holdNow, v_fellOf, v_handAt, v_holdAt, v_fallsAt, v_standAt, v_highAt, v_throughAt)
  else
    (f_m_in a1 (0 : Int32) (1 : Int32)).bind (fun o11 =>
    if o11 = 0 then
      some ((-2 : Int32), o2.2.1, o2.2.2.1, o2.2.2.2.1, v_frostsNow, v_notFrosts, v_gapsNow, v_fell, v_fellAll, v_sheepFirst, v_sheepMany, o2.2.2.2.2.1, o2.2.2.2.2.2.1, o2.2.2.2.2.2.2, v_wall, v_yearNow, v_forceNow, v_holdNow, v_fellOf, v_handAt, v_holdAt, v_fallsAt, v_standAt, v_highAt, v_throughAt)
    else
      (f_m_relayOf o2.2.1 o2.2.2.1 o2.2.2.2.1 v_jumpTold v_frosts v_gaps v_frostsNow v_notFrosts v_gapsNow v_fell v_fellAll v_sheepFirst v_sheepMany v_typed v_texts o2.2.2.2.2.1 o2.2.2.2.2.2.1 o2.2.2.2.2.2.2 v_frostYear v_frostForce v_gapYear v_gapColumn v_gapHand v_wall v_yearNow v_forceNow v_holdNow v_fellOf v_handAt v_holdAt v_fallsAt v_standAt v_highAt v_throughAt a0 a1).bind (fun o20 =>
      some (o20.1, o20.2.1, o20.2.2.1, o20.2.2.2.1, o20.2.2.2.2.1, o20.2.2.2.2.2.1, o20.2.2.2.2.2.2.1, o20.2.2.2.2.2.2.2.1, o20.2.2.2.2.2.2.2.2.1, o20.2.2.2.2.2.2.2.2.2.1, o20.2.2.2.2.2.2.2.2.2.2.1, o20.2.2.2.2.2.2.2.2.2.2.2.1, o20.2.2.2.2.2.2.2.2.2.2.2.2.1, o20.2.2.2.2.2.2.2.2.2.2.2.2.2.1, o20.2.2.2.2.2.2.2.2.2.2.2.2.2.2.1, o20.2.2.2.2.2.2.2.2.2.2.2.2.2.2.2.1, o20.2.2.2.2.2.2.2.2.2.2.2.2.2.2.2.2.1, o20.2.2.2.2.2.2.2.2.2.2.2.2.2.2.2.2.2.1, o20.2.2.2.2.2.2.2.2.2.2.2.2.2.2.2.2.2.2.1, o20.2.2.2.2.2.2.2.2.2.2.2.2.2.2.2.2.2.2.2.1, o20.2.2.2.2.2.2.2.2.2.2.2.2.2.2.2.2.2.2.2.2.1, o20.2.2.2.2.2.2.2.2.2.2.2.2.2.2.2.2.2.2.2.2.2.1, o20.2.2.2.2.2.2.2.2.2.2.2.2.2.2.2.2.2.2.2.2.2.2.1, o20.2.2.2.2.2.2.2.2.2.2.2.2.2.2.2.2.2.2.2.2.2.2.2.1, o20.2.2.2.2.2.2.2.2.2.2.2.2.2.2.2.2.2.2.2.2.2.2.2.2))))

-- WallHandsModel.loose(I)I
def f_m_loose_N2 (v_courses : Int32) (v_wide : Int32) (v_told : Nat → Int32) (k2 : Int32 → (Nat → Int32) → (Nat → Int32) → Int32 → Int32 → Option (Int32 × Int32 × (Nat → Int32) × (Nat → Int32))) (v_fell : Int32) (v_wall : Nat → Int32) (v_fellOf : Nat → Int32) (x1 : Int32) (x2 : Int32) : Option (Int32 × Int32 × (Nat → Int32) × (Nat → Int32)) :=
  if (40 : Int32) ≤ x2 then
    (f_m_settles v_courses v_wide (0 : Int32) v_wall v_fellOf).bind (fun o41 =>
    some (o41.1, o41.1, o41.2.1, o41.2.2))
  else
    if x2 = x1 then
      gd (inb x2 40) (
      k2 v_fell (upd v_wall x2.toNatClampNeg (-1 : Int32)) v_fellOf x1 (x2 + (1 : Int32)))
    else
      gd (inb x2 48) (
      gd (inb x2 40) (
      k2 v_fell (upd v_wall x2.toNatClampNeg (v_told x2.toNatClampNeg)) v_fellOf x1 (x2 + (1 : Int32))))

def f_m_loose (v_courses : Int32) (v_wide : Int32) (v_fell : Int32) (v_told : Nat → Int32) (v_wall : Nat → Int32) (v_fellOf : Nat → Int32) (a0 : Int32) : Option (Int32 × Int32 × (Nat → Int32) × (Nat → Int32)) :=
  iter (fun _ _ _ _ _ => none) (f_m_loose_N2 v_courses v_wide v_told) 1000 v_fell v_wall v_fellOf a0 (0 : Int32)

-- WallHandsModel.liftOf(I)I
def f_m_liftOf_N37 (v_typed : Nat → Int32) (v_texts : Nat → Int32) (v_courses : Int32) (v_wide : Int32) (v_hands : Int32) (v_fell : Int32) (v_told : Nat → Int32) (v_moods : Nat → Int32) (v_strongs : Nat → Int32) (v_wall : Nat → Int32) (v_fellOf : Nat → Int32) (x1 : Int32) (x2 : Int32) (y0 : Int32) : Option (Int32 × Int32 × Int32 × Int32 × Int32 × (Nat → Int32) × (Nat → Int32) × (Nat → Int32) × (Nat → Int32) × (Nat → Int32)) :=
  (f_m_loose v_courses v_wide v_fell v_told v_wall v_fellOf x1).bind (fun o40 =>
  some (o40.1 - (x2 - y0), v_courses, v_wide, v_hands, o40.2.1, v_told, v_moods, v_strongs, o40.2.2.1, o40.2.2.2))

def f_m_liftOf (v_courses : Int32) (v_wide : Int32) (v_hands : Int32) (v_fell : Int32) (v_typed : Nat → Int32) (v_texts : Nat → Int32) (v_told : Nat → Int32) (v_moods : Nat → Int32) (v_strongs : Nat → Int32) (v_wall : Nat → Int32) (v_fellOf : Nat → Int32) (a0 : Int32) : Option (Int32 × Int32 × Int32 × Int32 × Int32 × (Nat → Int32) × (Nat → Int32) × (Nat → Int32) × (Nat → Int32) × (Nat → Int32)) :=
  (f_m_reads v_courses v_wide v_hands v_typed v_texts v_told v_moods v_strongs).bind (fun o1 =>
  gd (inb a0 48) (
  if (o1.2.2.2.1 a0.toNatClampNeg) = (-1 : Int32) then
    some ((-1 : Int32), o1.1, o1.2.1, o1.2.2.1, v_fell, o1.2.2.2.1, o1.2.2.2.2.1, o1.2.2.2.2.2, v_wall, v_fellOf)
  else
    (f_m_loose o1.1 o1.2.1 v_fell o1.2.2.2.1 v_wall v_fellOf (-1 : Int32)).bind (fun o18 =>
    gd (inb a0 40) (
    if (o18.2.2.1 a0.toNatClampNeg) = (-1 : Int32) then
      f_m_liftOf_N37 v_typed v_texts o1.1 o1.2.1 o1.2.2.1 o18.2.1 o1.2.2.2.1 o1.2.2.2.2.1 o1.2.2.2.2.2 o18.2.2.1 o18.2.2.2 a0 o18.1 (1 : Int32)
    else
      f_m_liftOf_N37 v_typed v_texts o1.1 o1.2.1 o1.2.2.1 o18.2.1 o1.2.2.2.1 o1.2.2.2.2.1 o1.2.2.2.2.2 o18.2.2.1 o18.2.2.2 a0 o18.1 (0 : Int32)))))

-- WallHandsModel.lift(II)I
def f_m_lift (v_courses : Int32) (v_wide : Int32) (v_hands : Int32) (v_fell : Int32) (v_typed : Nat → Int32) (v_texts : Nat → Int32) (v_told : Nat → Int32) (v_moods : Nat → Int32) (v_strongs : Nat → Int32) (v_wall : Nat → Int32) (v_fellOf : Nat → Int32) (a0 : Int32) (a1 : Int32) : Option (Int32 × Int32 × Int32 × Int32 × Int32 × (Nat → Int32) × (Nat → Int32) × (Nat → Int32) × (Nat → Int32) × (Nat → Int32)) :=
  (f_m_isPlace a0 a1).bind (fun o2 =>
  if o2 = 0 then
    some ((-2 : Int32), v_courses, v_wide, v_hands, v_fell, v_told, v_moods, v_strongs, v_wall, v_fellOf)
  else
    (f_m_liftOf v_courses v_wide v_hands v_fell v_typed v_texts v_told v_moods v_strongs v_wall v_fellOf (((8 : Int32) * a0) + a1)).bind (fun o15 =>
    some (o15.1, o15.2.1, o15.2.2.1, o15.2.2.2.1, o15.2.2.2.2.1, o15.2.2.2.2.2.1, o15.2.2.2.2.2.2.1, o15.2.2.2.2.2.2.2.1, o15.2.2.2.2.2.2.2.2.1, o15.2.2.2.2.2.2.2.2.2)))

-- WallHandsModel.seen(IIII)I
def f_m_seen (v_seens : Int32) (v_seenYear : Nat → Int32) (v_seenPlace : Nat → Int32) (v_seenHand : Nat → Int32) (a0 : Int32) (a1 : Int32) (a2 : Int32) (a3 : Int32) : Option (Int32 × Int32 × (Nat → Int32) × (Nat → Int32) × (Nat → Int32)) :=
  (f_m_isYear a0).bind (fun o1 =>
  if o1 = 0 then
    some ((-2 : Int32), v_seens, v_seenYear, v_seenPlace, v_seenHand)
  else
    (f_m_isPlace a1 a2).bind (fun o9 =>
    if o9 = 0 then
      some ((-2 : Int32), v_seens, v_seenYear, v_seenPlace, v_seenHand)
    else
      (f_m_in a3 (0 : Int32) (8 : Int32)).bind (fun o20 =>
      if o20 = 0 then
        some ((-2 : Int32), v_seens, v_seenYear, v_seenPlace, v_seenHand)
      else
        if v_seens = (8 : Int32) then
          some ((-4 : Int32), v_seens, v_seenYear, v_seenPlace, v_seenHand)
        else
          gd (inb v_seens 8) (
          gd (inb v_seens 8) (
          gd (inb v_seens 8) (
          some (v_seens + (1 : Int32), v_seens + (1 : Int32), upd v_seenYear v_seens.toNatClampNeg a0, upd v_seenPlace v_seens.toNatClampNeg (((8 : Int32) * a1) + a2), upd v_seenHand v_seens.toNatClampNeg a3)))))))

-- WallHandsModel.forget()I
def f_m_forget (v_seens : Int32) : Option (Int32 × Int32) :=
  some (v_seens, (0 : Int32))

-- WallHandsModel.isSeen()Z
def f_m_isSeen_N53 (v_courses : Int32) (v_wide : Int32) (v_hands : Int32) (v_jumpTold : Int32) (v_frostsNow : Int32) (v_notFrosts : Int32) (v_gapsNow : Int32) (v_seens : Int32) (v_told : Nat → Int32) (v_moods : Nat → Int32) (v_strongs : Nat → Int32) (v_gapYear : Nat → Int32) (v_gapColumn : Nat → Int32) (v_gapHand : Nat → Int32) (v_yearNow : Nat → Int32) (v_forceNow : Nat → Int32) (v_seenYear : Nat → Int32) (v_seenPlace : Nat → Int32) (v_seenHand : Nat → Int32) (k8 : Int32 → Int32 → Int32 → Int32 → (Nat → Int32) → (Nat → Int32) → (Nat → Int32) → (Nat → Int32) → (Nat → Int32) → (Nat → Int32) → (Nat → Int32) → (Nat → Int32) → (Nat → Int32) → Int32 → Int32 → Option (Int32 × Int32 × Int32 × Int32 × Int32 × (Nat → Int32) × (Nat → Int32) × (Nat → Int32) × (Nat → Int32) × (Nat → Int32) × (Nat → Int32) × (Nat → Int32) × (Nat → Int32) × (Nat → Int32))) (v_fell : Int32) (v_fellAll : Int32) (v_sheepFirst : Int32) (v_sheepMany : Int32) (v_wall : Nat → Int32) (v_holdNow : Nat → Int32) (v_fellOf : Nat → Int32) (v_handAt : Nat → Int32) (v_holdAt : Nat → Int32) (v_fallsAt : Nat → Int32) (v_standAt : Nat → Int32) (v_highAt : Nat → Int32) (v_throughAt : Nat → Int32) (x2 : Int32) (y0 : Int32) : Option (Int32 × Int32 × Int32 × Int32 × Int32 × (Nat → Int32) × (Nat → Int32) × (Nat → Int32) × (Nat → Int32) × (Nat → Int32) × (Nat → Int32) × (Nat → Int32) × (Nat → Int32) × (Nat → Int32)) :=
  gd (inb x2 8) (
  if y0 = (v_seenHand x2.toNatClampNeg) then
    k8 v_fell v_fellAll v_sheepFirst v_sheepMany v_wall v_holdNow v_fellOf v_handAt v_holdAt v_fallsAt v_standAt v_highAt v_throughAt (1 : Int32) (x2 + (1 : Int32))
  else
    k8 v_fell v_fellAll v_sheepFirst v_sheepMany v_wall v_holdNow v_fellOf v_handAt v_holdAt v_fallsAt v_standAt v_highAt v_throughAt (0 : Int32) (x2 + (1 : Int32)))

def f_m_isSeen_N8 (v_courses : Int32) (v_wide : Int32) (v_hands : Int32) (v_jumpTold : Int32) (v_frostsNow : Int32) (v_notFrosts : Int32) (v_gapsNow : Int32) (v_seens : Int32) (v_told : Nat → Int32) (v_moods : Nat → Int32) (v_strongs : Nat → Int32) (v_gapYear : Nat → Int32) (v_gapColumn : Nat → Int32) (v_gapHand : Nat → Int32) (v_yearNow : Nat → Int32) (v_forceNow : Nat → Int32) (v_seenYear : Nat → Int32) (v_seenPlace : Nat → Int32) (v_seenHand : Nat → Int32) (k8 : Int32 → Int32 → Int32 → Int32 → (Nat → Int32) → (Nat → Int32) → (Nat → Int32) → (Nat → Int32) → (Nat → Int32) → (Nat → Int32) → (Nat → Int32) → (Nat → Int32) → (Nat → Int32) → Int32 → Int32 → Option (Int32 × Int32 × Int32 × Int32 × Int32 × (Nat → Int32) × (Nat → Int32) × (Nat → Int32) × (Nat → Int32) × (Nat → Int32) × (Nat → Int32) × (Nat → Int32) × (Nat → Int32) × (Nat → Int32))) (v_fell : Int32) (v_fellAll : Int32) (v_sheepFirst : Int32) (v_sheepMany : Int32) (v_wall : Nat → Int32) (v_holdNow : Nat → Int32) (v_fellOf : Nat → Int32) (v_handAt : Nat → Int32) (v_holdAt : Nat → Int32) (v_fallsAt : Nat → Int32) (v_standAt : Nat → Int32) (v_highAt : Nat → Int32) (v_throughAt : Nat → Int32) (x1 : Int32) (x2 : Int32) : Option (Int32 × Int32 × Int32 × Int32 × Int32 × (Nat → Int32) × (Nat → Int32) × (Nat → Int32) × (Nat → Int32) × (Nat → Int32) × (Nat → Int32) × (Nat → Int32) × (Nat → Int32) × (Nat → Int32)) :=
  if v_seens ≤ x2 then
    gd (isB x1) (
    some (x1, v_fell, v_fellAll, v_sheepFirst, v_sheepMany, v_wall, v_holdNow, v_fellOf, v_handAt, v_holdAt, v_fallsAt, v_standAt, v_highAt, v_throughAt))
  else
    if x1 = 0 then
      gd (isB x1) (
      some (x1, v_fell, v_fellAll, v_sheepFirst, v_sheepMany, v_wall, v_holdNow, v_fellOf, v_handAt, v_holdAt, v_fallsAt, v_standAt, v_highAt, v_throughAt))
    else
      gd (inb x2 8) (
      gd (inb x2 8) (
      gd (inb (((40 : Int32) * (v_seenYear x2.toNatClampNeg)) + (v_seenPlace x2.toNatClampNeg)) 800) (
      if (v_handAt (((40 : Int32) * (v_seenYear x2.toNatClampNeg)) + (v_seenPlace x2.toNatClampNeg)).toNatClampNeg) = (-1 : Int32) then
        f_m_isSeen_N53 v_courses v_wide v_hands v_jumpTold v_frostsNow v_notFrosts v_gapsNow v_seens v_told v_moods v_strongs v_gapYear v_gapColumn v_gapHand v_yearNow v_forceNow v_seenYear v_seenPlace v_seenHand k8 v_fell v_fellAll v_sheepFirst v_sheepMany v_wall v_holdNow v_fellOf v_handAt v_holdAt v_fallsAt v_standAt v_highAt v_throughAt x2 (8 : Int32)
      else
        f_m_isSeen_N53 v_courses v_wide v_hands v_jumpTold v_frostsNow v_notFrosts v_gapsNow v_seens v_told v_moods v_strongs v_gapYear v_gapColumn v_gapHand v_yearNow v_forceNow v_seenYear v_seenPlace v_seenHand k8 v_fell v_fellAll v_sheepFirst v_sheepMany v_wall v_holdNow v_fellOf v_handAt v_holdAt v_fallsAt v_standAt v_highAt v_throughAt x2 (v_handAt (((40 : Int32) * (v_seenYear x2.toNatClampNeg)) + (v_seenPlace x2.toNatClampNeg)).toNatClampNeg))))

def f_m_isSeen (v_courses : Int32) (v_wide : Int32) (v_hands : Int32) (v_jumpTold : Int32) (v_frostsNow : Int32) (v_notFrosts : Int32) (v_gapsNow : Int32) (v_fell : Int32) (v_fellAll : Int32) (v_sheepFirst : Int32) (v_sheepMany : Int32) (v_seens : Int32) (v_told : Nat → Int32) (v_moods : Nat → Int32) (v_strongs : Nat → Int32) (v_gapYear : Nat → Int32) (v_gapColumn : Nat → Int32) (v_gapHand : Nat → Int32) (v_wall : Nat → Int32) (v_yearNow : Nat → Int32) (v_forceNow : Nat → Int32) (v_holdNow : Nat → Int32) (v_fellOf : Nat → Int32) (v_handAt : Nat → Int32) (v_holdAt : Nat → Int32) (v_fallsAt : Nat → Int32) (v_standAt : Nat → Int32) (v_highAt : Nat → Int32) (v_throughAt : Nat → Int32) (v_seenYear : Nat → Int32) (v_seenPlace : Nat → Int32) (v_seenHand : Nat → Int32) : Option (Int32 × Int32 × Int32 × Int32 × Int32 × (Nat → Int32) × (Nat → Int32) × (Nat → Int32) × (Nat → Int32) × (Nat → Int32) × (Nat → Int32) × (Nat → Int32) × (Nat → Int32) × (Nat → Int32)) :=
  (f_m_runs v_courses v_wide v_hands v_jumpTold v_frostsNow v_notFrosts v_gapsNow v_fell v_fellAll v_sheepFirst v_sheepMany v_told v_moods v_strongs v_gapYear v_gapColumn v_gapHand v_wall v_yearNow v_forceNow v_holdNow v_fellOf v_handAt v_holdAt v_fallsAt v_standAt v_highAt v_throughAt).bind (fun o1 =>
  iter (fun _ _ _ _ _ _ _ _ _ _ _ _ _ _ _ => none) (f_m_isSeen_N8 v_courses v_wide v_hands v_jumpTold v_frostsNow v_notFrosts v_gapsNow v_seens v_told v_moods v_strongs v_gapYear v_gapColumn v_gapHand v_yearNow v_forceNow v_seenYear v_seenPlace v_seenHand) 1000 o1.1 o1.2.1 o1.2.2.1 o1.2.2.2.1 o1.2.2.2.2.1 o1.2.2.2.2.2.1 o1.2.2.2.2.2.2.1 o1.2.2.2.2.2.2.2.1 o1.2.2.2.2.2.2.2.2.1 o1.2.2.2.2.2.2.2.2.2.1 o1.2.2.2.2.2.2.2.2.2.2.1 o1.2.2.2.2.2.2.2.2.2.2.2.1 o1.2.2.2.2.2.2.2.2.2.2.2.2 (1 : Int32) (0 : Int32))

-- WallHandsModel.neverNow()I
def f_m_neverNow_N38 (v_jumpTold : Int32) (v_frosts : Int32) (v_gaps : Int32) (v_seens : Int32) (v_typed : Nat → Int32) (v_texts : Nat → Int32) (v_frostYear : Nat → Int32) (v_frostForce : Nat → Int32) (v_gapYear : Nat → Int32) (v_gapColumn : Nat → Int32) (v_gapHand : Nat → Int32) (v_seenYear : Nat → Int32) (v_seenPlace : Nat → Int32) (v_seenHand : Nat → Int32) (k8 : Int32 → Int32 → Int32 → Int32 → Int32 → Int32 → Int32 → Int32 → Int32 → Int32 → (Nat → Int32) → (Nat → Int32) → (Nat → Int32) → (Nat → Int32) → (Nat → Int32) → (Nat → Int32) → (Nat → Int32) → (Nat → Int32) → (Nat → Int32) → (Nat → Int32) → (Nat → Int32) → (Nat → Int32) → (Nat → Int32) → (Nat → Int32) → Int32 → Int32 → Option (Int32 × Int32 × Int32 × Int32 × Int32 × Int32 × Int32 × Int32 × Int32 × Int32 × Int32 × (Nat → Int32) × (Nat → Int32) × (Nat → Int32) × (Nat → Int32) × (Nat → Int32) × (Nat → Int32) × (Nat → Int32) × (Nat → Int32) × (Nat → Int32) × (Nat → Int32) × (Nat → Int32) × (Nat → Int32) × (Nat → Int32) × (Nat → Int32))) (v_courses : Int32) (v_wide : Int32) (v_hands : Int32) (v_frostsNow : Int32) (v_notFrosts : Int32) (v_gapsNow : Int32) (v_fell : Int32) (v_fellAll : Int32) (v_sheepFirst : Int32) (v_sheepMany : Int32) (v_told : Nat → Int32) (v_moods : Nat → Int32) (v_strongs : Nat → Int32) (v_wall : Nat → Int32) (v_yearNow : Nat → Int32) (v_forceNow : Nat → Int32) (v_holdNow : Nat → Int32) (v_fellOf : Nat → Int32) (v_handAt : Nat → Int32) (v_holdAt : Nat → Int32) (v_fallsAt : Nat → Int32) (v_standAt : Nat → Int32) (v_highAt : Nat → Int32) (v_throughAt : Nat → Int32) (x2 : Int32) (y0 : Int32) (y1 : Int32) : Option (Int32 × Int32 × Int32 × Int32 × Int32 × Int32 × Int32 × Int32 × Int32 × Int32 × Int32 × (Nat → Int32) × (Nat → Int32) × (Nat → Int32) × (Nat → Int32) × (Nat → Int32) × (Nat → Int32) × (Nat → Int32) × (Nat → Int32) × (Nat → Int32) × (Nat → Int32) × (Nat → Int32) × (Nat → Int32) × (Nat → Int32) × (Nat → Int32)) :=
  k8 v_courses v_wide v_hands v_frostsNow v_notFrosts v_gapsNow v_fell v_fellAll v_sheepFirst v_sheepMany v_told v_moods v_strongs v_wall v_yearNow v_forceNow v_holdNow v_fellOf v_handAt v_holdAt v_fallsAt v_standAt v_highAt v_throughAt (y0 ||| y1) (x2 + (1 : Int32))

def f_m_neverNow_N8 (v_jumpTold : Int32) (v_frosts : Int32) (v_gaps : Int32) (v_seens : Int32) (v_typed : Nat → Int32) (v_texts : Nat → Int32) (v_frostYear : Nat → Int32) (v_frostForce : Nat → Int32) (v_gapYear : Nat → Int32) (v_gapColumn : Nat → Int32) (v_gapHand : Nat → Int32) (v_seenYear : Nat → Int32) (v_seenPlace : Nat → Int32) (v_seenHand : Nat → Int32) (k8 : Int32 → Int32 → Int32 → Int32 → Int32 → Int32 → Int32 → Int32 → Int32 → Int32 → (Nat → Int32) → (Nat → Int32) → (Nat → Int32) → (Nat → Int32) → (Nat → Int32) → (Nat → Int32) → (Nat → Int32) → (Nat → Int32) → (Nat → Int32) → (Nat → Int32) → (Nat → Int32) → (Nat → Int32) → (Nat → Int32) → (Nat → Int32) → Int32 → Int32 → Option (Int32 × Int32 × Int32 × Int32 × Int32 × Int32 × Int32 × Int32 × Int32 × Int32 × Int32 × (Nat → Int32) × (Nat → Int32) × (Nat → Int32) × (Nat → Int32) × (Nat → Int32) × (Nat → Int32) × (Nat → Int32) × (Nat → Int32) × (Nat → Int32) × (Nat → Int32) × (Nat → Int32) × (Nat → Int32) × (Nat → Int32) × (Nat → Int32))) (v_courses : Int32) (v_wide : Int32) (v_hands : Int32) (v_frostsNow : Int32) (v_notFrosts : Int32) (v_gapsNow : Int32) (v_fell : Int32) (v_fellAll : Int32) (v_sheepFirst : Int32) (v_sheepMany : Int32) (v_told : Nat → Int32) (v_moods : Nat → Int32) (v_strongs : Nat → Int32) (v_wall : Nat → Int32) (v_yearNow : Nat → Int32) (v_forceNow : Nat → Int32) (v_holdNow : Nat → Int32) (v_fellOf : Nat → Int32) (v_handAt : Nat → Int32) (v_holdAt : Nat → Int32) (v_fallsAt : Nat → Int32) (v_standAt : Nat → Int32) (v_highAt : Nat → Int32) (v_throughAt : Nat → Int32) (x1 : Int32) (x2 : Int32) : Option (Int32 × Int32 × Int32 × Int32 × Int32 × Int32 × Int32 × Int32 × Int32 × Int32 × Int32 × (Nat → Int32) × (Nat → Int32) × (Nat → Int32) × (Nat → Int32) × (Nat → Int32) × (Nat → Int32) × (Nat → Int32) × (Nat → Int32) × (Nat → Int32) × (Nat → Int32) × (Nat → Int32) × (Nat → Int32) × (Nat → Int32) × (Nat → Int32)) :=
  if v_frosts ≤ x2 then
    some (x1, v_courses, v_wide, v_hands, v_frostsNow, v_notFrosts, v_gapsNow, v_fell, v_fellAll, v_sheepFirst, v_sheepMany, v_told, v_moods, v_strongs, v_wall, v_yearNow, v_forceNow, v_holdNow, v_fellOf, v_handAt, v_holdAt, v_fallsAt, v_standAt, v_highAt, v_throughAt)
  else
    (f_m_isSeen v_courses v_wide v_hands v_jumpTold v_frostsNow ((1 : Int32) <<< (x2 &&& 31)) v_gapsNow v_fell v_fellAll v_sheepFirst v_sheepMany v_seens v_told v_moods v_strongs v_gapYear v_gapColumn v_gapHand v_wall v_yearNow v_forceNow v_holdNow v_fellOf v_handAt v_holdAt v_fallsAt v_standAt v_highAt v_throughAt v_seenYear v_seenPlace v_seenHand).bind (fun o25 =>
    if o25.1 = 0 then
      f_m_neverNow_N38 v_jumpTold v_frosts v_gaps v_seens v_typed v_texts v_frostYear v_frostForce v_gapYear v_gapColumn v_gapHand v_seenYear v_seenPlace v_seenHand k8 v_courses v_wide v_hands v_frostsNow ((1 : Int32) <<< (x2 &&& 31)) v_gapsNow o25.2.1 o25.2.2.1 o25.2.2.2.1 o25.2.2.2.2.1 v_told v_moods v_strongs o25.2.2.2.2.2.1 v_yearNow v_forceNow o25.2.2.2.2.2.2.1 o25.2.2.2.2.2.2.2.1 o25.2.2.2.2.2.2.2.2.1 o25.2.2.2.2.2.2.2.2.2.1 o25.2.2.2.2.2.2.2.2.2.2.1 o25.2.2.2.2.2.2.2.2.2.2.2.1 o25.2.2.2.2.2.2.2.2.2.2.2.2.1 o25.2.2.2.2.2.2.2.2.2.2.2.2.2 x2 x1 (0 : Int32)
    else
      f_m_neverNow_N38 v_jumpTold v_frosts v_gaps v_seens v_typed v_texts v_frostYear v_frostForce v_gapYear v_gapColumn v_gapHand v_seenYear v_seenPlace v_seenHand k8 v_courses v_wide v_hands v_frostsNow ((1 : Int32) <<< (x2 &&& 31)) v_gapsNow o25.2.1 o25.2.2.1 o25.2.2.2.1 o25.2.2.2.2.1 v_told v_moods v_strongs o25.2.2.2.2.2.1 v_yearNow v_forceNow o25.2.2.2.2.2.2.1 o25.2.2.2.2.2.2.2.1 o25.2.2.2.2.2.2.2.2.1 o25.2.2.2.2.2.2.2.2.2.1 o25.2.2.2.2.2.2.2.2.2.2.1 o25.2.2.2.2.2.2.2.2.2.2.2.1 o25.2.2.2.2.2.2.2.2.2.2.2.2.1 o25.2.2.2.2.2.2.2.2.2.2.2.2.2 x2 x1 ((1 : Int32) <<< (x2 &&& 31)))

def f_m_neverNow (v_courses : Int32) (v_wide : Int32) (v_hands : Int32) (v_jumpTold : Int32) (v_frosts : Int32) (v_gaps : Int32) (v_frostsNow : Int32) (v_notFrosts : Int32) (v_gapsNow : Int32) (v_fell : Int32) (v_fellAll : Int32) (v_sheepFirst : Int32) (v_sheepMany : Int32) (v_seens : Int32) (v_typed : Nat → Int32) (v_texts : Nat → Int32) (v_told : Nat → Int32) (v_moods : Nat → Int32) (v_strongs : Nat → Int32) (v_frostYear : Nat → Int32) (v_frostForce : Nat → Int32) (v_gapYear : Nat → Int32) (v_gapColumn : Nat → Int32) (v_gapHand : Nat → Int32) (v_wall : Nat → Int32) (v_yearNow : Nat → Int32) (v_forceNow : Nat → Int32) (v_holdNow : Nat → Int32) (v_fellOf : Nat → Int32) (v_handAt : Nat → Int32) (v_holdAt : Nat → Int32) (v_fallsAt : Nat → Int32) (v_standAt : Nat → Int32) (v_highAt : Nat → Int32) (v_throughAt : Nat → Int32) (v_seenYear : Nat → Int32) (v_seenPlace : Nat → Int32) (v_seenHand : Nat → Int32) : Option (Int32 × Int32 × Int32 × Int32 × Int32 × Int32 × Int32 × Int32 × Int32 × Int32 × Int32 × (Nat → Int32) × (Nat → Int32) × (Nat → Int32) × (Nat → Int32) × (Nat → Int32) × (Nat → Int32) × (Nat → Int32) × (Nat → Int32) × (Nat → Int32) × (Nat → Int32) × (Nat → Int32) × (Nat → Int32) × (Nat → Int32) × (Nat → Int32)) :=
  (f_m_asTold v_courses v_wide v_hands v_frosts v_gaps v_frostsNow v_notFrosts v_gapsNow v_typed v_texts v_told v_moods v_strongs v_frostYear v_frostForce v_yearNow v_forceNow).bind (fun o1 =>
  iter (fun _ _ _ _ _ _ _ _ _ _ _ _ _ _ _ _ _ _ _ _ _ _ _ _ _ _ => none) (f_m_neverNow_N8 v_jumpTold v_frosts v_gaps v_seens v_typed v_texts v_frostYear v_frostForce v_gapYear v_gapColumn v_gapHand v_seenYear v_seenPlace v_seenHand) 1000 o1.1 o1.2.1 o1.2.2.1 o1.2.2.2.1 o1.2.2.2.2.1 o1.2.2.2.2.2.1 v_fell v_fellAll v_sheepFirst v_sheepMany o1.2.2.2.2.2.2.1 o1.2.2.2.2.2.2.2.1 o1.2.2.2.2.2.2.2.2.1 v_wall o1.2.2.2.2.2.2.2.2.2.1 o1.2.2.2.2.2.2.2.2.2.2 v_holdNow v_fellOf v_handAt v_holdAt v_fallsAt v_standAt v_highAt v_throughAt (0 : Int32) (0 : Int32))

-- WallHandsModel.never()I
def f_m_never (v_courses : Int32) (v_wide : Int32) (v_hands : Int32) (v_jumpTold : Int32) (v_frosts : Int32) (v_gaps : Int32) (v_frostsNow : Int32) (v_notFrosts : Int32) (v_gapsNow : Int32) (v_fell : Int32) (v_fellAll : Int32) (v_sheepFirst : Int32) (v_sheepMany : Int32) (v_seens : Int32) (v_typed : Nat → Int32) (v_texts : Nat → Int32) (v_told : Nat → Int32) (v_moods : Nat → Int32) (v_strongs : Nat → Int32) (v_frostYear : Nat → Int32) (v_frostForce : Nat → Int32) (v_gapYear : Nat → Int32) (v_gapColumn : Nat → Int32) (v_gapHand : Nat → Int32) (v_wall : Nat → Int32) (v_yearNow : Nat → Int32) (v_forceNow : Nat → Int32) (v_holdNow : Nat → Int32) (v_fellOf : Nat → Int32) (v_handAt : Nat → Int32) (v_holdAt : Nat → Int32) (v_fallsAt : Nat → Int32) (v_standAt : Nat → Int32) (v_highAt : Nat → Int32) (v_throughAt : Nat → Int32) (v_seenYear : Nat → Int32) (v_seenPlace : Nat → Int32) (v_seenHand : Nat → Int32) : Option (Int32 × Int32 × Int32 × Int32 × Int32 × Int32 × Int32 × Int32 × Int32 × Int32 × Int32 × (Nat → Int32) × (Nat → Int32) × (Nat → Int32) × (Nat → Int32) × (Nat → Int32) × (Nat → Int32) × (Nat → Int32) × (Nat → Int32) × (Nat → Int32) × (Nat → Int32) × (Nat → Int32) × (Nat → Int32) × (Nat → Int32) × (Nat → Int32)) :=
  (f_m_neverNow v_courses v_wide v_hands v_jumpTold v_frosts v_gaps v_frostsNow v_notFrosts v_gapsNow v_fell v_fellAll v_sheepFirst v_sheepMany v_seens v_typed v_texts v_told v_moods v_strongs v_frostYear v_frostForce v_gapYear v_gapColumn v_gapHand v_wall v_yearNow v_forceNow v_holdNow v_fellOf v_handAt v_holdAt v_fallsAt v_standAt v_highAt v_throughAt v_seenYear v_seenPlace v_seenHand).bind (fun o1 =>
  some (o1.1, o1.2.1, o1.2.2.1, o1.2.2.2.1, o1.2.2.2.2.1, o1.2.2.2.2.2.1, o1.2.2.2.2.2.2.1, o1.2.2.2.2.2.2.2.1, o1.2.2.2.2.2.2.2.2.1, o1.2.2.2.2.2.2.2.2.2.1, o1.2.2.2.2.2.2.2.2.2.2.1, o1.2.2.2.2.2.2.2.2.2.2.2.1, o1.2.2.2.2.2.2.2.2.2.2.2.2.1, o1.2.2.2.2.2.2.2.2.2.2.2.2.2.1, o1.2.2.2.2.2.2.2.2.2.2.2.2.2.2.1, o1.2.2.2.2.2.2.2.2.2.2.2.2.2.2.2.1, o1.2.2.2.2.2.2.2.2.2.2.2.2.2.2.2.2.1, o1.2.2.2.2.2.2.2.2.2.2.2.2.2.2.2.2.2.1, o1.2.2.2.2.2.2.2.2.2.2.2.2.2.2.2.2.2.2.1, o1.2.2.2.2.2.2.2.2.2.2.2.2.2.2.2.2.2.2.2.1, o1.2.2.2.2.2.2.2.2.2.2.2.2.2.2.2.2.2.2.2.2.1, o1.2.2.2.2.2.2.2.2.2.2.2.2.2.2.2.2.2.2.2.2.2.1, o1.2.2.2.2.2.2.2.2.2.2.2.2.2.2.2.2.2.2.2.2.2.2.1, o1.2.2.2.2.2.2.2.2.2.2.2.2.2.2.2.2.2.2.2.2.2.2.2.1, o1.2.2.2.2.2.2.2.2.2.2.2.2.2.2.2.2.2.2.2.2.2.2.2.2))

-- WallHandsModel.strongBy(I)I
def f_m_strongBy_N52 (v_jumpTold : Int32) (v_frosts : Int32) (v_gaps : Int32) (v_seens : Int32) (v_typed : Nat → Int32) (v_texts : Nat → Int32) (v_frostYear : Nat → Int32) (v_frostForce : Nat → Int32) (v_gapYear : Nat → Int32) (v_gapColumn : Nat → Int32) (v_gapHand : Nat → Int32) (v_seenYear : Nat → Int32) (v_seenPlace : Nat → Int32) (v_seenHand : Nat → Int32) (k16 : Int32 → Int32 → Int32 → Int32 → Int32 → Int32 → Int32 → Int32 → Int32 → Int32 → (Nat → Int32) → (Nat → Int32) → (Nat → Int32) → (Nat → Int32) → (Nat → Int32) → (Nat → Int32) → (Nat → Int32) → (Nat → Int32) → (Nat → Int32) → (Nat → Int32) → (Nat → Int32) → (Nat → Int32) → (Nat → Int32) → (Nat → Int32) → (Nat → Int32) → Int32 → Int32 → Int32 → Int32 → Option (Int32 × Int32 × Int32 × Int32 × Int32 × Int32 × Int32 × Int32 × Int32 × Int32 × Int32 × (Nat → Int32) × (Nat → Int32) × (Nat → Int32) × (Nat → Int32) × (Nat → Int32) × (Nat → Int32) × (Nat → Int32) × (Nat → Int32) × (Nat → Int32) × (Nat → Int32) × (Nat → Int32) × (Nat → Int32) × (Nat → Int32) × (Nat → Int32) × (Nat → Int32))) (k52 : Int32 → Int32 → Int32 → Int32 → Int32 → Int32 → Int32 → Int32 → Int32 → Int32 → (Nat → Int32) → (Nat → Int32) → (Nat → Int32) → (Nat → Int32) → (Nat → Int32) → (Nat → Int32) → (Nat → Int32) → (Nat → Int32) → (Nat → Int32) → (Nat → Int32) → (Nat → Int32) → (Nat → Int32) → (Nat → Int32) → (Nat → Int32) → (Nat → Int32) → Int32 → Int32 → Int32 → Int32 → Int32 → Option (Int32 × Int32 × Int32 × Int32 × Int32 × Int32 × Int32 × Int32 × Int32 × Int32 × Int32 × (Nat → Int32) × (Nat → Int32) × (Nat → Int32) × (Nat → Int32) × (Nat → Int32) × (Nat → Int32) × (Nat → Int32) × (Nat → Int32) × (Nat → Int32) × (Nat → Int32) × (Nat → Int32) × (Nat → Int32) × (Nat → Int32) × (Nat → Int32) × (Nat → Int32))) (v_courses : Int32) (v_wide : Int32) (v_hands : Int32) (v_frostsNow : Int32) (v_notFrosts : Int32) (v_gapsNow : Int32) (v_fell : Int32) (v_fellAll : Int32) (v_sheepFirst : Int32) (v_sheepMany : Int32) (v_told : Nat → Int32) (v_moods : Nat → Int32) (v_strongs : Nat → Int32) (v_wall : Nat → Int32) (v_yearNow : Nat → Int32) (v_forceNow : Nat → Int32) (v_holdNow : Nat → Int32) (v_fellOf : Nat → Int32) (v_handAt : Nat → Int32) (v_holdAt : Nat → Int32) (v_fallsAt : Nat → Int32) (v_standAt : Nat → Int32) (v_highAt : Nat → Int32) (v_throughAt : Nat → Int32) (v_standBy : Nat → Int32) (x1 : Int32) (x2 : Int32) (x3 : Int32) (x4 : Int32) (x5 : Int32) : Option (Int32 × Int32 × Int32 × Int32 × Int32 × Int32 × Int32 × Int32 × Int32 × Int32 × Int32 × (Nat → Int32) × (Nat → Int32) × (Nat → Int32) × (Nat → Int32) × (Nat → Int32) × (Nat → Int32) × (Nat → Int32) × (Nat → Int32) × (Nat → Int32) × (Nat → Int32) × (Nat → Int32) × (Nat → Int32) × (Nat → Int32) × (Nat → Int32) × (Nat → Int32)) :=
  if (20 : Int32) ≤ x5 then
    k16 v_courses v_wide v_hands v_frostsNow v_notFrosts v_gapsNow v_fell v_fellAll v_sheepFirst v_sheepMany v_told v_moods v_strongs v_wall v_yearNow v_forceNow v_holdNow v_fellOf v_handAt v_holdAt v_fallsAt v_standAt v_highAt v_throughAt v_standBy x1 x2 x3 (x4 + (1 : Int32))
  else
    gd (inb x5 20) (
    gd (inb (((20 : Int32) * x4) + x5) 200) (
    k52 v_courses v_wide v_hands v_frostsNow v_notFrosts v_gapsNow v_fell v_fellAll v_sheepFirst v_sheepMany v_told v_moods v_strongs v_wall v_yearNow v_forceNow v_holdNow v_fellOf v_handAt v_holdAt v_fallsAt v_standAt v_highAt v_throughAt (upd v_standBy (((20 : Int32) * x4) + x5).toNatClampNeg (v_standAt x5.toNatClampNeg)) x1 x2 x3 x4 (x5 + (1 : Int32))))

def f_m_strongBy_N47 (v_jumpTold : Int32) (v_frosts : Int32) (v_gaps : Int32) (v_seens : Int32) (v_typed : Nat → Int32) (v_texts : Nat → Int32) (v_frostYear : Nat → Int32) (v_frostForce : Nat → Int32) (v_gapYear : Nat → Int32) (v_gapColumn : Nat → Int32) (v_gapHand : Nat → Int32) (v_seenYear : Nat → Int32) (v_seenPlace : Nat → Int32) (v_seenHand : Nat → Int32) (k16 : Int32 → Int32 → Int32 → Int32 → Int32 → Int32 → Int32 → Int32 → Int32 → Int32 → (Nat → Int32) → (Nat → Int32) → (Nat → Int32) → (Nat → Int32) → (Nat → Int32) → (Nat → Int32) → (Nat → Int32) → (Nat → Int32) → (Nat → Int32) → (Nat → Int32) → (Nat → Int32) → (Nat → Int32) → (Nat → Int32) → (Nat → Int32) → (Nat → Int32) → Int32 → Int32 → Int32 → Int32 → Option (Int32 × Int32 × Int32 × Int32 × Int32 × Int32 × Int32 × Int32 × Int32 × Int32 × Int32 × (Nat → Int32) × (Nat → Int32) × (Nat → Int32) × (Nat → Int32) × (Nat → Int32) × (Nat → Int32) × (Nat → Int32) × (Nat → Int32) × (Nat → Int32) × (Nat → Int32) × (Nat → Int32) × (Nat → Int32) × (Nat → Int32) × (Nat → Int32) × (Nat → Int32))) (v_courses : Int32) (v_wide : Int32) (v_hands : Int32) (v_frostsNow : Int32) (v_notFrosts : Int32) (v_gapsNow : Int32) (v_fell : Int32) (v_fellAll : Int32) (v_sheepFirst : Int32) (v_sheepMany : Int32) (v_told : Nat → Int32) (v_moods : Nat → Int32) (v_strongs : Nat → Int32) (v_wall : Nat → Int32) (v_yearNow : Nat → Int32) (v_forceNow : Nat → Int32) (v_holdNow : Nat → Int32) (v_fellOf : Nat → Int32) (v_handAt : Nat → Int32) (v_holdAt : Nat → Int32) (v_fallsAt : Nat → Int32) (v_standAt : Nat → Int32) (v_highAt : Nat → Int32) (v_throughAt : Nat → Int32) (v_standBy : Nat → Int32) (x1 : Int32) (x2 : Int32) (x4 : Int32) (y0 : Int32) (y1 : Int32) : Option (Int32 × Int32 × Int32 × Int32 × Int32 × Int32 × Int32 × Int32 × Int32 × Int32 × Int32 × (Nat → Int32) × (Nat → Int32) × (Nat → Int32) × (Nat → Int32) × (Nat → Int32) × (Nat → Int32) × (Nat → Int32) × (Nat → Int32) × (Nat → Int32) × (Nat → Int32) × (Nat → Int32) × (Nat → Int32) × (Nat → Int32) × (Nat → Int32) × (Nat → Int32)) :=
  iter (fun _ _ _ _ _ _ _ _ _ _ _ _ _ _ _ _ _ _ _ _ _ _ _ _ _ _ _ _ _ _ => none) (f_m_strongBy_N52 v_jumpTold v_frosts v_gaps v_seens v_typed v_texts v_frostYear v_frostForce v_gapYear v_gapColumn v_gapHand v_seenYear v_seenPlace v_seenHand k16) 1000 v_courses v_wide v_hands v_frostsNow v_notFrosts v_gapsNow v_fell v_fellAll v_sheepFirst v_sheepMany v_told v_moods v_strongs v_wall v_yearNow v_forceNow v_holdNow v_fellOf v_handAt v_holdAt v_fallsAt v_standAt v_highAt v_throughAt v_standBy x1 x2 (y0 ||| y1) x4 (0 : Int32)

def f_m_strongBy_N16 (v_jumpTold : Int32) (v_frosts : Int32) (v_gaps : Int32) (v_seens : Int32) (v_typed : Nat → Int32) (v_texts : Nat → Int32) (v_frostYear : Nat → Int32) (v_frostForce : Nat → Int32) (v_gapYear : Nat → Int32) (v_gapColumn : Nat → Int32) (v_gapHand : Nat → Int32) (v_seenYear : Nat → Int32) (v_seenPlace : Nat → Int32) (v_seenHand : Nat → Int32) (k16 : Int32 → Int32 → Int32 → Int32 → Int32 → Int32 → Int32 → Int32 → Int32 → Int32 → (Nat → Int32) → (Nat → Int32) → (Nat → Int32) → (Nat → Int32) → (Nat → Int32) → (Nat → Int32) → (Nat → Int32) → (Nat → Int32) → (Nat → Int32) → (Nat → Int32) → (Nat → Int32) → (Nat → Int32) → (Nat → Int32) → (Nat → Int32) → (Nat → Int32) → Int32 → Int32 → Int32 → Int32 → Option (Int32 × Int32 × Int32 × Int32 × Int32 × Int32 × Int32 × Int32 × Int32 × Int32 × Int32 × (Nat → Int32) × (Nat → Int32) × (Nat → Int32) × (Nat → Int32) × (Nat → Int32) × (Nat → Int32) × (Nat → Int32) × (Nat → Int32) × (Nat → Int32) × (Nat → Int32) × (Nat → Int32) × (Nat → Int32) × (Nat → Int32) × (Nat → Int32) × (Nat → Int32))) (v_courses : Int32) (v_wide : Int32) (v_hands : Int32) (v_frostsNow : Int32) (v_notFrosts : Int32) (v_gapsNow : Int32) (v_fell : Int32) (v_fellAll : Int32) (v_sheepFirst : Int32) (v_sheepMany : Int32) (v_told : Nat → Int32) (v_moods : Nat → Int32) (v_strongs : Nat → Int32) (v_wall : Nat → Int32) (v_yearNow : Nat → Int32) (v_forceNow : Nat → Int32) (v_holdNow : Nat → Int32) (v_fellOf : Nat → Int32) (v_handAt : Nat → Int32) (v_holdAt : Nat → Int32) (v_fallsAt : Nat → Int32) (v_standAt : Nat → Int32) (v_highAt : Nat → Int32) (v_throughAt : Nat → Int32) (v_standBy : Nat → Int32) (x1 : Int32) (x2 : Int32) (x3 : Int32) (x4 : Int32) : Option (Int32 × Int32 × Int32 × Int32 × Int32 × Int32 × Int32 × Int32 × Int32 × Int32 × Int32 × (Nat → Int32) × (Nat → Int32) × (Nat → Int32) × (Nat → Int32) × (Nat → Int32) × (Nat → Int32) × (Nat → Int32) × (Nat → Int32) × (Nat → Int32) × (Nat → Int32) × (Nat → Int32) × (Nat → Int32) × (Nat → Int32) × (Nat → Int32) × (Nat → Int32)) :=
  if (10 : Int32) ≤ x4 then
    gd (inb x1 9) (
    some (x3, v_courses, v_wide, v_hands, v_frostsNow, v_notFrosts, v_gapsNow, v_fell, v_fellAll, v_sheepFirst, v_sheepMany, v_told, v_moods, upd v_strongs x1.toNatClampNeg x2, v_wall, v_yearNow, v_forceNow, v_holdNow, v_fellOf, v_handAt, v_holdAt, v_fallsAt, v_standAt, v_highAt, v_throughAt, v_standBy))
  else
    gd (inb x1 9) (
    (f_m_isSeen v_courses v_wide v_hands v_jumpTold v_frostsNow v_notFrosts v_gapsNow v_fell v_fellAll v_sheepFirst v_sheepMany v_seens v_told v_moods (upd v_strongs x1.toNatClampNeg x4) v_gapYear v_gapColumn v_gapHand v_wall v_yearNow v_forceNow v_holdNow v_fellOf v_handAt v_holdAt v_fallsAt v_standAt v_highAt v_throughAt v_seenYear v_seenPlace v_seenHand).bind (fun o33 =>
    if o33.1 = 0 then
      f_m_strongBy_N47 v_jumpTold v_frosts v_gaps v_seens v_typed v_texts v_frostYear v_frostForce v_gapYear v_gapColumn v_gapHand v_seenYear v_seenPlace v_seenHand k16 v_courses v_wide v_hands v_frostsNow v_notFrosts v_gapsNow o33.2.1 o33.2.2.1 o33.2.2.2.1 o33.2.2.2.2.1 v_told v_moods (upd v_strongs x1.toNatClampNeg x4) o33.2.2.2.2.2.1 v_yearNow v_forceNow o33.2.2.2.2.2.2.1 o33.2.2.2.2.2.2.2.1 o33.2.2.2.2.2.2.2.2.1 o33.2.2.2.2.2.2.2.2.2.1 o33.2.2.2.2.2.2.2.2.2.2.1 o33.2.2.2.2.2.2.2.2.2.2.2.1 o33.2.2.2.2.2.2.2.2.2.2.2.2.1 o33.2.2.2.2.2.2.2.2.2.2.2.2.2 v_standBy x1 x2 x4 x3 (0 : Int32)
    else
      f_m_strongBy_N47 v_jumpTold v_frosts v_gaps v_seens v_typed v_texts v_frostYear v_frostForce v_gapYear v_gapColumn v_gapHand v_seenYear v_seenPlace v_seenHand k16 v_courses v_wide v_hands v_frostsNow v_notFrosts v_gapsNow o33.2.1 o33.2.2.1 o33.2.2.2.1 o33.2.2.2.2.1 v_told v_moods (upd v_strongs x1.toNatClampNeg x4) o33.2.2.2.2.2.1 v_yearNow v_forceNow o33.2.2.2.2.2.2.1 o33.2.2.2.2.2.2.2.1 o33.2.2.2.2.2.2.2.2.1 o33.2.2.2.2.2.2.2.2.2.1 o33.2.2.2.2.2.2.2.2.2.2.1 o33.2.2.2.2.2.2.2.2.2.2.2.1 o33.2.2.2.2.2.2.2.2.2.2.2.2.1 o33.2.2.2.2.2.2.2.2.2.2.2.2.2 v_standBy x1 x2 x4 x3 ((1 : Int32) <<< (x4 &&& 31))))

def f_m_strongBy (v_courses : Int32) (v_wide : Int32) (v_hands : Int32) (v_jumpTold : Int32) (v_frosts : Int32) (v_gaps : Int32) (v_frostsNow : Int32) (v_notFrosts : Int32) (v_gapsNow : Int32) (v_fell : Int32) (v_fellAll : Int32) (v_sheepFirst : Int32) (v_sheepMany : Int32) (v_seens : Int32) (v_typed : Nat → Int32) (v_texts : Nat → Int32) (v_told : Nat → Int32) (v_moods : Nat → Int32) (v_strongs : Nat → Int32) (v_frostYear : Nat → Int32) (v_frostForce : Nat → Int32) (v_gapYear : Nat → Int32) (v_gapColumn : Nat → Int32) (v_gapHand : Nat → Int32) (v_wall : Nat → Int32) (v_yearNow : Nat → Int32) (v_forceNow : Nat → Int32) (v_holdNow : Nat → Int32) (v_fellOf : Nat → Int32) (v_handAt : Nat → Int32) (v_holdAt : Nat → Int32) (v_fallsAt : Nat → Int32) (v_standAt : Nat → Int32) (v_highAt : Nat → Int32) (v_throughAt : Nat → Int32) (v_seenYear : Nat → Int32) (v_seenPlace : Nat → Int32) (v_seenHand : Nat → Int32) (v_standBy : Nat → Int32) (a0 : Int32) : Option (Int32 × Int32 × Int32 × Int32 × Int32 × Int32 × Int32 × Int32 × Int32 × Int32 × Int32 × (Nat → Int32) × (Nat → Int32) × (Nat → Int32) × (Nat → Int32) × (Nat → Int32) × (Nat → Int32) × (Nat → Int32) × (Nat → Int32) × (Nat → Int32) × (Nat → Int32) × (Nat → Int32) × (Nat → Int32) × (Nat → Int32) × (Nat → Int32) × (Nat → Int32)) :=
  (f_m_asTold v_courses v_wide v_hands v_frosts v_gaps v_frostsNow v_notFrosts v_gapsNow v_typed v_texts v_told v_moods v_strongs v_frostYear v_frostForce v_yearNow v_forceNow).bind (fun o1 =>
  gd (inb a0 9) (
  iter (fun _ _ _ _ _ _ _ _ _ _ _ _ _ _ _ _ _ _ _ _ _ _ _ _ _ _ _ _ _ => none) (f_m_strongBy_N16 v_jumpTold v_frosts v_gaps v_seens v_typed v_texts v_frostYear v_frostForce v_gapYear v_gapColumn v_gapHand v_seenYear v_seenPlace v_seenHand) 1000 o1.1 o1.2.1 o1.2.2.1 o1.2.2.2.1 o1.2.2.2.2.1 o1.2.2.2.2.2.1 v_fell v_fellAll v_sheepFirst v_sheepMany o1.2.2.2.2.2.2.1 o1.2.2.2.2.2.2.2.1 o1.2.2.2.2.2.2.2.2.1 v_wall o1.2.2.2.2.2.2.2.2.2.1 o1.2.2.2.2.2.2.2.2.2.2 v_holdNow v_fellOf v_handAt v_holdAt v_fallsAt v_standAt v_highAt v_throughAt v_standBy a0 (o1.2.2.2.2.2.2.2.2.1 a0.toNatClampNeg) (0 : Int32) (1 : Int32)))

-- WallHandsModel.moodBy(I)I
def f_m_moodBy_N46 (v_jumpTold : Int32) (v_frosts : Int32) (v_gaps : Int32) (v_seens : Int32) (v_typed : Nat → Int32) (v_texts : Nat → Int32) (v_frostYear : Nat → Int32) (v_frostForce : Nat → Int32) (v_gapYear : Nat → Int32) (v_gapColumn : Nat → Int32) (v_gapHand : Nat → Int32) (v_seenYear : Nat → Int32) (v_seenPlace : Nat → Int32) (v_seenHand : Nat → Int32) (k16 : Int32 → Int32 → Int32 → Int32 → Int32 → Int32 → Int32 → Int32 → Int32 → Int32 → (Nat → Int32) → (Nat → Int32) → (Nat → Int32) → (Nat → Int32) → (Nat → Int32) → (Nat → Int32) → (Nat → Int32) → (Nat → Int32) → (Nat → Int32) → (Nat → Int32) → (Nat → Int32) → (Nat → Int32) → (Nat → Int32) → (Nat → Int32) → Int32 → Int32 → Int32 → Int32 → Option (Int32 × Int32 × Int32 × Int32 × Int32 × Int32 × Int32 × Int32 × Int32 × Int32 × Int32 × (Nat → Int32) × (Nat → Int32) × (Nat → Int32) × (Nat → Int32) × (Nat → Int32) × (Nat → Int32) × (Nat → Int32) × (Nat → Int32) × (Nat → Int32) × (Nat → Int32) × (Nat → Int32) × (Nat → Int32) × (Nat → Int32) × (Nat → Int32))) (v_courses : Int32) (v_wide : Int32) (v_hands : Int32) (v_frostsNow : Int32) (v_notFrosts : Int32) (v_gapsNow : Int32) (v_fell : Int32) (v_fellAll : Int32) (v_sheepFirst : Int32) (v_sheepMany : Int32) (v_told : Nat → Int32) (v_moods : Nat → Int32) (v_strongs : Nat → Int32) (v_wall : Nat → Int32) (v_yearNow : Nat → Int32) (v_forceNow : Nat → Int32) (v_holdNow : Nat → Int32) (v_fellOf : Nat → Int32) (v_handAt : Nat → Int32) (v_holdAt : Nat → Int32) (v_fallsAt : Nat → Int32) (v_standAt : Nat → Int32) (v_highAt : Nat → Int32) (v_throughAt : Nat → Int32) (x1 : Int32) (x2 : Int32) (x4 : Int32) (y0 : Int32) (y1 : Int32) : Option (Int32 × Int32 × Int32 × Int32 × Int32 × Int32 × Int32 × Int32 × Int32 × Int32 × Int32 × (Nat → Int32) × (Nat → Int32) × (Nat → Int32) × (Nat → Int32) × (Nat → Int32) × (Nat → Int32) × (Nat → Int32) × (Nat → Int32) × (Nat → Int32) × (Nat → Int32) × (Nat → Int32) × (Nat → Int32) × (Nat → Int32) × (Nat → Int32)) :=
  k16 v_courses v_wide v_hands v_frostsNow v_notFrosts v_gapsNow v_fell v_fellAll v_sheepFirst v_sheepMany v_told v_moods v_strongs v_wall v_yearNow v_forceNow v_holdNow v_fellOf v_handAt v_holdAt v_fallsAt v_standAt v_highAt v_throughAt x1 x2 (y0 ||| y1) (x4 + (1 : Int32))

def f_m_moodBy_N16 (v_jumpTold : Int32) (v_frosts : Int32) (v_gaps : Int32) (v_seens : Int32) (v_typed : Nat → Int32) (v_texts : Nat → Int32) (v_frostYear : Nat → Int32) (v_frostForce : Nat → Int32) (v_gapYear : Nat → Int32) (v_gapColumn : Nat → Int32) (v_gapHand : Nat → Int32) (v_seenYear : Nat → Int32) (v_seenPlace : Nat → Int32) (v_seenHand : Nat → Int32) (k16 : Int32 → Int32 → Int32 → Int32 → Int32 → Int32 → Int32 → Int32 → Int32 → Int32 → (Nat → Int32) → (Nat → Int32) → (Nat → Int32) → (Nat → Int32) → (Nat → Int32) → (Nat → Int32) → (Nat → Int32) → (Nat → Int32) → (Nat → Int32) → (Nat → Int32) → (Nat → Int32) → (Nat → Int32) → (Nat → Int32) → (Nat → Int32) → Int32 → Int32 → Int32 → Int32 → Option (Int32 × Int32 × Int32 × Int32 × Int32 × Int32 × Int32 × Int32 × Int32 × Int32 × Int32 × (Nat → Int32) × (Nat → Int32) × (Nat → Int32) × (Nat → Int32) × (Nat → Int32) × (Nat → Int32) × (Nat → Int32) × (Nat → Int32) × (Nat → Int32) × (Nat → Int32) × (Nat → Int32) × (Nat → Int32) × (Nat → Int32) × (Nat → Int32))) (v_courses : Int32) (v_wide : Int32) (v_hands : Int32) (v_frostsNow : Int32) (v_notFrosts : Int32) (v_gapsNow : Int32) (v_fell : Int32) (v_fellAll : Int32) (v_sheepFirst : Int32) (v_sheepMany : Int32) (v_told : Nat → Int32) (v_moods : Nat → Int32) (v_strongs : Nat → Int32) (v_wall : Nat → Int32) (v_yearNow : Nat → Int32) (v_forceNow : Nat → Int32) (v_holdNow : Nat → Int32) (v_fellOf : Nat → Int32) (v_handAt : Nat → Int32) (v_holdAt : Nat → Int32) (v_fallsAt : Nat → Int32) (v_standAt : Nat → Int32) (v_highAt : Nat → Int32) (v_throughAt : Nat → Int32) (x1 : Int32) (x2 : Int32) (x3 : Int32) (x4 : Int32) : Option (Int32 × Int32 × Int32 × Int32 × Int32 × Int32 × Int32 × Int32 × Int32 × Int32 × Int32 × (Nat → Int32) × (Nat → Int32) × (Nat → Int32) × (Nat → Int32) × (Nat → Int32) × (Nat → Int32) × (Nat → Int32) × (Nat → Int32) × (Nat → Int32) × (Nat → Int32) × (Nat → Int32) × (Nat → Int32) × (Nat → Int32) × (Nat → Int32)) :=
  if (4 : Int32) ≤ x4 then
    gd (inb x1 9) (
    some (x3, v_courses, v_wide, v_hands, v_frostsNow, v_notFrosts, v_gapsNow, v_fell, v_fellAll, v_sheepFirst, v_sheepMany, v_told, upd v_moods x1.toNatClampNeg x2, v_strongs, v_wall, v_yearNow, v_forceNow, v_holdNow, v_fellOf, v_handAt, v_holdAt, v_fallsAt, v_standAt, v_highAt, v_throughAt))
  else
    gd (inb x1 9) (
    (f_m_isSeen v_courses v_wide v_hands v_jumpTold v_frostsNow v_notFrosts v_gapsNow v_fell v_fellAll v_sheepFirst v_sheepMany v_seens v_told (upd v_moods x1.toNatClampNeg x4) v_strongs v_gapYear v_gapColumn v_gapHand v_wall v_yearNow v_forceNow v_holdNow v_fellOf v_handAt v_holdAt v_fallsAt v_standAt v_highAt v_throughAt v_seenYear v_seenPlace v_seenHand).bind (fun o32 =>
    if o32.1 = 0 then
      f_m_moodBy_N46 v_jumpTold v_frosts v_gaps v_seens v_typed v_texts v_frostYear v_frostForce v_gapYear v_gapColumn v_gapHand v_seenYear v_seenPlace v_seenHand k16 v_courses v_wide v_hands v_frostsNow v_notFrosts v_gapsNow o32.2.1 o32.2.2.1 o32.2.2.2.1 o32.2.2.2.2.1 v_told (upd v_moods x1.toNatClampNeg x4) v_strongs o32.2.2.2.2.2.1 v_yearNow v_forceNow o32.2.2.2.2.2.2.1 o32.2.2.2.2.2.2.2.1 o32.2.2.2.2.2.2.2.2.1 o32.2.2.2.2.2.2.2.2.2.1 o32.2.2.2.2.2.2.2.2.2.2.1 o32.2.2.2.2.2.2.2.2.2.2.2.1 o32.2.2.2.2.2.2.2.2.2.2.2.2.1 o32.2.2.2.2.2.2.2.2.2.2.2.2.2 x1 x2 x4 x3 (0 : Int32)
    else
      f_m_moodBy_N46 v_jumpTold v_frosts v_gaps v_seens v_typed v_texts v_frostYear v_frostForce v_gapYear v_gapColumn v_gapHand v_seenYear v_seenPlace v_seenHand k16 v_courses v_wide v_hands v_frostsNow v_notFrosts v_gapsNow o32.2.1 o32.2.2.1 o32.2.2.2.1 o32.2.2.2.2.1 v_told (upd v_moods x1.toNatClampNeg x4) v_strongs o32.2.2.2.2.2.1 v_yearNow v_forceNow o32.2.2.2.2.2.2.1 o32.2.2.2.2.2.2.2.1 o32.2.2.2.2.2.2.2.2.1 o32.2.2.2.2.2.2.2.2.2.1 o32.2.2.2.2.2.2.2.2.2.2.1 o32.2.2.2.2.2.2.2.2.2.2.2.1 o32.2.2.2.2.2.2.2.2.2.2.2.2.1 o32.2.2.2.2.2.2.2.2.2.2.2.2.2 x1 x2 x4 x3 ((1 : Int32) <<< (x4 &&& 31))))

def f_m_moodBy (v_courses : Int32) (v_wide : Int32) (v_hands : Int32) (v_jumpTold : Int32) (v_frosts : Int32) (v_gaps : Int32) (v_frostsNow : Int32) (v_notFrosts : Int32) (v_gapsNow : Int32) (v_fell : Int32) (v_fellAll : Int32) (v_sheepFirst : Int32) (v_sheepMany : Int32) (v_seens : Int32) (v_typed : Nat → Int32) (v_texts : Nat → Int32) (v_told : Nat → Int32) (v_moods : Nat → Int32) (v_strongs : Nat → Int32) (v_frostYear : Nat → Int32) (v_frostForce : Nat → Int32) (v_gapYear : Nat → Int32) (v_gapColumn : Nat → Int32) (v_gapHand : Nat → Int32) (v_wall : Nat → Int32) (v_yearNow : Nat → Int32) (v_forceNow : Nat → Int32) (v_holdNow : Nat → Int32) (v_fellOf : Nat → Int32) (v_handAt : Nat → Int32) (v_holdAt : Nat → Int32) (v_fallsAt : Nat → Int32) (v_standAt : Nat → Int32) (v_highAt : Nat → Int32) (v_throughAt : Nat → Int32) (v_seenYear : Nat → Int32) (v_seenPlace : Nat → Int32) (v_seenHand : Nat → Int32) (a0 : Int32) : Option (Int32 × Int32 × Int32 × Int32 × Int32 × Int32 × Int32 × Int32 × Int32 × Int32 × Int32 × (Nat → Int32) × (Nat → Int32) × (Nat → Int32) × (Nat → Int32) × (Nat → Int32) × (Nat → Int32) × (Nat → Int32) × (Nat → Int32) × (Nat → Int32) × (Nat → Int32) × (Nat → Int32) × (Nat → Int32) × (Nat → Int32) × (Nat → Int32)) :=
  (f_m_asTold v_courses v_wide v_hands v_frosts v_gaps v_frostsNow v_notFrosts v_gapsNow v_typed v_texts v_told v_moods v_strongs v_frostYear v_frostForce v_yearNow v_forceNow).bind (fun o1 =>
  gd (inb a0 9) (
  iter (fun _ _ _ _ _ _ _ _ _ _ _ _ _ _ _ _ _ _ _ _ _ _ _ _ _ _ _ _ => none) (f_m_moodBy_N16 v_jumpTold v_frosts v_gaps v_seens v_typed v_texts v_frostYear v_frostForce v_gapYear v_gapColumn v_gapHand v_seenYear v_seenPlace v_seenHand) 1000 o1.1 o1.2.1 o1.2.2.1 o1.2.2.2.1 o1.2.2.2.2.1 o1.2.2.2.2.2.1 v_fell v_fellAll v_sheepFirst v_sheepMany o1.2.2.2.2.2.2.1 o1.2.2.2.2.2.2.2.1 o1.2.2.2.2.2.2.2.2.1 v_wall o1.2.2.2.2.2.2.2.2.2.1 o1.2.2.2.2.2.2.2.2.2.2 v_holdNow v_fellOf v_handAt v_holdAt v_fallsAt v_standAt v_highAt v_throughAt a0 (o1.2.2.2.2.2.2.2.1 a0.toNatClampNeg) (0 : Int32) (0 : Int32)))

-- WallHandsModel.was(II)I
def f_m_was (v_courses : Int32) (v_wide : Int32) (v_hands : Int32) (v_jumpTold : Int32) (v_frosts : Int32) (v_gaps : Int32) (v_frostsNow : Int32) (v_notFrosts : Int32) (v_gapsNow : Int32) (v_fell : Int32) (v_fellAll : Int32) (v_sheepFirst : Int32) (v_sheepMany : Int32) (v_seens : Int32) (v_typed : Nat → Int32) (v_texts : Nat → Int32) (v_told : Nat → Int32) (v_moods : Nat → Int32) (v_strongs : Nat → Int32) (v_frostYear : Nat → Int32) (v_frostForce : Nat → Int32) (v_gapYear : Nat → Int32) (v_gapColumn : Nat → Int32) (v_gapHand : Nat → Int32) (v_wall : Nat → Int32) (v_yearNow : Nat → Int32) (v_forceNow : Nat → Int32) (v_holdNow : Nat → Int32) (v_fellOf : Nat → Int32) (v_handAt : Nat → Int32) (v_holdAt : Nat → Int32) (v_fallsAt : Nat → Int32) (v_standAt : Nat → Int32) (v_highAt : Nat → Int32) (v_throughAt : Nat → Int32) (v_seenYear : Nat → Int32) (v_seenPlace : Nat → Int32) (v_seenHand : Nat → Int32) (v_standBy : Nat → Int32) (a0 : Int32) (a1 : Int32) : Option (Int32 × Int32 × Int32 × Int32 × Int32 × Int32 × Int32 × Int32 × Int32 × Int32 × Int32 × (Nat → Int32) × (Nat → Int32) × (Nat → Int32) × (Nat → Int32) × (Nat → Int32) × (Nat → Int32) × (Nat → Int32) × (Nat → Int32) × (Nat → Int32) × (Nat → Int32) × (Nat → Int32) × (Nat → Int32) × (Nat → Int32) × (Nat → Int32) × (Nat → Int32)) :=
  (f_m_isHand v_courses v_wide v_hands v_typed v_texts v_told v_moods v_strongs a0).bind (fun o2 =>
  if o2.1 = 0 then
    some ((-2 : Int32), o2.2.1, o2.2.2.1, o2.2.2.2.1, v_frostsNow, v_notFrosts, v_gapsNow, v_fell, v_fellAll, v_sheepFirst, v_sheepMany, o2.2.2.2.2.1, o2.2.2.2.2.2.1, o2.2.2.2.2.2.2, v_wall, v_yearNow, v_forceNow, v_holdNow, v_fellOf, v_handAt, v_holdAt, v_fallsAt, v_standAt, v_highAt, v_throughAt, v_standBy)
  else
    (f_m_in a1 (0 : Int32) (1 : Int32)).bind (fun o11 =>
    if o11 = 0 then
      some ((-2 : Int32), o2.2.1, o2.2.2.1, o2.2.2.2.1, v_frostsNow, v_notFrosts, v_gapsNow, v_fell, v_fellAll, v_sheepFirst, v_sheepMany, o2.2.2.2.2.1, o2.2.2.2.2.2.1, o2.2.2.2.2.2.2, v_wall, v_yearNow, v_forceNow, v_holdNow, v_fellOf, v_handAt, v_holdAt, v_fallsAt, v_standAt, v_highAt, v_throughAt, v_standBy)
    else
      if a1 = 0 then
        (f_m_strongBy o2.2.1 o2.2.2.1 o2.2.2.2.1 v_jumpTold v_frosts v_gaps v_frostsNow v_notFrosts v_gapsNow v_fell v_fellAll v_sheepFirst v_sheepMany v_seens v_typed v_texts o2.2.2.2.2.1 o2.2.2.2.2.2.1 o2.2.2.2.2.2.2 v_frostYear v_frostForce v_gapYear v_gapColumn v_gapHand v_wall v_yearNow v_forceNow v_holdNow v_fellOf v_handAt v_holdAt v_fallsAt v_standAt v_highAt v_throughAt v_seenYear v_seenPlace v_seenHand v_standBy a0).bind (fun o23 =>
        some (o23.1, o23.2.1, o23.2.2.1, o23.2.2.2.1, o23.2.2.2.2.1, o23.2.2.2.2.2.1, o23.2.2.2.2.2.2.1, o23.2.2.2.2.2.2.2.1, o23.2.2.2.2.2.2.2.2.1, o23.2.2.2.2.2.2.2.2.2.1, o23.2.2.2.2.2.2.2.2.2.2.1, o23.2.2.2.2.2.2.2.2.2.2.2.1, o23.2.2.2.2.2.2.2.2.2.2.2.2.1, o23.2.2.2.2.2.2.2.2.2.2.2.2.2.1, o23.2.2.2.2.2.2.2.2.2.2.2.2.2.2.1, o23.2.2.2.2.2.2.2.2.2.2.2.2.2.2.2.1, o23.2.2.2.2.2.2.2.2.2.2.2.2.2.2.2.2.1, o23.2.2.2.2.2.2.2.2.2.2.2.2.2.2.2.2.2.1, o23.2.2.2.2.2.2.2.2.2.2.2.2.2.2.2.2.2.2.1, o23.2.2.2.2.2.2.2.2.2.2.2.2.2.2.2.2.2.2.2.1, o23.2.2.2.2.2.2.2.2.2.2.2.2.2.2.2.2.2.2.2.2.1, o23.2.2.2.2.2.2.2.2.2.2.2.2.2.2.2.2.2.2.2.2.2.1, o23.2.2.2.2.2.2.2.2.2.2.2.2.2.2.2.2.2.2.2.2.2.2.1, o23.2.2.2.2.2.2.2.2.2.2.2.2.2.2.2.2.2.2.2.2.2.2.2.1, o23.2.2.2.2.2.2.2.2.2.2.2.2.2.2.2.2.2.2.2.2.2.2.2.2.1, o23.2.2.2.2.2.2.2.2.2.2.2.2.2.2.2.2.2.2.2.2.2.2.2.2.2))
      else
        (f_m_moodBy o2.2.1 o2.2.2.1 o2.2.2.2.1 v_jumpTold v_frosts v_gaps v_frostsNow v_notFrosts v_gapsNow v_fell v_fellAll v_sheepFirst v_sheepMany v_seens v_typed v_texts o2.2.2.2.2.1 o2.2.2.2.2.2.1 o2.2.2.2.2.2.2 v_frostYear v_frostForce v_gapYear v_gapColumn v_gapHand v_wall v_yearNow v_forceNow v_holdNow v_fellOf v_handAt v_holdAt v_fallsAt v_standAt v_highAt v_throughAt v_seenYear v_seenPlace v_seenHand a0).bind (fun o31 =>
        some (o31.1, o31.2.1, o31.2.2.1, o31.2.2.2.1, o31.2.2.2.2.1, o31.2.2.2.2.2.1, o31.2.2.2.2.2.2.1, o31.2.2.2.2.2.2.2.1, o31.2.2.2.2.2.2.2.2.1, o31.2.2.2.2.2.2.2.2.2.1, o31.2.2.2.2.2.2.2.2.2.2.1, o31.2.2.2.2.2.2.2.2.2.2.2.1, o31.2.2.2.2.2.2.2.2.2.2.2.2.1, o31.2.2.2.2.2.2.2.2.2.2.2.2.2.1, o31.2.2.2.2.2.2.2.2.2.2.2.2.2.2.1, o31.2.2.2.2.2.2.2.2.2.2.2.2.2.2.2.1, o31.2.2.2.2.2.2.2.2.2.2.2.2.2.2.2.2.1, o31.2.2.2.2.2.2.2.2.2.2.2.2.2.2.2.2.2.1, o31.2.2.2.2.2.2.2.2.2.2.2.2.2.2.2.2.2.2.1, o31.2.2.2.2.2.2.2.2.2.2.2.2.2.2.2.2.2.2.2.1, o31.2.2.2.2.2.2.2.2.2.2.2.2.2.2.2.2.2.2.2.2.1, o31.2.2.2.2.2.2.2.2.2.2.2.2.2.2.2.2.2.2.2.2.2.1, o31.2.2.2.2.2.2.2.2.2.2.2.2.2.2.2.2.2.2.2.2.2.2.1, o31.2.2.2.2.2.2.2.2.2.2.2.2.2.2.2.2.2.2.2.2.2.2.2.1, o31.2.2.2.2.2.2.2.2.2.2.2.2.2.2.2.2.2.2.2.2.2.2.2.2, v_standBy))))

-- WallHandsModel.askOf(I)I
def f_m_askOf_N162 (v_jumpTold : Int32) (v_frosts : Int32) (v_gaps : Int32) (v_seens : Int32) (v_typed : Nat → Int32) (v_texts : Nat → Int32) (v_frostYear : Nat → Int32) (v_frostForce : Nat → Int32) (v_gapYear : Nat → Int32) (v_gapColumn : Nat → Int32) (v_gapHand : Nat → Int32) (v_seenYear : Nat → Int32) (v_seenPlace : Nat → Int32) (v_seenHand : Nat → Int32) (k14 : Int32 → Int32 → Int32 → Int32 → Int32 → Int32 → Int32 → Int32 → Int32 → Int32 → (Nat → Int32) → (Nat → Int32) → (Nat → Int32) → (Nat → Int32) → (Nat → Int32) → (Nat → Int32) → (Nat → Int32) → (Nat → Int32) → (Nat → Int32) → (Nat → Int32) → (Nat → Int32) → (Nat → Int32) → (Nat → Int32) → (Nat → Int32) → (Nat → Int32) → Int32 → Int32 → Int32 → Int32 → Option (Int32 × Int32 × Int32 × Int32 × Int32 × Int32 × Int32 × Int32 × Int32 × Int32 × Int32 × (Nat → Int32) × (Nat → Int32) × (Nat → Int32) × (Nat → Int32) × (Nat → Int32) × (Nat → Int32) × (Nat → Int32) × (Nat → Int32) × (Nat → Int32) × (Nat → Int32) × (Nat → Int32) × (Nat → Int32) × (Nat → Int32) × (Nat → Int32) × (Nat → Int32))) (v_courses : Int32) (v_wide : Int32) (v_hands : Int32) (v_frostsNow : Int32) (v_notFrosts : Int32) (v_gapsNow : Int32) (v_fell : Int32) (v_fellAll : Int32) (v_sheepFirst : Int32) (v_sheepMany : Int32) (v_told : Nat → Int32) (v_moods : Nat → Int32) (v_strongs : Nat → Int32) (v_wall : Nat → Int32) (v_yearNow : Nat → Int32) (v_forceNow : Nat → Int32) (v_holdNow : Nat → Int32) (v_fellOf : Nat → Int32) (v_handAt : Nat → Int32) (v_holdAt : Nat → Int32) (v_fallsAt : Nat → Int32) (v_standAt : Nat → Int32) (v_highAt : Nat → Int32) (v_throughAt : Nat → Int32) (v_standBy : Nat → Int32) (x2 : Int32) (x4 : Int32) (x5 : Int32) (x6 : Int32) (x7 : Int32) (y0 : Int32) : Option (Int32 × Int32 × Int32 × Int32 × Int32 × Int32 × Int32 × Int32 × Int32 × Int32 × Int32 × (Nat → Int32) × (Nat → Int32) × (Nat → Int32) × (Nat → Int32) × (Nat → Int32) × (Nat → Int32) × (Nat → Int32) × (Nat → Int32) × (Nat → Int32) × (Nat → Int32) × (Nat → Int32) × (Nat → Int32) × (Nat → Int32) × (Nat → Int32) × (Nat → Int32)) :=
  if x7 = 0 then
    k14 v_courses v_wide v_hands v_frostsNow v_notFrosts v_gapsNow v_fell v_fellAll v_sheepFirst v_sheepMany v_told v_moods v_strongs v_wall v_yearNow v_forceNow v_holdNow v_fellOf v_handAt v_holdAt v_fallsAt v_standAt v_highAt v_throughAt v_standBy x2 y0 x4 (x5 + (1 : Int32))
  else
    k14 v_courses v_wide v_hands v_frostsNow v_notFrosts v_gapsNow v_fell v_fellAll v_sheepFirst v_sheepMany v_told v_moods v_strongs v_wall v_yearNow v_forceNow v_holdNow v_fellOf v_handAt v_holdAt v_fallsAt v_standAt v_highAt v_throughAt v_standBy x2 y0 x6 (x5 + (1 : Int32))

def f_m_askOf_N149 (v_jumpTold : Int32) (v_frosts : Int32) (v_gaps : Int32) (v_seens : Int32) (v_typed : Nat → Int32) (v_texts : Nat → Int32) (v_frostYear : Nat → Int32) (v_frostForce : Nat → Int32) (v_gapYear : Nat → Int32) (v_gapColumn : Nat → Int32) (v_gapHand : Nat → Int32) (v_seenYear : Nat → Int32) (v_seenPlace : Nat → Int32) (v_seenHand : Nat → Int32) (k14 : Int32 → Int32 → Int32 → Int32 → Int32 → Int32 → Int32 → Int32 → Int32 → Int32 → (Nat → Int32) → (Nat → Int32) → (Nat → Int32) → (Nat → Int32) → (Nat → Int32) → (Nat → Int32) → (Nat → Int32) → (Nat → Int32) → (Nat → Int32) → (Nat → Int32) → (Nat → Int32) → (Nat → Int32) → (Nat → Int32) → (Nat → Int32) → (Nat → Int32) → Int32 → Int32 → Int32 → Int32 → Option (Int32 × Int32 × Int32 × Int32 × Int32 × Int32 × Int32 × Int32 × Int32 × Int32 × Int32 × (Nat → Int32) × (Nat → Int32) × (Nat → Int32) × (Nat → Int32) × (Nat → Int32) × (Nat → Int32) × (Nat → Int32) × (Nat → Int32) × (Nat → Int32) × (Nat → Int32) × (Nat → Int32) × (Nat → Int32) × (Nat → Int32) × (Nat → Int32) × (Nat → Int32))) (v_courses : Int32) (v_wide : Int32) (v_hands : Int32) (v_frostsNow : Int32) (v_notFrosts : Int32) (v_gapsNow : Int32) (v_fell : Int32) (v_fellAll : Int32) (v_sheepFirst : Int32) (v_sheepMany : Int32) (v_told : Nat → Int32) (v_moods : Nat → Int32) (v_strongs : Nat → Int32) (v_wall : Nat → Int32) (v_yearNow : Nat → Int32) (v_forceNow : Nat → Int32) (v_holdNow : Nat → Int32) (v_fellOf : Nat → Int32) (v_handAt : Nat → Int32) (v_holdAt : Nat → Int32) (v_fallsAt : Nat → Int32) (v_standAt : Nat → Int32) (v_highAt : Nat → Int32) (v_throughAt : Nat → Int32) (v_standBy : Nat → Int32) (x2 : Int32) (x3 : Int32) (x4 : Int32) (x5 : Int32) (x6 : Int32) (y0 : Int32) : Option (Int32 × Int32 × Int32 × Int32 × Int32 × Int32 × Int32 × Int32 × Int32 × Int32 × Int32 × (Nat → Int32) × (Nat → Int32) × (Nat → Int32) × (Nat → Int32) × (Nat → Int32) × (Nat → Int32) × (Nat → Int32) × (Nat → Int32) × (Nat → Int32) × (Nat → Int32) × (Nat → Int32) × (Nat → Int32) × (Nat → Int32) × (Nat → Int32) × (Nat → Int32)) :=
  if y0 = 0 then
    f_m_askOf_N162 v_jumpTold v_frosts v_gaps v_seens v_typed v_texts v_frostYear v_frostForce v_gapYear v_gapColumn v_gapHand v_seenYear v_seenPlace v_seenHand k14 v_courses v_wide v_hands v_frostsNow v_notFrosts v_gapsNow v_fell v_fellAll v_sheepFirst v_sheepMany v_told v_moods v_strongs v_wall v_yearNow v_forceNow v_holdNow v_fellOf v_handAt v_holdAt v_fallsAt v_standAt v_highAt v_throughAt v_standBy x2 x4 x5 x6 y0 x3
  else
    f_m_askOf_N162 v_jumpTold v_frosts v_gaps v_seens v_typed v_texts v_frostYear v_frostForce v_gapYear v_gapColumn v_gapHand v_seenYear v_seenPlace v_seenHand k14 v_courses v_wide v_hands v_frostsNow v_notFrosts v_gapsNow v_fell v_fellAll v_sheepFirst v_sheepMany v_told v_moods v_strongs v_wall v_yearNow v_forceNow v_holdNow v_fellOf v_handAt v_holdAt v_fallsAt v_standAt v_highAt v_throughAt v_standBy x2 x4 x5 x6 y0 x5

def f_m_askOf_N144 (v_jumpTold : Int32) (v_frosts : Int32) (v_gaps : Int32) (v_seens : Int32) (v_typed : Nat → Int32) (v_texts : Nat → Int32) (v_frostYear : Nat → Int32) (v_frostForce : Nat → Int32) (v_gapYear : Nat → Int32) (v_gapColumn : Nat → Int32) (v_gapHand : Nat → Int32) (v_seenYear : Nat → Int32) (v_seenPlace : Nat → Int32) (v_seenHand : Nat → Int32) (k14 : Int32 → Int32 → Int32 → Int32 → Int32 → Int32 → Int32 → Int32 → Int32 → Int32 → (Nat → Int32) → (Nat → Int32) → (Nat → Int32) → (Nat → Int32) → (Nat → Int32) → (Nat → Int32) → (Nat → Int32) → (Nat → Int32) → (Nat → Int32) → (Nat → Int32) → (Nat → Int32) → (Nat → Int32) → (Nat → Int32) → (Nat → Int32) → (Nat → Int32) → Int32 → Int32 → Int32 → Int32 → Option (Int32 × Int32 × Int32 × Int32 × Int32 × Int32 × Int32 × Int32 × Int32 × Int32 × Int32 × (Nat → Int32) × (Nat → Int32) × (Nat → Int32) × (Nat → Int32) × (Nat → Int32) × (Nat → Int32) × (Nat → Int32) × (Nat → Int32) × (Nat → Int32) × (Nat → Int32) × (Nat → Int32) × (Nat → Int32) × (Nat → Int32) × (Nat → Int32) × (Nat → Int32))) (v_courses : Int32) (v_wide : Int32) (v_hands : Int32) (v_frostsNow : Int32) (v_notFrosts : Int32) (v_gapsNow : Int32) (v_fell : Int32) (v_fellAll : Int32) (v_sheepFirst : Int32) (v_sheepMany : Int32) (v_told : Nat → Int32) (v_moods : Nat → Int32) (v_strongs : Nat → Int32) (v_wall : Nat → Int32) (v_yearNow : Nat → Int32) (v_forceNow : Nat → Int32) (v_holdNow : Nat → Int32) (v_fellOf : Nat → Int32) (v_handAt : Nat → Int32) (v_holdAt : Nat → Int32) (v_fallsAt : Nat → Int32) (v_standAt : Nat → Int32) (v_highAt : Nat → Int32) (v_throughAt : Nat → Int32) (v_standBy : Nat → Int32) (x2 : Int32) (x3 : Int32) (x4 : Int32) (x5 : Int32) (x6 : Int32) : Option (Int32 × Int32 × Int32 × Int32 × Int32 × Int32 × Int32 × Int32 × Int32 × Int32 × Int32 × (Nat → Int32) × (Nat → Int32) × (Nat → Int32) × (Nat → Int32) × (Nat → Int32) × (Nat → Int32) × (Nat → Int32) × (Nat → Int32) × (Nat → Int32) × (Nat → Int32) × (Nat → Int32) × (Nat → Int32) × (Nat → Int32) × (Nat → Int32) × (Nat → Int32)) :=
  f_m_askOf_N149 v_jumpTold v_frosts v_gaps v_seens v_typed v_texts v_frostYear v_frostForce v_gapYear v_gapColumn v_gapHand v_seenYear v_seenPlace v_seenHand k14 v_courses v_wide v_hands v_frostsNow v_notFrosts v_gapsNow v_fell v_fellAll v_sheepFirst v_sheepMany v_told v_moods v_strongs v_wall v_yearNow v_forceNow v_holdNow v_fellOf v_handAt v_holdAt v_fallsAt v_standAt v_highAt v_throughAt v_standBy x2 x3 x4 x5 x6 (1 : Int32)

def f_m_askOf_N101 (v_jumpTold : Int32) (v_frosts : Int32) (v_gaps : Int32) (v_seens : Int32) (v_typed : Nat → Int32) (v_texts : Nat → Int32) (v_frostYear : Nat → Int32) (v_frostForce : Nat → Int32) (v_gapYear : Nat → Int32) (v_gapColumn : Nat → Int32) (v_gapHand : Nat → Int32) (v_seenYear : Nat → Int32) (v_seenPlace : Nat → Int32) (v_seenHand : Nat → Int32) (k14 : Int32 → Int32 → Int32 → Int32 → Int32 → Int32 → Int32 → Int32 → Int32 → Int32 → (Nat → Int32) → (Nat → Int32) → (Nat → Int32) → (Nat → Int32) → (Nat → Int32) → (Nat → Int32) → (Nat → Int32) → (Nat → Int32) → (Nat → Int32) → (Nat → Int32) → (Nat → Int32) → (Nat → Int32) → (Nat → Int32) → (Nat → Int32) → (Nat → Int32) → Int32 → Int32 → Int32 → Int32 → Option (Int32 × Int32 × Int32 × Int32 × Int32 × Int32 × Int32 × Int32 × Int32 × Int32 × Int32 × (Nat → Int32) × (Nat → Int32) × (Nat → Int32) × (Nat → Int32) × (Nat → Int32) × (Nat → Int32) × (Nat → Int32) × (Nat → Int32) × (Nat → Int32) × (Nat → Int32) × (Nat → Int32) × (Nat → Int32) × (Nat → Int32) × (Nat → Int32) × (Nat → Int32))) (k27 : Int32 → Int32 → Int32 → Int32 → Int32 → Int32 → Int32 → Int32 → Int32 → Int32 → (Nat → Int32) → (Nat → Int32) → (Nat → Int32) → (Nat → Int32) → (Nat → Int32) → (Nat → Int32) → (Nat → Int32) → (Nat → Int32) → (Nat → Int32) → (Nat → Int32) → (Nat → Int32) → (Nat → Int32) → (Nat → Int32) → (Nat → Int32) → (Nat → Int32) → Int32 → Int32 → Int32 → Int32 → Int32 → Int32 → Option (Int32 × Int32 × Int32 × Int32 × Int32 × Int32 × Int32 × Int32 × Int32 × Int32 × Int32 × (Nat → Int32) × (Nat → Int32) × (Nat → Int32) × (Nat → Int32) × (Nat → Int32) × (Nat → Int32) × (Nat → Int32) × (Nat → Int32) × (Nat → Int32) × (Nat → Int32) × (Nat → Int32) × (Nat → Int32) × (Nat → Int32) × (Nat → Int32) × (Nat → Int32))) (k40 : Int32 → Int32 → Int32 → Int32 → Int32 → Int32 → Int32 → Int32 → Int32 → Int32 → (Nat → Int32) → (Nat → Int32) → (Nat → Int32) → (Nat → Int32) → (Nat → Int32) → (Nat → Int32) → (Nat → Int32) → (Nat → Int32) → (Nat → Int32) → (Nat → Int32) → (Nat → Int32) → (Nat → Int32) → (Nat → Int32) → (Nat → Int32) → (Nat → Int32) → Int32 → Int32 → Int32 → Int32 → Int32 → Int32 → Int32 → Int32 → Option (Int32 × Int32 × Int32 × Int32 × Int32 × Int32 × Int32 × Int32 × Int32 × Int32 × Int32 × (Nat → Int32) × (Nat → Int32) × (Nat → Int32) × (Nat → Int32) × (Nat → Int32) × (Nat → Int32) × (Nat → Int32) × (Nat → Int32) × (Nat → Int32) × (Nat → Int32) × (Nat → Int32) × (Nat → Int32) × (Nat → Int32) × (Nat → Int32) × (Nat → Int32))) (v_courses : Int32) (v_wide : Int32) (v_hands : Int32) (v_frostsNow : Int32) (v_notFrosts : Int32) (v_gapsNow : Int32) (v_fell : Int32) (v_fellAll : Int32) (v_sheepFirst : Int32) (v_sheepMany : Int32) (v_told : Nat → Int32) (v_moods : Nat → Int32) (v_strongs : Nat → Int32) (v_wall : Nat → Int32) (v_yearNow : Nat → Int32) (v_forceNow : Nat → Int32) (v_holdNow : Nat → Int32) (v_fellOf : Nat → Int32) (v_handAt : Nat → Int32) (v_holdAt : Nat → Int32) (v_fallsAt : Nat → Int32) (v_standAt : Nat → Int32) (v_highAt : Nat → Int32) (v_throughAt : Nat → Int32) (v_standBy : Nat → Int32) (x2 : Int32) (x3 : Int32) (x4 : Int32) (x5 : Int32) (x6 : Int32) (x7 : Int32) (x9 : Int32) (y0 : Int32) (y1 : Int32) : Option (Int32 × Int32 × Int32 × Int32 × Int32 × Int32 × Int32 × Int32 × Int32 × Int32 × Int32 × (Nat → Int32) × (Nat → Int32) × (Nat → Int32) × (Nat → Int32) × (Nat → Int32) × (Nat → Int32) × (Nat → Int32) × (Nat → Int32) × (Nat → Int32) × (Nat → Int32) × (Nat → Int32) × (Nat → Int32) × (Nat → Int32) × (Nat → Int32) × (Nat → Int32)) :=
  k40 v_courses v_wide v_hands v_frostsNow v_notFrosts v_gapsNow v_fell v_fellAll v_sheepFirst v_sheepMany v_told v_moods v_strongs v_wall v_yearNow v_forceNow v_holdNow v_fellOf v_handAt v_holdAt v_fallsAt v_standAt v_highAt v_throughAt v_standBy x2 x3 x4 x5 x6 x7 (y0 + y1) (x9 + (1 : Int32))

def f_m_askOf_N100 (v_jumpTold : Int32) (v_frosts : Int32) (v_gaps : Int32) (v_seens : Int32) (v_typed : Nat → Int32) (v_texts : Nat → Int32) (v_frostYear : Nat → Int32) (v_frostForce : Nat → Int32) (v_gapYear : Nat → Int32) (v_gapColumn : Nat → Int32) (v_gapHand : Nat → Int32) (v_seenYear : Nat → Int32) (v_seenPlace : Nat → Int32) (v_seenHand : Nat → Int32) (k14 : Int32 → Int32 → Int32 → Int32 → Int32 → Int32 → Int32 → Int32 → Int32 → Int32 → (Nat → Int32) → (Nat → Int32) → (Nat → Int32) → (Nat → Int32) → (Nat → Int32) → (Nat → Int32) → (Nat → Int32) → (Nat → Int32) → (Nat → Int32) → (Nat → Int32) → (Nat → Int32) → (Nat → Int32) → (Nat → Int32) → (Nat → Int32) → (Nat → Int32) → Int32 → Int32 → Int32 → Int32 → Option (Int32 × Int32 × Int32 × Int32 × Int32 × Int32 × Int32 × Int32 × Int32 × Int32 × Int32 × (Nat → Int32) × (Nat → Int32) × (Nat → Int32) × (Nat → Int32) × (Nat → Int32) × (Nat → Int32) × (Nat → Int32) × (Nat → Int32) × (Nat → Int32) × (Nat → Int32) × (Nat → Int32) × (Nat → Int32) × (Nat → Int32) × (Nat → Int32) × (Nat → Int32))) (k27 : Int32 → Int32 → Int32 → Int32 → Int32 → Int32 → Int32 → Int32 → Int32 → Int32 → (Nat → Int32) → (Nat → Int32) → (Nat → Int32) → (Nat → Int32) → (Nat → Int32) → (Nat → Int32) → (Nat → Int32) → (Nat → Int32) → (Nat → Int32) → (Nat → Int32) → (Nat → Int32) → (Nat → Int32) → (Nat → Int32) → (Nat → Int32) → (Nat → Int32) → Int32 → Int32 → Int32 → Int32 → Int32 → Int32 → Option (Int32 × Int32 × Int32 × Int32 × Int32 × Int32 × Int32 × Int32 × Int32 × Int32 × Int32 × (Nat → Int32) × (Nat → Int32) × (Nat → Int32) × (Nat → Int32) × (Nat → Int32) × (Nat → Int32) × (Nat → Int32) × (Nat → Int32) × (Nat → Int32) × (Nat → Int32) × (Nat → Int32) × (Nat → Int32) × (Nat → Int32) × (Nat → Int32) × (Nat → Int32))) (k40 : Int32 → Int32 → Int32 → Int32 → Int32 → Int32 → Int32 → Int32 → Int32 → Int32 → (Nat → Int32) → (Nat → Int32) → (Nat → Int32) → (Nat → Int32) → (Nat → Int32) → (Nat → Int32) → (Nat → Int32) → (Nat → Int32) → (Nat → Int32) → (Nat → Int32) → (Nat → Int32) → (Nat → Int32) → (Nat → Int32) → (Nat → Int32) → (Nat → Int32) → Int32 → Int32 → Int32 → Int32 → Int32 → Int32 → Int32 → Int32 → Option (Int32 × Int32 × Int32 × Int32 × Int32 × Int32 × Int32 × Int32 × Int32 × Int32 × Int32 × (Nat → Int32) × (Nat → Int32) × (Nat → Int32) × (Nat → Int32) × (Nat → Int32) × (Nat → Int32) × (Nat → Int32) × (Nat → Int32) × (Nat → Int32) × (Nat → Int32) × (Nat → Int32) × (Nat → Int32) × (Nat → Int32) × (Nat → Int32) × (Nat → Int32))) (v_courses : Int32) (v_wide : Int32) (v_hands : Int32) (v_frostsNow : Int32) (v_notFrosts : Int32) (v_gapsNow : Int32) (v_fell : Int32) (v_fellAll : Int32) (v_sheepFirst : Int32) (v_sheepMany : Int32) (v_told : Nat → Int32) (v_moods : Nat → Int32) (v_strongs : Nat → Int32) (v_wall : Nat → Int32) (v_yearNow : Nat → Int32) (v_forceNow : Nat → Int32) (v_holdNow : Nat → Int32) (v_fellOf : Nat → Int32) (v_handAt : Nat → Int32) (v_holdAt : Nat → Int32) (v_fallsAt : Nat → Int32) (v_standAt : Nat → Int32) (v_highAt : Nat → Int32) (v_throughAt : Nat → Int32) (v_standBy : Nat → Int32) (x2 : Int32) (x3 : Int32) (x4 : Int32) (x5 : Int32) (x6 : Int32) (x7 : Int32) (x9 : Int32) (y0 : Int32) : Option (Int32 × Int32 × Int32 × Int32 × Int32 × Int32 × Int32 × Int32 × Int32 × Int32 × Int32 × (Nat → Int32) × (Nat → Int32) × (Nat → Int32) × (Nat → Int32) × (Nat → Int32) × (Nat → Int32) × (Nat → Int32) × (Nat → Int32) × (Nat → Int32) × (Nat → Int32) × (Nat → Int32) × (Nat → Int32) × (Nat → Int32) × (Nat → Int32) × (Nat → Int32)) :=
  f_m_askOf_N101 v_jumpTold v_frosts v_gaps v_seens v_typed v_texts v_frostYear v_frostForce v_gapYear v_gapColumn v_gapHand v_seenYear v_seenPlace v_seenHand k14 k27 k40 v_courses v_wide v_hands v_frostsNow v_notFrosts v_gapsNow v_fell v_fellAll v_sheepFirst v_sheepMany v_told v_moods v_strongs v_wall v_yearNow v_forceNow v_holdNow v_fellOf v_handAt v_holdAt v_fallsAt v_standAt v_highAt v_throughAt v_standBy x2 x3 x4 x5 x6 x7 x9 y0 (0 : Int32)

def f_m_askOf_N40 (v_jumpTold : Int32) (v_frosts : Int32) (v_gaps : Int32) (v_seens : Int32) (v_typed : Nat → Int32) (v_texts : Nat → Int32) (v_frostYear : Nat → Int32) (v_frostForce : Nat → Int32) (v_gapYear : Nat → Int32) (v_gapColumn : Nat → Int32) (v_gapHand : Nat → Int32) (v_seenYear : Nat → Int32) (v_seenPlace : Nat → Int32) (v_seenHand : Nat → Int32) (k14 : Int32 → Int32 → Int32 → Int32 → Int32 → Int32 → Int32 → Int32 → Int32 → Int32 → (Nat → Int32) → (Nat → Int32) → (Nat → Int32) → (Nat → Int32) → (Nat → Int32) → (Nat → Int32) → (Nat → Int32) → (Nat → Int32) → (Nat → Int32) → (Nat → Int32) → (Nat → Int32) → (Nat → Int32) → (Nat → Int32) → (Nat → Int32) → (Nat → Int32) → Int32 → Int32 → Int32 → Int32 → Option (Int32 × Int32 × Int32 × Int32 × Int32 × Int32 × Int32 × Int32 × Int32 × Int32 × Int32 × (Nat → Int32) × (Nat → Int32) × (Nat → Int32) × (Nat → Int32) × (Nat → Int32) × (Nat → Int32) × (Nat → Int32) × (Nat → Int32) × (Nat → Int32) × (Nat → Int32) × (Nat → Int32) × (Nat → Int32) × (Nat → Int32) × (Nat → Int32) × (Nat → Int32))) (k27 : Int32 → Int32 → Int32 → Int32 → Int32 → Int32 → Int32 → Int32 → Int32 → Int32 → (Nat → Int32) → (Nat → Int32) → (Nat → Int32) → (Nat → Int32) → (Nat → Int32) → (Nat → Int32) → (Nat → Int32) → (Nat → Int32) → (Nat → Int32) → (Nat → Int32) → (Nat → Int32) → (Nat → Int32) → (Nat → Int32) → (Nat → Int32) → (Nat → Int32) → Int32 → Int32 → Int32 → Int32 → Int32 → Int32 → Option (Int32 × Int32 × Int32 × Int32 × Int32 × Int32 × Int32 × Int32 × Int32 × Int32 × Int32 × (Nat → Int32) × (Nat → Int32) × (Nat → Int32) × (Nat → Int32) × (Nat → Int32) × (Nat → Int32) × (Nat → Int32) × (Nat → Int32) × (Nat → Int32) × (Nat → Int32) × (Nat → Int32) × (Nat → Int32) × (Nat → Int32) × (Nat → Int32) × (Nat → Int32))) (k40 : Int32 → Int32 → Int32 → Int32 → Int32 → Int32 → Int32 → Int32 → Int32 → Int32 → (Nat → Int32) → (Nat → Int32) → (Nat → Int32) → (Nat → Int32) → (Nat → Int32) → (Nat → Int32) → (Nat → Int32) → (Nat → Int32) → (Nat → Int32) → (Nat → Int32) → (Nat → Int32) → (Nat → Int32) → (Nat → Int32) → (Nat → Int32) → (Nat → Int32) → Int32 → Int32 → Int32 → Int32 → Int32 → Int32 → Int32 → Int32 → Option (Int32 × Int32 × Int32 × Int32 × Int32 × Int32 × Int32 × Int32 × Int32 × Int32 × Int32 × (Nat → Int32) × (Nat → Int32) × (Nat → Int32) × (Nat → Int32) × (Nat → Int32) × (Nat → Int32) × (Nat → Int32) × (Nat → Int32) × (Nat → Int32) × (Nat → Int32) × (Nat → Int32) × (Nat → Int32) × (Nat → Int32) × (Nat → Int32) × (Nat → Int32))) (v_courses : Int32) (v_wide : Int32) (v_hands : Int32) (v_frostsNow : Int32) (v_notFrosts : Int32) (v_gapsNow : Int32) (v_fell : Int32) (v_fellAll : Int32) (v_sheepFirst : Int32) (v_sheepMany : Int32) (v_told : Nat → Int32) (v_moods : Nat → Int32) (v_strongs : Nat → Int32) (v_wall : Nat → Int32) (v_yearNow : Nat → Int32) (v_forceNow : Nat → Int32) (v_holdNow : Nat → Int32) (v_fellOf : Nat → Int32) (v_handAt : Nat → Int32) (v_holdAt : Nat → Int32) (v_fallsAt : Nat → Int32) (v_standAt : Nat → Int32) (v_highAt : Nat → Int32) (v_throughAt : Nat → Int32) (v_standBy : Nat → Int32) (x2 : Int32) (x3 : Int32) (x4 : Int32) (x5 : Int32) (x6 : Int32) (x7 : Int32) (x8 : Int32) (x9 : Int32) : Option (Int32 × Int32 × Int32 × Int32 × Int32 × Int32 × Int32 × Int32 × Int32 × Int32 × Int32 × (Nat → Int32) × (Nat → Int32) × (Nat → Int32) × (Nat → Int32) × (Nat → Int32) × (Nat → Int32) × (Nat → Int32) × (Nat → Int32) × (Nat → Int32) × (Nat → Int32) × (Nat → Int32) × (Nat → Int32) × (Nat → Int32) × (Nat → Int32) × (Nat → Int32)) :=
  if (10 : Int32) ≤ x9 then
    if x8 ≤ x6 then
      k27 v_courses v_wide v_hands v_frostsNow v_notFrosts v_gapsNow v_fell v_fellAll v_sheepFirst v_sheepMany v_told v_moods v_strongs v_wall v_yearNow v_forceNow v_holdNow v_fellOf v_handAt v_holdAt v_fallsAt v_standAt v_highAt v_throughAt v_standBy x2 x3 x4 x5 x6 (x7 + (1 : Int32))
    else
      k27 v_courses v_wide v_hands v_frostsNow v_notFrosts v_gapsNow v_fell v_fellAll v_sheepFirst v_sheepMany v_told v_moods v_strongs v_wall v_yearNow v_forceNow v_holdNow v_fellOf v_handAt v_holdAt v_fallsAt v_standAt v_highAt v_throughAt v_standBy x2 x3 x4 x5 x8 (x7 + (1 : Int32))
  else
    (f_m_isIn x2 x7).bind (fun o52 =>
    if o52 = 0 then
      f_m_askOf_N100 v_jumpTold v_frosts v_gaps v_seens v_typed v_texts v_frostYear v_frostForce v_gapYear v_gapColumn v_gapHand v_seenYear v_seenPlace v_seenHand k14 k27 k40 v_courses v_wide v_hands v_frostsNow v_notFrosts v_gapsNow v_fell v_fellAll v_sheepFirst v_sheepMany v_told v_moods v_strongs v_wall v_yearNow v_forceNow v_holdNow v_fellOf v_handAt v_holdAt v_fallsAt v_standAt v_highAt v_throughAt v_standBy x2 x3 x4 x5 x6 x7 x9 x8
    else
      (f_m_isIn x2 x9).bind (fun o61 =>
      if o61 = 0 then
        f_m_askOf_N100 v_jumpTold v_frosts v_gaps v_seens v_typed v_texts v_frostYear v_frostForce v_gapYear v_gapColumn v_gapHand v_seenYear v_seenPlace v_seenHand k14 k27 k40 v_courses v_wide v_hands v_frostsNow v_notFrosts v_gapsNow v_fell v_fellAll v_sheepFirst v_sheepMany v_told v_moods v_strongs v_wall v_yearNow v_forceNow v_holdNow v_fellOf v_handAt v_holdAt v_fallsAt v_standAt v_highAt v_throughAt v_standBy x2 x3 x4 x5 x6 x7 x9 x8
      else
        gd (inb (((20 : Int32) * x7) + x5) 200) (
        gd (inb (((20 : Int32) * x9) + x5) 200) (
        if (v_standBy (((20 : Int32) * x7) + x5).toNatClampNeg) = (v_standBy (((20 : Int32) * x9) + x5).toNatClampNeg) then
          f_m_askOf_N101 v_jumpTold v_frosts v_gaps v_seens v_typed v_texts v_frostYear v_frostForce v_gapYear v_gapColumn v_gapHand v_seenYear v_seenPlace v_seenHand k14 k27 k40 v_courses v_wide v_hands v_frostsNow v_notFrosts v_gapsNow v_fell v_fellAll v_sheepFirst v_sheepMany v_told v_moods v_strongs v_wall v_yearNow v_forceNow v_holdNow v_fellOf v_handAt v_holdAt v_fallsAt v_standAt v_highAt v_throughAt v_standBy x2 x3 x4 x5 x6 x7 x9 x8 (1 : Int32)
        else
          f_m_askOf_N100 v_jumpTold v_frosts v_gaps v_seens v_typed v_texts v_frostYear v_frostForce v_gapYear v_gapColumn v_gapHand v_seenYear v_seenPlace v_seenHand k14 k27 k40 v_courses v_wide v_hands v_frostsNow v_notFrosts v_gapsNow v_fell v_fellAll v_sheepFirst v_sheepMany v_told v_moods v_strongs v_wall v_yearNow v_forceNow v_holdNow v_fellOf v_handAt v_holdAt v_fallsAt v_standAt v_highAt v_throughAt v_standBy x2 x3 x4 x5 x6 x7 x9 x8))))

def f_m_askOf_N27 (v_jumpTold : Int32) (v_frosts : Int32) (v_gaps : Int32) (v_seens : Int32) (v_typed : Nat → Int32) (v_texts : Nat → Int32) (v_frostYear : Nat → Int32) (v_frostForce : Nat → Int32) (v_gapYear : Nat → Int32) (v_gapColumn : Nat → Int32) (v_gapHand : Nat → Int32) (v_seenYear : Nat → Int32) (v_seenPlace : Nat → Int32) (v_seenHand : Nat → Int32) (k14 : Int32 → Int32 → Int32 → Int32 → Int32 → Int32 → Int32 → Int32 → Int32 → Int32 → (Nat → Int32) → (Nat → Int32) → (Nat → Int32) → (Nat → Int32) → (Nat → Int32) → (Nat → Int32) → (Nat → Int32) → (Nat → Int32) → (Nat → Int32) → (Nat → Int32) → (Nat → Int32) → (Nat → Int32) → (Nat → Int32) → (Nat → Int32) → (Nat → Int32) → Int32 → Int32 → Int32 → Int32 → Option (Int32 × Int32 × Int32 × Int32 × Int32 × Int32 × Int32 × Int32 × Int32 × Int32 × Int32 × (Nat → Int32) × (Nat → Int32) × (Nat → Int32) × (Nat → Int32) × (Nat → Int32) × (Nat → Int32) × (Nat → Int32) × (Nat → Int32) × (Nat → Int32) × (Nat → Int32) × (Nat → Int32) × (Nat → Int32) × (Nat → Int32) × (Nat → Int32) × (Nat → Int32))) (k27 : Int32 → Int32 → Int32 → Int32 → Int32 → Int32 → Int32 → Int32 → Int32 → Int32 → (Nat → Int32) → (Nat → Int32) → (Nat → Int32) → (Nat → Int32) → (Nat → Int32) → (Nat → Int32) → (Nat → Int32) → (Nat → Int32) → (Nat → Int32) → (Nat → Int32) → (Nat → Int32) → (Nat → Int32) → (Nat → Int32) → (Nat → Int32) → (Nat → Int32) → Int32 → Int32 → Int32 → Int32 → Int32 → Int32 → Option (Int32 × Int32 × Int32 × Int32 × Int32 × Int32 × Int32 × Int32 × Int32 × Int32 × Int32 × (Nat → Int32) × (Nat → Int32) × (Nat → Int32) × (Nat → Int32) × (Nat → Int32) × (Nat → Int32) × (Nat → Int32) × (Nat → Int32) × (Nat → Int32) × (Nat → Int32) × (Nat → Int32) × (Nat → Int32) × (Nat → Int32) × (Nat → Int32) × (Nat → Int32))) (v_courses : Int32) (v_wide : Int32) (v_hands : Int32) (v_frostsNow : Int32) (v_notFrosts : Int32) (v_gapsNow : Int32) (v_fell : Int32) (v_fellAll : Int32) (v_sheepFirst : Int32) (v_sheepMany : Int32) (v_told : Nat → Int32) (v_moods : Nat → Int32) (v_strongs : Nat → Int32) (v_wall : Nat → Int32) (v_yearNow : Nat → Int32) (v_forceNow : Nat → Int32) (v_holdNow : Nat → Int32) (v_fellOf : Nat → Int32) (v_handAt : Nat → Int32) (v_holdAt : Nat → Int32) (v_fallsAt : Nat → Int32) (v_standAt : Nat → Int32) (v_highAt : Nat → Int32) (v_throughAt : Nat → Int32) (v_standBy : Nat → Int32) (x2 : Int32) (x3 : Int32) (x4 : Int32) (x5 : Int32) (x6 : Int32) (x7 : Int32) : Option (Int32 × Int32 × Int32 × Int32 × Int32 × Int32 × Int32 × Int32 × Int32 × Int32 × Int32 × (Nat → Int32) × (Nat → Int32) × (Nat → Int32) × (Nat → Int32) × (Nat → Int32) × (Nat → Int32) × (Nat → Int32) × (Nat → Int32) × (Nat → Int32) × (Nat → Int32) × (Nat → Int32) × (Nat → Int32) × (Nat → Int32) × (Nat → Int32) × (Nat → Int32)) :=
  if (10 : Int32) ≤ x7 then
    if x3 = (-1 : Int32) then
      f_m_askOf_N144 v_jumpTold v_frosts v_gaps v_seens v_typed v_texts v_frostYear v_frostForce v_gapYear v_gapColumn v_gapHand v_seenYear v_seenPlace v_seenHand k14 v_courses v_wide v_hands v_frostsNow v_notFrosts v_gapsNow v_fell v_fellAll v_sheepFirst v_sheepMany v_told v_moods v_strongs v_wall v_yearNow v_forceNow v_holdNow v_fellOf v_handAt v_holdAt v_fallsAt v_standAt v_highAt v_throughAt v_standBy x2 x3 x4 x5 x6
    else
      if x4 ≤ x6 then
        f_m_askOf_N149 v_jumpTold v_frosts v_gaps v_seens v_typed v_texts v_frostYear v_frostForce v_gapYear v_gapColumn v_gapHand v_seenYear v_seenPlace v_seenHand k14 v_courses v_wide v_hands v_frostsNow v_notFrosts v_gapsNow v_fell v_fellAll v_sheepFirst v_sheepMany v_told v_moods v_strongs v_wall v_yearNow v_forceNow v_holdNow v_fellOf v_handAt v_holdAt v_fallsAt v_standAt v_highAt v_throughAt v_standBy x2 x3 x4 x5 x6 (0 : Int32)
      else
        f_m_askOf_N144 v_jumpTold v_frosts v_gaps v_seens v_typed v_texts v_frostYear v_frostForce v_gapYear v_gapColumn v_gapHand v_seenYear v_seenPlace v_seenHand k14 v_courses v_wide v_hands v_frostsNow v_notFrosts v_gapsNow v_fell v_fellAll v_sheepFirst v_sheepMany v_told v_moods v_strongs v_wall v_yearNow v_forceNow v_holdNow v_fellOf v_handAt v_holdAt v_fallsAt v_standAt v_highAt v_throughAt v_standBy x2 x3 x4 x5 x6
  else
    iter (fun _ _ _ _ _ _ _ _ _ _ _ _ _ _ _ _ _ _ _ _ _ _ _ _ _ _ _ _ _ _ _ _ _ => none) (f_m_askOf_N40 v_jumpTold v_frosts v_gaps v_seens v_typed v_texts v_frostYear v_frostForce v_gapYear v_gapColumn v_gapHand v_seenYear v_seenPlace v_seenHand k14 k27) 1000 v_courses v_wide v_hands v_frostsNow v_notFrosts v_gapsNow v_fell v_fellAll v_sheepFirst v_sheepMany v_told v_moods v_strongs v_wall v_yearNow v_forceNow v_holdNow v_fellOf v_handAt v_holdAt v_fallsAt v_standAt v_highAt v_throughAt v_standBy x2 x3 x4 x5 x6 x7 (0 : Int32) (1 : Int32)

def f_m_askOf_N14 (v_jumpTold : Int32) (v_frosts : Int32) (v_gaps : Int32) (v_seens : Int32) (v_typed : Nat → Int32) (v_texts : Nat → Int32) (v_frostYear : Nat → Int32) (v_frostForce : Nat → Int32) (v_gapYear : Nat → Int32) (v_gapColumn : Nat → Int32) (v_gapHand : Nat → Int32) (v_seenYear : Nat → Int32) (v_seenPlace : Nat → Int32) (v_seenHand : Nat → Int32) (k14 : Int32 → Int32 → Int32 → Int32 → Int32 → Int32 → Int32 → Int32 → Int32 → Int32 → (Nat → Int32) → (Nat → Int32) → (Nat → Int32) → (Nat → Int32) → (Nat → Int32) → (Nat → Int32) → (Nat → Int32) → (Nat → Int32) → (Nat → Int32) → (Nat → Int32) → (Nat → Int32) → (Nat → Int32) → (Nat → Int32) → (Nat → Int32) → (Nat → Int32) → Int32 → Int32 → Int32 → Int32 → Option (Int32 × Int32 × Int32 × Int32 × Int32 × Int32 × Int32 × Int32 × Int32 × Int32 × Int32 × (Nat → Int32) × (Nat → Int32) × (Nat → Int32) × (Nat → Int32) × (Nat → Int32) × (Nat → Int32) × (Nat → Int32) × (Nat → Int32) × (Nat → Int32) × (Nat → Int32) × (Nat → Int32) × (Nat → Int32) × (Nat → Int32) × (Nat → Int32) × (Nat → Int32))) (v_courses : Int32) (v_wide : Int32) (v_hands : Int32) (v_frostsNow : Int32) (v_notFrosts : Int32) (v_gapsNow : Int32) (v_fell : Int32) (v_fellAll : Int32) (v_sheepFirst : Int32) (v_sheepMany : Int32) (v_told : Nat → Int32) (v_moods : Nat → Int32) (v_strongs : Nat → Int32) (v_wall : Nat → Int32) (v_yearNow : Nat → Int32) (v_forceNow : Nat → Int32) (v_holdNow : Nat → Int32) (v_fellOf : Nat → Int32) (v_handAt : Nat → Int32) (v_holdAt : Nat → Int32) (v_fallsAt : Nat → Int32) (v_standAt : Nat → Int32) (v_highAt : Nat → Int32) (v_throughAt : Nat → Int32) (v_standBy : Nat → Int32) (x2 : Int32) (x3 : Int32) (x4 : Int32) (x5 : Int32) : Option (Int32 × Int32 × Int32 × Int32 × Int32 × Int32 × Int32 × Int32 × Int32 × Int32 × Int32 × (Nat → Int32) × (Nat → Int32) × (Nat → Int32) × (Nat → Int32) × (Nat → Int32) × (Nat → Int32) × (Nat → Int32) × (Nat → Int32) × (Nat → Int32) × (Nat → Int32) × (Nat → Int32) × (Nat → Int32) × (Nat → Int32) × (Nat → Int32) × (Nat → Int32)) :=
  if (20 : Int32) ≤ x5 then
    some (x3, v_courses, v_wide, v_hands, v_frostsNow, v_notFrosts, v_gapsNow, v_fell, v_fellAll, v_sheepFirst, v_sheepMany, v_told, v_moods, v_strongs, v_wall, v_yearNow, v_forceNow, v_holdNow, v_fellOf, v_handAt, v_holdAt, v_fallsAt, v_standAt, v_highAt, v_throughAt, v_standBy)
  else
    iter (fun _ _ _ _ _ _ _ _ _ _ _ _ _ _ _ _ _ _ _ _ _ _ _ _ _ _ _ _ _ _ _ => none) (f_m_askOf_N27 v_jumpTold v_frosts v_gaps v_seens v_typed v_texts v_frostYear v_frostForce v_gapYear v_gapColumn v_gapHand v_seenYear v_seenPlace v_seenHand k14) 1000 v_courses v_wide v_hands v_frostsNow v_notFrosts v_gapsNow v_fell v_fellAll v_sheepFirst v_sheepMany v_told v_moods v_strongs v_wall v_yearNow v_forceNow v_holdNow v_fellOf v_handAt v_holdAt v_fallsAt v_standAt v_highAt v_throughAt v_standBy x2 x3 x4 x5 (0 : Int32) (1 : Int32)

def f_m_askOf (v_courses : Int32) (v_wide : Int32) (v_hands : Int32) (v_jumpTold : Int32) (v_frosts : Int32) (v_gaps : Int32) (v_frostsNow : Int32) (v_notFrosts : Int32) (v_gapsNow : Int32) (v_fell : Int32) (v_fellAll : Int32) (v_sheepFirst : Int32) (v_sheepMany : Int32) (v_seens : Int32) (v_typed : Nat → Int32) (v_texts : Nat → Int32) (v_told : Nat → Int32) (v_moods : Nat → Int32) (v_strongs : Nat → Int32) (v_frostYear : Nat → Int32) (v_frostForce : Nat → Int32) (v_gapYear : Nat → Int32) (v_gapColumn : Nat → Int32) (v_gapHand : Nat → Int32) (v_wall : Nat → Int32) (v_yearNow : Nat → Int32) (v_forceNow : Nat → Int32) (v_holdNow : Nat → Int32) (v_fellOf : Nat → Int32) (v_handAt : Nat → Int32) (v_holdAt : Nat → Int32) (v_fallsAt : Nat → Int32) (v_standAt : Nat → Int32) (v_highAt : Nat → Int32) (v_throughAt : Nat → Int32) (v_seenYear : Nat → Int32) (v_seenPlace : Nat → Int32) (v_seenHand : Nat → Int32) (v_standBy : Nat → Int32) (a0 : Int32) : Option (Int32 × Int32 × Int32 × Int32 × Int32 × Int32 × Int32 × Int32 × Int32 × Int32 × Int32 × (Nat → Int32) × (Nat → Int32) × (Nat → Int32) × (Nat → Int32) × (Nat → Int32) × (Nat → Int32) × (Nat → Int32) × (Nat → Int32) × (Nat → Int32) × (Nat → Int32) × (Nat → Int32) × (Nat → Int32) × (Nat → Int32) × (Nat → Int32) × (Nat → Int32)) :=
  (f_m_strongBy v_courses v_wide v_hands v_jumpTold v_frosts v_gaps v_frostsNow v_notFrosts v_gapsNow v_fell v_fellAll v_sheepFirst v_sheepMany v_seens v_typed v_texts v_told v_moods v_strongs v_frostYear v_frostForce v_gapYear v_gapColumn v_gapHand v_wall v_yearNow v_forceNow v_holdNow v_fellOf v_handAt v_holdAt v_fallsAt v_standAt v_highAt v_throughAt v_seenYear v_seenPlace v_seenHand v_standBy a0).bind (fun o2 =>
  iter (fun _ _ _ _ _ _ _ _ _ _ _ _ _ _ _ _ _ _ _ _ _ _ _ _ _ _ _ _ _ => none) (f_m_askOf_N14 v_jumpTold v_frosts v_gaps v_seens v_typed v_texts v_frostYear v_frostForce v_gapYear v_gapColumn v_gapHand v_seenYear v_seenPlace v_seenHand) 1000 o2.2.1 o2.2.2.1 o2.2.2.2.1 o2.2.2.2.2.1 o2.2.2.2.2.2.1 o2.2.2.2.2.2.2.1 o2.2.2.2.2.2.2.2.1 o2.2.2.2.2.2.2.2.2.1 o2.2.2.2.2.2.2.2.2.2.1 o2.2.2.2.2.2.2.2.2.2.2.1 o2.2.2.2.2.2.2.2.2.2.2.2.1 o2.2.2.2.2.2.2.2.2.2.2.2.2.1 o2.2.2.2.2.2.2.2.2.2.2.2.2.2.1 o2.2.2.2.2.2.2.2.2.2.2.2.2.2.2.1 o2.2.2.2.2.2.2.2.2.2.2.2.2.2.2.2.1 o2.2.2.2.2.2.2.2.2.2.2.2.2.2.2.2.2.1 o2.2.2.2.2.2.2.2.2.2.2.2.2.2.2.2.2.2.1 o2.2.2.2.2.2.2.2.2.2.2.2.2.2.2.2.2.2.2.1 o2.2.2.2.2.2.2.2.2.2.2.2.2.2.2.2.2.2.2.2.1 o2.2.2.2.2.2.2.2.2.2.2.2.2.2.2.2.2.2.2.2.2.1 o2.2.2.2.2.2.2.2.2.2.2.2.2.2.2.2.2.2.2.2.2.2.1 o2.2.2.2.2.2.2.2.2.2.2.2.2.2.2.2.2.2.2.2.2.2.2.1 o2.2.2.2.2.2.2.2.2.2.2.2.2.2.2.2.2.2.2.2.2.2.2.2.1 o2.2.2.2.2.2.2.2.2.2.2.2.2.2.2.2.2.2.2.2.2.2.2.2.2.1 o2.2.2.2.2.2.2.2.2.2.2.2.2.2.2.2.2.2.2.2.2.2.2.2.2.2 o2.1 (-1 : Int32) (0 : Int32) (0 : Int32))

-- WallHandsModel.ask(I)I
def f_m_ask (v_courses : Int32) (v_wide : Int32) (v_hands : Int32) (v_jumpTold : Int32) (v_frosts : Int32) (v_gaps : Int32) (v_frostsNow : Int32) (v_notFrosts : Int32) (v_gapsNow : Int32) (v_fell : Int32) (v_fellAll : Int32) (v_sheepFirst : Int32) (v_sheepMany : Int32) (v_seens : Int32) (v_typed : Nat → Int32) (v_texts : Nat → Int32) (v_told : Nat → Int32) (v_moods : Nat → Int32) (v_strongs : Nat → Int32) (v_frostYear : Nat → Int32) (v_frostForce : Nat → Int32) (v_gapYear : Nat → Int32) (v_gapColumn : Nat → Int32) (v_gapHand : Nat → Int32) (v_wall : Nat → Int32) (v_yearNow : Nat → Int32) (v_forceNow : Nat → Int32) (v_holdNow : Nat → Int32) (v_fellOf : Nat → Int32) (v_handAt : Nat → Int32) (v_holdAt : Nat → Int32) (v_fallsAt : Nat → Int32) (v_standAt : Nat → Int32) (v_highAt : Nat → Int32) (v_throughAt : Nat → Int32) (v_seenYear : Nat → Int32) (v_seenPlace : Nat → Int32) (v_seenHand : Nat → Int32) (v_standBy : Nat → Int32) (a0 : Int32) : Option (Int32 × Int32 × Int32 × Int32 × Int32 × Int32 × Int32 × Int32 × Int32 × Int32 × Int32 × (Nat → Int32) × (Nat → Int32) × (Nat → Int32) × (Nat → Int32) × (Nat → Int32) × (Nat → Int32) × (Nat → Int32) × (Nat → Int32) × (Nat → Int32) × (Nat → Int32) × (Nat → Int32) × (Nat → Int32) × (Nat → Int32) × (Nat → Int32) × (Nat → Int32)) :=
  (f_m_isHand v_courses v_wide v_hands v_typed v_texts v_told v_moods v_strongs a0).bind (fun o2 =>
  if o2.1 = 0 then
    some ((-2 : Int32), o2.2.1, o2.2.2.1, o2.2.2.2.1, v_frostsNow, v_notFrosts, v_gapsNow, v_fell, v_fellAll, v_sheepFirst, v_sheepMany, o2.2.2.2.2.1, o2.2.2.2.2.2.1, o2.2.2.2.2.2.2, v_wall, v_yearNow, v_forceNow, v_holdNow, v_fellOf, v_handAt, v_holdAt, v_fallsAt, v_standAt, v_highAt, v_throughAt, v_standBy)
  else
    (f_m_askOf o2.2.1 o2.2.2.1 o2.2.2.2.1 v_jumpTold v_frosts v_gaps v_frostsNow v_notFrosts v_gapsNow v_fell v_fellAll v_sheepFirst v_sheepMany v_seens v_typed v_texts o2.2.2.2.2.1 o2.2.2.2.2.2.1 o2.2.2.2.2.2.2 v_frostYear v_frostForce v_gapYear v_gapColumn v_gapHand v_wall v_yearNow v_forceNow v_holdNow v_fellOf v_handAt v_holdAt v_fallsAt v_standAt v_highAt v_throughAt v_seenYear v_seenPlace v_seenHand v_standBy a0).bind (fun o10 =>
    some (o10.1, o10.2.1, o10.2.2.1, o10.2.2.2.1, o10.2.2.2.2.1, o10.2.2.2.2.2.1, o10.2.2.2.2.2.2.1, o10.2.2.2.2.2.2.2.1, o10.2.2.2.2.2.2.2.2.1, o10.2.2.2.2.2.2.2.2.2.1, o10.2.2.2.2.2.2.2.2.2.2.1, o10.2.2.2.2.2.2.2.2.2.2.2.1, o10.2.2.2.2.2.2.2.2.2.2.2.2.1, o10.2.2.2.2.2.2.2.2.2.2.2.2.2.1, o10.2.2.2.2.2.2.2.2.2.2.2.2.2.2.1, o10.2.2.2.2.2.2.2.2.2.2.2.2.2.2.2.1, o10.2.2.2.2.2.2.2.2.2.2.2.2.2.2.2.2.1, o10.2.2.2.2.2.2.2.2.2.2.2.2.2.2.2.2.2.1, o10.2.2.2.2.2.2.2.2.2.2.2.2.2.2.2.2.2.2.1, o10.2.2.2.2.2.2.2.2.2.2.2.2.2.2.2.2.2.2.2.1, o10.2.2.2.2.2.2.2.2.2.2.2.2.2.2.2.2.2.2.2.2.1, o10.2.2.2.2.2.2.2.2.2.2.2.2.2.2.2.2.2.2.2.2.2.1, o10.2.2.2.2.2.2.2.2.2.2.2.2.2.2.2.2.2.2.2.2.2.2.1, o10.2.2.2.2.2.2.2.2.2.2.2.2.2.2.2.2.2.2.2.2.2.2.2.1, o10.2.2.2.2.2.2.2.2.2.2.2.2.2.2.2.2.2.2.2.2.2.2.2.2.1, o10.2.2.2.2.2.2.2.2.2.2.2.2.2.2.2.2.2.2.2.2.2.2.2.2.2)))

-- WallHandsModel.luckOf(II)J
def f_m_luckOf_N90 (v_jumpTold : Int32) (v_frosts : Int32) (v_gaps : Int32) (v_typed : Nat → Int32) (v_texts : Nat → Int32) (v_frostYear : Nat → Int32) (v_frostForce : Nat → Int32) (v_gapYear : Nat → Int32) (v_gapColumn : Nat → Int32) (v_gapHand : Nat → Int32) (k9 : Int32 → Int32 → Int32 → Int32 → Int32 → Int32 → Int32 → Int32 → Int32 → Int32 → (Nat → Int32) → (Nat → Int32) → (Nat → Int32) → (Nat → Int32) → (Nat → Int32) → (Nat → Int32) → (Nat → Int32) → (Nat → Int32) → (Nat → Int32) → (Nat → Int32) → (Nat → Int32) → (Nat → Int32) → (Nat → Int32) → (Nat → Int32) → Int32 → Int32 → Int64 → Int32 → Option (Int64 × Int32 × Int32 × Int32 × Int32 × Int32 × Int32 × Int32 × Int32 × Int32 × Int32 × (Nat → Int32) × (Nat → Int32) × (Nat → Int32) × (Nat → Int32) × (Nat → Int32) × (Nat → Int32) × (Nat → Int32) × (Nat → Int32) × (Nat → Int32) × (Nat → Int32) × (Nat → Int32) × (Nat → Int32) × (Nat → Int32) × (Nat → Int32))) (v_courses : Int32) (v_wide : Int32) (v_hands : Int32) (v_frostsNow : Int32) (v_notFrosts : Int32) (v_gapsNow : Int32) (v_fell : Int32) (v_fellAll : Int32) (v_sheepFirst : Int32) (v_sheepMany : Int32) (v_told : Nat → Int32) (v_moods : Nat → Int32) (v_strongs : Nat → Int32) (v_wall : Nat → Int32) (v_yearNow : Nat → Int32) (v_forceNow : Nat → Int32) (v_holdNow : Nat → Int32) (v_fellOf : Nat → Int32) (v_handAt : Nat → Int32) (v_holdAt : Nat → Int32) (v_fallsAt : Nat → Int32) (v_standAt : Nat → Int32) (v_highAt : Nat → Int32) (v_throughAt : Nat → Int32) (x1 : Int32) (x2 : Int32) (x5 : Int32) (y0 : Int64) (y1 : Int64) : Option (Int64 × Int32 × Int32 × Int32 × Int32 × Int32 × Int32 × Int32 × Int32 × Int32 × Int32 × (Nat → Int32) × (Nat → Int32) × (Nat → Int32) × (Nat → Int32) × (Nat → Int32) × (Nat → Int32) × (Nat → Int32) × (Nat → Int32) × (Nat → Int32) × (Nat → Int32) × (Nat → Int32) × (Nat → Int32) × (Nat → Int32) × (Nat → Int32)) :=
  k9 v_courses v_wide v_hands v_frostsNow v_notFrosts v_gapsNow v_fell v_fellAll v_sheepFirst v_sheepMany v_told v_moods v_strongs v_wall v_yearNow v_forceNow v_holdNow v_fellOf v_handAt v_holdAt v_fallsAt v_standAt v_highAt v_throughAt x1 x2 (y0 + y1) (x5 + (1 : Int32))

def f_m_luckOf_N57 (v_jumpTold : Int32) (v_frosts : Int32) (v_gaps : Int32) (v_typed : Nat → Int32) (v_texts : Nat → Int32) (v_frostYear : Nat → Int32) (v_frostForce : Nat → Int32) (v_gapYear : Nat → Int32) (v_gapColumn : Nat → Int32) (v_gapHand : Nat → Int32) (k9 : Int32 → Int32 → Int32 → Int32 → Int32 → Int32 → Int32 → Int32 → Int32 → Int32 → (Nat → Int32) → (Nat → Int32) → (Nat → Int32) → (Nat → Int32) → (Nat → Int32) → (Nat → Int32) → (Nat → Int32) → (Nat → Int32) → (Nat → Int32) → (Nat → Int32) → (Nat → Int32) → (Nat → Int32) → (Nat → Int32) → (Nat → Int32) → Int32 → Int32 → Int64 → Int32 → Option (Int64 × Int32 × Int32 × Int32 × Int32 × Int32 × Int32 × Int32 × Int32 × Int32 × Int32 × (Nat → Int32) × (Nat → Int32) × (Nat → Int32) × (Nat → Int32) × (Nat → Int32) × (Nat → Int32) × (Nat → Int32) × (Nat → Int32) × (Nat → Int32) × (Nat → Int32) × (Nat → Int32) × (Nat → Int32) × (Nat → Int32) × (Nat → Int32))) (k26 : Int32 → Int32 → Int32 → Int32 → Int32 → Int32 → Int32 → Int32 → Int32 → Int32 → (Nat → Int32) → (Nat → Int32) → (Nat → Int32) → (Nat → Int32) → (Nat → Int32) → (Nat → Int32) → (Nat → Int32) → (Nat → Int32) → (Nat → Int32) → (Nat → Int32) → (Nat → Int32) → (Nat → Int32) → (Nat → Int32) → (Nat → Int32) → Int32 → Int32 → Int64 → Int32 → Int64 → Int32 → Option (Int64 × Int32 × Int32 × Int32 × Int32 × Int32 × Int32 × Int32 × Int32 × Int32 × Int32 × (Nat → Int32) × (Nat → Int32) × (Nat → Int32) × (Nat → Int32) × (Nat → Int32) × (Nat → Int32) × (Nat → Int32) × (Nat → Int32) × (Nat → Int32) × (Nat → Int32) × (Nat → Int32) × (Nat → Int32) × (Nat → Int32) × (Nat → Int32))) (v_courses : Int32) (v_wide : Int32) (v_hands : Int32) (v_frostsNow : Int32) (v_notFrosts : Int32) (v_gapsNow : Int32) (v_fell : Int32) (v_fellAll : Int32) (v_sheepFirst : Int32) (v_sheepMany : Int32) (v_told : Nat → Int32) (v_moods : Nat → Int32) (v_strongs : Nat → Int32) (v_wall : Nat → Int32) (v_yearNow : Nat → Int32) (v_forceNow : Nat → Int32) (v_holdNow : Nat → Int32) (v_fellOf : Nat → Int32) (v_handAt : Nat → Int32) (v_holdAt : Nat → Int32) (v_fallsAt : Nat → Int32) (v_standAt : Nat → Int32) (v_highAt : Nat → Int32) (v_throughAt : Nat → Int32) (x1 : Int32) (x2 : Int32) (x3 : Int64) (x5 : Int32) (x8 : Int32) (y0 : Int64) (y1 : Int64) : Option (Int64 × Int32 × Int32 × Int32 × Int32 × Int32 × Int32 × Int32 × Int32 × Int32 × Int32 × (Nat → Int32) × (Nat → Int32) × (Nat → Int32) × (Nat → Int32) × (Nat → Int32) × (Nat → Int32) × (Nat → Int32) × (Nat → Int32) × (Nat → Int32) × (Nat → Int32) × (Nat → Int32) × (Nat → Int32) × (Nat → Int32) × (Nat → Int32)) :=
  k26 v_courses v_wide v_hands v_frostsNow v_notFrosts v_gapsNow v_fell v_fellAll v_sheepFirst v_sheepMany v_told v_moods v_strongs v_wall v_yearNow v_forceNow v_holdNow v_fellOf v_handAt v_holdAt v_fallsAt v_standAt v_highAt v_throughAt x1 x2 x3 x5 (y0 * y1) (x8 + (1 : Int32))

def f_m_luckOf_N26 (v_jumpTold : Int32) (v_frosts : Int32) (v_gaps : Int32) (v_typed : Nat → Int32) (v_texts : Nat → Int32) (v_frostYear : Nat → Int32) (v_frostForce : Nat → Int32) (v_gapYear : Nat → Int32) (v_gapColumn : Nat → Int32) (v_gapHand : Nat → Int32) (k9 : Int32 → Int32 → Int32 → Int32 → Int32 → Int32 → Int32 → Int32 → Int32 → Int32 → (Nat → Int32) → (Nat → Int32) → (Nat → Int32) → (Nat → Int32) → (Nat → Int32) → (Nat → Int32) → (Nat → Int32) → (Nat → Int32) → (Nat → Int32) → (Nat → Int32) → (Nat → Int32) → (Nat → Int32) → (Nat → Int32) → (Nat → Int32) → Int32 → Int32 → Int64 → Int32 → Option (Int64 × Int32 × Int32 × Int32 × Int32 × Int32 × Int32 × Int32 × Int32 × Int32 × Int32 × (Nat → Int32) × (Nat → Int32) × (Nat → Int32) × (Nat → Int32) × (Nat → Int32) × (Nat → Int32) × (Nat → Int32) × (Nat → Int32) × (Nat → Int32) × (Nat → Int32) × (Nat → Int32) × (Nat → Int32) × (Nat → Int32) × (Nat → Int32))) (k26 : Int32 → Int32 → Int32 → Int32 → Int32 → Int32 → Int32 → Int32 → Int32 → Int32 → (Nat → Int32) → (Nat → Int32) → (Nat → Int32) → (Nat → Int32) → (Nat → Int32) → (Nat → Int32) → (Nat → Int32) → (Nat → Int32) → (Nat → Int32) → (Nat → Int32) → (Nat → Int32) → (Nat → Int32) → (Nat → Int32) → (Nat → Int32) → Int32 → Int32 → Int64 → Int32 → Int64 → Int32 → Option (Int64 × Int32 × Int32 × Int32 × Int32 × Int32 × Int32 × Int32 × Int32 × Int32 × Int32 × (Nat → Int32) × (Nat → Int32) × (Nat → Int32) × (Nat → Int32) × (Nat → Int32) × (Nat → Int32) × (Nat → Int32) × (Nat → Int32) × (Nat → Int32) × (Nat → Int32) × (Nat → Int32) × (Nat → Int32) × (Nat → Int32) × (Nat → Int32))) (v_courses : Int32) (v_wide : Int32) (v_hands : Int32) (v_frostsNow : Int32) (v_notFrosts : Int32) (v_gapsNow : Int32) (v_fell : Int32) (v_fellAll : Int32) (v_sheepFirst : Int32) (v_sheepMany : Int32) (v_told : Nat → Int32) (v_moods : Nat → Int32) (v_strongs : Nat → Int32) (v_wall : Nat → Int32) (v_yearNow : Nat → Int32) (v_forceNow : Nat → Int32) (v_holdNow : Nat → Int32) (v_fellOf : Nat → Int32) (v_handAt : Nat → Int32) (v_holdAt : Nat → Int32) (v_fallsAt : Nat → Int32) (v_standAt : Nat → Int32) (v_highAt : Nat → Int32) (v_throughAt : Nat → Int32) (x1 : Int32) (x2 : Int32) (x3 : Int64) (x5 : Int32) (x6 : Int64) (x8 : Int32) : Option (Int64 × Int32 × Int32 × Int32 × Int32 × Int32 × Int32 × Int32 × Int32 × Int32 × Int32 × (Nat → Int32) × (Nat → Int32) × (Nat → Int32) × (Nat → Int32) × (Nat → Int32) × (Nat → Int32) × (Nat → Int32) × (Nat → Int32) × (Nat → Int32) × (Nat → Int32) × (Nat → Int32) × (Nat → Int32) × (Nat → Int32) × (Nat → Int32)) :=
  if v_frosts ≤ x8 then
    (f_m_runs v_courses v_wide v_hands v_jumpTold v_frostsNow x5 v_gapsNow v_fell v_fellAll v_sheepFirst v_sheepMany v_told v_moods v_strongs v_gapYear v_gapColumn v_gapHand v_wall v_yearNow v_forceNow v_holdNow v_fellOf v_handAt v_holdAt v_fallsAt v_standAt v_highAt v_throughAt).bind (fun o73 =>
    if o73.2.2.2.1 = 0 then
      f_m_luckOf_N90 v_jumpTold v_frosts v_gaps v_typed v_texts v_frostYear v_frostForce v_gapYear v_gapColumn v_gapHand k9 v_courses v_wide v_hands v_frostsNow x5 v_gapsNow o73.1 o73.2.1 o73.2.2.1 o73.2.2.2.1 v_told v_moods v_strongs o73.2.2.2.2.1 v_yearNow v_forceNow o73.2.2.2.2.2.1 o73.2.2.2.2.2.2.1 o73.2.2.2.2.2.2.2.1 o73.2.2.2.2.2.2.2.2.1 o73.2.2.2.2.2.2.2.2.2.1 o73.2.2.2.2.2.2.2.2.2.2.1 o73.2.2.2.2.2.2.2.2.2.2.2.1 o73.2.2.2.2.2.2.2.2.2.2.2.2 x1 x2 x5 x3 x6
    else
      f_m_luckOf_N90 v_jumpTold v_frosts v_gaps v_typed v_texts v_frostYear v_frostForce v_gapYear v_gapColumn v_gapHand k9 v_courses v_wide v_hands v_frostsNow x5 v_gapsNow o73.1 o73.2.1 o73.2.2.1 o73.2.2.2.1 v_told v_moods v_strongs o73.2.2.2.2.1 v_yearNow v_forceNow o73.2.2.2.2.2.1 o73.2.2.2.2.2.2.1 o73.2.2.2.2.2.2.2.1 o73.2.2.2.2.2.2.2.2.1 o73.2.2.2.2.2.2.2.2.2.1 o73.2.2.2.2.2.2.2.2.2.2.1 o73.2.2.2.2.2.2.2.2.2.2.2.1 o73.2.2.2.2.2.2.2.2.2.2.2.2 x1 x2 x5 x3 (0 : Int64))
  else
    (f_m_isIn x5 x8).bind (fun o41 =>
    if o41 = 0 then
      f_m_luckOf_N57 v_jumpTold v_frosts v_gaps v_typed v_texts v_frostYear v_frostForce v_gapYear v_gapColumn v_gapHand k9 k26 v_courses v_wide v_hands v_frostsNow v_notFrosts v_gapsNow v_fell v_fellAll v_sheepFirst v_sheepMany v_told v_moods v_strongs v_wall v_yearNow v_forceNow v_holdNow v_fellOf v_handAt v_holdAt v_fallsAt v_standAt v_highAt v_throughAt x1 x2 x3 x5 x8 x6 x1.toInt64
    else
      f_m_luckOf_N57 v_jumpTold v_frosts v_gaps v_typed v_texts v_frostYear v_frostForce v_gapYear v_gapColumn v_gapHand k9 k26 v_courses v_wide v_hands v_frostsNow v_notFrosts v_gapsNow v_fell v_fellAll v_sheepFirst v_sheepMany v_told v_moods v_strongs v_wall v_yearNow v_forceNow v_holdNow v_fellOf v_handAt v_holdAt v_fallsAt v_standAt v_highAt v_throughAt x1 x2 x3 x5 x8 x6 (((16 : Int32) - x1).toInt64))

def f_m_luckOf_N9 (v_jumpTold : Int32) (v_frosts : Int32) (v_gaps : Int32) (v_typed : Nat → Int32) (v_texts : Nat → Int32) (v_frostYear : Nat → Int32) (v_frostForce : Nat → Int32) (v_gapYear : Nat → Int32) (v_gapColumn : Nat → Int32) (v_gapHand : Nat → Int32) (k9 : Int32 → Int32 → Int32 → Int32 → Int32 → Int32 → Int32 → Int32 → Int32 → Int32 → (Nat → Int32) → (Nat → Int32) → (Nat → Int32) → (Nat → Int32) → (Nat → Int32) → (Nat → Int32) → (Nat → Int32) → (Nat → Int32) → (Nat → Int32) → (Nat → Int32) → (Nat → Int32) → (Nat → Int32) → (Nat → Int32) → (Nat → Int32) → Int32 → Int32 → Int64 → Int32 → Option (Int64 × Int32 × Int32 × Int32 × Int32 × Int32 × Int32 × Int32 × Int32 × Int32 × Int32 × (Nat → Int32) × (Nat → Int32) × (Nat → Int32) × (Nat → Int32) × (Nat → Int32) × (Nat → Int32) × (Nat → Int32) × (Nat → Int32) × (Nat → Int32) × (Nat → Int32) × (Nat → Int32) × (Nat → Int32) × (Nat → Int32) × (Nat → Int32))) (v_courses : Int32) (v_wide : Int32) (v_hands : Int32) (v_frostsNow : Int32) (v_notFrosts : Int32) (v_gapsNow : Int32) (v_fell : Int32) (v_fellAll : Int32) (v_sheepFirst : Int32) (v_sheepMany : Int32) (v_told : Nat → Int32) (v_moods : Nat → Int32) (v_strongs : Nat → Int32) (v_wall : Nat → Int32) (v_yearNow : Nat → Int32) (v_forceNow : Nat → Int32) (v_holdNow : Nat → Int32) (v_fellOf : Nat → Int32) (v_handAt : Nat → Int32) (v_holdAt : Nat → Int32) (v_fallsAt : Nat → Int32) (v_standAt : Nat → Int32) (v_highAt : Nat → Int32) (v_throughAt : Nat → Int32) (x1 : Int32) (x2 : Int32) (x3 : Int64) (x5 : Int32) : Option (Int64 × Int32 × Int32 × Int32 × Int32 × Int32 × Int32 × Int32 × Int32 × Int32 × Int32 × (Nat → Int32) × (Nat → Int32) × (Nat → Int32) × (Nat → Int32) × (Nat → Int32) × (Nat → Int32) × (Nat → Int32) × (Nat → Int32) × (Nat → Int32) × (Nat → Int32) × (Nat → Int32) × (Nat → Int32) × (Nat → Int32) × (Nat → Int32)) :=
  if ((1 : Int32) <<< (v_frosts &&& 31)) ≤ x5 then
    (f_m_lowest x3 (lshl (1 : Int64) ((4 : Int32) * v_frosts)) x2).bind (fun o108 =>
    some (o108, v_courses, v_wide, v_hands, v_frostsNow, v_notFrosts, v_gapsNow, v_fell, v_fellAll, v_sheepFirst, v_sheepMany, v_told, v_moods, v_strongs, v_wall, v_yearNow, v_forceNow, v_holdNow, v_fellOf, v_handAt, v_holdAt, v_fallsAt, v_standAt, v_highAt, v_throughAt))
  else
    iter (fun _ _ _ _ _ _ _ _ _ _ _ _ _ _ _ _ _ _ _ _ _ _ _ _ _ _ _ _ _ _ => none) (f_m_luckOf_N26 v_jumpTold v_frosts v_gaps v_typed v_texts v_frostYear v_frostForce v_gapYear v_gapColumn v_gapHand k9) 1000 v_courses v_wide v_hands v_frostsNow v_notFrosts v_gapsNow v_fell v_fellAll v_sheepFirst v_sheepMany v_told v_moods v_strongs v_wall v_yearNow v_forceNow v_holdNow v_fellOf v_handAt v_holdAt v_fallsAt v_standAt v_highAt v_throughAt x1 x2 x3 x5 (1 : Int64) (0 : Int32)

def f_m_luckOf (v_courses : Int32) (v_wide : Int32) (v_hands : Int32) (v_jumpTold : Int32) (v_frosts : Int32) (v_gaps : Int32) (v_frostsNow : Int32) (v_notFrosts : Int32) (v_gapsNow : Int32) (v_fell : Int32) (v_fellAll : Int32) (v_sheepFirst : Int32) (v_sheepMany : Int32) (v_typed : Nat → Int32) (v_texts : Nat → Int32) (v_told : Nat → Int32) (v_moods : Nat → Int32) (v_strongs : Nat → Int32) (v_frostYear : Nat → Int32) (v_frostForce : Nat → Int32) (v_gapYear : Nat → Int32) (v_gapColumn : Nat → Int32) (v_gapHand : Nat → Int32) (v_wall : Nat → Int32) (v_yearNow : Nat → Int32) (v_forceNow : Nat → Int32) (v_holdNow : Nat → Int32) (v_fellOf : Nat → Int32) (v_handAt : Nat → Int32) (v_holdAt : Nat → Int32) (v_fallsAt : Nat → Int32) (v_standAt : Nat → Int32) (v_highAt : Nat → Int32) (v_throughAt : Nat → Int32) (a0 : Int32) (a1 : Int32) : Option (Int64 × Int32 × Int32 × Int32 × Int32 × Int32 × Int32 × Int32 × Int32 × Int32 × Int32 × (Nat → Int32) × (Nat → Int32) × (Nat → Int32) × (Nat → Int32) × (Nat → Int32) × (Nat → Int32) × (Nat → Int32) × (Nat → Int32) × (Nat → Int32) × (Nat → Int32) × (Nat → Int32) × (Nat → Int32) × (Nat → Int32) × (Nat → Int32)) :=
  (f_m_asTold v_courses v_wide v_hands v_frosts v_gaps v_frostsNow v_notFrosts v_gapsNow v_typed v_texts v_told v_moods v_strongs v_frostYear v_frostForce v_yearNow v_forceNow).bind (fun o1 =>
  iter (fun _ _ _ _ _ _ _ _ _ _ _ _ _ _ _ _ _ _ _ _ _ _ _ _ _ _ _ _ => none) (f_m_luckOf_N9 v_jumpTold v_frosts v_gaps v_typed v_texts v_frostYear v_frostForce v_gapYear v_gapColumn v_gapHand) 1000 o1.1 o1.2.1 o1.2.2.1 o1.2.2.2.1 o1.2.2.2.2.1 o1.2.2.2.2.2.1 v_fell v_fellAll v_sheepFirst v_sheepMany o1.2.2.2.2.2.2.1 o1.2.2.2.2.2.2.2.1 o1.2.2.2.2.2.2.2.2.1 v_wall o1.2.2.2.2.2.2.2.2.2.1 o1.2.2.2.2.2.2.2.2.2.2 v_holdNow v_fellOf v_handAt v_holdAt v_fallsAt v_standAt v_highAt v_throughAt a0 a1 (0 : Int64) (0 : Int32))

-- WallHandsModel.luck(II)J
def f_m_luck_N28 (v_jumpTold : Int32) (v_frosts : Int32) (v_gaps : Int32) (v_typed : Nat → Int32) (v_texts : Nat → Int32) (v_frostYear : Nat → Int32) (v_frostForce : Nat → Int32) (v_gapYear : Nat → Int32) (v_gapColumn : Nat → Int32) (v_gapHand : Nat → Int32) (v_courses : Int32) (v_wide : Int32) (v_hands : Int32) (v_frostsNow : Int32) (v_notFrosts : Int32) (v_gapsNow : Int32) (v_fell : Int32) (v_fellAll : Int32) (v_sheepFirst : Int32) (v_sheepMany : Int32) (v_told : Nat → Int32) (v_moods : Nat → Int32) (v_strongs : Nat → Int32) (v_wall : Nat → Int32) (v_yearNow : Nat → Int32) (v_forceNow : Nat → Int32) (v_holdNow : Nat → Int32) (v_fellOf : Nat → Int32) (v_handAt : Nat → Int32) (v_holdAt : Nat → Int32) (v_fallsAt : Nat → Int32) (v_standAt : Nat → Int32) (v_highAt : Nat → Int32) (v_throughAt : Nat → Int32) : Option (Int64 × Int32 × Int32 × Int32 × Int32 × Int32 × Int32 × Int32 × Int32 × Int32 × Int32 × (Nat → Int32) × (Nat → Int32) × (Nat → Int32) × (Nat → Int32) × (Nat → Int32) × (Nat → Int32) × (Nat → Int32) × (Nat → Int32) × (Nat → Int32) × (Nat → Int32) × (Nat → Int32) × (Nat → Int32) × (Nat → Int32) × (Nat → Int32)) :=
  (f_m_no (-2 : Int32)).bind (fun o30 =>
  some (o30, v_courses, v_wide, v_hands, v_frostsNow, v_notFrosts, v_gapsNow, v_fell, v_fellAll, v_sheepFirst, v_sheepMany, v_told, v_moods, v_strongs, v_wall, v_yearNow, v_forceNow, v_holdNow, v_fellOf, v_handAt, v_holdAt, v_fallsAt, v_standAt, v_highAt, v_throughAt))

def f_m_luck (v_courses : Int32) (v_wide : Int32) (v_hands : Int32) (v_jumpTold : Int32) (v_frosts : Int32) (v_gaps : Int32) (v_frostsNow : Int32) (v_notFrosts : Int32) (v_gapsNow : Int32) (v_fell : Int32) (v_fellAll : Int32) (v_sheepFirst : Int32) (v_sheepMany : Int32) (v_typed : Nat → Int32) (v_texts : Nat → Int32) (v_told : Nat → Int32) (v_moods : Nat → Int32) (v_strongs : Nat → Int32) (v_frostYear : Nat → Int32) (v_frostForce : Nat → Int32) (v_gapYear : Nat → Int32) (v_gapColumn : Nat → Int32) (v_gapHand : Nat → Int32) (v_wall : Nat → Int32) (v_yearNow : Nat → Int32) (v_forceNow : Nat → Int32) (v_holdNow : Nat → Int32) (v_fellOf : Nat → Int32) (v_handAt : Nat → Int32) (v_holdAt : Nat → Int32) (v_fallsAt : Nat → Int32) (v_standAt : Nat → Int32) (v_highAt : Nat → Int32) (v_throughAt : Nat → Int32) (a0 : Int32) (a1 : Int32) : Option (Int64 × Int32 × Int32 × Int32 × Int32 × Int32 × Int32 × Int32 × Int32 × Int32 × Int32 × (Nat → Int32) × (Nat → Int32) × (Nat → Int32) × (Nat → Int32) × (Nat → Int32) × (Nat → Int32) × (Nat → Int32) × (Nat → Int32) × (Nat → Int32) × (Nat → Int32) × (Nat → Int32) × (Nat → Int32) × (Nat → Int32) × (Nat → Int32)) :=
  (f_m_in a0 (0 : Int32) (16 : Int32)).bind (fun o4 =>
  if o4 = 0 then
    f_m_luck_N28 v_jumpTold v_frosts v_gaps v_typed v_texts v_frostYear v_frostForce v_gapYear v_gapColumn v_gapHand v_courses v_wide v_hands v_frostsNow v_notFrosts v_gapsNow v_fell v_fellAll v_sheepFirst v_sheepMany v_told v_moods v_strongs v_wall v_yearNow v_forceNow v_holdNow v_fellOf v_handAt v_holdAt v_fallsAt v_standAt v_highAt v_throughAt
  else
    (f_m_in a1 (0 : Int32) (1 : Int32)).bind (fun o13 =>
    if o13 = 0 then
      f_m_luck_N28 v_jumpTold v_frosts v_gaps v_typed v_texts v_frostYear v_frostForce v_gapYear v_gapColumn v_gapHand v_courses v_wide v_hands v_frostsNow v_notFrosts v_gapsNow v_fell v_fellAll v_sheepFirst v_sheepMany v_told v_moods v_strongs v_wall v_yearNow v_forceNow v_holdNow v_fellOf v_handAt v_holdAt v_fallsAt v_standAt v_highAt v_throughAt
    else
      (f_m_luckOf v_courses v_wide v_hands v_jumpTold v_frosts v_gaps v_frostsNow v_notFrosts v_gapsNow v_fell v_fellAll v_sheepFirst v_sheepMany v_typed v_texts v_told v_moods v_strongs v_frostYear v_frostForce v_gapYear v_gapColumn v_gapHand v_wall v_yearNow v_forceNow v_holdNow v_fellOf v_handAt v_holdAt v_fallsAt v_standAt v_highAt v_throughAt a0 a1).bind (fun o22 =>
      some (o22.1, o22.2.1, o22.2.2.1, o22.2.2.2.1, o22.2.2.2.2.1, o22.2.2.2.2.2.1, o22.2.2.2.2.2.2.1, o22.2.2.2.2.2.2.2.1, o22.2.2.2.2.2.2.2.2.1, o22.2.2.2.2.2.2.2.2.2.1, o22.2.2.2.2.2.2.2.2.2.2.1, o22.2.2.2.2.2.2.2.2.2.2.2.1, o22.2.2.2.2.2.2.2.2.2.2.2.2.1, o22.2.2.2.2.2.2.2.2.2.2.2.2.2.1, o22.2.2.2.2.2.2.2.2.2.2.2.2.2.2.1, o22.2.2.2.2.2.2.2.2.2.2.2.2.2.2.2.1, o22.2.2.2.2.2.2.2.2.2.2.2.2.2.2.2.2.1, o22.2.2.2.2.2.2.2.2.2.2.2.2.2.2.2.2.2.1, o22.2.2.2.2.2.2.2.2.2.2.2.2.2.2.2.2.2.2.1, o22.2.2.2.2.2.2.2.2.2.2.2.2.2.2.2.2.2.2.2.1, o22.2.2.2.2.2.2.2.2.2.2.2.2.2.2.2.2.2.2.2.2.1, o22.2.2.2.2.2.2.2.2.2.2.2.2.2.2.2.2.2.2.2.2.2.1, o22.2.2.2.2.2.2.2.2.2.2.2.2.2.2.2.2.2.2.2.2.2.2.1, o22.2.2.2.2.2.2.2.2.2.2.2.2.2.2.2.2.2.2.2.2.2.2.2.1, o22.2.2.2.2.2.2.2.2.2.2.2.2.2.2.2.2.2.2.2.2.2.2.2.2))))

-- WallHandsModel.agesOf(III)I
def f_m_agesOf_N15 (v_jumpTold : Int32) (v_frosts : Int32) (v_gaps : Int32) (v_typed : Nat → Int32) (v_texts : Nat → Int32) (v_frostYear : Nat → Int32) (v_frostForce : Nat → Int32) (v_gapYear : Nat → Int32) (v_gapColumn : Nat → Int32) (v_gapHand : Nat → Int32) (k15 : Int32 → Int32 → Int32 → Int32 → Int32 → Int32 → Int32 → Int32 → Int32 → Int32 → (Nat → Int32) → (Nat → Int32) → (Nat → Int32) → (Nat → Int32) → (Nat → Int32) → (Nat → Int32) → (Nat → Int32) → (Nat → Int32) → (Nat → Int32) → (Nat → Int32) → (Nat → Int32) → (Nat → Int32) → (Nat → Int32) → (Nat → Int32) → Int32 → Int32 → Int32 → Int32 → Option (Int32 × Int32 × Int32 × Int32 × Int32 × Int32 × Int32 × Int32 × Int32 × Int32 × Int32 × (Nat → Int32) × (Nat → Int32) × (Nat → Int32) × (Nat → Int32) × (Nat → Int32) × (Nat → Int32) × (Nat → Int32) × (Nat → Int32) × (Nat → Int32) × (Nat → Int32) × (Nat → Int32) × (Nat → Int32) × (Nat → Int32) × (Nat → Int32))) (v_courses : Int32) (v_wide : Int32) (v_hands : Int32) (v_frostsNow : Int32) (v_notFrosts : Int32) (v_gapsNow : Int32) (v_fell : Int32) (v_fellAll : Int32) (v_sheepFirst : Int32) (v_sheepMany : Int32) (v_told : Nat → Int32) (v_moods : Nat → Int32) (v_strongs : Nat → Int32) (v_wall : Nat → Int32) (v_yearNow : Nat → Int32) (v_forceNow : Nat → Int32) (v_holdNow : Nat → Int32) (v_fellOf : Nat → Int32) (v_handAt : Nat → Int32) (v_holdAt : Nat → Int32) (v_fallsAt : Nat → Int32) (v_standAt : Nat → Int32) (v_highAt : Nat → Int32) (v_throughAt : Nat → Int32) (x2 : Int32) (x3 : Int32) (x4 : Int32) (x5 : Int32) : Option (Int32 × Int32 × Int32 × Int32 × Int32 × Int32 × Int32 × Int32 × Int32 × Int32 × Int32 × (Nat → Int32) × (Nat → Int32) × (Nat → Int32) × (Nat → Int32) × (Nat → Int32) × (Nat → Int32) × (Nat → Int32) × (Nat → Int32) × (Nat → Int32) × (Nat → Int32) × (Nat → Int32) × (Nat → Int32) × (Nat → Int32) × (Nat → Int32)) :=
  if x2 ≤ x5 then
    (f_m_runs v_courses v_wide v_hands v_jumpTold v_frostsNow v_notFrosts v_gapsNow v_fell v_fellAll v_sheepFirst v_sheepMany v_told v_moods v_strongs v_gapYear v_gapColumn v_gapHand v_wall v_yearNow v_forceNow v_holdNow v_fellOf v_handAt v_holdAt v_fallsAt v_standAt v_highAt v_throughAt).bind (fun o84 =>
    if x3 = 0 then
      gd (inb (19 : Int32) 20) (
      some (o84.2.2.2.2.2.2.2.2.2.2.1 (19 : Int32).toNatClampNeg, v_courses, v_wide, v_hands, v_frostsNow, v_notFrosts, v_gapsNow, o84.1, o84.2.1, o84.2.2.1, o84.2.2.2.1, v_told, v_moods, v_strongs, o84.2.2.2.2.1, v_yearNow, v_forceNow, o84.2.2.2.2.2.1, o84.2.2.2.2.2.2.1, o84.2.2.2.2.2.2.2.1, o84.2.2.2.2.2.2.2.2.1, o84.2.2.2.2.2.2.2.2.2.1, o84.2.2.2.2.2.2.2.2.2.2.1, o84.2.2.2.2.2.2.2.2.2.2.2.1, o84.2.2.2.2.2.2.2.2.2.2.2.2))
    else
      some (o84.2.2.2.1, v_courses, v_wide, v_hands, v_frostsNow, v_notFrosts, v_gapsNow, o84.1, o84.2.1, o84.2.2.1, o84.2.2.2.1, v_told, v_moods, v_strongs, o84.2.2.2.2.1, v_yearNow, v_forceNow, o84.2.2.2.2.2.1, o84.2.2.2.2.2.2.1, o84.2.2.2.2.2.2.2.1, o84.2.2.2.2.2.2.2.2.1, o84.2.2.2.2.2.2.2.2.2.1, o84.2.2.2.2.2.2.2.2.2.2.1, o84.2.2.2.2.2.2.2.2.2.2.2.1, o84.2.2.2.2.2.2.2.2.2.2.2.2))
  else
    gd (inb x5 6) (
    gd (inb x5 6) (
    k15 v_courses v_wide v_hands v_frostsNow v_notFrosts v_gapsNow v_fell v_fellAll v_sheepFirst v_sheepMany v_told v_moods v_strongs v_wall (upd v_yearNow x5.toNatClampNeg ((ushr (((1103515245 : Int32) * x4) + (12345 : Int32)) (16 : Int32)) - (ushr (((1103515245 : Int32) * x4) + (12345 : Int32)) (16 : Int32)) / (20 : Int32) * (20 : Int32))) (upd v_forceNow x5.toNatClampNeg (((ushr (((1103515245 : Int32) * (((1103515245 : Int32) * x4) + (12345 : Int32))) + (12345 : Int32)) (16 : Int32)) - (ushr (((1103515245 : Int32) * (((1103515245 : Int32) * x4) + (12345 : Int32))) + (12345 : Int32)) (16 : Int32)) / (15 : Int32) * (15 : Int32)) + (1 : Int32))) v_holdNow v_fellOf v_handAt v_holdAt v_fallsAt v_standAt v_highAt v_throughAt x2 x3 (((1103515245 : Int32) * (((1103515245 : Int32) * x4) + (12345 : Int32))) + (12345 : Int32)) (x5 + (1 : Int32))))

def f_m_agesOf (v_courses : Int32) (v_wide : Int32) (v_hands : Int32) (v_jumpTold : Int32) (v_frosts : Int32) (v_gaps : Int32) (v_frostsNow : Int32) (v_notFrosts : Int32) (v_gapsNow : Int32) (v_fell : Int32) (v_fellAll : Int32) (v_sheepFirst : Int32) (v_sheepMany : Int32) (v_typed : Nat → Int32) (v_texts : Nat → Int32) (v_told : Nat → Int32) (v_moods : Nat → Int32) (v_strongs : Nat → Int32) (v_frostYear : Nat → Int32) (v_frostForce : Nat → Int32) (v_gapYear : Nat → Int32) (v_gapColumn : Nat → Int32) (v_gapHand : Nat → Int32) (v_wall : Nat → Int32) (v_yearNow : Nat → Int32) (v_forceNow : Nat → Int32) (v_holdNow : Nat → Int32) (v_fellOf : Nat → Int32) (v_handAt : Nat → Int32) (v_holdAt : Nat → Int32) (v_fallsAt : Nat → Int32) (v_standAt : Nat → Int32) (v_highAt : Nat → Int32) (v_throughAt : Nat → Int32) (a0 : Int32) (a1 : Int32) (a2 : Int32) : Option (Int32 × Int32 × Int32 × Int32 × Int32 × Int32 × Int32 × Int32 × Int32 × Int32 × Int32 × (Nat → Int32) × (Nat → Int32) × (Nat → Int32) × (Nat → Int32) × (Nat → Int32) × (Nat → Int32) × (Nat → Int32) × (Nat → Int32) × (Nat → Int32) × (Nat → Int32) × (Nat → Int32) × (Nat → Int32) × (Nat → Int32) × (Nat → Int32)) :=
  (f_m_asTold v_courses v_wide v_hands v_frosts v_gaps v_frostsNow v_notFrosts v_gapsNow v_typed v_texts v_told v_moods v_strongs v_frostYear v_frostForce v_yearNow v_forceNow).bind (fun o1 =>
  iter (fun _ _ _ _ _ _ _ _ _ _ _ _ _ _ _ _ _ _ _ _ _ _ _ _ _ _ _ _ => none) (f_m_agesOf_N15 v_jumpTold v_frosts v_gaps v_typed v_texts v_frostYear v_frostForce v_gapYear v_gapColumn v_gapHand) 1000 o1.1 o1.2.1 o1.2.2.1 a1 o1.2.2.2.2.1 o1.2.2.2.2.2.1 v_fell v_fellAll v_sheepFirst v_sheepMany o1.2.2.2.2.2.2.1 o1.2.2.2.2.2.2.2.1 o1.2.2.2.2.2.2.2.2.1 v_wall o1.2.2.2.2.2.2.2.2.2.1 o1.2.2.2.2.2.2.2.2.2.2 v_holdNow v_fellOf v_handAt v_holdAt v_fallsAt v_standAt v_highAt v_throughAt a1 a2 a0 (0 : Int32))

-- WallHandsModel.ages(III)I
def f_m_ages (v_courses : Int32) (v_wide : Int32) (v_hands : Int32) (v_jumpTold : Int32) (v_frosts : Int32) (v_gaps : Int32) (v_frostsNow : Int32) (v_notFrosts : Int32) (v_gapsNow : Int32) (v_fell : Int32) (v_fellAll : Int32) (v_sheepFirst : Int32) (v_sheepMany : Int32) (v_typed : Nat → Int32) (v_texts : Nat → Int32) (v_told : Nat → Int32) (v_moods : Nat → Int32) (v_strongs : Nat → Int32) (v_frostYear : Nat → Int32) (v_frostForce : Nat → Int32) (v_gapYear : Nat → Int32) (v_gapColumn : Nat → Int32) (v_gapHand : Nat → Int32) (v_wall : Nat → Int32) (v_yearNow : Nat → Int32) (v_forceNow : Nat → Int32) (v_holdNow : Nat → Int32) (v_fellOf : Nat → Int32) (v_handAt : Nat → Int32) (v_holdAt : Nat → Int32) (v_fallsAt : Nat → Int32) (v_standAt : Nat → Int32) (v_highAt : Nat → Int32) (v_throughAt : Nat → Int32) (a0 : Int32) (a1 : Int32) (a2 : Int32) : Option (Int32 × Int32 × Int32 × Int32 × Int32 × Int32 × Int32 × Int32 × Int32 × Int32 × Int32 × (Nat → Int32) × (Nat → Int32) × (Nat → Int32) × (Nat → Int32) × (Nat → Int32) × (Nat → Int32) × (Nat → Int32) × (Nat → Int32) × (Nat → Int32) × (Nat → Int32) × (Nat → Int32) × (Nat → Int32) × (Nat → Int32) × (Nat → Int32)) :=
  (f_m_in a1 (0 : Int32) (6 : Int32)).bind (fun o4 =>
  if o4 = 0 then
    some ((-2 : Int32), v_courses, v_wide, v_hands, v_frostsNow, v_notFrosts, v_gapsNow, v_fell, v_fellAll, v_sheepFirst, v_sheepMany, v_told, v_moods, v_strongs, v_wall, v_yearNow, v_forceNow, v_holdNow, v_fellOf, v_handAt, v_holdAt, v_fallsAt, v_standAt, v_highAt, v_throughAt)
  else
    (f_m_in a2 (0 : Int32) (1 : Int32)).bind (fun o13 =>
    if o13 = 0 then
      some ((-2 : Int32), v_courses, v_wide, v_hands, v_frostsNow, v_notFrosts, v_gapsNow, v_fell, v_fellAll, v_sheepFirst, v_sheepMany, v_told, v_moods, v_strongs, v_wall, v_yearNow, v_forceNow, v_holdNow, v_fellOf, v_handAt, v_holdAt, v_fallsAt, v_standAt, v_highAt, v_throughAt)
    else
      (f_m_agesOf v_courses v_wide v_hands v_jumpTold v_frosts v_gaps v_frostsNow v_notFrosts v_gapsNow v_fell v_fellAll v_sheepFirst v_sheepMany v_typed v_texts v_told v_moods v_strongs v_frostYear v_frostForce v_gapYear v_gapColumn v_gapHand v_wall v_yearNow v_forceNow v_holdNow v_fellOf v_handAt v_holdAt v_fallsAt v_standAt v_highAt v_throughAt a0 a1 a2).bind (fun o23 =>
      some (o23.1, o23.2.1, o23.2.2.1, o23.2.2.2.1, o23.2.2.2.2.1, o23.2.2.2.2.2.1, o23.2.2.2.2.2.2.1, o23.2.2.2.2.2.2.2.1, o23.2.2.2.2.2.2.2.2.1, o23.2.2.2.2.2.2.2.2.2.1, o23.2.2.2.2.2.2.2.2.2.2.1, o23.2.2.2.2.2.2.2.2.2.2.2.1, o23.2.2.2.2.2.2.2.2.2.2.2.2.1, o23.2.2.2.2.2.2.2.2.2.2.2.2.2.1, o23.2.2.2.2.2.2.2.2.2.2.2.2.2.2.1, o23.2.2.2.2.2.2.2.2.2.2.2.2.2.2.2.1, o23.2.2.2.2.2.2.2.2.2.2.2.2.2.2.2.2.1, o23.2.2.2.2.2.2.2.2.2.2.2.2.2.2.2.2.2.1, o23.2.2.2.2.2.2.2.2.2.2.2.2.2.2.2.2.2.2.1, o23.2.2.2.2.2.2.2.2.2.2.2.2.2.2.2.2.2.2.2.1, o23.2.2.2.2.2.2.2.2.2.2.2.2.2.2.2.2.2.2.2.2.1, o23.2.2.2.2.2.2.2.2.2.2.2.2.2.2.2.2.2.2.2.2.2.1, o23.2.2.2.2.2.2.2.2.2.2.2.2.2.2.2.2.2.2.2.2.2.2.1, o23.2.2.2.2.2.2.2.2.2.2.2.2.2.2.2.2.2.2.2.2.2.2.2.1, o23.2.2.2.2.2.2.2.2.2.2.2.2.2.2.2.2.2.2.2.2.2.2.2.2))))

-- WallHandsModel.sheet(III)I
def f_m_sheet_N59 (k59 : Int32 → (Nat → Int32) → (Nat → Int32) → (Nat → Int32) → (Nat → Int32) → Int32 → Int32 → Int32 → Option (Int32 × Int32 × (Nat → Int32) × (Nat → Int32) × (Nat → Int32) × (Nat → Int32))) (v_finding : Int32) (v_isThere : Nat → Int32) (v_forms : Nat → Int32) (v_sizes : Nat → Int32) (v_items : Nat → Int32) (x1 : Int32) (x3 : Int32) (x4 : Int32) : Option (Int32 × Int32 × (Nat → Int32) × (Nat → Int32) × (Nat → Int32) × (Nat → Int32)) :=
  if (60 : Int32) ≤ x4 then
    some (x3, v_finding, v_isThere, v_forms, v_sizes, v_items)
  else
    gd (inb (((60 : Int32) * x1) + x4) 240) (
    k59 v_finding v_isThere v_forms v_sizes (upd v_items (((60 : Int32) * x1) + x4).toNatClampNeg (0 : Int32)) x1 x3 (x4 + (1 : Int32)))

def f_m_sheet (v_finding : Int32) (v_isThere : Nat → Int32) (v_forms : Nat → Int32) (v_sizes : Nat → Int32) (v_items : Nat → Int32) (a0 : Int32) (a1 : Int32) (a2 : Int32) : Option (Int32 × Int32 × (Nat → Int32) × (Nat → Int32) × (Nat → Int32) × (Nat → Int32)) :=
  (f_m_isSheet a0).bind (fun o1 =>
  if o1 = 0 then
    some ((-2 : Int32), v_finding, v_isThere, v_forms, v_sizes, v_items)
  else
    (f_m_in a1 (0 : Int32) (2 : Int32)).bind (fun o10 =>
    if o10 = 0 then
      some ((-2 : Int32), v_finding, v_isThere, v_forms, v_sizes, v_items)
    else
      if a2 ≤ (60 : Int32) then
        if 0 ≤ a2 then
          gd (inb a0 4) (
          gd (inb a0 4) (
          gd (inb a0 4) (
          iter (fun _ _ _ _ _ _ _ _ => none) (f_m_sheet_N59) 1000 v_finding (upd v_isThere a0.toNatClampNeg (vp_nar .boolean (1 : Int32))) (upd v_forms a0.toNatClampNeg a1) (upd v_sizes a0.toNatClampNeg a2) v_items a0 a2 (0 : Int32))))
        else
          (f_m_meets v_finding (5 : Int32)).bind (fun o31 =>
          some (o31.1, o31.2, v_isThere, v_forms, v_sizes, v_items))
      else
        some ((-2 : Int32), v_finding, v_isThere, v_forms, v_sizes, v_items)))

-- WallHandsModel.lose(I)I
def f_m_lose (v_finding : Int32) (v_isThere : Nat → Int32) (v_sizes : Nat → Int32) (a0 : Int32) : Option (Int32 × Int32 × (Nat → Int32)) :=
  (f_m_isSheet a0).bind (fun o1 =>
  if o1 = 0 then
    some ((-2 : Int32), v_finding, v_isThere)
  else
    gd (inb a0 4) (
    if (v_isThere a0.toNatClampNeg) = 0 then
      (f_m_meets v_finding (1 : Int32)).bind (fun o21 =>
      some (o21.1, o21.2, v_isThere))
    else
      gd (inb a0 4) (
      gd (inb a0 4) (
      some (v_sizes a0.toNatClampNeg, v_finding, upd v_isThere a0.toNatClampNeg (vp_nar .boolean (0 : Int32)))))))

-- WallHandsModel.lacks(III)I
def f_m_lacks (v_isThere : Nat → Int32) (v_forms : Nat → Int32) (v_sizes : Nat → Int32) (a0 : Int32) (a1 : Int32) (a2 : Int32) : Option Int32 :=
  gd (inb a0 4) (
  if (v_isThere a0.toNatClampNeg) = 0 then
    some (1 : Int32)
  else
    gd (inb a0 4) (
    if (v_forms a0.toNatClampNeg) = a1 then
      gd (inb a0 4) (
      (f_m_in a2 (0 : Int32) ((v_sizes a0.toNatClampNeg) - (1 : Int32))).bind (fun o37 =>
      if o37 = 0 then
        some (2 : Int32)
      else
        some (0 : Int32)))
    else
      some (3 : Int32)))

-- WallHandsModel.keep(III)V
def f_m_keep (v_forms : Nat → Int32) (v_items : Nat → Int32) (a0 : Int32) (a1 : Int32) (a2 : Int32) : Option (Nat → Int32) :=
  gd (inb a0 4) (
  if (v_forms a0.toNatClampNeg) = 0 then
    gd (inb (((60 : Int32) * a0) + a1) 240) (
    some (upd v_items (((60 : Int32) * a0) + a1).toNatClampNeg a2.toInt8.toInt32))
  else
    gd (inb a0 4) (
    if (v_forms a0.toNatClampNeg) = (1 : Int32) then
      gd (inb (((60 : Int32) * a0) + a1) 240) (
      some (upd v_items (((60 : Int32) * a0) + a1).toNatClampNeg a2.toInt16.toInt32))
    else
      gd (inb (((60 : Int32) * a0) + a1) 240) (
      some (upd v_items (((60 : Int32) * a0) + a1).toNatClampNeg a2))))

-- WallHandsModel.put(IIII)I
def f_m_put (v_finding : Int32) (v_isThere : Nat → Int32) (v_forms : Nat → Int32) (v_sizes : Nat → Int32) (v_items : Nat → Int32) (a0 : Int32) (a1 : Int32) (a2 : Int32) (a3 : Int32) : Option (Int32 × Int32 × (Nat → Int32)) :=
  (f_m_isSheet a0).bind (fun o1 =>
  if o1 = 0 then
    some ((-2 : Int32), v_finding, v_items)
  else
    (f_m_in a1 (0 : Int32) (2 : Int32)).bind (fun o10 =>
    if o10 = 0 then
      some ((-2 : Int32), v_finding, v_items)
    else
      (f_m_lacks v_isThere v_forms v_sizes a0 a1 a2).bind (fun o23 =>
      if o23 ≤ 0 then
        (f_m_keep v_forms v_items a0 a2 a3).bind (fun o45 =>
        some ((1 : Int32), v_finding, o45))
      else
        (f_m_meets v_finding o23).bind (fun o36 =>
        some (o36.1, o36.2, v_items)))))

-- WallHandsModel.get(III)I
def f_m_get (v_finding : Int32) (v_isThere : Nat → Int32) (v_forms : Nat → Int32) (v_sizes : Nat → Int32) (v_items : Nat → Int32) (a0 : Int32) (a1 : Int32) (a2 : Int32) : Option (Int32 × Int32) :=
  (f_m_isSheet a0).bind (fun o1 =>
  if o1 = 0 then
    some ((-2147483648 : Int32), v_finding)
  else
    (f_m_in a1 (0 : Int32) (2 : Int32)).bind (fun o10 =>
    if o10 = 0 then
      some ((-2147483648 : Int32), v_finding)
    else
      (f_m_lacks v_isThere v_forms v_sizes a0 a1 a2).bind (fun o24 =>
      if o24 ≤ 0 then
        gd (inb (((60 : Int32) * a0) + a2) 240) (
        some (v_items (((60 : Int32) * a0) + a2).toNatClampNeg, v_finding))
      else
        some ((-2147483648 : Int32), o24))))

-- WallHandsModel.copy(IIIII)I
def f_m_copy_N35 (v_isThere : Nat → Int32) (v_forms : Nat → Int32) (v_sizes : Nat → Int32) (v_finding : Int32) (v_items : Nat → Int32) (v_moved : Nat → Int32) : Option (Int32 × Int32 × (Nat → Int32) × (Nat → Int32)) :=
  (f_m_meets v_finding (1 : Int32)).bind (fun o37 =>
  some (o37.1, o37.2, v_items, v_moved))

def f_m_copy_N111 (v_isThere : Nat → Int32) (v_forms : Nat → Int32) (v_sizes : Nat → Int32) (v_finding : Int32) (v_items : Nat → Int32) (v_moved : Nat → Int32) : Option (Int32 × Int32 × (Nat → Int32) × (Nat → Int32)) :=
  (f_m_meets v_finding (2 : Int32)).bind (fun o113 =>
  some (o113.1, o113.2, v_items, v_moved))

def f_m_copy_N157 (v_isThere : Nat → Int32) (v_forms : Nat → Int32) (v_sizes : Nat → Int32) (k157 : Int32 → (Nat → Int32) → (Nat → Int32) → Int32 → Int32 → Int32 → Int32 → Option (Int32 × Int32 × (Nat → Int32) × (Nat → Int32))) (v_finding : Int32) (v_items : Nat → Int32) (v_moved : Nat → Int32) (x3 : Int32) (x4 : Int32) (x5 : Int32) (x6 : Int32) : Option (Int32 × Int32 × (Nat → Int32) × (Nat → Int32)) :=
  if x5 ≤ x6 then
    some ((1 : Int32), v_finding, v_items, v_moved)
  else
    gd (inb x6 60) (
    gd (inb ((((60 : Int32) * x3) + x4) + x6) 240) (
    k157 v_finding (upd v_items ((((60 : Int32) * x3) + x4) + x6).toNatClampNeg (v_moved x6.toNatClampNeg)) v_moved x3 x4 x5 (x6 + (1 : Int32))))

def f_m_copy_N120 (v_isThere : Nat → Int32) (v_forms : Nat → Int32) (v_sizes : Nat → Int32) (k120 : Int32 → (Nat → Int32) → (Nat → Int32) → Int32 → Int32 → Int32 → Int32 → Int32 → Int32 → Option (Int32 × Int32 × (Nat → Int32) × (Nat → Int32))) (v_finding : Int32) (v_items : Nat → Int32) (v_moved : Nat → Int32) (x1 : Int32) (x2 : Int32) (x3 : Int32) (x4 : Int32) (x5 : Int32) (x6 : Int32) : Option (Int32 × Int32 × (Nat → Int32) × (Nat → Int32)) :=
  if x5 ≤ x6 then
    iter (fun _ _ _ _ _ _ _ => none) (f_m_copy_N157 v_isThere v_forms v_sizes) 1000 v_finding v_items v_moved x3 x4 x5 (0 : Int32)
  else
    gd (inb ((((60 : Int32) * x1) + x2) + x6) 240) (
    gd (inb x6 60) (
    k120 v_finding v_items (upd v_moved x6.toNatClampNeg (v_items ((((60 : Int32) * x1) + x2) + x6).toNatClampNeg)) x1 x2 x3 x4 x5 (x6 + (1 : Int32))))

def f_m_copy (v_finding : Int32) (v_isThere : Nat → Int32) (v_forms : Nat → Int32) (v_sizes : Nat → Int32) (v_items : Nat → Int32) (v_moved : Nat → Int32) (a0 : Int32) (a1 : Int32) (a2 : Int32) (a3 : Int32) (a4 : Int32) : Option (Int32 × Int32 × (Nat → Int32) × (Nat → Int32)) :=
  (f_m_isSheet a0).bind (fun o1 =>
  if o1 = 0 then
    some ((-2 : Int32), v_finding, v_items, v_moved)
  else
    (f_m_isSheet a2).bind (fun o8 =>
    if o8 = 0 then
      some ((-2 : Int32), v_finding, v_items, v_moved)
    else
      gd (inb a0 4) (
      if (v_isThere a0.toNatClampNeg) = 0 then
        f_m_copy_N35 v_isThere v_forms v_sizes v_finding v_items v_moved
      else
        gd (inb a2 4) (
        if (v_isThere a2.toNatClampNeg) = 0 then
          f_m_copy_N35 v_isThere v_forms v_sizes v_finding v_items v_moved
        else
          gd (inb a0 4) (
          gd (inb a2 4) (
          if (v_forms a0.toNatClampNeg) = (v_forms a2.toNatClampNeg) then
            if a1 < 0 then
              f_m_copy_N111 v_isThere v_forms v_sizes v_finding v_items v_moved
            else
              if a3 < 0 then
                f_m_copy_N111 v_isThere v_forms v_sizes v_finding v_items v_moved
              else
                if a4 < 0 then
                  f_m_copy_N111 v_isThere v_forms v_sizes v_finding v_items v_moved
                else
                  gd (inb a0 4) (
                  if 0 < (lg_cmp (a1.toInt64 + a4.toInt64) ((v_sizes a0.toNatClampNeg).toInt64)) then
                    f_m_copy_N111 v_isThere v_forms v_sizes v_finding v_items v_moved
                  else
                    gd (inb a2 4) (
                    if (lg_cmp (a3.toInt64 + a4.toInt64) ((v_sizes a2.toNatClampNeg).toInt64)) ≤ 0 then
                      iter (fun _ _ _ _ _ _ _ _ _ => none) (f_m_copy_N120 v_isThere v_forms v_sizes) 1000 v_finding v_items v_moved a0 a1 a2 a3 a4 (0 : Int32)
                    else
                      f_m_copy_N111 v_isThere v_forms v_sizes v_finding v_items v_moved))
          else
            (f_m_meets v_finding (4 : Int32)).bind (fun o58 =>
            some (o58.1, o58.2, v_items, v_moved))))))))

-- WallHandsModel.write(II)I
def f_m_write_N38 (v_jumpTold : Int32) (v_frosts : Int32) (v_gaps : Int32) (v_typed : Nat → Int32) (v_texts : Nat → Int32) (v_frostYear : Nat → Int32) (v_frostForce : Nat → Int32) (v_gapYear : Nat → Int32) (v_gapColumn : Nat → Int32) (v_gapHand : Nat → Int32) (v_isThere : Nat → Int32) (v_forms : Nat → Int32) (v_sizes : Nat → Int32) (k38 : Int32 → Int32 → Int32 → Int32 → Int32 → Int32 → Int32 → Int32 → Int32 → Int32 → Int32 → (Nat → Int32) → (Nat → Int32) → (Nat → Int32) → (Nat → Int32) → (Nat → Int32) → (Nat → Int32) → (Nat → Int32) → (Nat → Int32) → (Nat → Int32) → (Nat → Int32) → (Nat → Int32) → (Nat → Int32) → (Nat → Int32) → (Nat → Int32) → (Nat → Int32) → Int32 → Int32 → Int32 → Option (Int32 × Int32 × Int32 × Int32 × Int32 × Int32 × Int32 × Int32 × Int32 × Int32 × Int32 × Int32 × (Nat → Int32) × (Nat → Int32) × (Nat → Int32) × (Nat → Int32) × (Nat → Int32) × (Nat → Int32) × (Nat → Int32) × (Nat → Int32) × (Nat → Int32) × (Nat → Int32) × (Nat → Int32) × (Nat → Int32) × (Nat → Int32) × (Nat → Int32) × (Nat → Int32))) (v_courses : Int32) (v_wide : Int32) (v_hands : Int32) (v_frostsNow : Int32) (v_notFrosts : Int32) (v_gapsNow : Int32) (v_fell : Int32) (v_fellAll : Int32) (v_sheepFirst : Int32) (v_sheepMany : Int32) (v_finding : Int32) (v_told : Nat → Int32) (v_moods : Nat → Int32) (v_strongs : Nat → Int32) (v_wall : Nat → Int32) (v_yearNow : Nat → Int32) (v_forceNow : Nat → Int32) (v_holdNow : Nat → Int32) (v_fellOf : Nat → Int32) (v_handAt : Nat → Int32) (v_holdAt : Nat → Int32) (v_fallsAt : Nat → Int32) (v_standAt : Nat → Int32) (v_highAt : Nat → Int32) (v_throughAt : Nat → Int32) (v_items : Nat → Int32) (x1 : Int32) (x2 : Int32) (x3 : Int32) : Option (Int32 × Int32 × Int32 × Int32 × Int32 × Int32 × Int32 × Int32 × Int32 × Int32 × Int32 × Int32 × (Nat → Int32) × (Nat → Int32) × (Nat → Int32) × (Nat → Int32) × (Nat → Int32) × (Nat → Int32) × (Nat → Int32) × (Nat → Int32) × (Nat → Int32) × (Nat → Int32) × (Nat → Int32) × (Nat → Int32) × (Nat → Int32) × (Nat → Int32) × (Nat → Int32)) :=
  gd (inb x2 4) (
  if (v_sizes x2.toNatClampNeg) ≤ x3 then
    some (x3, v_courses, v_wide, v_hands, v_frostsNow, v_notFrosts, v_gapsNow, v_fell, v_fellAll, v_sheepFirst, v_sheepMany, v_finding, v_told, v_moods, v_strongs, v_wall, v_yearNow, v_forceNow, v_holdNow, v_fellOf, v_handAt, v_holdAt, v_fallsAt, v_standAt, v_highAt, v_throughAt, v_items)
  else
    if v_wide ≤ x3 then
      some (x3, v_courses, v_wide, v_hands, v_frostsNow, v_notFrosts, v_gapsNow, v_fell, v_fellAll, v_sheepFirst, v_sheepMany, v_finding, v_told, v_moods, v_strongs, v_wall, v_yearNow, v_forceNow, v_holdNow, v_fellOf, v_handAt, v_holdAt, v_fallsAt, v_standAt, v_highAt, v_throughAt, v_items)
    else
      gd (inb (((8 : Int32) * x1) + x3) 160) (
      (f_m_keep v_forms v_items x2 x3 (v_highAt (((8 : Int32) * x1) + x3).toNatClampNeg)).bind (fun o70 =>
      k38 v_courses v_wide v_hands v_frostsNow v_notFrosts v_gapsNow v_fell v_fellAll v_sheepFirst v_sheepMany v_finding v_told v_moods v_strongs v_wall v_yearNow v_forceNow v_holdNow v_fellOf v_handAt v_holdAt v_fallsAt v_standAt v_highAt v_throughAt o70 x1 x2 (x3 + (1 : Int32)))))

def f_m_write (v_courses : Int32) (v_wide : Int32) (v_hands : Int32) (v_jumpTold : Int32) (v_frosts : Int32) (v_gaps : Int32) (v_frostsNow : Int32) (v_notFrosts : Int32) (v_gapsNow : Int32) (v_fell : Int32) (v_fellAll : Int32) (v_sheepFirst : Int32) (v_sheepMany : Int32) (v_finding : Int32) (v_typed : Nat → Int32) (v_texts : Nat → Int32) (v_told : Nat → Int32) (v_moods : Nat → Int32) (v_strongs : Nat → Int32) (v_frostYear : Nat → Int32) (v_frostForce : Nat → Int32) (v_gapYear : Nat → Int32) (v_gapColumn : Nat → Int32) (v_gapHand : Nat → Int32) (v_wall : Nat → Int32) (v_yearNow : Nat → Int32) (v_forceNow : Nat → Int32) (v_holdNow : Nat → Int32) (v_fellOf : Nat → Int32) (v_handAt : Nat → Int32) (v_holdAt : Nat → Int32) (v_fallsAt : Nat → Int32) (v_standAt : Nat → Int32) (v_highAt : Nat → Int32) (v_throughAt : Nat → Int32) (v_isThere : Nat → Int32) (v_forms : Nat → Int32) (v_sizes : Nat → Int32) (v_items : Nat → Int32) (a0 : Int32) (a1 : Int32) : Option (Int32 × Int32 × Int32 × Int32 × Int32 × Int32 × Int32 × Int32 × Int32 × Int32 × Int32 × Int32 × (Nat → Int32) × (Nat → Int32) × (Nat → Int32) × (Nat → Int32) × (Nat → Int32) × (Nat → Int32) × (Nat → Int32) × (Nat → Int32) × (Nat → Int32) × (Nat → Int32) × (Nat → Int32) × (Nat → Int32) × (Nat → Int32) × (Nat → Int32) × (Nat → Int32)) :=
  (f_m_isYear a0).bind (fun o1 =>
  if o1 = 0 then
    some ((-2 : Int32), v_courses, v_wide, v_hands, v_frostsNow, v_notFrosts, v_gapsNow, v_fell, v_fellAll, v_sheepFirst, v_sheepMany, v_finding, v_told, v_moods, v_strongs, v_wall, v_yearNow, v_forceNow, v_holdNow, v_fellOf, v_handAt, v_holdAt, v_fallsAt, v_standAt, v_highAt, v_throughAt, v_items)
  else
    (f_m_isSheet a1).bind (fun o8 =>
    if o8 = 0 then
      some ((-2 : Int32), v_courses, v_wide, v_hands, v_frostsNow, v_notFrosts, v_gapsNow, v_fell, v_fellAll, v_sheepFirst, v_sheepMany, v_finding, v_told, v_moods, v_strongs, v_wall, v_yearNow, v_forceNow, v_holdNow, v_fellOf, v_handAt, v_holdAt, v_fallsAt, v_standAt, v_highAt, v_throughAt, v_items)
    else
      gd (inb a1 4) (
      if (v_isThere a1.toNatClampNeg) = 0 then
        (f_m_meets v_finding (1 : Int32)).bind (fun o28 =>
        some (o28.1, v_courses, v_wide, v_hands, v_frostsNow, v_notFrosts, v_gapsNow, v_fell, v_fellAll, v_sheepFirst, v_sheepMany, o28.2, v_told, v_moods, v_strongs, v_wall, v_yearNow, v_forceNow, v_holdNow, v_fellOf, v_handAt, v_holdAt, v_fallsAt, v_standAt, v_highAt, v_throughAt, v_items))
      else
        (f_m_runsTold v_courses v_wide v_hands v_jumpTold v_frosts v_gaps v_frostsNow v_notFrosts v_gapsNow v_fell v_fellAll v_sheepFirst v_sheepMany v_typed v_texts v_told v_moods v_strongs v_frostYear v_frostForce v_gapYear v_gapColumn v_gapHand v_wall v_yearNow v_forceNow v_holdNow v_fellOf v_handAt v_holdAt v_fallsAt v_standAt v_highAt v_throughAt).bind (fun o33 =>
        iter (fun _ _ _ _ _ _ _ _ _ _ _ _ _ _ _ _ _ _ _ _ _ _ _ _ _ _ _ _ _ => none) (f_m_write_N38 v_jumpTold v_frosts v_gaps v_typed v_texts v_frostYear v_frostForce v_gapYear v_gapColumn v_gapHand v_isThere v_forms v_sizes) 1000 o33.1 o33.2.1 o33.2.2.1 o33.2.2.2.1 o33.2.2.2.2.1 o33.2.2.2.2.2.1 o33.2.2.2.2.2.2.1 o33.2.2.2.2.2.2.2.1 o33.2.2.2.2.2.2.2.2.1 o33.2.2.2.2.2.2.2.2.2.1 v_finding o33.2.2.2.2.2.2.2.2.2.2.1 o33.2.2.2.2.2.2.2.2.2.2.2.1 o33.2.2.2.2.2.2.2.2.2.2.2.2.1 o33.2.2.2.2.2.2.2.2.2.2.2.2.2.1 o33.2.2.2.2.2.2.2.2.2.2.2.2.2.2.1 o33.2.2.2.2.2.2.2.2.2.2.2.2.2.2.2.1 o33.2.2.2.2.2.2.2.2.2.2.2.2.2.2.2.2.1 o33.2.2.2.2.2.2.2.2.2.2.2.2.2.2.2.2.2.1 o33.2.2.2.2.2.2.2.2.2.2.2.2.2.2.2.2.2.2.1 o33.2.2.2.2.2.2.2.2.2.2.2.2.2.2.2.2.2.2.2.1 o33.2.2.2.2.2.2.2.2.2.2.2.2.2.2.2.2.2.2.2.2.1 o33.2.2.2.2.2.2.2.2.2.2.2.2.2.2.2.2.2.2.2.2.2.1 o33.2.2.2.2.2.2.2.2.2.2.2.2.2.2.2.2.2.2.2.2.2.2.1 o33.2.2.2.2.2.2.2.2.2.2.2.2.2.2.2.2.2.2.2.2.2.2.2 v_items a0 a1 (0 : Int32)))))

-- WallHandsModel.sumOf(I)I
def f_m_sumOf_N30 (v_jumpTold : Int32) (v_frosts : Int32) (v_gaps : Int32) (v_typed : Nat → Int32) (v_texts : Nat → Int32) (v_frostYear : Nat → Int32) (v_frostForce : Nat → Int32) (v_gapYear : Nat → Int32) (v_gapColumn : Nat → Int32) (v_gapHand : Nat → Int32) (k8 : Int32 → Int32 → Int32 → Int32 → Int32 → Int32 → Int32 → Int32 → Int32 → Int32 → (Nat → Int32) → (Nat → Int32) → (Nat → Int32) → (Nat → Int32) → (Nat → Int32) → (Nat → Int32) → (Nat → Int32) → (Nat → Int32) → (Nat → Int32) → (Nat → Int32) → (Nat → Int32) → (Nat → Int32) → (Nat → Int32) → (Nat → Int32) → Int32 → Int32 → Int32 → Option (Int32 × Int32 × Int32 × Int32 × Int32 × Int32 × Int32 × Int32 × Int32 × Int32 × Int32 × (Nat → Int32) × (Nat → Int32) × (Nat → Int32) × (Nat → Int32) × (Nat → Int32) × (Nat → Int32) × (Nat → Int32) × (Nat → Int32) × (Nat → Int32) × (Nat → Int32) × (Nat → Int32) × (Nat → Int32) × (Nat → Int32) × (Nat → Int32))) (v_courses : Int32) (v_wide : Int32) (v_hands : Int32) (v_frostsNow : Int32) (v_notFrosts : Int32) (v_gapsNow : Int32) (v_fell : Int32) (v_fellAll : Int32) (v_sheepFirst : Int32) (v_sheepMany : Int32) (v_told : Nat → Int32) (v_moods : Nat → Int32) (v_strongs : Nat → Int32) (v_wall : Nat → Int32) (v_yearNow : Nat → Int32) (v_forceNow : Nat → Int32) (v_holdNow : Nat → Int32) (v_fellOf : Nat → Int32) (v_handAt : Nat → Int32) (v_holdAt : Nat → Int32) (v_fallsAt : Nat → Int32) (v_standAt : Nat → Int32) (v_highAt : Nat → Int32) (v_throughAt : Nat → Int32) (x1 : Int32) (x3 : Int32) (y0 : Int32) (y1 : Int32) : Option (Int32 × Int32 × Int32 × Int32 × Int32 × Int32 × Int32 × Int32 × Int32 × Int32 × Int32 × (Nat → Int32) × (Nat → Int32) × (Nat → Int32) × (Nat → Int32) × (Nat → Int32) × (Nat → Int32) × (Nat → Int32) × (Nat → Int32) × (Nat → Int32) × (Nat → Int32) × (Nat → Int32) × (Nat → Int32) × (Nat → Int32) × (Nat → Int32)) :=
  k8 v_courses v_wide v_hands v_frostsNow v_notFrosts v_gapsNow v_fell v_fellAll v_sheepFirst v_sheepMany v_told v_moods v_strongs v_wall v_yearNow v_forceNow v_holdNow v_fellOf v_handAt v_holdAt v_fallsAt v_standAt v_highAt v_throughAt x1 (y0 + y1) (x3 + (1 : Int32))

def f_m_sumOf_N8 (v_jumpTold : Int32) (v_frosts : Int32) (v_gaps : Int32) (v_typed : Nat → Int32) (v_texts : Nat → Int32) (v_frostYear : Nat → Int32) (v_frostForce : Nat → Int32) (v_gapYear : Nat → Int32) (v_gapColumn : Nat → Int32) (v_gapHand : Nat → Int32) (k8 : Int32 → Int32 → Int32 → Int32 → Int32 → Int32 → Int32 → Int32 → Int32 → Int32 → (Nat → Int32) → (Nat → Int32) → (Nat → Int32) → (Nat → Int32) → (Nat → Int32) → (Nat → Int32) → (Nat → Int32) → (Nat → Int32) → (Nat → Int32) → (Nat → Int32) → (Nat → Int32) → (Nat → Int32) → (Nat → Int32) → (Nat → Int32) → Int32 → Int32 → Int32 → Option (Int32 × Int32 × Int32 × Int32 × Int32 × Int32 × Int32 × Int32 × Int32 × Int32 × Int32 × (Nat → Int32) × (Nat → Int32) × (Nat → Int32) × (Nat → Int32) × (Nat → Int32) × (Nat → Int32) × (Nat → Int32) × (Nat → Int32) × (Nat → Int32) × (Nat → Int32) × (Nat → Int32) × (Nat → Int32) × (Nat → Int32) × (Nat → Int32))) (v_courses : Int32) (v_wide : Int32) (v_hands : Int32) (v_frostsNow : Int32) (v_notFrosts : Int32) (v_gapsNow : Int32) (v_fell : Int32) (v_fellAll : Int32) (v_sheepFirst : Int32) (v_sheepMany : Int32) (v_told : Nat → Int32) (v_moods : Nat → Int32) (v_strongs : Nat → Int32) (v_wall : Nat → Int32) (v_yearNow : Nat → Int32) (v_forceNow : Nat → Int32) (v_holdNow : Nat → Int32) (v_fellOf : Nat → Int32) (v_handAt : Nat → Int32) (v_holdAt : Nat → Int32) (v_fallsAt : Nat → Int32) (v_standAt : Nat → Int32) (v_highAt : Nat → Int32) (v_throughAt : Nat → Int32) (x1 : Int32) (x2 : Int32) (x3 : Int32) : Option (Int32 × Int32 × Int32 × Int32 × Int32 × Int32 × Int32 × Int32 × Int32 × Int32 × Int32 × (Nat → Int32) × (Nat → Int32) × (Nat → Int32) × (Nat → Int32) × (Nat → Int32) × (Nat → Int32) × (Nat → Int32) × (Nat → Int32) × (Nat → Int32) × (Nat → Int32) × (Nat → Int32) × (Nat → Int32) × (Nat → Int32) × (Nat → Int32)) :=
  if (40 : Int32) ≤ x3 then
    if x1 = 0 then
      some (x2, v_courses, v_wide, v_hands, v_frostsNow, v_notFrosts, v_gapsNow, v_fell, v_fellAll, v_sheepFirst, v_sheepMany, v_told, v_moods, v_strongs, v_wall, v_yearNow, v_forceNow, v_holdNow, v_fellOf, v_handAt, v_holdAt, v_fallsAt, v_standAt, v_highAt, v_throughAt)
    else
      if x1 = (1 : Int32) then
        some (v_hands, v_courses, v_wide, v_hands, v_frostsNow, v_notFrosts, v_gapsNow, v_fell, v_fellAll, v_sheepFirst, v_sheepMany, v_told, v_moods, v_strongs, v_wall, v_yearNow, v_forceNow, v_holdNow, v_fellOf, v_handAt, v_holdAt, v_fallsAt, v_standAt, v_highAt, v_throughAt)
      else
        some (v_fellAll, v_courses, v_wide, v_hands, v_frostsNow, v_notFrosts, v_gapsNow, v_fell, v_fellAll, v_sheepFirst, v_sheepMany, v_told, v_moods, v_strongs, v_wall, v_yearNow, v_forceNow, v_holdNow, v_fellOf, v_handAt, v_holdAt, v_fallsAt, v_standAt, v_highAt, v_throughAt)
  else
    gd (inb x3 48) (
    if (v_told x3.toNatClampNeg) = (-1 : Int32) then
      f_m_sumOf_N30 v_jumpTold v_frosts v_gaps v_typed v_texts v_frostYear v_frostForce v_gapYear v_gapColumn v_gapHand k8 v_courses v_wide v_hands v_frostsNow v_notFrosts v_gapsNow v_fell v_fellAll v_sheepFirst v_sheepMany v_told v_moods v_strongs v_wall v_yearNow v_forceNow v_holdNow v_fellOf v_handAt v_holdAt v_fallsAt v_standAt v_highAt v_throughAt x1 x3 x2 (0 : Int32)
    else
      f_m_sumOf_N30 v_jumpTold v_frosts v_gaps v_typed v_texts v_frostYear v_frostForce v_gapYear v_gapColumn v_gapHand k8 v_courses v_wide v_hands v_frostsNow v_notFrosts v_gapsNow v_fell v_fellAll v_sheepFirst v_sheepMany v_told v_moods v_strongs v_wall v_yearNow v_forceNow v_holdNow v_fellOf v_handAt v_holdAt v_fallsAt v_standAt v_highAt v_throughAt x1 x3 x2 (1 : Int32))

def f_m_sumOf (v_courses : Int32) (v_wide : Int32) (v_hands : Int32) (v_jumpTold : Int32) (v_frosts : Int32) (v_gaps : Int32) (v_frostsNow : Int32) (v_notFrosts : Int32) (v_gapsNow : Int32) (v_fell : Int32) (v_fellAll : Int32) (v_sheepFirst : Int32) (v_sheepMany : Int32) (v_typed : Nat → Int32) (v_texts : Nat → Int32) (v_told : Nat → Int32) (v_moods : Nat → Int32) (v_strongs : Nat → Int32) (v_frostYear : Nat → Int32) (v_frostForce : Nat → Int32) (v_gapYear : Nat → Int32) (v_gapColumn : Nat → Int32) (v_gapHand : Nat → Int32) (v_wall : Nat → Int32) (v_yearNow : Nat → Int32) (v_forceNow : Nat → Int32) (v_holdNow : Nat → Int32) (v_fellOf : Nat → Int32) (v_handAt : Nat → Int32) (v_holdAt : Nat → Int32) (v_fallsAt : Nat → Int32) (v_standAt : Nat → Int32) (v_highAt : Nat → Int32) (v_throughAt : Nat → Int32) (a0 : Int32) : Option (Int32 × Int32 × Int32 × Int32 × Int32 × Int32 × Int32 × Int32 × Int32 × Int32 × Int32 × (Nat → Int32) × (Nat → Int32) × (Nat → Int32) × (Nat → Int32) × (Nat → Int32) × (Nat → Int32) × (Nat → Int32) × (Nat → Int32) × (Nat → Int32) × (Nat → Int32) × (Nat → Int32) × (Nat → Int32) × (Nat → Int32) × (Nat → Int32)) :=
  (f_m_runsTold v_courses v_wide v_hands v_jumpTold v_frosts v_gaps v_frostsNow v_notFrosts v_gapsNow v_fell v_fellAll v_sheepFirst v_sheepMany v_typed v_texts v_told v_moods v_strongs v_frostYear v_frostForce v_gapYear v_gapColumn v_gapHand v_wall v_yearNow v_forceNow v_holdNow v_fellOf v_handAt v_holdAt v_fallsAt v_standAt v_highAt v_throughAt).bind (fun o1 =>
  iter (fun _ _ _ _ _ _ _ _ _ _ _ _ _ _ _ _ _ _ _ _ _ _ _ _ _ _ _ => none) (f_m_sumOf_N8 v_jumpTold v_frosts v_gaps v_typed v_texts v_frostYear v_frostForce v_gapYear v_gapColumn v_gapHand) 1000 o1.1 o1.2.1 o1.2.2.1 o1.2.2.2.1 o1.2.2.2.2.1 o1.2.2.2.2.2.1 o1.2.2.2.2.2.2.1 o1.2.2.2.2.2.2.2.1 o1.2.2.2.2.2.2.2.2.1 o1.2.2.2.2.2.2.2.2.2.1 o1.2.2.2.2.2.2.2.2.2.2.1 o1.2.2.2.2.2.2.2.2.2.2.2.1 o1.2.2.2.2.2.2.2.2.2.2.2.2.1 o1.2.2.2.2.2.2.2.2.2.2.2.2.2.1 o1.2.2.2.2.2.2.2.2.2.2.2.2.2.2.1 o1.2.2.2.2.2.2.2.2.2.2.2.2.2.2.2.1 o1.2.2.2.2.2.2.2.2.2.2.2.2.2.2.2.2.1 o1.2.2.2.2.2.2.2.2.2.2.2.2.2.2.2.2.2.1 o1.2.2.2.2.2.2.2.2.2.2.2.2.2.2.2.2.2.2.1 o1.2.2.2.2.2.2.2.2.2.2.2.2.2.2.2.2.2.2.2.1 o1.2.2.2.2.2.2.2.2.2.2.2.2.2.2.2.2.2.2.2.2.1 o1.2.2.2.2.2.2.2.2.2.2.2.2.2.2.2.2.2.2.2.2.2.1 o1.2.2.2.2.2.2.2.2.2.2.2.2.2.2.2.2.2.2.2.2.2.2.1 o1.2.2.2.2.2.2.2.2.2.2.2.2.2.2.2.2.2.2.2.2.2.2.2 a0 (0 : Int32) (0 : Int32))

-- WallHandsModel.count(I)I
def f_m_count (v_courses : Int32) (v_wide : Int32) (v_hands : Int32) (v_jumpTold : Int32) (v_frosts : Int32) (v_gaps : Int32) (v_frostsNow : Int32) (v_notFrosts : Int32) (v_gapsNow : Int32) (v_fell : Int32) (v_fellAll : Int32) (v_sheepFirst : Int32) (v_sheepMany : Int32) (v_seens : Int32) (v_finding : Int32) (v_typed : Nat → Int32) (v_texts : Nat → Int32) (v_told : Nat → Int32) (v_moods : Nat → Int32) (v_strongs : Nat → Int32) (v_frostYear : Nat → Int32) (v_frostForce : Nat → Int32) (v_gapYear : Nat → Int32) (v_gapColumn : Nat → Int32) (v_gapHand : Nat → Int32) (v_wall : Nat → Int32) (v_yearNow : Nat → Int32) (v_forceNow : Nat → Int32) (v_holdNow : Nat → Int32) (v_fellOf : Nat → Int32) (v_handAt : Nat → Int32) (v_holdAt : Nat → Int32) (v_fallsAt : Nat → Int32) (v_standAt : Nat → Int32) (v_highAt : Nat → Int32) (v_throughAt : Nat → Int32) (a0 : Int32) : Option (Int32 × Int32 × Int32 × Int32 × Int32 × Int32 × Int32 × Int32 × Int32 × Int32 × Int32 × (Nat → Int32) × (Nat → Int32) × (Nat → Int32) × (Nat → Int32) × (Nat → Int32) × (Nat → Int32) × (Nat → Int32) × (Nat → Int32) × (Nat → Int32) × (Nat → Int32) × (Nat → Int32) × (Nat → Int32) × (Nat → Int32) × (Nat → Int32)) :=
  if a0 = (0 : Int32) then
    (f_m_sumOf v_courses v_wide v_hands v_jumpTold v_frosts v_gaps v_frostsNow v_notFrosts v_gapsNow v_fell v_fellAll v_sheepFirst v_sheepMany v_typed v_texts v_told v_moods v_strongs v_frostYear v_frostForce v_gapYear v_gapColumn v_gapHand v_wall v_yearNow v_forceNow v_holdNow v_fellOf v_handAt v_holdAt v_fallsAt v_standAt v_highAt v_throughAt a0).bind (fun o54 =>
    some (o54.1, o54.2.1, o54.2.2.1, o54.2.2.2.1, o54.2.2.2.2.1, o54.2.2.2.2.2.1, o54.2.2.2.2.2.2.1, o54.2.2.2.2.2.2.2.1, o54.2.2.2.2.2.2.2.2.1, o54.2.2.2.2.2.2.2.2.2.1, o54.2.2.2.2.2.2.2.2.2.2.1, o54.2.2.2.2.2.2.2.2.2.2.2.1, o54.2.2.2.2.2.2.2.2.2.2.2.2.1, o54.2.2.2.2.2.2.2.2.2.2.2.2.2.1, o54.2.2.2.2.2.2.2.2.2.2.2.2.2.2.1, o54.2.2.2.2.2.2.2.2.2.2.2.2.2.2.2.1, o54.2.2.2.2.2.2.2.2.2.2.2.2.2.2.2.2.1, o54.2.2.2.2.2.2.2.2.2.2.2.2.2.2.2.2.2.1, o54.2.2.2.2.2.2.2.2.2.2.2.2.2.2.2.2.2.2.1, o54.2.2.2.2.2.2.2.2.2.2.2.2.2.2.2.2.2.2.2.1, o54.2.2.2.2.2.2.2.2.2.2.2.2.2.2.2.2.2.2.2.2.1, o54.2.2.2.2.2.2.2.2.2.2.2.2.2.2.2.2.2.2.2.2.2.1, o54.2.2.2.2.2.2.2.2.2.2.2.2.2.2.2.2.2.2.2.2.2.2.1, o54.2.2.2.2.2.2.2.2.2.2.2.2.2.2.2.2.2.2.2.2.2.2.2.1, o54.2.2.2.2.2.2.2.2.2.2.2.2.2.2.2.2.2.2.2.2.2.2.2.2))
  else if a0 = (1 : Int32) then
    (f_m_sumOf v_courses v_wide v_hands v_jumpTold v_frosts v_gaps v_frostsNow v_notFrosts v_gapsNow v_fell v_fellAll v_sheepFirst v_sheepMany v_typed v_texts v_told v_moods v_strongs v_frostYear v_frostForce v_gapYear v_gapColumn v_gapHand v_wall v_yearNow v_forceNow v_holdNow v_fellOf v_handAt v_holdAt v_fallsAt v_standAt v_highAt v_throughAt a0).bind (fun o54 =>
    some (o54.1, o54.2.1, o54.2.2.1, o54.2.2.2.1, o54.2.2.2.2.1, o54.2.2.2.2.2.1, o54.2.2.2.2.2.2.1, o54.2.2.2.2.2.2.2.1, o54.2.2.2.2.2.2.2.2.1, o54.2.2.2.2.2.2.2.2.2.1, o54.2.2.2.2.2.2.2.2.2.2.1, o54.2.2.2.2.2.2.2.2.2.2.2.1, o54.2.2.2.2.2.2.2.2.2.2.2.2.1, o54.2.2.2.2.2.2.2.2.2.2.2.2.2.1, o54.2.2.2.2.2.2.2.2.2.2.2.2.2.2.1, o54.2.2.2.2.2.2.2.2.2.2.2.2.2.2.2.1, o54.2.2.2.2.2.2.2.2.2.2.2.2.2.2.2.2.1, o54.2.2.2.2.2.2.2.2.2.2.2.2.2.2.2.2.2.1, o54.2.2.2.2.2.2.2.2.2.2.2.2.2.2.2.2.2.2.1, o54.2.2.2.2.2.2.2.2.2.2.2.2.2.2.2.2.2.2.2.1, o54.2.2.2.2.2.2.2.2.2.2.2.2.2.2.2.2.2.2.2.2.1, o54.2.2.2.2.2.2.2.2.2.2.2.2.2.2.2.2.2.2.2.2.2.1, o54.2.2.2.2.2.2.2.2.2.2.2.2.2.2.2.2.2.2.2.2.2.2.1, o54.2.2.2.2.2.2.2.2.2.2.2.2.2.2.2.2.2.2.2.2.2.2.2.1, o54.2.2.2.2.2.2.2.2.2.2.2.2.2.2.2.2.2.2.2.2.2.2.2.2))
  else if a0 = (2 : Int32) then
    gd (inb (a0 - (2 : Int32)) 2) (
    some (v_typed (a0 - (2 : Int32)).toNatClampNeg, v_courses, v_wide, v_hands, v_frostsNow, v_notFrosts, v_gapsNow, v_fell, v_fellAll, v_sheepFirst, v_sheepMany, v_told, v_moods, v_strongs, v_wall, v_yearNow, v_forceNow, v_holdNow, v_fellOf, v_handAt, v_holdAt, v_fallsAt, v_standAt, v_highAt, v_throughAt))
  else if a0 = (3 : Int32) then
    gd (inb (a0 - (2 : Int32)) 2) (
    some (v_typed (a0 - (2 : Int32)).toNatClampNeg, v_courses, v_wide, v_hands, v_frostsNow, v_notFrosts, v_gapsNow, v_fell, v_fellAll, v_sheepFirst, v_sheepMany, v_told, v_moods, v_strongs, v_wall, v_yearNow, v_forceNow, v_holdNow, v_fellOf, v_handAt, v_holdAt, v_fallsAt, v_standAt, v_highAt, v_throughAt))
  else if a0 = (4 : Int32) then
    some (v_frosts, v_courses, v_wide, v_hands, v_frostsNow, v_notFrosts, v_gapsNow, v_fell, v_fellAll, v_sheepFirst, v_sheepMany, v_told, v_moods, v_strongs, v_wall, v_yearNow, v_forceNow, v_holdNow, v_fellOf, v_handAt, v_holdAt, v_fallsAt, v_standAt, v_highAt, v_throughAt)
  else if a0 = (5 : Int32) then
    some (v_gaps, v_courses, v_wide, v_hands, v_frostsNow, v_notFrosts, v_gapsNow, v_fell, v_fellAll, v_sheepFirst, v_sheepMany, v_told, v_moods, v_strongs, v_wall, v_yearNow, v_forceNow, v_holdNow, v_fellOf, v_handAt, v_holdAt, v_fallsAt, v_standAt, v_highAt, v_throughAt)
  else if a0 = (6 : Int32) then
    (f_m_sumOf v_courses v_wide v_hands v_jumpTold v_frosts v_gaps v_frostsNow v_notFrosts v_gapsNow v_fell v_fellAll v_sheepFirst v_sheepMany v_typed v_texts v_told v_moods v_strongs v_frostYear v_frostForce v_gapYear v_gapColumn v_gapHand v_wall v_yearNow v_forceNow v_holdNow v_fellOf v_handAt v_holdAt v_fallsAt v_standAt v_highAt v_throughAt a0).bind (fun o54 =>
    some (o54.1, o54.2.1, o54.2.2.1, o54.2.2.2.1, o54.2.2.2.2.1, o54.2.2.2.2.2.1, o54.2.2.2.2.2.2.1, o54.2.2.2.2.2.2.2.1, o54.2.2.2.2.2.2.2.2.1, o54.2.2.2.2.2.2.2.2.2.1, o54.2.2.2.2.2.2.2.2.2.2.1, o54.2.2.2.2.2.2.2.2.2.2.2.1, o54.2.2.2.2.2.2.2.2.2.2.2.2.1, o54.2.2.2.2.2.2.2.2.2.2.2.2.2.1, o54.2.2.2.2.2.2.2.2.2.2.2.2.2.2.1, o54.2.2.2.2.2.2.2.2.2.2.2.2.2.2.2.1, o54.2.2.2.2.2.2.2.2.2.2.2.2.2.2.2.2.1, o54.2.2.2.2.2.2.2.2.2.2.2.2.2.2.2.2.2.1, o54.2.2.2.2.2.2.2.2.2.2.2.2.2.2.2.2.2.2.1, o54.2.2.2.2.2.2.2.2.2.2.2.2.2.2.2.2.2.2.2.1, o54.2.2.2.2.2.2.2.2.2.2.2.2.2.2.2.2.2.2.2.2.1, o54.2.2.2.2.2.2.2.2.2.2.2.2.2.2.2.2.2.2.2.2.2.1, o54.2.2.2.2.2.2.2.2.2.2.2.2.2.2.2.2.2.2.2.2.2.2.1, o54.2.2.2.2.2.2.2.2.2.2.2.2.2.2.2.2.2.2.2.2.2.2.2.1, o54.2.2.2.2.2.2.2.2.2.2.2.2.2.2.2.2.2.2.2.2.2.2.2.2))
  else if a0 = (7 : Int32) then
    some (v_seens, v_courses, v_wide, v_hands, v_frostsNow, v_notFrosts, v_gapsNow, v_fell, v_fellAll, v_sheepFirst, v_sheepMany, v_told, v_moods, v_strongs, v_wall, v_yearNow, v_forceNow, v_holdNow, v_fellOf, v_handAt, v_holdAt, v_fallsAt, v_standAt, v_highAt, v_throughAt)
  else if a0 = (8 : Int32) then
    some (v_finding, v_courses, v_wide, v_hands, v_frostsNow, v_notFrosts, v_gapsNow, v_fell, v_fellAll, v_sheepFirst, v_sheepMany, v_told, v_moods, v_strongs, v_wall, v_yearNow, v_forceNow, v_holdNow, v_fellOf, v_handAt, v_holdAt, v_fallsAt, v_standAt, v_highAt, v_throughAt)
  else some ((-2 : Int32), v_courses, v_wide, v_hands, v_frostsNow, v_notFrosts, v_gapsNow, v_fell, v_fellAll, v_sheepFirst, v_sheepMany, v_told, v_moods, v_strongs, v_wall, v_yearNow, v_forceNow, v_holdNow, v_fellOf, v_handAt, v_holdAt, v_fallsAt, v_standAt, v_highAt, v_throughAt)

-- WallHandsModel.placeDigest(JI)J
def f_m_placeDigest (v_courses : Int32) (v_wide : Int32) (v_hands : Int32) (v_jumpTold : Int32) (v_frosts : Int32) (v_gaps : Int32) (v_frostsNow : Int32) (v_notFrosts : Int32) (v_gapsNow : Int32) (v_fell : Int32) (v_fellAll : Int32) (v_sheepFirst : Int32) (v_sheepMany : Int32) (v_typed : Nat → Int32) (v_texts : Nat → Int32) (v_told : Nat → Int32) (v_moods : Nat → Int32) (v_strongs : Nat → Int32) (v_frostYear : Nat → Int32) (v_frostForce : Nat → Int32) (v_gapYear : Nat → Int32) (v_gapColumn : Nat → Int32) (v_gapHand : Nat → Int32) (v_wall : Nat → Int32) (v_yearNow : Nat → Int32) (v_forceNow : Nat → Int32) (v_holdNow : Nat → Int32) (v_fellOf : Nat → Int32) (v_handAt : Nat → Int32) (v_holdAt : Nat → Int32) (v_fallsAt : Nat → Int32) (v_standAt : Nat → Int32) (v_highAt : Nat → Int32) (v_throughAt : Nat → Int32) (a0 : Int64) (a1 : Int32) : Option (Int64 × Int32 × Int32 × Int32 × Int32 × Int32 × Int32 × Int32 × Int32 × Int32 × Int32 × (Nat → Int32) × (Nat → Int32) × (Nat → Int32) × (Nat → Int32) × (Nat → Int32) × (Nat → Int32) × (Nat → Int32) × (Nat → Int32) × (Nat → Int32) × (Nat → Int32) × (Nat → Int32) × (Nat → Int32) × (Nat → Int32) × (Nat → Int32)) :=
  (f_m_stoneOf v_courses v_wide v_hands v_typed v_texts v_told v_moods v_strongs a1).bind (fun o7 =>
  (f_m_atOf o7.2.1 o7.2.2.1 o7.2.2.2.1 v_jumpTold v_frosts v_gaps v_frostsNow v_notFrosts v_gapsNow v_fell v_fellAll v_sheepFirst v_sheepMany v_typed v_texts o7.2.2.2.2.1 o7.2.2.2.2.2.1 o7.2.2.2.2.2.2 v_frostYear v_frostForce v_gapYear v_gapColumn v_gapHand v_wall v_yearNow v_forceNow v_holdNow v_fellOf v_handAt v_holdAt v_fallsAt v_standAt v_highAt v_throughAt (0 : Int32) a1 (0 : Int32)).bind (fun o24 =>
  (f_m_atOf o24.2.1 o24.2.2.1 o24.2.2.2.1 v_jumpTold v_frosts v_gaps o24.2.2.2.2.1 o24.2.2.2.2.2.1 o24.2.2.2.2.2.2.1 o24.2.2.2.2.2.2.2.1 o24.2.2.2.2.2.2.2.2.1 o24.2.2.2.2.2.2.2.2.2.1 o24.2.2.2.2.2.2.2.2.2.2.1 v_typed v_texts o24.2.2.2.2.2.2.2.2.2.2.2.1 o24.2.2.2.2.2.2.2.2.2.2.2.2.1 o24.2.2.2.2.2.2.2.2.2.2.2.2.2.1 v_frostYear v_frostForce v_gapYear v_gapColumn v_gapHand o24.2.2.2.2.2.2.2.2.2.2.2.2.2.2.1 o24.2.2.2.2.2.2.2.2.2.2.2.2.2.2.2.1 o24.2.2.2.2.2.2.2.2.2.2.2.2.2.2.2.2.1 o24.2.2.2.2.2.2.2.2.2.2.2.2.2.2.2.2.2.1 o24.2.2.2.2.2.2.2.2.2.2.2.2.2.2.2.2.2.2.1 o24.2.2.2.2.2.2.2.2.2.2.2.2.2.2.2.2.2.2.2.1 o24.2.2.2.2.2.2.2.2.2.2.2.2.2.2.2.2.2.2.2.2.1 o24.2.2.2.2.2.2.2.2.2.2.2.2.2.2.2.2.2.2.2.2.2.1 o24.2.2.2.2.2.2.2.2.2.2.2.2.2.2.2.2.2.2.2.2.2.2.1 o24.2.2.2.2.2.2.2.2.2.2.2.2.2.2.2.2.2.2.2.2.2.2.2.1 o24.2.2.2.2.2.2.2.2.2.2.2.2.2.2.2.2.2.2.2.2.2.2.2.2 (0 : Int32) a1 (1 : Int32)).bind (fun o41 =>
  (f_m_atOf o41.2.1 o41.2.2.1 o41.2.2.2.1 v_jumpTold v_frosts v_gaps o41.2.2.2.2.1 o41.2.2.2.2.2.1 o41.2.2.2.2.2.2.1 o41.2.2.2.2.2.2.2.1 o41.2.2.2.2.2.2.2.2.1 o41.2.2.2.2.2.2.2.2.2.1 o41.2.2.2.2.2.2.2.2.2.2.1 v_typed v_texts o41.2.2.2.2.2.2.2.2.2.2.2.1 o41.2.2.2.2.2.2.2.2.2.2.2.2.1 o41.2.2.2.2.2.2.2.2.2.2.2.2.2.1 v_frostYear v_frostForce v_gapYear v_gapColumn v_gapHand o41.2.2.2.2.2.2.2.2.2.2.2.2.2.2.1 o41.2.2.2.2.2.2.2.2.2.2.2.2.2.2.2.1 o41.2.2.2.2.2.2.2.2.2.2.2.2.2.2.2.2.1 o41.2.2.2.2.2.2.2.2.2.2.2.2.2.2.2.2.2.1 o41.2.2.2.2.2.2.2.2.2.2.2.2.2.2.2.2.2.2.1 o41.2.2.2.2.2.2.2.2.2.2.2.2.2.2.2.2.2.2.2.1 o41.2.2.2.2.2.2.2.2.2.2.2.2.2.2.2.2.2.2.2.2.1 o41.2.2.2.2.2.2.2.2.2.2.2.2.2.2.2.2.2.2.2.2.2.1 o41.2.2.2.2.2.2.2.2.2.2.2.2.2.2.2.2.2.2.2.2.2.2.1 o41.2.2.2.2.2.2.2.2.2.2.2.2.2.2.2.2.2.2.2.2.2.2.2.1 o41.2.2.2.2.2.2.2.2.2.2.2.2.2.2.2.2.2.2.2.2.2.2.2.2 (19 : Int32) a1 (0 : Int32)).bind (fun o59 =>
  (f_m_atOf o59.2.1 o59.2.2.1 o59.2.2.2.1 v_jumpTold v_frosts v_gaps o59.2.2.2.2.1 o59.2.2.2.2.2.1 o59.2.2.2.2.2.2.1 o59.2.2.2.2.2.2.2.1 o59.2.2.2.2.2.2.2.2.1 o59.2.2.2.2.2.2.2.2.2.1 o59.2.2.2.2.2.2.2.2.2.2.1 v_typed v_texts o59.2.2.2.2.2.2.2.2.2.2.2.1 o59.2.2.2.2.2.2.2.2.2.2.2.2.1 o59.2.2.2.2.2.2.2.2.2.2.2.2.2.1 v_frostYear v_frostForce v_gapYear v_gapColumn v_gapHand o59.2.2.2.2.2.2.2.2.2.2.2.2.2.2.1 o59.2.2.2.2.2.2.2.2.2.2.2.2.2.2.2.1 o59.2.2.2.2.2.2.2.2.2.2.2.2.2.2.2.2.1 o59.2.2.2.2.2.2.2.2.2.2.2.2.2.2.2.2.2.1 o59.2.2.2.2.2.2.2.2.2.2.2.2.2.2.2.2.2.2.1 o59.2.2.2.2.2.2.2.2.2.2.2.2.2.2.2.2.2.2.2.1 o59.2.2.2.2.2.2.2.2.2.2.2.2.2.2.2.2.2.2.2.2.1 o59.2.2.2.2.2.2.2.2.2.2.2.2.2.2.2.2.2.2.2.2.2.1 o59.2.2.2.2.2.2.2.2.2.2.2.2.2.2.2.2.2.2.2.2.2.2.1 o59.2.2.2.2.2.2.2.2.2.2.2.2.2.2.2.2.2.2.2.2.2.2.2.1 o59.2.2.2.2.2.2.2.2.2.2.2.2.2.2.2.2.2.2.2.2.2.2.2.2 (19 : Int32) a1 (1 : Int32)).bind (fun o77 =>
  (f_m_liftOf o77.2.1 o77.2.2.1 o77.2.2.2.1 o77.2.2.2.2.2.2.2.1 v_typed v_texts o77.2.2.2.2.2.2.2.2.2.2.2.1 o77.2.2.2.2.2.2.2.2.2.2.2.2.1 o77.2.2.2.2.2.2.2.2.2.2.2.2.2.1 o77.2.2.2.2.2.2.2.2.2.2.2.2.2.2.1 o77.2.2.2.2.2.2.2.2.2.2.2.2.2.2.2.2.2.2.1 a1).bind (fun o92 =>
  some (((31 : Int64) * (((31 : Int64) * (((31 : Int64) * (((31 : Int64) * (((31 : Int64) * (((31 : Int64) * a0) + o7.1.toInt64)) + o24.1.toInt64)) + o41.1.toInt64)) + o59.1.toInt64)) + o77.1.toInt64)) + o92.1.toInt64, o92.2.1, o92.2.2.1, o92.2.2.2.1, o77.2.2.2.2.1, o77.2.2.2.2.2.1, o77.2.2.2.2.2.2.1, o92.2.2.2.2.1, o77.2.2.2.2.2.2.2.2.1, o77.2.2.2.2.2.2.2.2.2.1, o77.2.2.2.2.2.2.2.2.2.2.1, o92.2.2.2.2.2.1, o92.2.2.2.2.2.2.1, o92.2.2.2.2.2.2.2.1, o92.2.2.2.2.2.2.2.2.1, o77.2.2.2.2.2.2.2.2.2.2.2.2.2.2.2.1, o77.2.2.2.2.2.2.2.2.2.2.2.2.2.2.2.2.1, o77.2.2.2.2.2.2.2.2.2.2.2.2.2.2.2.2.2.1, o92.2.2.2.2.2.2.2.2.2, o77.2.2.2.2.2.2.2.2.2.2.2.2.2.2.2.2.2.2.2.1, o77.2.2.2.2.2.2.2.2.2.2.2.2.2.2.2.2.2.2.2.2.1, o77.2.2.2.2.2.2.2.2.2.2.2.2.2.2.2.2.2.2.2.2.2.1, o77.2.2.2.2.2.2.2.2.2.2.2.2.2.2.2.2.2.2.2.2.2.2.1, o77.2.2.2.2.2.2.2.2.2.2.2.2.2.2.2.2.2.2.2.2.2.2.2.1, o77.2.2.2.2.2.2.2.2.2.2.2.2.2.2.2.2.2.2.2.2.2.2.2.2)))))))

-- WallHandsModel.handDigest(JI)J
def f_m_handDigest (v_courses : Int32) (v_wide : Int32) (v_hands : Int32) (v_jumpTold : Int32) (v_frosts : Int32) (v_gaps : Int32) (v_frostsNow : Int32) (v_notFrosts : Int32) (v_gapsNow : Int32) (v_fell : Int32) (v_fellAll : Int32) (v_sheepFirst : Int32) (v_sheepMany : Int32) (v_seens : Int32) (v_typed : Nat → Int32) (v_texts : Nat → Int32) (v_told : Nat → Int32) (v_moods : Nat → Int32) (v_strongs : Nat → Int32) (v_frostYear : Nat → Int32) (v_frostForce : Nat → Int32) (v_gapYear : Nat → Int32) (v_gapColumn : Nat → Int32) (v_gapHand : Nat → Int32) (v_wall : Nat → Int32) (v_yearNow : Nat → Int32) (v_forceNow : Nat → Int32) (v_holdNow : Nat → Int32) (v_fellOf : Nat → Int32) (v_handAt : Nat → Int32) (v_holdAt : Nat → Int32) (v_fallsAt : Nat → Int32) (v_standAt : Nat → Int32) (v_highAt : Nat → Int32) (v_throughAt : Nat → Int32) (v_seenYear : Nat → Int32) (v_seenPlace : Nat → Int32) (v_seenHand : Nat → Int32) (v_standBy : Nat → Int32) (a0 : Int64) (a1 : Int32) : Option (Int64 × Int32 × Int32 × Int32 × Int32 × Int32 × Int32 × Int32 × Int32 × Int32 × Int32 × (Nat → Int32) × (Nat → Int32) × (Nat → Int32) × (Nat → Int32) × (Nat → Int32) × (Nat → Int32) × (Nat → Int32) × (Nat → Int32) × (Nat → Int32) × (Nat → Int32) × (Nat → Int32) × (Nat → Int32) × (Nat → Int32) × (Nat → Int32) × (Nat → Int32)) :=
  (f_m_handOf v_moods v_strongs a1 (0 : Int32)).bind (fun o8 =>
  (f_m_handOf v_moods v_strongs a1 (1 : Int32)).bind (fun o24 =>
  (f_m_mineOf v_courses v_wide v_hands v_jumpTold v_frosts v_gaps v_frostsNow v_notFrosts v_gapsNow v_fell v_fellAll v_sheepFirst v_sheepMany v_typed v_texts v_told v_moods v_strongs v_frostYear v_frostForce v_gapYear v_gapColumn v_gapHand v_wall v_yearNow v_forceNow v_holdNow v_fellOf v_handAt v_holdAt v_fallsAt v_standAt v_highAt v_throughAt a1).bind (fun o39 =>
  (f_m_firmOf o39.2.1 o39.2.2.1 o39.2.2.2.1 v_jumpTold v_frosts v_gaps o39.2.2.2.2.1 o39.2.2.2.2.2.1 o39.2.2.2.2.2.2.1 o39.2.2.2.2.2.2.2.1 o39.2.2.2.2.2.2.2.2.1 o39.2.2.2.2.2.2.2.2.2.1 o39.2.2.2.2.2.2.2.2.2.2.1 v_typed v_texts o39.2.2.2.2.2.2.2.2.2.2.2.1 o39.2.2.2.2.2.2.2.2.2.2.2.2.1 o39.2.2.2.2.2.2.2.2.2.2.2.2.2.1 v_frostYear v_frostForce v_gapYear v_gapColumn v_gapHand o39.2.2.2.2.2.2.2.2.2.2.2.2.2.2.1 o39.2.2.2.2.2.2.2.2.2.2.2.2.2.2.2.1 o39.2.2.2.2.2.2.2.2.2.2.2.2.2.2.2.2.1 o39.2.2.2.2.2.2.2.2.2.2.2.2.2.2.2.2.2.1 o39.2.2.2.2.2.2.2.2.2.2.2.2.2.2.2.2.2.2.1 o39.2.2.2.2.2.2.2.2.2.2.2.2.2.2.2.2.2.2.2.1 o39.2.2.2.2.2.2.2.2.2.2.2.2.2.2.2.2.2.2.2.2.1 o39.2.2.2.2.2.2.2.2.2.2.2.2.2.2.2.2.2.2.2.2.2.1 o39.2.2.2.2.2.2.2.2.2.2.2.2.2.2.2.2.2.2.2.2.2.2.1 o39.2.2.2.2.2.2.2.2.2.2.2.2.2.2.2.2.2.2.2.2.2.2.2.1 o39.2.2.2.2.2.2.2.2.2.2.2.2.2.2.2.2.2.2.2.2.2.2.2.2 a1).bind (fun o54 =>
  (f_m_relayOf o54.2.1 o54.2.2.1 o54.2.2.2.1 v_jumpTold v_frosts v_gaps o54.2.2.2.2.1 o54.2.2.2.2.2.1 o54.2.2.2.2.2.2.1 o54.2.2.2.2.2.2.2.1 o54.2.2.2.2.2.2.2.2.1 o54.2.2.2.2.2.2.2.2.2.1 o54.2.2.2.2.2.2.2.2.2.2.1 v_typed v_texts o54.2.2.2.2.2.2.2.2.2.2.2.1 o54.2.2.2.2.2.2.2.2.2.2.2.2.1 o54.2.2.2.2.2.2.2.2.2.2.2.2.2.1 v_frostYear v_frostForce v_gapYear v_gapColumn v_gapHand o54.2.2.2.2.2.2.2.2.2.2.2.2.2.2.1 o54.2.2.2.2.2.2.2.2.2.2.2.2.2.2.2.1 o54.2.2.2.2.2.2.2.2.2.2.2.2.2.2.2.2.1 o54.2.2.2.2.2.2.2.2.2.2.2.2.2.2.2.2.2.1 o54.2.2.2.2.2.2.2.2.2.2.2.2.2.2.2.2.2.2.1 o54.2.2.2.2.2.2.2.2.2.2.2.2.2.2.2.2.2.2.2.1 o54.2.2.2.2.2.2.2.2.2.2.2.2.2.2.2.2.2.2.2.2.1 o54.2.2.2.2.2.2.2.2.2.2.2.2.2.2.2.2.2.2.2.2.2.1 o54.2.2.2.2.2.2.2.2.2.2.2.2.2.2.2.2.2.2.2.2.2.2.1 o54.2.2.2.2.2.2.2.2.2.2.2.2.2.2.2.2.2.2.2.2.2.2.2.1 o54.2.2.2.2.2.2.2.2.2.2.2.2.2.2.2.2.2.2.2.2.2.2.2.2 a1 (0 : Int32)).bind (fun o70 =>
  (f_m_relayOf o70.2.1 o70.2.2.1 o70.2.2.2.1 v_jumpTold v_frosts v_gaps o70.2.2.2.2.1 o70.2.2.2.2.2.1 o70.2.2.2.2.2.2.1 o70.2.2.2.2.2.2.2.1 o70.2.2.2.2.2.2.2.2.1 o70.2.2.2.2.2.2.2.2.2.1 o70.2.2.2.2.2.2.2.2.2.2.1 v_typed v_texts o70.2.2.2.2.2.2.2.2.2.2.2.1 o70.2.2.2.2.2.2.2.2.2.2.2.2.1 o70.2.2.2.2.2.2.2.2.2.2.2.2.2.1 v_frostYear v_frostForce v_gapYear v_gapColumn v_gapHand o70.2.2.2.2.2.2.2.2.2.2.2.2.2.2.1 o70.2.2.2.2.2.2.2.2.2.2.2.2.2.2.2.1 o70.2.2.2.2.2.2.2.2.2.2.2.2.2.2.2.2.1 o70.2.2.2.2.2.2.2.2.2.2.2.2.2.2.2.2.2.1 o70.2.2.2.2.2.2.2.2.2.2.2.2.2.2.2.2.2.2.1 o70.2.2.2.2.2.2.2.2.2.2.2.2.2.2.2.2.2.2.2.1 o70.2.2.2.2.2.2.2.2.2.2.2.2.2.2.2.2.2.2.2.2.1 o70.2.2.2.2.2.2.2.2.2.2.2.2.2.2.2.2.2.2.2.2.2.1 o70.2.2.2.2.2.2.2.2.2.2.2.2.2.2.2.2.2.2.2.2.2.2.1 o70.2.2.2.2.2.2.2.2.2.2.2.2.2.2.2.2.2.2.2.2.2.2.2.1 o70.2.2.2.2.2.2.2.2.2.2.2.2.2.2.2.2.2.2.2.2.2.2.2.2 a1 (1 : Int32)).bind (fun o86 =>
  (f_m_strongBy o86.2.1 o86.2.2.1 o86.2.2.2.1 v_jumpTold v_frosts v_gaps o86.2.2.2.2.1 o86.2.2.2.2.2.1 o86.2.2.2.2.2.2.1 o86.2.2.2.2.2.2.2.1 o86.2.2.2.2.2.2.2.2.1 o86.2.2.2.2.2.2.2.2.2.1 o86.2.2.2.2.2.2.2.2.2.2.1 v_seens v_typed v_texts o86.2.2.2.2.2.2.2.2.2.2.2.1 o86.2.2.2.2.2.2.2.2.2.2.2.2.1 o86.2.2.2.2.2.2.2.2.2.2.2.2.2.1 v_frostYear v_frostForce v_gapYear v_gapColumn v_gapHand o86.2.2.2.2.2.2.2.2.2.2.2.2.2.2.1 o86.2.2.2.2.2.2.2.2.2.2.2.2.2.2.2.1 o86.2.2.2.2.2.2.2.2.2.2.2.2.2.2.2.2.1 o86.2.2.2.2.2.2.2.2.2.2.2.2.2.2.2.2.2.1 o86.2.2.2.2.2.2.2.2.2.2.2.2.2.2.2.2.2.2.1 o86.2.2.2.2.2.2.2.2.2.2.2.2.2.2.2.2.2.2.2.1 o86.2.2.2.2.2.2.2.2.2.2.2.2.2.2.2.2.2.2.2.2.1 o86.2.2.2.2.2.2.2.2.2.2.2.2.2.2.2.2.2.2.2.2.2.1 o86.2.2.2.2.2.2.2.2.2.2.2.2.2.2.2.2.2.2.2.2.2.2.1 o86.2.2.2.2.2.2.2.2.2.2.2.2.2.2.2.2.2.2.2.2.2.2.2.1 o86.2.2.2.2.2.2.2.2.2.2.2.2.2.2.2.2.2.2.2.2.2.2.2.2 v_seenYear v_seenPlace v_seenHand v_standBy a1).bind (fun o101 =>
  (f_m_moodBy o101.2.1 o101.2.2.1 o101.2.2.2.1 v_jumpTold v_frosts v_gaps o101.2.2.2.2.1 o101.2.2.2.2.2.1 o101.2.2.2.2.2.2.1 o101.2.2.2.2.2.2.2.1 o101.2.2.2.2.2.2.2.2.1 o101.2.2.2.2.2.2.2.2.2.1 o101.2.2.2.2.2.2.2.2.2.2.1 v_seens v_typed v_texts o101.2.2.2.2.2.2.2.2.2.2.2.1 o101.2.2.2.2.2.2.2.2.2.2.2.2.1 o101.2.2.2.2.2.2.2.2.2.2.2.2.2.1 v_frostYear v_frostForce v_gapYear v_gapColumn v_gapHand o101.2.2.2.2.2.2.2.2.2.2.2.2.2.2.1 o101.2.2.2.2.2.2.2.2.2.2.2.2.2.2.2.1 o101.2.2.2.2.2.2.2.2.2.2.2.2.2.2.2.2.1 o101.2.2.2.2.2.2.2.2.2.2.2.2.2.2.2.2.2.1 o101.2.2.2.2.2.2.2.2.2.2.2.2.2.2.2.2.2.2.1 o101.2.2.2.2.2.2.2.2.2.2.2.2.2.2.2.2.2.2.2.1 o101.2.2.2.2.2.2.2.2.2.2.2.2.2.2.2.2.2.2.2.2.1 o101.2.2.2.2.2.2.2.2.2.2.2.2.2.2.2.2.2.2.2.2.2.1 o101.2.2.2.2.2.2.2.2.2.2.2.2.2.2.2.2.2.2.2.2.2.2.1 o101.2.2.2.2.2.2.2.2.2.2.2.2.2.2.2.2.2.2.2.2.2.2.2.1 o101.2.2.2.2.2.2.2.2.2.2.2.2.2.2.2.2.2.2.2.2.2.2.2.2.1 v_seenYear v_seenPlace v_seenHand a1).bind (fun o116 =>
  (f_m_askOf o116.2.1 o116.2.2.1 o116.2.2.2.1 v_jumpTold v_frosts v_gaps o116.2.2.2.2.1 o116.2.2.2.2.2.1 o116.2.2.2.2.2.2.1 o116.2.2.2.2.2.2.2.1 o116.2.2.2.2.2.2.2.2.1 o116.2.2.2.2.2.2.2.2.2.1 o116.2.2.2.2.2.2.2.2.2.2.1 v_seens v_typed v_texts o116.2.2.2.2.2.2.2.2.2.2.2.1 o116.2.2.2.2.2.2.2.2.2.2.2.2.1 o116.2.2.2.2.2.2.2.2.2.2.2.2.2.1 v_frostYear v_frostForce v_gapYear v_gapColumn v_gapHand o116.2.2.2.2.2.2.2.2.2.2.2.2.2.2.1 o116.2.2.2.2.2.2.2.2.2.2.2.2.2.2.2.1 o116.2.2.2.2.2.2.2.2.2.2.2.2.2.2.2.2.1 o116.2.2.2.2.2.2.2.2.2.2.2.2.2.2.2.2.2.1 o116.2.2.2.2.2.2.2.2.2.2.2.2.2.2.2.2.2.2.1 o116.2.2.2.2.2.2.2.2.2.2.2.2.2.2.2.2.2.2.2.1 o116.2.2.2.2.2.2.2.2.2.2.2.2.2.2.2.2.2.2.2.2.1 o116.2.2.2.2.2.2.2.2.2.2.2.2.2.2.2.2.2.2.2.2.2.1 o116.2.2.2.2.2.2.2.2.2.2.2.2.2.2.2.2.2.2.2.2.2.2.1 o116.2.2.2.2.2.2.2.2.2.2.2.2.2.2.2.2.2.2.2.2.2.2.2.1 o116.2.2.2.2.2.2.2.2.2.2.2.2.2.2.2.2.2.2.2.2.2.2.2.2 v_seenYear v_seenPlace v_seenHand o101.2.2.2.2.2.2.2.2.2.2.2.2.2.2.2.2.2.2.2.2.2.2.2.2.2 a1).bind (fun o131 =>
  some (((31 : Int64) * (((31 : Int64) * (((31 : Int64) * (((31 : Int64) * (((31 : Int64) * (((31 : Int64) * (((31 : Int64) * (((31 : Int64) * (((31 : Int64) * a0) + o8.toInt64)) + o24.toInt64)) + o39.1.toInt64)) + o54.1.toInt64)) + o70.1.toInt64)) + o86.1.toInt64)) + o101.1.toInt64)) + o116.1.toInt64)) + o131.1.toInt64, o131.2.1, o131.2.2.1, o131.2.2.2.1, o131.2.2.2.2.1, o131.2.2.2.2.2.1, o131.2.2.2.2.2.2.1, o131.2.2.2.2.2.2.2.1, o131.2.2.2.2.2.2.2.2.1, o131.2.2.2.2.2.2.2.2.2.1, o131.2.2.2.2.2.2.2.2.2.2.1, o131.2.2.2.2.2.2.2.2.2.2.2.1, o131.2.2.2.2.2.2.2.2.2.2.2.2.1, o131.2.2.2.2.2.2.2.2.2.2.2.2.2.1, o131.2.2.2.2.2.2.2.2.2.2.2.2.2.2.1, o131.2.2.2.2.2.2.2.2.2.2.2.2.2.2.2.1, o131.2.2.2.2.2.2.2.2.2.2.2.2.2.2.2.2.1, o131.2.2.2.2.2.2.2.2.2.2.2.2.2.2.2.2.2.1, o131.2.2.2.2.2.2.2.2.2.2.2.2.2.2.2.2.2.2.1, o131.2.2.2.2.2.2.2.2.2.2.2.2.2.2.2.2.2.2.2.1, o131.2.2.2.2.2.2.2.2.2.2.2.2.2.2.2.2.2.2.2.2.1, o131.2.2.2.2.2.2.2.2.2.2.2.2.2.2.2.2.2.2.2.2.2.1, o131.2.2.2.2.2.2.2.2.2.2.2.2.2.2.2.2.2.2.2.2.2.2.1, o131.2.2.2.2.2.2.2.2.2.2.2.2.2.2.2.2.2.2.2.2.2.2.2.1, o131.2.2.2.2.2.2.2.2.2.2.2.2.2.2.2.2.2.2.2.2.2.2.2.2.1, o131.2.2.2.2.2.2.2.2.2.2.2.2.2.2.2.2.2.2.2.2.2.2.2.2.2))))))))))

-- WallHandsModel.digest()J
def f_m_digest_N248 (v_jumpTold : Int32) (v_frosts : Int32) (v_gaps : Int32) (v_seens : Int32) (v_finding : Int32) (v_typed : Nat → Int32) (v_texts : Nat → Int32) (v_frostYear : Nat → Int32) (v_frostForce : Nat → Int32) (v_seenYear : Nat → Int32) (v_seenPlace : Nat → Int32) (v_seenHand : Nat → Int32) (k248 : Int32 → Int32 → Int32 → Int32 → Int32 → Int32 → Int32 → Int32 → Int32 → Int32 → (Nat → Int32) → (Nat → Int32) → (Nat → Int32) → (Nat → Int32) → (Nat → Int32) → (Nat → Int32) → (Nat → Int32) → (Nat → Int32) → (Nat → Int32) → (Nat → Int32) → (Nat → Int32) → (Nat → Int32) → (Nat → Int32) → (Nat → Int32) → (Nat → Int32) → (Nat → Int32) → (Nat → Int32) → (Nat → Int32) → Int64 → Int32 → Option (Int64 × Int32 × Int32 × Int32 × Int32 × Int32 × Int32 × Int32 × Int32 × Int32 × Int32 × (Nat → Int32) × (Nat → Int32) × (Nat → Int32) × (Nat → Int32) × (Nat → Int32) × (Nat → Int32) × (Nat → Int32) × (Nat → Int32) × (Nat → Int32) × (Nat → Int32) × (Nat → Int32) × (Nat → Int32) × (Nat → Int32) × (Nat → Int32) × (Nat → Int32) × (Nat → Int32) × (Nat → Int32) × (Nat → Int32))) (v_courses : Int32) (v_wide : Int32) (v_hands : Int32) (v_frostsNow : Int32) (v_notFrosts : Int32) (v_gapsNow : Int32) (v_fell : Int32) (v_fellAll : Int32) (v_sheepFirst : Int32) (v_sheepMany : Int32) (v_told : Nat → Int32) (v_moods : Nat → Int32) (v_strongs : Nat → Int32) (v_gapYear : Nat → Int32) (v_gapColumn : Nat → Int32) (v_gapHand : Nat → Int32) (v_wall : Nat → Int32) (v_yearNow : Nat → Int32) (v_forceNow : Nat → Int32) (v_holdNow : Nat → Int32) (v_fellOf : Nat → Int32) (v_handAt : Nat → Int32) (v_holdAt : Nat → Int32) (v_fallsAt : Nat → Int32) (v_standAt : Nat → Int32) (v_highAt : Nat → Int32) (v_throughAt : Nat → Int32) (v_standBy : Nat → Int32) (x1 : Int64) (x3 : Int32) : Option (Int64 × Int32 × Int32 × Int32 × Int32 × Int32 × Int32 × Int32 × Int32 × Int32 × Int32 × (Nat → Int32) × (Nat → Int32) × (Nat → Int32) × (Nat → Int32) × (Nat → Int32) × (Nat → Int32) × (Nat → Int32) × (Nat → Int32) × (Nat → Int32) × (Nat → Int32) × (Nat → Int32) × (Nat → Int32) × (Nat → Int32) × (Nat → Int32) × (Nat → Int32) × (Nat → Int32) × (Nat → Int32) × (Nat → Int32)) :=
  if (3 : Int32) ≤ x3 then
    (f_m_neverNow v_courses v_wide v_hands v_jumpTold v_frosts v_gaps v_frostsNow v_notFrosts v_gapsNow v_fell v_fellAll v_sheepFirst v_sheepMany v_seens v_typed v_texts v_told v_moods v_strongs v_frostYear v_frostForce v_gapYear v_gapColumn v_gapHand v_wall v_yearNow v_forceNow v_holdNow v_fellOf v_handAt v_holdAt v_fallsAt v_standAt v_highAt v_throughAt v_seenYear v_seenPlace v_seenHand).bind (fun o279 =>
    (f_m_luckOf o279.2.1 o279.2.2.1 o279.2.2.2.1 v_jumpTold v_frosts v_gaps o279.2.2.2.2.1 o279.2.2.2.2.2.1 o279.2.2.2.2.2.2.1 o279.2.2.2.2.2.2.2.1 o279.2.2.2.2.2.2.2.2.1 o279.2.2.2.2.2.2.2.2.2.1 o279.2.2.2.2.2.2.2.2.2.2.1 v_typed v_texts o279.2.2.2.2.2.2.2.2.2.2.2.1 o279.2.2.2.2.2.2.2.2.2.2.2.2.1 o279.2.2.2.2.2.2.2.2.2.2.2.2.2.1 v_frostYear v_frostForce v_gapYear v_gapColumn v_gapHand o279.2.2.2.2.2.2.2.2.2.2.2.2.2.2.1 o279.2.2.2.2.2.2.2.2.2.2.2.2.2.2.2.1 o279.2.2.2.2.2.2.2.2.2.2.2.2.2.2.2.2.1 o279.2.2.2.2.2.2.2.2.2.2.2.2.2.2.2.2.2.1 o279.2.2.2.2.2.2.2.2.2.2.2.2.2.2.2.2.2.2.1 o279.2.2.2.2.2.2.2.2.2.2.2.2.2.2.2.2.2.2.2.1 o279.2.2.2.2.2.2.2.2.2.2.2.2.2.2.2.2.2.2.2.2.1 o279.2.2.2.2.2.2.2.2.2.2.2.2.2.2.2.2.2.2.2.2.2.1 o279.2.2.2.2.2.2.2.2.2.2.2.2.2.2.2.2.2.2.2.2.2.2.1 o279.2.2.2.2.2.2.2.2.2.2.2.2.2.2.2.2.2.2.2.2.2.2.2.1 o279.2.2.2.2.2.2.2.2.2.2.2.2.2.2.2.2.2.2.2.2.2.2.2.2 (5 : Int32) (0 : Int32)).bind (fun o293 =>
    (f_m_luckOf o293.2.1 o293.2.2.1 o293.2.2.2.1 v_jumpTold v_frosts v_gaps o293.2.2.2.2.1 o293.2.2.2.2.2.1 o293.2.2.2.2.2.2.1 o293.2.2.2.2.2.2.2.1 o293.2.2.2.2.2.2.2.2.1 o293.2.2.2.2.2.2.2.2.2.1 o293.2.2.2.2.2.2.2.2.2.2.1 v_typed v_texts o293.2.2.2.2.2.2.2.2.2.2.2.1 o293.2.2.2.2.2.2.2.2.2.2.2.2.1 o293.2.2.2.2.2.2.2.2.2.2.2.2.2.1 v_frostYear v_frostForce v_gapYear v_gapColumn v_gapHand o293.2.2.2.2.2.2.2.2.2.2.2.2.2.2.1 o293.2.2.2.2.2.2.2.2.2.2.2.2.2.2.2.1 o293.2.2.2.2.2.2.2.2.2.2.2.2.2.2.2.2.1 o293.2.2.2.2.2.2.2.2.2.2.2.2.2.2.2.2.2.1 o293.2.2.2.2.2.2.2.2.2.2.2.2.2.2.2.2.2.2.1 o293.2.2.2.2.2.2.2.2.2.2.2.2.2.2.2.2.2.2.2.1 o293.2.2.2.2.2.2.2.2.2.2.2.2.2.2.2.2.2.2.2.2.1 o293.2.2.2.2.2.2.2.2.2.2.2.2.2.2.2.2.2.2.2.2.2.1 o293.2.2.2.2.2.2.2.2.2.2.2.2.2.2.2.2.2.2.2.2.2.2.1 o293.2.2.2.2.2.2.2.2.2.2.2.2.2.2.2.2.2.2.2.2.2.2.2.1 o293.2.2.2.2.2.2.2.2.2.2.2.2.2.2.2.2.2.2.2.2.2.2.2.2 (5 : Int32) (1 : Int32)).bind (fun o306 =>
    (f_m_agesOf o306.2.1 o306.2.2.1 o306.2.2.2.1 v_jumpTold v_frosts v_gaps o306.2.2.2.2.1 o306.2.2.2.2.2.1 o306.2.2.2.2.2.2.1 o306.2.2.2.2.2.2.2.1 o306.2.2.2.2.2.2.2.2.1 o306.2.2.2.2.2.2.2.2.2.1 o306.2.2.2.2.2.2.2.2.2.2.1 v_typed v_texts o306.2.2.2.2.2.2.2.2.2.2.2.1 o306.2.2.2.2.2.2.2.2.2.2.2.2.1 o306.2.2.2.2.2.2.2.2.2.2.2.2.2.1 v_frostYear v_frostForce v_gapYear v_gapColumn v_gapHand o306.2.2.2.2.2.2.2.2.2.2.2.2.2.2.1 o306.2.2.2.2.2.2.2.2.2.2.2.2.2.2.2.1 o306.2.2.2.2.2.2.2.2.2.2.2.2.2.2.2.2.1 o306.2.2.2.2.2.2.2.2.2.2.2.2.2.2.2.2.2.1 o306.2.2.2.2.2.2.2.2.2.2.2.2.2.2.2.2.2.2.1 o306.2.2.2.2.2.2.2.2.2.2.2.2.2.2.2.2.2.2.2.1 o306.2.2.2.2.2.2.2.2.2.2.2.2.2.2.2.2.2.2.2.2.1 o306.2.2.2.2.2.2.2.2.2.2.2.2.2.2.2.2.2.2.2.2.2.1 o306.2.2.2.2.2.2.2.2.2.2.2.2.2.2.2.2.2.2.2.2.2.2.1 o306.2.2.2.2.2.2.2.2.2.2.2.2.2.2.2.2.2.2.2.2.2.2.2.1 o306.2.2.2.2.2.2.2.2.2.2.2.2.2.2.2.2.2.2.2.2.2.2.2.2 (7 : Int32) (5 : Int32) (0 : Int32)).bind (fun o321 =>
    (f_m_agesOf o321.2.1 o321.2.2.1 o321.2.2.2.1 v_jumpTold v_frosts v_gaps o321.2.2.2.2.1 o321.2.2.2.2.2.1 o321.2.2.2.2.2.2.1 o321.2.2.2.2.2.2.2.1 o321.2.2.2.2.2.2.2.2.1 o321.2.2.2.2.2.2.2.2.2.1 o321.2.2.2.2.2.2.2.2.2.2.1 v_typed v_texts o321.2.2.2.2.2.2.2.2.2.2.2.1 o321.2.2.2.2.2.2.2.2.2.2.2.2.1 o321.2.2.2.2.2.2.2.2.2.2.2.2.2.1 v_frostYear v_frostForce v_gapYear v_gapColumn v_gapHand o321.2.2.2.2.2.2.2.2.2.2.2.2.2.2.1 o321.2.2.2.2.2.2.2.2.2.2.2.2.2.2.2.1 o321.2.2.2.2.2.2.2.2.2.2.2.2.2.2.2.2.1 o321.2.2.2.2.2.2.2.2.2.2.2.2.2.2.2.2.2.1 o321.2.2.2.2.2.2.2.2.2.2.2.2.2.2.2.2.2.2.1 o321.2.2.2.2.2.2.2.2.2.2.2.2.2.2.2.2.2.2.2.1 o321.2.2.2.2.2.2.2.2.2.2.2.2.2.2.2.2.2.2.2.2.1 o321.2.2.2.2.2.2.2.2.2.2.2.2.2.2.2.2.2.2.2.2.2.1 o321.2.2.2.2.2.2.2.2.2.2.2.2.2.2.2.2.2.2.2.2.2.2.1 o321.2.2.2.2.2.2.2.2.2.2.2.2.2.2.2.2.2.2.2.2.2.2.2.1 o321.2.2.2.2.2.2.2.2.2.2.2.2.2.2.2.2.2.2.2.2.2.2.2.2 (7 : Int32) (5 : Int32) (1 : Int32)).bind (fun o337 =>
    some (((31 : Int64) * (((31 : Int64) * (((31 : Int64) * (((31 : Int64) * (((31 : Int64) * x1) + o279.1.toInt64)) + o293.1)) + o306.1)) + o321.1.toInt64)) + o337.1.toInt64, o337.2.1, o337.2.2.1, o337.2.2.2.1, o337.2.2.2.2.1, o337.2.2.2.2.2.1, o337.2.2.2.2.2.2.1, o337.2.2.2.2.2.2.2.1, o337.2.2.2.2.2.2.2.2.1, o337.2.2.2.2.2.2.2.2.2.1, o337.2.2.2.2.2.2.2.2.2.2.1, o337.2.2.2.2.2.2.2.2.2.2.2.1, o337.2.2.2.2.2.2.2.2.2.2.2.2.1, o337.2.2.2.2.2.2.2.2.2.2.2.2.2.1, v_gapYear, v_gapColumn, v_gapHand, o337.2.2.2.2.2.2.2.2.2.2.2.2.2.2.1, o337.2.2.2.2.2.2.2.2.2.2.2.2.2.2.2.1, o337.2.2.2.2.2.2.2.2.2.2.2.2.2.2.2.2.1, o337.2.2.2.2.2.2.2.2.2.2.2.2.2.2.2.2.2.1, o337.2.2.2.2.2.2.2.2.2.2.2.2.2.2.2.2.2.2.1, o337.2.2.2.2.2.2.2.2.2.2.2.2.2.2.2.2.2.2.2.1, o337.2.2.2.2.2.2.2.2.2.2.2.2.2.2.2.2.2.2.2.2.1, o337.2.2.2.2.2.2.2.2.2.2.2.2.2.2.2.2.2.2.2.2.2.1, o337.2.2.2.2.2.2.2.2.2.2.2.2.2.2.2.2.2.2.2.2.2.2.1, o337.2.2.2.2.2.2.2.2.2.2.2.2.2.2.2.2.2.2.2.2.2.2.2.1, o337.2.2.2.2.2.2.2.2.2.2.2.2.2.2.2.2.2.2.2.2.2.2.2.2, v_standBy))))))
  else
    (f_m_mendOf v_courses v_wide v_hands v_jumpTold v_frosts v_gaps v_frostsNow v_notFrosts v_gapsNow v_fell v_fellAll v_sheepFirst v_sheepMany v_typed v_texts v_told v_moods v_strongs v_frostYear v_frostForce v_gapYear v_gapColumn v_gapHand v_wall v_yearNow v_forceNow v_holdNow v_fellOf v_handAt v_holdAt v_fallsAt v_standAt v_highAt v_throughAt (5 : Int32) x3).bind (fun o261 =>
    k248 o261.2.1 o261.2.2.1 o261.2.2.2.1 o261.2.2.2.2.1 o261.2.2.2.2.2.1 o261.2.2.2.2.2.2.1 o261.2.2.2.2.2.2.2.1 o261.2.2.2.2.2.2.2.2.1 o261.2.2.2.2.2.2.2.2.2.1 o261.2.2.2.2.2.2.2.2.2.2.1 o261.2.2.2.2.2.2.2.2.2.2.2.1 o261.2.2.2.2.2.2.2.2.2.2.2.2.1 o261.2.2.2.2.2.2.2.2.2.2.2.2.2.1 o261.2.2.2.2.2.2.2.2.2.2.2.2.2.2.1 o261.2.2.2.2.2.2.2.2.2.2.2.2.2.2.2.1 o261.2.2.2.2.2.2.2.2.2.2.2.2.2.2.2.2.1 o261.2.2.2.2.2.2.2.2.2.2.2.2.2.2.2.2.2.1 o261.2.2.2.2.2.2.2.2.2.2.2.2.2.2.2.2.2.2.1 o261.2.2.2.2.2.2.2.2.2.2.2.2.2.2.2.2.2.2.2.1 o261.2.2.2.2.2.2.2.2.2.2.2.2.2.2.2.2.2.2.2.2.1 o261.2.2.2.2.2.2.2.2.2.2.2.2.2.2.2.2.2.2.2.2.2.1 o261.2.2.2.2.2.2.2.2.2.2.2.2.2.2.2.2.2.2.2.2.2.2.1 o261.2.2.2.2.2.2.2.2.2.2.2.2.2.2.2.2.2.2.2.2.2.2.2.1 o261.2.2.2.2.2.2.2.2.2.2.2.2.2.2.2.2.2.2.2.2.2.2.2.2.1 o261.2.2.2.2.2.2.2.2.2.2.2.2.2.2.2.2.2.2.2.2.2.2.2.2.2.1 o261.2.2.2.2.2.2.2.2.2.2.2.2.2.2.2.2.2.2.2.2.2.2.2.2.2.2.1 o261.2.2.2.2.2.2.2.2.2.2.2.2.2.2.2.2.2.2.2.2.2.2.2.2.2.2.2 v_standBy (((31 : Int64) * x1) + o261.1.toInt64) (x3 + (1 : Int32)))

def f_m_digest_N187 (v_jumpTold : Int32) (v_frosts : Int32) (v_gaps : Int32) (v_seens : Int32) (v_finding : Int32) (v_typed : Nat → Int32) (v_texts : Nat → Int32) (v_frostYear : Nat → Int32) (v_frostForce : Nat → Int32) (v_seenYear : Nat → Int32) (v_seenPlace : Nat → Int32) (v_seenHand : Nat → Int32) (k187 : Int32 → Int32 → Int32 → Int32 → Int32 → Int32 → Int32 → Int32 → Int32 → Int32 → (Nat → Int32) → (Nat → Int32) → (Nat → Int32) → (Nat → Int32) → (Nat → Int32) → (Nat → Int32) → (Nat → Int32) → (Nat → Int32) → (Nat → Int32) → (Nat → Int32) → (Nat → Int32) → (Nat → Int32) → (Nat → Int32) → (Nat → Int32) → (Nat → Int32) → (Nat → Int32) → (Nat → Int32) → (Nat → Int32) → Int64 → Int32 → Option (Int64 × Int32 × Int32 × Int32 × Int32 × Int32 × Int32 × Int32 × Int32 × Int32 × Int32 × (Nat → Int32) × (Nat → Int32) × (Nat → Int32) × (Nat → Int32) × (Nat → Int32) × (Nat → Int32) × (Nat → Int32) × (Nat → Int32) × (Nat → Int32) × (Nat → Int32) × (Nat → Int32) × (Nat → Int32) × (Nat → Int32) × (Nat → Int32) × (Nat → Int32) × (Nat → Int32) × (Nat → Int32) × (Nat → Int32))) (v_courses : Int32) (v_wide : Int32) (v_hands : Int32) (v_frostsNow : Int32) (v_notFrosts : Int32) (v_gapsNow : Int32) (v_fell : Int32) (v_fellAll : Int32) (v_sheepFirst : Int32) (v_sheepMany : Int32) (v_told : Nat → Int32) (v_moods : Nat → Int32) (v_strongs : Nat → Int32) (v_gapYear : Nat → Int32) (v_gapColumn : Nat → Int32) (v_gapHand : Nat → Int32) (v_wall : Nat → Int32) (v_yearNow : Nat → Int32) (v_forceNow : Nat → Int32) (v_holdNow : Nat → Int32) (v_fellOf : Nat → Int32) (v_handAt : Nat → Int32) (v_holdAt : Nat → Int32) (v_fallsAt : Nat → Int32) (v_standAt : Nat → Int32) (v_highAt : Nat → Int32) (v_throughAt : Nat → Int32) (v_standBy : Nat → Int32) (x1 : Int64) (x3 : Int32) : Option (Int64 × Int32 × Int32 × Int32 × Int32 × Int32 × Int32 × Int32 × Int32 × Int32 × Int32 × (Nat → Int32) × (Nat → Int32) × (Nat → Int32) × (Nat → Int32) × (Nat → Int32) × (Nat → Int32) × (Nat → Int32) × (Nat → Int32) × (Nat → Int32) × (Nat → Int32) × (Nat → Int32) × (Nat → Int32) × (Nat → Int32) × (Nat → Int32) × (Nat → Int32) × (Nat → Int32) × (Nat → Int32) × (Nat → Int32)) :=
  if v_hands ≤ x3 then
    (f_m_sheepOf v_courses v_wide v_hands v_jumpTold v_frosts v_gaps v_frostsNow v_notFrosts v_gapsNow v_fell v_fellAll v_sheepFirst v_sheepMany v_typed v_texts v_told v_moods v_strongs v_frostYear v_frostForce v_gapYear v_gapColumn v_gapHand v_wall v_yearNow v_forceNow v_holdNow v_fellOf v_handAt v_holdAt v_fallsAt v_standAt v_highAt v_throughAt (0 : Int32)).bind (fun o215 =>
    (f_m_sheepOf o215.2.1 o215.2.2.1 o215.2.2.2.1 v_jumpTold v_frosts v_gaps o215.2.2.2.2.1 o215.2.2.2.2.2.1 o215.2.2.2.2.2.2.1 o215.2.2.2.2.2.2.2.1 o215.2.2.2.2.2.2.2.2.1 o215.2.2.2.2.2.2.2.2.2.1 o215.2.2.2.2.2.2.2.2.2.2.1 v_typed v_texts o215.2.2.2.2.2.2.2.2.2.2.2.1 o215.2.2.2.2.2.2.2.2.2.2.2.2.1 o215.2.2.2.2.2.2.2.2.2.2.2.2.2.1 v_frostYear v_frostForce v_gapYear v_gapColumn v_gapHand o215.2.2.2.2.2.2.2.2.2.2.2.2.2.2.1 o215.2.2.2.2.2.2.2.2.2.2.2.2.2.2.2.1 o215.2.2.2.2.2.2.2.2.2.2.2.2.2.2.2.2.1 o215.2.2.2.2.2.2.2.2.2.2.2.2.2.2.2.2.2.1 o215.2.2.2.2.2.2.2.2.2.2.2.2.2.2.2.2.2.2.1 o215.2.2.2.2.2.2.2.2.2.2.2.2.2.2.2.2.2.2.2.1 o215.2.2.2.2.2.2.2.2.2.2.2.2.2.2.2.2.2.2.2.2.1 o215.2.2.2.2.2.2.2.2.2.2.2.2.2.2.2.2.2.2.2.2.2.1 o215.2.2.2.2.2.2.2.2.2.2.2.2.2.2.2.2.2.2.2.2.2.2.1 o215.2.2.2.2.2.2.2.2.2.2.2.2.2.2.2.2.2.2.2.2.2.2.2.1 o215.2.2.2.2.2.2.2.2.2.2.2.2.2.2.2.2.2.2.2.2.2.2.2.2 (1 : Int32)).bind (fun o228 =>
    (f_m_bestNow o228.2.1 o228.2.2.1 o228.2.2.2.1 v_jumpTold v_frosts v_gaps o228.2.2.2.2.1 o228.2.2.2.2.2.1 o228.2.2.2.2.2.2.1 o228.2.2.2.2.2.2.2.1 o228.2.2.2.2.2.2.2.2.1 o228.2.2.2.2.2.2.2.2.2.1 o228.2.2.2.2.2.2.2.2.2.2.1 v_typed v_texts o228.2.2.2.2.2.2.2.2.2.2.2.1 o228.2.2.2.2.2.2.2.2.2.2.2.2.1 o228.2.2.2.2.2.2.2.2.2.2.2.2.2.1 v_frostYear v_frostForce v_gapYear v_gapColumn v_gapHand o228.2.2.2.2.2.2.2.2.2.2.2.2.2.2.1 o228.2.2.2.2.2.2.2.2.2.2.2.2.2.2.2.1 o228.2.2.2.2.2.2.2.2.2.2.2.2.2.2.2.2.1 o228.2.2.2.2.2.2.2.2.2.2.2.2.2.2.2.2.2.1 o228.2.2.2.2.2.2.2.2.2.2.2.2.2.2.2.2.2.2.1 o228.2.2.2.2.2.2.2.2.2.2.2.2.2.2.2.2.2.2.2.1 o228.2.2.2.2.2.2.2.2.2.2.2.2.2.2.2.2.2.2.2.2.1 o228.2.2.2.2.2.2.2.2.2.2.2.2.2.2.2.2.2.2.2.2.2.1 o228.2.2.2.2.2.2.2.2.2.2.2.2.2.2.2.2.2.2.2.2.2.2.1 o228.2.2.2.2.2.2.2.2.2.2.2.2.2.2.2.2.2.2.2.2.2.2.2.1 o228.2.2.2.2.2.2.2.2.2.2.2.2.2.2.2.2.2.2.2.2.2.2.2.2).bind (fun o240 =>
    iter (fun _ _ _ _ _ _ _ _ _ _ _ _ _ _ _ _ _ _ _ _ _ _ _ _ _ _ _ _ _ _ => none) (f_m_digest_N248 v_jumpTold v_frosts v_gaps v_seens v_finding v_typed v_texts v_frostYear v_frostForce v_seenYear v_seenPlace v_seenHand) 1000 o240.2.1 o240.2.2.1 o240.2.2.2.1 o240.2.2.2.2.1 o240.2.2.2.2.2.1 o240.2.2.2.2.2.2.1 o240.2.2.2.2.2.2.2.1 o240.2.2.2.2.2.2.2.2.1 o240.2.2.2.2.2.2.2.2.2.1 o240.2.2.2.2.2.2.2.2.2.2.1 o240.2.2.2.2.2.2.2.2.2.2.2.1 o240.2.2.2.2.2.2.2.2.2.2.2.2.1 o240.2.2.2.2.2.2.2.2.2.2.2.2.2.1 v_gapYear v_gapColumn v_gapHand o240.2.2.2.2.2.2.2.2.2.2.2.2.2.2.1 o240.2.2.2.2.2.2.2.2.2.2.2.2.2.2.2.1 o240.2.2.2.2.2.2.2.2.2.2.2.2.2.2.2.2.1 o240.2.2.2.2.2.2.2.2.2.2.2.2.2.2.2.2.2.1 o240.2.2.2.2.2.2.2.2.2.2.2.2.2.2.2.2.2.2.1 o240.2.2.2.2.2.2.2.2.2.2.2.2.2.2.2.2.2.2.2.1 o240.2.2.2.2.2.2.2.2.2.2.2.2.2.2.2.2.2.2.2.2.1 o240.2.2.2.2.2.2.2.2.2.2.2.2.2.2.2.2.2.2.2.2.2.1 o240.2.2.2.2.2.2.2.2.2.2.2.2.2.2.2.2.2.2.2.2.2.2.1 o240.2.2.2.2.2.2.2.2.2.2.2.2.2.2.2.2.2.2.2.2.2.2.2.1 o240.2.2.2.2.2.2.2.2.2.2.2.2.2.2.2.2.2.2.2.2.2.2.2.2 v_standBy (((31 : Int64) * (((31 : Int64) * (((31 : Int64) * x1) + o215.1.toInt64)) + o228.1.toInt64)) + o240.1.toInt64) (0 : Int32))))
  else
    (f_m_handDigest v_courses v_wide v_hands v_jumpTold v_frosts v_gaps v_frostsNow v_notFrosts v_gapsNow v_fell v_fellAll v_sheepFirst v_sheepMany v_seens v_typed v_texts v_told v_moods v_strongs v_frostYear v_frostForce v_gapYear v_gapColumn v_gapHand v_wall v_yearNow v_forceNow v_holdNow v_fellOf v_handAt v_holdAt v_fallsAt v_standAt v_highAt v_throughAt v_seenYear v_seenPlace v_seenHand v_standBy x1 x3).bind (fun o198 =>
    k187 o198.2.1 o198.2.2.1 o198.2.2.2.1 o198.2.2.2.2.1 o198.2.2.2.2.2.1 o198.2.2.2.2.2.2.1 o198.2.2.2.2.2.2.2.1 o198.2.2.2.2.2.2.2.2.1 o198.2.2.2.2.2.2.2.2.2.1 o198.2.2.2.2.2.2.2.2.2.2.1 o198.2.2.2.2.2.2.2.2.2.2.2.1 o198.2.2.2.2.2.2.2.2.2.2.2.2.1 o198.2.2.2.2.2.2.2.2.2.2.2.2.2.1 v_gapYear v_gapColumn v_gapHand o198.2.2.2.2.2.2.2.2.2.2.2.2.2.2.1 o198.2.2.2.2.2.2.2.2.2.2.2.2.2.2.2.1 o198.2.2.2.2.2.2.2.2.2.2.2.2.2.2.2.2.1 o198.2.2.2.2.2.2.2.2.2.2.2.2.2.2.2.2.2.1 o198.2.2.2.2.2.2.2.2.2.2.2.2.2.2.2.2.2.2.1 o198.2.2.2.2.2.2.2.2.2.2.2.2.2.2.2.2.2.2.2.1 o198.2.2.2.2.2.2.2.2.2.2.2.2.2.2.2.2.2.2.2.2.1 o198.2.2.2.2.2.2.2.2.2.2.2.2.2.2.2.2.2.2.2.2.2.1 o198.2.2.2.2.2.2.2.2.2.2.2.2.2.2.2.2.2.2.2.2.2.2.1 o198.2.2.2.2.2.2.2.2.2.2.2.2.2.2.2.2.2.2.2.2.2.2.2.1 o198.2.2.2.2.2.2.2.2.2.2.2.2.2.2.2.2.2.2.2.2.2.2.2.2.1 o198.2.2.2.2.2.2.2.2.2.2.2.2.2.2.2.2.2.2.2.2.2.2.2.2.2 o198.1 (x3 + (1 : Int32)))

def f_m_digest_N160 (v_jumpTold : Int32) (v_frosts : Int32) (v_gaps : Int32) (v_seens : Int32) (v_finding : Int32) (v_typed : Nat → Int32) (v_texts : Nat → Int32) (v_frostYear : Nat → Int32) (v_frostForce : Nat → Int32) (v_seenYear : Nat → Int32) (v_seenPlace : Nat → Int32) (v_seenHand : Nat → Int32) (k160 : Int32 → Int32 → Int32 → Int32 → Int32 → Int32 → Int32 → Int32 → Int32 → Int32 → (Nat → Int32) → (Nat → Int32) → (Nat → Int32) → (Nat → Int32) → (Nat → Int32) → (Nat → Int32) → (Nat → Int32) → (Nat → Int32) → (Nat → Int32) → (Nat → Int32) → (Nat → Int32) → (Nat → Int32) → (Nat → Int32) → (Nat → Int32) → (Nat → Int32) → (Nat → Int32) → (Nat → Int32) → (Nat → Int32) → Int64 → Int32 → Option (Int64 × Int32 × Int32 × Int32 × Int32 × Int32 × Int32 × Int32 × Int32 × Int32 × Int32 × (Nat → Int32) × (Nat → Int32) × (Nat → Int32) × (Nat → Int32) × (Nat → Int32) × (Nat → Int32) × (Nat → Int32) × (Nat → Int32) × (Nat → Int32) × (Nat → Int32) × (Nat → Int32) × (Nat → Int32) × (Nat → Int32) × (Nat → Int32) × (Nat → Int32) × (Nat → Int32) × (Nat → Int32) × (Nat → Int32))) (v_courses : Int32) (v_wide : Int32) (v_hands : Int32) (v_frostsNow : Int32) (v_notFrosts : Int32) (v_gapsNow : Int32) (v_fell : Int32) (v_fellAll : Int32) (v_sheepFirst : Int32) (v_sheepMany : Int32) (v_told : Nat → Int32) (v_moods : Nat → Int32) (v_strongs : Nat → Int32) (v_gapYear : Nat → Int32) (v_gapColumn : Nat → Int32) (v_gapHand : Nat → Int32) (v_wall : Nat → Int32) (v_yearNow : Nat → Int32) (v_forceNow : Nat → Int32) (v_holdNow : Nat → Int32) (v_fellOf : Nat → Int32) (v_handAt : Nat → Int32) (v_holdAt : Nat → Int32) (v_fallsAt : Nat → Int32) (v_standAt : Nat → Int32) (v_highAt : Nat → Int32) (v_throughAt : Nat → Int32) (v_standBy : Nat → Int32) (x1 : Int64) (x3 : Int32) : Option (Int64 × Int32 × Int32 × Int32 × Int32 × Int32 × Int32 × Int32 × Int32 × Int32 × Int32 × (Nat → Int32) × (Nat → Int32) × (Nat → Int32) × (Nat → Int32) × (Nat → Int32) × (Nat → Int32) × (Nat → Int32) × (Nat → Int32) × (Nat → Int32) × (Nat → Int32) × (Nat → Int32) × (Nat → Int32) × (Nat → Int32) × (Nat → Int32) × (Nat → Int32) × (Nat → Int32) × (Nat → Int32) × (Nat → Int32)) :=
  if (20 : Int32) ≤ x3 then
    iter (fun _ _ _ _ _ _ _ _ _ _ _ _ _ _ _ _ _ _ _ _ _ _ _ _ _ _ _ _ _ _ => none) (f_m_digest_N187 v_jumpTold v_frosts v_gaps v_seens v_finding v_typed v_texts v_frostYear v_frostForce v_seenYear v_seenPlace v_seenHand) 1000 v_courses v_wide v_hands v_frostsNow v_notFrosts v_gapsNow v_fell v_fellAll v_sheepFirst v_sheepMany v_told v_moods v_strongs v_gapYear v_gapColumn v_gapHand v_wall v_yearNow v_forceNow v_holdNow v_fellOf v_handAt v_holdAt v_fallsAt v_standAt v_highAt v_throughAt v_standBy x1 (0 : Int32)
  else
    (f_m_fallsOf v_courses v_wide v_hands v_jumpTold v_frosts v_gaps v_frostsNow v_notFrosts v_gapsNow v_fell v_fellAll v_sheepFirst v_sheepMany v_typed v_texts v_told v_moods v_strongs v_frostYear v_frostForce v_gapYear v_gapColumn v_gapHand v_wall v_yearNow v_forceNow v_holdNow v_fellOf v_handAt v_holdAt v_fallsAt v_standAt v_highAt v_throughAt x3).bind (fun o173 =>
    k160 o173.2.1 o173.2.2.1 o173.2.2.2.1 o173.2.2.2.2.1 o173.2.2.2.2.2.1 o173.2.2.2.2.2.2.1 o173.2.2.2.2.2.2.2.1 o173.2.2.2.2.2.2.2.2.1 o173.2.2.2.2.2.2.2.2.2.1 o173.2.2.2.2.2.2.2.2.2.2.1 o173.2.2.2.2.2.2.2.2.2.2.2.1 o173.2.2.2.2.2.2.2.2.2.2.2.2.1 o173.2.2.2.2.2.2.2.2.2.2.2.2.2.1 v_gapYear v_gapColumn v_gapHand o173.2.2.2.2.2.2.2.2.2.2.2.2.2.2.1 o173.2.2.2.2.2.2.2.2.2.2.2.2.2.2.2.1 o173.2.2.2.2.2.2.2.2.2.2.2.2.2.2.2.2.1 o173.2.2.2.2.2.2.2.2.2.2.2.2.2.2.2.2.2.1 o173.2.2.2.2.2.2.2.2.2.2.2.2.2.2.2.2.2.2.1 o173.2.2.2.2.2.2.2.2.2.2.2.2.2.2.2.2.2.2.2.1 o173.2.2.2.2.2.2.2.2.2.2.2.2.2.2.2.2.2.2.2.2.1 o173.2.2.2.2.2.2.2.2.2.2.2.2.2.2.2.2.2.2.2.2.2.1 o173.2.2.2.2.2.2.2.2.2.2.2.2.2.2.2.2.2.2.2.2.2.2.1 o173.2.2.2.2.2.2.2.2.2.2.2.2.2.2.2.2.2.2.2.2.2.2.2.1 o173.2.2.2.2.2.2.2.2.2.2.2.2.2.2.2.2.2.2.2.2.2.2.2.2 v_standBy (((31 : Int64) * x1) + o173.1.toInt64) (x3 + (1 : Int32)))

def f_m_digest_N80 (v_jumpTold : Int32) (v_frosts : Int32) (v_gaps : Int32) (v_seens : Int32) (v_finding : Int32) (v_typed : Nat → Int32) (v_texts : Nat → Int32) (v_frostYear : Nat → Int32) (v_frostForce : Nat → Int32) (v_seenYear : Nat → Int32) (v_seenPlace : Nat → Int32) (v_seenHand : Nat → Int32) (k80 : Int32 → Int32 → Int32 → Int32 → Int32 → Int32 → Int32 → Int32 → Int32 → Int32 → (Nat → Int32) → (Nat → Int32) → (Nat → Int32) → (Nat → Int32) → (Nat → Int32) → (Nat → Int32) → (Nat → Int32) → (Nat → Int32) → (Nat → Int32) → (Nat → Int32) → (Nat → Int32) → (Nat → Int32) → (Nat → Int32) → (Nat → Int32) → (Nat → Int32) → (Nat → Int32) → (Nat → Int32) → (Nat → Int32) → Int64 → Int32 → Option (Int64 × Int32 × Int32 × Int32 × Int32 × Int32 × Int32 × Int32 × Int32 × Int32 × Int32 × (Nat → Int32) × (Nat → Int32) × (Nat → Int32) × (Nat → Int32) × (Nat → Int32) × (Nat → Int32) × (Nat → Int32) × (Nat → Int32) × (Nat → Int32) × (Nat → Int32) × (Nat → Int32) × (Nat → Int32) × (Nat → Int32) × (Nat → Int32) × (Nat → Int32) × (Nat → Int32) × (Nat → Int32) × (Nat → Int32))) (v_courses : Int32) (v_wide : Int32) (v_hands : Int32) (v_frostsNow : Int32) (v_notFrosts : Int32) (v_gapsNow : Int32) (v_fell : Int32) (v_fellAll : Int32) (v_sheepFirst : Int32) (v_sheepMany : Int32) (v_told : Nat → Int32) (v_moods : Nat → Int32) (v_strongs : Nat → Int32) (v_gapYear : Nat → Int32) (v_gapColumn : Nat → Int32) (v_gapHand : Nat → Int32) (v_wall : Nat → Int32) (v_yearNow : Nat → Int32) (v_forceNow : Nat → Int32) (v_holdNow : Nat → Int32) (v_fellOf : Nat → Int32) (v_handAt : Nat → Int32) (v_holdAt : Nat → Int32) (v_fallsAt : Nat → Int32) (v_standAt : Nat → Int32) (v_highAt : Nat → Int32) (v_throughAt : Nat → Int32) (v_standBy : Nat → Int32) (x1 : Int64) (x3 : Int32) : Option (Int64 × Int32 × Int32 × Int32 × Int32 × Int32 × Int32 × Int32 × Int32 × Int32 × Int32 × (Nat → Int32) × (Nat → Int32) × (Nat → Int32) × (Nat → Int32) × (Nat → Int32) × (Nat → Int32) × (Nat → Int32) × (Nat → Int32) × (Nat → Int32) × (Nat → Int32) × (Nat → Int32) × (Nat → Int32) × (Nat → Int32) × (Nat → Int32) × (Nat → Int32) × (Nat → Int32) × (Nat → Int32) × (Nat → Int32)) :=
  if v_wide ≤ x3 then
    iter (fun _ _ _ _ _ _ _ _ _ _ _ _ _ _ _ _ _ _ _ _ _ _ _ _ _ _ _ _ _ _ => none) (f_m_digest_N160 v_jumpTold v_frosts v_gaps v_seens v_finding v_typed v_texts v_frostYear v_frostForce v_seenYear v_seenPlace v_seenHand) 1000 v_courses v_wide v_hands v_frostsNow v_notFrosts v_gapsNow v_fell v_fellAll v_sheepFirst v_sheepMany v_told v_moods v_strongs v_gapYear v_gapColumn v_gapHand v_wall v_yearNow v_forceNow v_holdNow v_fellOf v_handAt v_holdAt v_fallsAt v_standAt v_highAt v_throughAt v_standBy x1 (0 : Int32)
  else
    (f_m_columnOf v_courses v_wide v_hands v_jumpTold v_frosts v_gaps v_frostsNow v_notFrosts v_gapsNow v_fell v_fellAll v_sheepFirst v_sheepMany v_typed v_texts v_told v_moods v_strongs v_frostYear v_frostForce v_gapYear v_gapColumn v_gapHand v_wall v_yearNow v_forceNow v_holdNow v_fellOf v_handAt v_holdAt v_fallsAt v_standAt v_highAt v_throughAt (9 : Int32) x3 (0 : Int32)).bind (fun o98 =>
    (f_m_columnOf o98.2.1 o98.2.2.1 o98.2.2.2.1 v_jumpTold v_frosts v_gaps o98.2.2.2.2.1 o98.2.2.2.2.2.1 o98.2.2.2.2.2.2.1 o98.2.2.2.2.2.2.2.1 o98.2.2.2.2.2.2.2.2.1 o98.2.2.2.2.2.2.2.2.2.1 o98.2.2.2.2.2.2.2.2.2.2.1 v_typed v_texts o98.2.2.2.2.2.2.2.2.2.2.2.1 o98.2.2.2.2.2.2.2.2.2.2.2.2.1 o98.2.2.2.2.2.2.2.2.2.2.2.2.2.1 v_frostYear v_frostForce v_gapYear v_gapColumn v_gapHand o98.2.2.2.2.2.2.2.2.2.2.2.2.2.2.1 o98.2.2.2.2.2.2.2.2.2.2.2.2.2.2.2.1 o98.2.2.2.2.2.2.2.2.2.2.2.2.2.2.2.2.1 o98.2.2.2.2.2.2.2.2.2.2.2.2.2.2.2.2.2.1 o98.2.2.2.2.2.2.2.2.2.2.2.2.2.2.2.2.2.2.1 o98.2.2.2.2.2.2.2.2.2.2.2.2.2.2.2.2.2.2.2.1 o98.2.2.2.2.2.2.2.2.2.2.2.2.2.2.2.2.2.2.2.2.1 o98.2.2.2.2.2.2.2.2.2.2.2.2.2.2.2.2.2.2.2.2.2.1 o98.2.2.2.2.2.2.2.2.2.2.2.2.2.2.2.2.2.2.2.2.2.2.1 o98.2.2.2.2.2.2.2.2.2.2.2.2.2.2.2.2.2.2.2.2.2.2.2.1 o98.2.2.2.2.2.2.2.2.2.2.2.2.2.2.2.2.2.2.2.2.2.2.2.2 (9 : Int32) x3 (1 : Int32)).bind (fun o114 =>
    (f_m_columnOf o114.2.1 o114.2.2.1 o114.2.2.2.1 v_jumpTold v_frosts v_gaps o114.2.2.2.2.1 o114.2.2.2.2.2.1 o114.2.2.2.2.2.2.1 o114.2.2.2.2.2.2.2.1 o114.2.2.2.2.2.2.2.2.1 o114.2.2.2.2.2.2.2.2.2.1 o114.2.2.2.2.2.2.2.2.2.2.1 v_typed v_texts o114.2.2.2.2.2.2.2.2.2.2.2.1 o114.2.2.2.2.2.2.2.2.2.2.2.2.1 o114.2.2.2.2.2.2.2.2.2.2.2.2.2.1 v_frostYear v_frostForce v_gapYear v_gapColumn v_gapHand o114.2.2.2.2.2.2.2.2.2.2.2.2.2.2.1 o114.2.2.2.2.2.2.2.2.2.2.2.2.2.2.2.1 o114.2.2.2.2.2.2.2.2.2.2.2.2.2.2.2.2.1 o114.2.2.2.2.2.2.2.2.2.2.2.2.2.2.2.2.2.1 o114.2.2.2.2.2.2.2.2.2.2.2.2.2.2.2.2.2.2.1 o114.2.2.2.2.2.2.2.2.2.2.2.2.2.2.2.2.2.2.2.1 o114.2.2.2.2.2.2.2.2.2.2.2.2.2.2.2.2.2.2.2.2.1 o114.2.2.2.2.2.2.2.2.2.2.2.2.2.2.2.2.2.2.2.2.2.1 o114.2.2.2.2.2.2.2.2.2.2.2.2.2.2.2.2.2.2.2.2.2.2.1 o114.2.2.2.2.2.2.2.2.2.2.2.2.2.2.2.2.2.2.2.2.2.2.2.1 o114.2.2.2.2.2.2.2.2.2.2.2.2.2.2.2.2.2.2.2.2.2.2.2.2 (19 : Int32) x3 (0 : Int32)).bind (fun o130 =>
    (f_m_columnOf o130.2.1 o130.2.2.1 o130.2.2.2.1 v_jumpTold v_frosts v_gaps o130.2.2.2.2.1 o130.2.2.2.2.2.1 o130.2.2.2.2.2.2.1 o130.2.2.2.2.2.2.2.1 o130.2.2.2.2.2.2.2.2.1 o130.2.2.2.2.2.2.2.2.2.1 o130.2.2.2.2.2.2.2.2.2.2.1 v_typed v_texts o130.2.2.2.2.2.2.2.2.2.2.2.1 o130.2.2.2.2.2.2.2.2.2.2.2.2.1 o130.2.2.2.2.2.2.2.2.2.2.2.2.2.1 v_frostYear v_frostForce v_gapYear v_gapColumn v_gapHand o130.2.2.2.2.2.2.2.2.2.2.2.2.2.2.1 o130.2.2.2.2.2.2.2.2.2.2.2.2.2.2.2.1 o130.2.2.2.2.2.2.2.2.2.2.2.2.2.2.2.2.1 o130.2.2.2.2.2.2.2.2.2.2.2.2.2.2.2.2.2.1 o130.2.2.2.2.2.2.2.2.2.2.2.2.2.2.2.2.2.2.1 o130.2.2.2.2.2.2.2.2.2.2.2.2.2.2.2.2.2.2.2.1 o130.2.2.2.2.2.2.2.2.2.2.2.2.2.2.2.2.2.2.2.2.1 o130.2.2.2.2.2.2.2.2.2.2.2.2.2.2.2.2.2.2.2.2.2.1 o130.2.2.2.2.2.2.2.2.2.2.2.2.2.2.2.2.2.2.2.2.2.2.1 o130.2.2.2.2.2.2.2.2.2.2.2.2.2.2.2.2.2.2.2.2.2.2.2.1 o130.2.2.2.2.2.2.2.2.2.2.2.2.2.2.2.2.2.2.2.2.2.2.2.2 (19 : Int32) x3 (1 : Int32)).bind (fun o146 =>
    k80 o146.2.1 o146.2.2.1 o146.2.2.2.1 o146.2.2.2.2.1 o146.2.2.2.2.2.1 o146.2.2.2.2.2.2.1 o146.2.2.2.2.2.2.2.1 o146.2.2.2.2.2.2.2.2.1 o146.2.2.2.2.2.2.2.2.2.1 o146.2.2.2.2.2.2.2.2.2.2.1 o146.2.2.2.2.2.2.2.2.2.2.2.1 o146.2.2.2.2.2.2.2.2.2.2.2.2.1 o146.2.2.2.2.2.2.2.2.2.2.2.2.2.1 v_gapYear v_gapColumn v_gapHand o146.2.2.2.2.2.2.2.2.2.2.2.2.2.2.1 o146.2.2.2.2.2.2.2.2.2.2.2.2.2.2.2.1 o146.2.2.2.2.2.2.2.2.2.2.2.2.2.2.2.2.1 o146.2.2.2.2.2.2.2.2.2.2.2.2.2.2.2.2.2.1 o146.2.2.2.2.2.2.2.2.2.2.2.2.2.2.2.2.2.2.1 o146.2.2.2.2.2.2.2.2.2.2.2.2.2.2.2.2.2.2.2.1 o146.2.2.2.2.2.2.2.2.2.2.2.2.2.2.2.2.2.2.2.2.1 o146.2.2.2.2.2.2.2.2.2.2.2.2.2.2.2.2.2.2.2.2.2.1 o146.2.2.2.2.2.2.2.2.2.2.2.2.2.2.2.2.2.2.2.2.2.2.1 o146.2.2.2.2.2.2.2.2.2.2.2.2.2.2.2.2.2.2.2.2.2.2.2.1 o146.2.2.2.2.2.2.2.2.2.2.2.2.2.2.2.2.2.2.2.2.2.2.2.2 v_standBy (((31 : Int64) * (((31 : Int64) * (((31 : Int64) * (((31 : Int64) * x1) + o98.1.toInt64)) + o114.1.toInt64)) + o130.1.toInt64)) + o146.1.toInt64) (x3 + (1 : Int32))))))

def f_m_digest_N59 (v_jumpTold : Int32) (v_frosts : Int32) (v_gaps : Int32) (v_seens : Int32) (v_finding : Int32) (v_typed : Nat → Int32) (v_texts : Nat → Int32) (v_frostYear : Nat → Int32) (v_frostForce : Nat → Int32) (v_seenYear : Nat → Int32) (v_seenPlace : Nat → Int32) (v_seenHand : Nat → Int32) (k59 : Int32 → Int32 → Int32 → Int32 → Int32 → Int32 → Int32 → Int32 → Int32 → Int32 → (Nat → Int32) → (Nat → Int32) → (Nat → Int32) → (Nat → Int32) → (Nat → Int32) → (Nat → Int32) → (Nat → Int32) → (Nat → Int32) → (Nat → Int32) → (Nat → Int32) → (Nat → Int32) → (Nat → Int32) → (Nat → Int32) → (Nat → Int32) → (Nat → Int32) → (Nat → Int32) → (Nat → Int32) → (Nat → Int32) → Int64 → Int32 → Option (Int64 × Int32 × Int32 × Int32 × Int32 × Int32 × Int32 × Int32 × Int32 × Int32 × Int32 × (Nat → Int32) × (Nat → Int32) × (Nat → Int32) × (Nat → Int32) × (Nat → Int32) × (Nat → Int32) × (Nat → Int32) × (Nat → Int32) × (Nat → Int32) × (Nat → Int32) × (Nat → Int32) × (Nat → Int32) × (Nat → Int32) × (Nat → Int32) × (Nat → Int32) × (Nat → Int32) × (Nat → Int32) × (Nat → Int32))) (v_courses : Int32) (v_wide : Int32) (v_hands : Int32) (v_frostsNow : Int32) (v_notFrosts : Int32) (v_gapsNow : Int32) (v_fell : Int32) (v_fellAll : Int32) (v_sheepFirst : Int32) (v_sheepMany : Int32) (v_told : Nat → Int32) (v_moods : Nat → Int32) (v_strongs : Nat → Int32) (v_gapYear : Nat → Int32) (v_gapColumn : Nat → Int32) (v_gapHand : Nat → Int32) (v_wall : Nat → Int32) (v_yearNow : Nat → Int32) (v_forceNow : Nat → Int32) (v_holdNow : Nat → Int32) (v_fellOf : Nat → Int32) (v_handAt : Nat → Int32) (v_holdAt : Nat → Int32) (v_fallsAt : Nat → Int32) (v_standAt : Nat → Int32) (v_highAt : Nat → Int32) (v_throughAt : Nat → Int32) (v_standBy : Nat → Int32) (x1 : Int64) (x3 : Int32) : Option (Int64 × Int32 × Int32 × Int32 × Int32 × Int32 × Int32 × Int32 × Int32 × Int32 × Int32 × (Nat → Int32) × (Nat → Int32) × (Nat → Int32) × (Nat → Int32) × (Nat → Int32) × (Nat → Int32) × (Nat → Int32) × (Nat → Int32) × (Nat → Int32) × (Nat → Int32) × (Nat → Int32) × (Nat → Int32) × (Nat → Int32) × (Nat → Int32) × (Nat → Int32) × (Nat → Int32) × (Nat → Int32) × (Nat → Int32)) :=
  if (40 : Int32) ≤ x3 then
    iter (fun _ _ _ _ _ _ _ _ _ _ _ _ _ _ _ _ _ _ _ _ _ _ _ _ _ _ _ _ _ _ => none) (f_m_digest_N80 v_jumpTold v_frosts v_gaps v_seens v_finding v_typed v_texts v_frostYear v_frostForce v_seenYear v_seenPlace v_seenHand) 1000 v_courses v_wide v_hands v_frostsNow v_notFrosts v_gapsNow v_fell v_fellAll v_sheepFirst v_sheepMany v_told v_moods v_strongs v_gapYear v_gapColumn v_gapHand v_wall v_yearNow v_forceNow v_holdNow v_fellOf v_handAt v_holdAt v_fallsAt v_standAt v_highAt v_throughAt v_standBy x1 (0 : Int32)
  else
    (f_m_placeDigest v_courses v_wide v_hands v_jumpTold v_frosts v_gaps v_frostsNow v_notFrosts v_gapsNow v_fell v_fellAll v_sheepFirst v_sheepMany v_typed v_texts v_told v_moods v_strongs v_frostYear v_frostForce v_gapYear v_gapColumn v_gapHand v_wall v_yearNow v_forceNow v_holdNow v_fellOf v_handAt v_holdAt v_fallsAt v_standAt v_highAt v_throughAt x1 x3).bind (fun o68 =>
    k59 o68.2.1 o68.2.2.1 o68.2.2.2.1 o68.2.2.2.2.1 o68.2.2.2.2.2.1 o68.2.2.2.2.2.2.1 o68.2.2.2.2.2.2.2.1 o68.2.2.2.2.2.2.2.2.1 o68.2.2.2.2.2.2.2.2.2.1 o68.2.2.2.2.2.2.2.2.2.2.1 o68.2.2.2.2.2.2.2.2.2.2.2.1 o68.2.2.2.2.2.2.2.2.2.2.2.2.1 o68.2.2.2.2.2.2.2.2.2.2.2.2.2.1 v_gapYear v_gapColumn v_gapHand o68.2.2.2.2.2.2.2.2.2.2.2.2.2.2.1 o68.2.2.2.2.2.2.2.2.2.2.2.2.2.2.2.1 o68.2.2.2.2.2.2.2.2.2.2.2.2.2.2.2.2.1 o68.2.2.2.2.2.2.2.2.2.2.2.2.2.2.2.2.2.1 o68.2.2.2.2.2.2.2.2.2.2.2.2.2.2.2.2.2.2.1 o68.2.2.2.2.2.2.2.2.2.2.2.2.2.2.2.2.2.2.2.1 o68.2.2.2.2.2.2.2.2.2.2.2.2.2.2.2.2.2.2.2.2.1 o68.2.2.2.2.2.2.2.2.2.2.2.2.2.2.2.2.2.2.2.2.2.1 o68.2.2.2.2.2.2.2.2.2.2.2.2.2.2.2.2.2.2.2.2.2.2.1 o68.2.2.2.2.2.2.2.2.2.2.2.2.2.2.2.2.2.2.2.2.2.2.2.1 o68.2.2.2.2.2.2.2.2.2.2.2.2.2.2.2.2.2.2.2.2.2.2.2.2 v_standBy o68.1 (x3 + (1 : Int32)))

def f_m_digest_N6 (v_jumpTold : Int32) (v_frosts : Int32) (v_gaps : Int32) (v_seens : Int32) (v_finding : Int32) (v_typed : Nat → Int32) (v_texts : Nat → Int32) (v_frostYear : Nat → Int32) (v_frostForce : Nat → Int32) (v_seenYear : Nat → Int32) (v_seenPlace : Nat → Int32) (v_seenHand : Nat → Int32) (k6 : Int32 → Int32 → Int32 → Int32 → Int32 → Int32 → Int32 → Int32 → Int32 → Int32 → (Nat → Int32) → (Nat → Int32) → (Nat → Int32) → (Nat → Int32) → (Nat → Int32) → (Nat → Int32) → (Nat → Int32) → (Nat → Int32) → (Nat → Int32) → (Nat → Int32) → (Nat → Int32) → (Nat → Int32) → (Nat → Int32) → (Nat → Int32) → (Nat → Int32) → (Nat → Int32) → (Nat → Int32) → (Nat → Int32) → Int64 → Int32 → Option (Int64 × Int32 × Int32 × Int32 × Int32 × Int32 × Int32 × Int32 × Int32 × Int32 × Int32 × (Nat → Int32) × (Nat → Int32) × (Nat → Int32) × (Nat → Int32) × (Nat → Int32) × (Nat → Int32) × (Nat → Int32) × (Nat → Int32) × (Nat → Int32) × (Nat → Int32) × (Nat → Int32) × (Nat → Int32) × (Nat → Int32) × (Nat → Int32) × (Nat → Int32) × (Nat → Int32) × (Nat → Int32) × (Nat → Int32))) (v_courses : Int32) (v_wide : Int32) (v_hands : Int32) (v_frostsNow : Int32) (v_notFrosts : Int32) (v_gapsNow : Int32) (v_fell : Int32) (v_fellAll : Int32) (v_sheepFirst : Int32) (v_sheepMany : Int32) (v_told : Nat → Int32) (v_moods : Nat → Int32) (v_strongs : Nat → Int32) (v_gapYear : Nat → Int32) (v_gapColumn : Nat → Int32) (v_gapHand : Nat → Int32) (v_wall : Nat → Int32) (v_yearNow : Nat → Int32) (v_forceNow : Nat → Int32) (v_holdNow : Nat → Int32) (v_fellOf : Nat → Int32) (v_handAt : Nat → Int32) (v_holdAt : Nat → Int32) (v_fallsAt : Nat → Int32) (v_standAt : Nat → Int32) (v_highAt : Nat → Int32) (v_throughAt : Nat → Int32) (v_standBy : Nat → Int32) (x1 : Int64) (x3 : Int32) : Option (Int64 × Int32 × Int32 × Int32 × Int32 × Int32 × Int32 × Int32 × Int32 × Int32 × Int32 × (Nat → Int32) × (Nat → Int32) × (Nat → Int32) × (Nat → Int32) × (Nat → Int32) × (Nat → Int32) × (Nat → Int32) × (Nat → Int32) × (Nat → Int32) × (Nat → Int32) × (Nat → Int32) × (Nat → Int32) × (Nat → Int32) × (Nat → Int32) × (Nat → Int32) × (Nat → Int32) × (Nat → Int32) × (Nat → Int32)) :=
  if (8 : Int32) ≤ x3 then
    (f_m_faultOf v_courses v_wide v_hands v_typed v_texts v_told v_moods v_strongs (0 : Int32)).bind (fun o38 =>
    (f_m_faultOf o38.2.1 o38.2.2.1 o38.2.2.2.1 v_typed v_texts o38.2.2.2.2.1 o38.2.2.2.2.2.1 o38.2.2.2.2.2.2 (1 : Int32)).bind (fun o51 =>
    iter (fun _ _ _ _ _ _ _ _ _ _ _ _ _ _ _ _ _ _ _ _ _ _ _ _ _ _ _ _ _ _ => none) (f_m_digest_N59 v_jumpTold v_frosts v_gaps v_seens v_finding v_typed v_texts v_frostYear v_frostForce v_seenYear v_seenPlace v_seenHand) 1000 o51.2.1 o51.2.2.1 o51.2.2.2.1 v_frostsNow v_notFrosts v_gapsNow v_fell v_fellAll v_sheepFirst v_sheepMany o51.2.2.2.2.1 o51.2.2.2.2.2.1 o51.2.2.2.2.2.2 v_gapYear v_gapColumn v_gapHand v_wall v_yearNow v_forceNow v_holdNow v_fellOf v_handAt v_holdAt v_fallsAt v_standAt v_highAt v_throughAt v_standBy (((31 : Int64) * (((31 : Int64) * x1) + o38.1.toInt64)) + o51.1.toInt64) (0 : Int32)))
  else
    (f_m_count v_courses v_wide v_hands v_jumpTold v_frosts v_gaps v_frostsNow v_notFrosts v_gapsNow v_fell v_fellAll v_sheepFirst v_sheepMany v_seens v_finding v_typed v_texts v_told v_moods v_strongs v_frostYear v_frostForce v_gapYear v_gapColumn v_gapHand v_wall v_yearNow v_forceNow v_holdNow v_fellOf v_handAt v_holdAt v_fallsAt v_standAt v_highAt v_throughAt x3).bind (fun o19 =>
    k6 o19.2.1 o19.2.2.1 o19.2.2.2.1 o19.2.2.2.2.1 o19.2.2.2.2.2.1 o19.2.2.2.2.2.2.1 o19.2.2.2.2.2.2.2.1 o19.2.2.2.2.2.2.2.2.1 o19.2.2.2.2.2.2.2.2.2.1 o19.2.2.2.2.2.2.2.2.2.2.1 o19.2.2.2.2.2.2.2.2.2.2.2.1 o19.2.2.2.2.2.2.2.2.2.2.2.2.1 o19.2.2.2.2.2.2.2.2.2.2.2.2.2.1 v_gapYear v_gapColumn v_gapHand o19.2.2.2.2.2.2.2.2.2.2.2.2.2.2.1 o19.2.2.2.2.2.2.2.2.2.2.2.2.2.2.2.1 o19.2.2.2.2.2.2.2.2.2.2.2.2.2.2.2.2.1 o19.2.2.2.2.2.2.2.2.2.2.2.2.2.2.2.2.2.1 o19.2.2.2.2.2.2.2.2.2.2.2.2.2.2.2.2.2.2.1 o19.2.2.2.2.2.2.2.2.2.2.2.2.2.2.2.2.2.2.2.1 o19.2.2.2.2.2.2.2.2.2.2.2.2.2.2.2.2.2.2.2.2.1 o19.2.2.2.2.2.2.2.2.2.2.2.2.2.2.2.2.2.2.2.2.2.1 o19.2.2.2.2.2.2.2.2.2.2.2.2.2.2.2.2.2.2.2.2.2.2.1 o19.2.2.2.2.2.2.2.2.2.2.2.2.2.2.2.2.2.2.2.2.2.2.2.1 o19.2.2.2.2.2.2.2.2.2.2.2.2.2.2.2.2.2.2.2.2.2.2.2.2 v_standBy (((31 : Int64) * x1) + o19.1.toInt64) (x3 + (1 : Int32)))

def f_m_digest (v_courses : Int32) (v_wide : Int32) (v_hands : Int32) (v_jumpTold : Int32) (v_frosts : Int32) (v_gaps : Int32) (v_frostsNow : Int32) (v_notFrosts : Int32) (v_gapsNow : Int32) (v_fell : Int32) (v_fellAll : Int32) (v_sheepFirst : Int32) (v_sheepMany : Int32) (v_seens : Int32) (v_finding : Int32) (v_typed : Nat → Int32) (v_texts : Nat → Int32) (v_told : Nat → Int32) (v_moods : Nat → Int32) (v_strongs : Nat → Int32) (v_frostYear : Nat → Int32) (v_frostForce : Nat → Int32) (v_gapYear : Nat → Int32) (v_gapColumn : Nat → Int32) (v_gapHand : Nat → Int32) (v_wall : Nat → Int32) (v_yearNow : Nat → Int32) (v_forceNow : Nat → Int32) (v_holdNow : Nat → Int32) (v_fellOf : Nat → Int32) (v_handAt : Nat → Int32) (v_holdAt : Nat → Int32) (v_fallsAt : Nat → Int32) (v_standAt : Nat → Int32) (v_highAt : Nat → Int32) (v_throughAt : Nat → Int32) (v_seenYear : Nat → Int32) (v_seenPlace : Nat → Int32) (v_seenHand : Nat → Int32) (v_standBy : Nat → Int32) : Option (Int64 × Int32 × Int32 × Int32 × Int32 × Int32 × Int32 × Int32 × Int32 × Int32 × Int32 × (Nat → Int32) × (Nat → Int32) × (Nat → Int32) × (Nat → Int32) × (Nat → Int32) × (Nat → Int32) × (Nat → Int32) × (Nat → Int32) × (Nat → Int32) × (Nat → Int32) × (Nat → Int32) × (Nat → Int32) × (Nat → Int32) × (Nat → Int32) × (Nat → Int32) × (Nat → Int32) × (Nat → Int32) × (Nat → Int32)) :=
  iter (fun _ _ _ _ _ _ _ _ _ _ _ _ _ _ _ _ _ _ _ _ _ _ _ _ _ _ _ _ _ _ => none) (f_m_digest_N6 v_jumpTold v_frosts v_gaps v_seens v_finding v_typed v_texts v_frostYear v_frostForce v_seenYear v_seenPlace v_seenHand) 1000 v_courses v_wide v_hands v_frostsNow v_notFrosts v_gapsNow v_fell v_fellAll v_sheepFirst v_sheepMany v_told v_moods v_strongs v_gapYear v_gapColumn v_gapHand v_wall v_yearNow v_forceNow v_holdNow v_fellOf v_handAt v_holdAt v_fallsAt v_standAt v_highAt v_throughAt v_standBy (17 : Int64) (0 : Int32)
