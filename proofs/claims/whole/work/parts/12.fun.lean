def qar_fillJ (n : Nat) (K : zK) (M : zM) (a0 a1 : Int) : Option (zM) :=
  (zln K 102 a0).bind fun v1 =>
  zwh (σ := Int × zM) (fun s2 =>
    if zw v1 ≤ zw s2.1 then
      some (.inr s2.2)
    else
      (zpa K s2.2 102 a0 s2.1 a1).bind fun M3 =>
      some (.inl (s2.1 + 1, M3))) n (0, M)
def qar_fillI (n : Nat) (K : zK) (M : zM) (a0 a1 : Int) : Option (zM) :=
  (zln K 100 a0).bind fun v1 =>
  zwh (σ := Int × zM) (fun s2 =>
    if zw v1 ≤ zw s2.1 then
      some (.inr s2.2)
    else
      (zpa K s2.2 100 a0 s2.1 a1).bind fun M3 =>
      some (.inl (s2.1 + 1, M3))) n (0, M)
def qsg_coder (K : zK) (M : zM) (self : Int) : Option (Int) :=
  if zw 1 = 0 then
    (zcr 1).bind fun z1 => some z1
  else
    (zcr 0).bind fun z2 => some z2
def qsg_length (K : zK) (M : zM) (self : Int) : Option (Int) :=
  (qsg_coder K M self).bind fun v1 =>
  some (zshr ((zSb.getD (-10 - (self - 8)).toNat []).length : Int) v1)
def qsg_isLatin1 (K : zK) (M : zM) (self : Int) : Option (Int) :=
  if zw 1 = 0 then
    some 0
  else
    if zw 0 = 0 then
      some 1
    else
      some 0
def qpx_checkIndex (K : zK) (M : zM) (a0 a1 a2 : Int) : Option (Int) :=
  zesc (β := Unit) (if zw a0 < 0 then
    some (.inl ())
  else
    if zw a0 < zw a1 then
      some (.inr a0)
    else
      some (.inl ())) fun j1 =>
  none
def qsg_checkIndex (K : zK) (M : zM) (a0 a1 : Int) : Option (Unit) :=
  (qpx_checkIndex K M a0 a1 (-20)).bind fun v1 =>
  some ()
def qsx_charAt (K : zK) (M : zM) (a0 a1 : Int) : Option (Int) :=
  (qsg_checkIndex K M a1 ((zSb.getD (-10 - a0).toNat []).length : Int)).bind fun v1 =>
  (zsb a0 a1).bind fun v2 =>
  (zcr ((zand v2 255) % 65536)).bind fun z3 => some z3
def qsg_charAt (K : zK) (M : zM) (self a1 : Int) : Option (Int) :=
  (qsg_isLatin1 K M self).bind fun v1 =>
  if zw v1 = 0 then
    none
  else
    (qsx_charAt K M (self - 8) a1).bind fun v2 =>
    (zcr v2).bind fun z3 => some z3
def qla_cellCount (K : zK) (M : zM) (self : Int) : Option (Int) :=
  (zgf K M 2 7 self 0).bind fun v1 =>
  (zgf K M 2 7 self 1).bind fun v2 =>
  some (v1 * v2)
def qsh_size (K : zK) (M : zM) (self : Int) : Option (Int) :=
  (zgf K M 6 3 self 0).bind fun v1 =>
  if zw v1 = zw 4 then
    (zgf K M 6 3 self 1).bind fun v2 =>
    (zgf K M 6 3 self 2).bind fun v3 =>
    some (v2 * v3)
  else
    (zgf K M 6 3 self 1).bind fun v4 =>
    some v4
def qla_has (K : zK) (M : zM) (self a1 a2 : Int) : Option (Int) :=
  if zw a1 < 0 then
    some 0
  else
    (zgf K M 2 7 self 0).bind fun v1 =>
    if zw v1 ≤ zw a1 then
      some 0
    else
      if zw a2 < 0 then
        some 0
      else
        (zgf K M 2 7 self 1).bind fun v2 =>
        if zw v2 ≤ zw a2 then
          some 0
        else
          some 1
def qsh_rowsDown (K : zK) (M : zM) (self a1 : Int) : Option (Int) :=
  (zgf K M 6 3 self 0).bind fun v1 =>
  if zw v1 = zw 4 then
    (zgf K M 6 3 self 2).bind fun v2 =>
    (zdv a1 v2).bind fun v3 =>
    some v3
  else
    (zgf K M 6 3 self 0).bind fun v4 =>
    if zw v4 = 0 then
      some 0
    else
      (zgf K M 6 3 self 2).bind fun v5 =>
      some (a1 * v5)
def qsh_columnsRight (K : zK) (M : zM) (self a1 : Int) : Option (Int) :=
  (zgf K M 6 3 self 0).bind fun v1 =>
  if zw v1 = zw 4 then
    (zgf K M 6 3 self 2).bind fun v2 =>
    (zrm a1 v2).bind fun v3 =>
    some v3
  else
    (zgf K M 6 3 self 0).bind fun v4 =>
    if zw v4 = zw 1 then
      some 0
    else
      (zgf K M 6 3 self 0).bind fun v5 =>
      if zw v5 = zw 3 then
        (zgf K M 6 3 self 2).bind fun v6 =>
        some ((-a1) * v6)
      else
        (zgf K M 6 3 self 2).bind fun v7 =>
        some (a1 * v7)
def qsh_fits (K : zK) (M : zM) (self a1 a2 a3 : Int) : Option (Int) :=
  (zgk K self 6 3).bind fun _ => (qsh_size K M self).bind fun v1 =>
  (some (v1 - 1)).bind fun x2 =>
  (zgk K a1 2 7).bind fun _ => (qla_has K M a1 a2 a3).bind fun v3 =>
  if zw v3 = 0 then
    some 0
  else
    (zgk K self 6 3).bind fun _ => (qsh_rowsDown K M self x2).bind fun v4 =>
    (zgk K self 6 3).bind fun _ => (qsh_columnsRight K M self x2).bind fun v5 =>
    (zgk K a1 2 7).bind fun _ => (qla_has K M a1 (a2 + v4) (a3 + v5)).bind fun v6 =>
    if zw v6 = 0 then
      some 0
    else
      some 1
def qfs_numberOf (K : zK) (M : zM) (a0 a1 a2 a3 a4 : Int) : Option (Int) :=
  (zgk K a1 6 3).bind fun _ => (qsh_rowsDown K M a1 a4).bind fun v1 =>
  (zgf K M 2 7 a0 1).bind fun v2 =>
  (zgk K a1 6 3).bind fun _ => (qsh_columnsRight K M a1 a4).bind fun v3 =>
  some ((((a2 + v1) * v2) + a3) + v3)
def qfs_gatherCut (n : Nat) (K : zK) (M : zM) (self a1 a2 a3 a4 : Int) : Option (zM) :=
  (zwh (σ := Int × Int) (ρ := Int × Int) (fun s1 =>
    (zgk K a2 6 3).bind fun _ => (qsh_size K M a2).bind fun v9 =>
    if zw v9 ≤ zw s1.2 then
      some (.inr (s1.1, s1.2))
    else
      (qfs_numberOf K M a1 a2 a3 a4 s1.2).bind fun v10 =>
      some (.inl (zlor s1.1 (zlshl 1 v10), s1.2 + 1))) n (0, 0)).bind fun e2 =>
  zwh (σ := Int × zM) (fun s3 =>
    (zgk K a2 6 3).bind fun _ => (qsh_size K s3.2 a2).bind fun v4 =>
    if zw v4 ≤ zw s3.1 then
      some (.inr s3.2)
    else
      (zgr K s3.2 0 5 self 0).bind fun r5 =>
      (qfs_numberOf K s3.2 a1 a2 a3 a4 s3.1).bind fun v6 =>
      (zga K s3.2 102 r5 v6).bind fun v7 =>
      (zpa K s3.2 102 r5 v6 (zlor v7 e2.1)).bind fun M8 =>
      some (.inl (s3.1 + 1, M8))) n (0, M)
def qfs_gatherShape (n : Nat) (K : zK) (M : zM) (self a1 a2 : Int) : Option (zM) :=
  zwh (σ := Int × zM) (fun s1 =>
    (zgf K s1.2 2 7 a1 0).bind fun v2 =>
    if zw v2 ≤ zw s1.1 then
      some (.inr s1.2)
    else
      (zwh (σ := Int × zM) (ρ := Int × zM) (fun s3 =>
        (zgf K s3.2 2 7 a1 1).bind fun v5 =>
        if zw v5 ≤ zw s3.1 then
          some (.inr (s3.1, s3.2))
        else
          (zgk K a2 6 3).bind fun _ => (qsh_fits K s3.2 a2 a1 s1.1 s3.1).bind fun v6 =>
          (if zw v6 = 0 then
            some s3.2
          else
            (zgk K self 0 5).bind fun _ => (qfs_gatherCut n K s3.2 self a1 a2 s1.1 s3.1).bind fun M8 =>
            some M8 : Option (zM)).bind fun j7 =>
          some (.inl (s3.1 + 1, j7))) n (0, s1.2)).bind fun e4 =>
      some (.inl (s1.1 + 1, e4.2))) n (0, M)
def qfs_gather (n : Nat) (K : zK) (M : zM) (self a1 a2 : Int) : Option (zM) :=
  (zgk K a1 2 7).bind fun _ => (qla_cellCount K M a1).bind fun v1 =>
  (zpf K M 0 5 self 4 (zmin v1 64)).bind fun M2 =>
  (zgr K M2 0 5 self 0).bind fun r3 =>
  (qar_fillJ n K M2 r3 0).bind fun M4 =>
  zwh (σ := Int × zM) (fun s5 =>
    (zgf K s5.2 10 2 a2 1).bind fun v6 =>
    if zw v6 ≤ zw s5.1 then
      some (.inr s5.2)
    else
      (zgr K s5.2 10 2 a2 0).bind fun r7 =>
      (zgq K s5.2 103 r7 s5.1).bind fun r8 =>
      (zgk K self 0 5).bind fun _ => (qfs_gatherShape n K s5.2 self a1 r8).bind fun M9 =>
      some (.inl (s5.1 + 1, M9))) n (0, M4)
def qfs_lastToAsk (K : zK) (M : zM) (self a1 a2 : Int) : Option (Int) :=
  (zgr K M 0 5 self 3).bind fun r1 =>
  (zga K M 100 r1 a1).bind fun v2 =>
  some (zmin (a2 - 1) (v2 + 1))
def qfs_lift (K : zK) (M : zM) (self a1 : Int) : Option (Int × zM) :=
  (zgr K M 0 5 self 2).bind fun r1 =>
  (zga K M 100 r1 a1).bind fun v2 =>
  (zgr K M 0 5 self 1).bind fun r3 =>
  (zga K M 102 r3 v2).bind fun v4 =>
  (zpa K M 102 r3 v2 (zland v4 (zlxor (zlshl 1 a1) (-1)))).bind fun M5 =>
  some (v2, M5)
def qfs_put (K : zK) (M : zM) (self a1 a2 : Int) : Option (zM) :=
  (zgr K M 0 5 self 2).bind fun r1 =>
  (zpa K M 100 r1 a1 a2).bind fun M2 =>
  (zgr K M2 0 5 self 1).bind fun r3 =>
  (zga K M2 102 r3 a2).bind fun v4 =>
  (zpa K M2 102 r3 a2 (zlor v4 (zlshl 1 a1))).bind fun M5 =>
  (zgf K M5 0 5 self 4).bind fun v6 =>
  if zw v6 ≤ zw (a1 + 1) then
    some M5
  else
    (zgr K M5 0 5 self 3).bind fun r7 =>
    (zgr K M5 0 5 self 3).bind fun r8 =>
    (zga K M5 100 r8 a1).bind fun v9 =>
    (zpa K M5 100 r7 (a1 + 1) (zmax v9 a2)).bind fun M10 =>
    some M10
def qfs_seek (n : Nat) (K : zK) (M : zM) (self a1 : Int) : Option (Int × zM) :=
  (zgr K M 0 5 self 1).bind fun r1 =>
  (qar_fillJ n K M r1 0).bind fun M2 =>
  (zgr K M2 0 5 self 3).bind fun r3 =>
  (zpa K M2 100 r3 0 (-1)).bind fun M4 =>
  zwh (σ := Int × Int × Int × zM) (fun s5 =>
    if zw 20000 < zw s5.2.2.1 then
      some (.inr ((-6), s5.2.2.2))
    else
      (zwh (σ := Int × Int × zM) (ρ := Int × Int × zM) (fun s6 =>
        if zw s6.1 < 0 then
          some (.inr (s6.1, s6.2.1, s6.2.2))
        else
          (zgk K self 0 5).bind fun _ => (qfs_lastToAsk K s6.2.2 self s6.1 a1).bind fun v15 =>
          if zw s6.2.1 ≤ zw v15 then
            some (.inr (s6.1, s6.2.1, s6.2.2))
          else
            (if zw (s6.1 + (-1)) < 0 then
              some (0, s6.2.2)
            else
              (zgk K self 0 5).bind fun _ => (qfs_lift K s6.2.2 self (s6.1 + (-1))).bind fun p17 =>
              some (p17.1 + 1, p17.2) : Option (Int × zM)).bind fun j16 =>
            some (.inl (s6.1 + (-1), j16.1, j16.2))) n (s5.1, s5.2.1, s5.2.2.2)).bind fun e7 =>
      if 0 ≤ zw e7.1 then
        (zgr K e7.2.2 0 5 self 1).bind fun r8 =>
        (zga K e7.2.2 102 r8 e7.2.1).bind fun v9 =>
        (zgr K e7.2.2 0 5 self 0).bind fun r10 =>
        (zga K e7.2.2 102 r10 e7.1).bind fun v11 =>
        zesc (β := Int × Int × zM) (if zw (zlcmp (zland v9 v11) 0) = 0 then
          (zgk K self 0 5).bind fun _ => (qfs_put K e7.2.2 self e7.1 e7.2.1).bind fun M13 =>
          (zgf K M13 0 5 self 4).bind fun v14 =>
          if zw (e7.1 + 1) < zw v14 then
            some (.inl (e7.1 + 1, 0, M13))
          else
            some (.inr (.inr (s5.2.2.1, M13)))
        else
          some (.inl (e7.1, e7.2.1 + 1, e7.2.2))) fun j12 =>
        some (.inl (j12.1, j12.2.1, s5.2.2.1 + 1, j12.2.2))
      else
        some (.inr ((-4), e7.2.2))) n (0, 0, 1, M4)
def qbs_spot (K : zK) (M : zM) (a0 a1 : Int) : Option (Int) :=
  some ((a0 * 16) + a1)
def qfs_copyTo (n : Nat) (K : zK) (M : zM) (self a1 : Int) : Option (zM) :=
  zwh (σ := Int × zM) (fun s1 =>
    (zgf K s1.2 0 5 self 4).bind fun v2 =>
    if zw v2 ≤ zw s1.1 then
      some (.inr s1.2)
    else
      (zgr K s1.2 2 7 a1 6).bind fun r3 =>
      (zgf K s1.2 2 7 a1 1).bind fun v4 =>
      (zdv s1.1 v4).bind fun v5 =>
      (zgf K s1.2 2 7 a1 1).bind fun v6 =>
      (zrm s1.1 v6).bind fun v7 =>
      (qbs_spot K s1.2 v5 v7).bind fun v8 =>
      (zgr K s1.2 0 5 self 2).bind fun r9 =>
      (zga K s1.2 100 r9 s1.1).bind fun v10 =>
      (zpa K s1.2 100 r3 v8 v10).bind fun M11 =>
      some (.inl (s1.1 + 1, M11))) n (0, M)
def qla_takeLaw (K : zK) (M : zM) (self a1 a2 a3 a4 : Int) : Option (zM) :=
  (zpf K M 2 7 self 3 a1).bind fun M1 =>
  (zpf K M1 2 7 self 4 a2).bind fun M2 =>
  (zpf K M2 2 7 self 5 a3).bind fun M3 =>
  (zpf K M3 2 7 self 2 a4).bind fun M4 =>
  some M4
def qla_bankAt (K : zK) (M : zM) (self a1 a2 : Int) : Option (Int) :=
  (zgf K M 2 7 self 3).bind fun v1 =>
  if zw v1 = zw 2 then
    (zgr K M 2 7 self 6).bind fun r2 =>
    (qbs_spot K M a1 a2).bind fun v3 =>
    (zga K M 100 r2 v3).bind fun v4 =>
    some v4
  else
    (zgf K M 2 7 self 3).bind fun v5 =>
    (if zw v5 = 0 then
      (zgf K M 2 7 self 4).bind fun v9 =>
      (zgf K M 2 7 self 5).bind fun v10 =>
      some ((v9 * a1) + (v10 * a2))
    else
      (zgf K M 2 7 self 4).bind fun v11 =>
      (zgf K M 2 7 self 5).bind fun v12 =>
      some (zxor (v11 * a1) (v12 * a2)) : Option (Int)).bind fun j6 =>
    (zgf K M 2 7 self 2).bind fun v7 =>
    (zrm j6 v7).bind fun v8 =>
    some v8
def qsh_clashesAt (n : Nat) (K : zK) (M : zM) (self a1 a2 a3 : Int) : Option (Int) :=
  zwh (σ := Int × Int) (fun s1 =>
    (zgk K self 6 3).bind fun _ => (qsh_size K M self).bind fun v2 =>
    if zw v2 ≤ zw s1.2 then
      some (.inr 0)
    else
      (zgk K self 6 3).bind fun _ => (qsh_rowsDown K M self s1.2).bind fun v3 =>
      (zgk K self 6 3).bind fun _ => (qsh_columnsRight K M self s1.2).bind fun v4 =>
      (zgk K a1 2 7).bind fun _ => (qla_bankAt K M a1 (a2 + v3) (a3 + v4)).bind fun v5 =>
      (some (zshl 1 v5)).bind fun x6 =>
      if zw (zand s1.1 x6) = 0 then
        (some (zor s1.1 x6)).bind fun x7 =>
        some (.inl (x7, s1.2 + 1))
      else
        some (.inr 1)) n (0, 0)
def qsh_isGrantedBy (n : Nat) (K : zK) (M : zM) (self a1 : Int) : Option (Int) :=
  zwh (σ := Int) (fun s1 =>
    (zgf K M 2 7 a1 0).bind fun v2 =>
    if zw v2 ≤ zw s1 then
      some (.inr 1)
    else
      zesc (β := Int) (zwh (σ := Int) (fun s3 =>
        (zgf K M 2 7 a1 1).bind fun v5 =>
        if zw v5 ≤ zw s3 then
          some (.inr (.inl s3))
        else
          (zgk K self 6 3).bind fun _ => (qsh_fits K M self a1 s1 s3).bind fun v6 =>
          zesc (β := Unit) (if zw v6 = 0 then
            some (.inl ())
          else
            (zgk K self 6 3).bind fun _ => (qsh_clashesAt n K M self a1 s1 s3).bind fun v8 =>
            if zw v8 = 0 then
              (zgf K M 2 7 a1 3).bind fun v9 =>
              if zw v9 = 0 then
                some (.inr (.inr (.inr (.inr 1))))
              else
                some (.inl ())
            else
              some (.inr (.inr (.inr (.inr 0))))) fun j7 =>
          some (.inl (s3 + 1))) n 0) fun e4 =>
      some (.inl (s1 + 1))) n 0
def qwi_allGrantedBy (n : Nat) (K : zK) (M : zM) (self a1 : Int) : Option (Int) :=
  zwh (σ := Int) (fun s1 =>
    (zgf K M 10 2 self 1).bind fun v2 =>
    if zw v2 ≤ zw s1 then
      some (.inr 1)
    else
      (zgr K M 10 2 self 0).bind fun r3 =>
      (zgq K M 103 r3 s1).bind fun r4 =>
      (zgk K r4 6 3).bind fun _ => (qsh_isGrantedBy n K M r4 a1).bind fun v5 =>
      if zw v5 = 0 then
        some (.inr 0)
      else
        some (.inl (s1 + 1))) n 0
def qsl_weighAll (n : Nat) (K : zK) (M : zM) (self a1 a2 a3 a4 : Int) : Option (zM) :=
  zwh (σ := Int × zM) (fun s1 =>
    if zw a3 ≤ zw s1.1 then
      some (.inr s1.2)
    else
      (zwh (σ := Int × zM) (ρ := Int × zM) (fun s2 =>
        if zw a3 ≤ zw s2.1 then
          some (.inr (s2.1, s2.2))
        else
          (zgk K a1 2 7).bind fun _ => (qla_takeLaw K s2.2 a1 a2 s1.1 s2.1 a3).bind fun M4 =>
          (zgk K a4 10 2).bind fun _ => (qwi_allGrantedBy n K M4 a4 a1).bind fun v5 =>
          (if zw v5 = 0 then
            some M4
          else
            (zgf K M4 1 3 self 0).bind fun v7 =>
            (if zw v7 = 0 then
              (zpf K M4 1 3 self 1 s1.1).bind fun M11 =>
              (zpf K M11 1 3 self 2 s2.1).bind fun M12 =>
              some M12
            else
              some M4 : Option (zM)).bind fun j8 =>
            (zgf K j8 1 3 self 0).bind fun v9 =>
            (zpf K j8 1 3 self 0 (v9 + 1)).bind fun M10 =>
            some M10 : Option (zM)).bind fun j6 =>
          some (.inl (s2.1 + 1, j6))) n (0, s1.2)).bind fun e3 =>
      some (.inl (s1.1 + 1, e3.2))) n (0, M)
def qla_takeTable (K : zK) (M : zM) (self a1 : Int) : Option (zM) :=
  (zgf K M 2 7 a1 0).bind fun v1 =>
  (zpf K M 2 7 self 0 v1).bind fun M2 =>
  (zgf K M2 2 7 a1 1).bind fun v3 =>
  (zpf K M2 2 7 self 1 v3).bind fun M4 =>
  some M4
def qla_bankOfAddress (K : zK) (M : zM) (self a1 : Int) : Option (Int) :=
  (zgk K self 2 7).bind fun _ => (qla_cellCount K M self).bind fun v1 =>
  (zrm a1 v1).bind fun v2 =>
  (zgf K M 2 7 self 1).bind fun v3 =>
  (zdv v2 v3).bind fun v4 =>
  (zgf K M 2 7 self 1).bind fun v5 =>
  (zrm v2 v5).bind fun v6 =>
  (zgk K self 2 7).bind fun _ => (qla_bankAt K M self v4 v6).bind fun v7 =>
  some v7
def qla_placeOf (n : Nat) (K : zK) (M : zM) (self a1 a2 : Int) : Option (Int) :=
  (zgk K self 2 7).bind fun _ => (qla_bankAt K M self a1 a2).bind fun v1 =>
  zwh (σ := Int × Int) (fun s2 =>
    (zgf K M 2 7 self 1).bind fun v3 =>
    if zw ((a1 * v3) + a2) ≤ zw s2.2 then
      some (.inr s2.1)
    else
      (zgf K M 2 7 self 1).bind fun v4 =>
      (zdv s2.2 v4).bind fun v5 =>
      (zgf K M 2 7 self 1).bind fun v6 =>
      (zrm s2.2 v6).bind fun v7 =>
      (zgk K self 2 7).bind fun _ => (qla_bankAt K M self v5 v7).bind fun v8 =>
      (if zw v8 = zw v1 then
        some 1
      else
        some 0 : Option (Int)).bind fun j9 =>
      (some (s2.1 + j9)).bind fun x10 =>
      some (.inl (x10, s2.2 + 1))) n (0, 0)
def qla_sizeOf (n : Nat) (K : zK) (M : zM) (self a1 : Int) : Option (Int) :=
  zwh (σ := Int × Int) (fun s1 =>
    (zgk K self 2 7).bind fun _ => (qla_cellCount K M self).bind fun v2 =>
    if zw v2 ≤ zw s1.2 then
      some (.inr s1.1)
    else
      (zgf K M 2 7 self 1).bind fun v3 =>
      (zdv s1.2 v3).bind fun v4 =>
      (zgf K M 2 7 self 1).bind fun v5 =>
      (zrm s1.2 v5).bind fun v6 =>
      (zgk K self 2 7).bind fun _ => (qla_bankAt K M self v4 v6).bind fun v7 =>
      (if zw v7 = zw a1 then
        some 1
      else
        some 0 : Option (Int)).bind fun j8 =>
      (some (s1.1 + j8)).bind fun x9 =>
      some (.inl (x9, s1.2 + 1))) n (0, 0)
def qla_firstOf (n : Nat) (K : zK) (M : zM) (self a1 : Int) : Option (Int) :=
  zwh (σ := Int) (fun s1 =>
    (zgk K self 2 7).bind fun _ => (qla_cellCount K M self).bind fun v2 =>
    if zw v2 ≤ zw s1 then
      some (.inr (-4))
    else
      (zgf K M 2 7 self 1).bind fun v3 =>
      (zdv s1 v3).bind fun v4 =>
      (zgf K M 2 7 self 1).bind fun v5 =>
      (zrm s1 v5).bind fun v6 =>
      (zgk K self 2 7).bind fun _ => (qla_bankAt K M self v4 v6).bind fun v7 =>
      if zw v7 = zw a1 then
        (zgf K M 2 7 self 1).bind fun v8 =>
        (zdv s1 v8).bind fun v9 =>
        (zgf K M 2 7 self 1).bind fun v10 =>
        (zrm s1 v10).bind fun v11 =>
        (qbs_spot K M v9 v11).bind fun v12 =>
        some (.inr v12)
      else
        some (.inl (s1 + 1))) n 0
def qla_lastOf (n : Nat) (K : zK) (M : zM) (self a1 : Int) : Option (Int) :=
  (zgk K self 2 7).bind fun _ => (qla_cellCount K M self).bind fun v1 =>
  (some (v1 - 1)).bind fun x2 =>
  zwh (σ := Int) (fun s3 =>
    if zw s3 < 0 then
      some (.inr (-4))
    else
      (zgf K M 2 7 self 1).bind fun v4 =>
      (zdv s3 v4).bind fun v5 =>
      (zgf K M 2 7 self 1).bind fun v6 =>
      (zrm s3 v6).bind fun v7 =>
      (zgk K self 2 7).bind fun _ => (qla_bankAt K M self v5 v7).bind fun v8 =>
      if zw v8 = zw a1 then
        (zgf K M 2 7 self 1).bind fun v9 =>
        (zdv s3 v9).bind fun v10 =>
        (zgf K M 2 7 self 1).bind fun v11 =>
        (zrm s3 v11).bind fun v12 =>
        (qbs_spot K M v10 v12).bind fun v13 =>
        some (.inr v13)
      else
        some (.inl (s3 + (-1)))) n x2
def qpr_unitOf (K : zK) (M : zM) (a0 : Int) : Option (Int) :=
  if zw a0 = zw 2 then
    some 1
  else
    if zw a0 = zw 3 then
      some 2
    else
      some 0
def qpr_linesOf (n : Nat) (K : zK) (M : zM) (self a1 : Int) : Option (Int) :=
  zwh (σ := Int × Int) (fun s1 =>
    (zgf K M 3 7 self 6).bind fun v2 =>
    if zw v2 ≤ zw s1.2 then
      some (.inr s1.1)
    else
      (zgr K M 3 7 self 0).bind fun r3 =>
      (zga K M 100 r3 s1.2).bind fun v4 =>
      (qpr_unitOf K M v4).bind fun v5 =>
      (if zw v5 = zw a1 then
        some 1
      else
        some 0 : Option (Int)).bind fun j6 =>
      (some (s1.1 + j6)).bind fun x7 =>
      some (.inl (x7, s1.2 + 1))) n (0, 0)
def qbs_greatestDivisor (n : Nat) (K : zK) (M : zM) (a0 a1 : Int) : Option (Int) :=
  zwh (σ := Int × Int × Int) (fun s1 =>
    if zw 64 ≤ zw s1.2.2 then
      some (.inr s1.1)
    else
      if zw s1.2.1 = 0 then
        some (.inr s1.1)
      else
        (zrm s1.1 s1.2.1).bind fun v2 =>
        some (.inl (s1.2.1, v2, s1.2.2 + 1))) n (a0, a1, 0)
def qra_keep (n : Nat) (K : zK) (M : zM) (self a1 a2 a3 : Int) : Option (zM) :=
  (zwh (σ := Int × Int × Int) (ρ := Int × Int × Int) (fun s1 =>
    if zw a3 ≤ zw s1.2.2 then
      some (.inr (s1.1, s1.2.1, s1.2.2))
    else
      (zgr K M 4 7 self 0).bind fun r9 =>
      (zga K M 100 r9 s1.2.2).bind fun v10 =>
      (some (zmax 0 (v10 - a2))).bind fun x11 =>
      (if zw 16 ≤ zw s1.2.2 then
        some (s1.1, x11)
      else
        some (zlor s1.1 (zlshl (zw x11) (4 * s1.2.2)), s1.2.1) : Option (Int × Int)).bind fun j12 =>
      some (.inl (j12.1, j12.2, s1.2.2 + 1))) n (0, 0, 0)).bind fun e2 =>
  (zgr K M 4 7 self 1).bind fun r3 =>
  (zpa K M 102 r3 a1 e2.1).bind fun M4 =>
  (zgr K M4 4 7 self 2).bind fun r5 =>
  (zpa K M4 100 r5 a1 e2.2.1).bind fun M6 =>
  (zgr K M6 4 7 self 3).bind fun r7 =>
  (zpa K M6 100 r7 a1 a2).bind fun M8 =>
  some M8
def qra_earlierLike (n : Nat) (K : zK) (M : zM) (self a1 : Int) : Option (Int) :=
  zwh (σ := Int) (fun s1 =>
    if zw a1 ≤ zw s1 then
      some (.inr (-1))
    else
      (zgr K M 4 7 self 1).bind fun r2 =>
      (zga K M 102 r2 s1).bind fun v3 =>
      (zgr K M 4 7 self 1).bind fun r4 =>
      (zga K M 102 r4 a1).bind fun v5 =>
      zesc (β := Unit) (if zw (zlcmp v3 v5) = 0 then
        (zgr K M 4 7 self 2).bind fun r7 =>
        (zga K M 100 r7 s1).bind fun v8 =>
        (zgr K M 4 7 self 2).bind fun r9 =>
        (zga K M 100 r9 a1).bind fun v10 =>
        if zw v8 = zw v10 then
          some (.inr (.inr s1))
        else
          some (.inl ())
      else
        some (.inl ())) fun j6 =>
      some (.inl (s1 + 1))) n 0
def qra_settle (n : Nat) (K : zK) (M : zM) (self a1 a2 a3 : Int) : Option (zM) :=
  (some ((a1 - a2) * a3)).bind fun x1 =>
  (zgr K M 4 7 self 3).bind fun r2 =>
  (zga K M 100 r2 a1).bind fun v3 =>
  (zgr K M 4 7 self 3).bind fun r4 =>
  (zga K M 100 r4 a2).bind fun v5 =>
  (some (v3 - v5)).bind fun x6 =>
  (qbs_greatestDivisor n K M x1 x6).bind fun v7 =>
  (some (zmax 1 v7)).bind fun x8 =>
  (zdv x1 x8).bind fun v9 =>
  (zpf K M 4 7 self 4 v9).bind fun M10 =>
  (zdv x6 x8).bind fun v11 =>
  (zpf K M10 4 7 self 5 v11).bind fun M12 =>
  (zpf K M12 4 7 self 6 (a1 + 1)).bind fun M13 =>
  some M13
def qra_seek (n : Nat) (K : zK) (M : zM) (self a1 a2 a3 a4 : Int) : Option (Int × zM) :=
  (zgr K M 4 7 self 0).bind fun r1 =>
  (qar_fillI n K M r1 0).bind fun M2 =>
  (zgk K a1 2 7).bind fun _ => (qla_cellCount K M2 a1).bind fun v3 =>
  (qbs_greatestDivisor n K M2 v3 a4).bind fun v4 =>
  (zdv v3 v4).bind fun v5 =>
  zwh (σ := Int × Int × zM) (fun s6 =>
    if zw 64 ≤ zw s6.2.1 then
      some (.inr (0, s6.2.2))
    else
      (zwh (σ := Int × Int × zM) (ρ := Int × Int × zM) (fun s7 =>
        if zw v5 ≤ zw s7.2.1 then
          some (.inr (s7.1, s7.2.1, s7.2.2))
        else
          (zgk K a1 2 7).bind fun _ => (qla_bankOfAddress K s7.2.2 a1 (a3 + (s7.2.1 * a4))).bind fun v13 =>
          (zgr K s7.2.2 4 7 self 0).bind fun r14 =>
          (zga K s7.2.2 100 r14 v13).bind fun v15 =>
          (some (zmax s7.1 v15)).bind fun x16 =>
          (zgr K s7.2.2 4 7 self 0).bind fun r17 =>
          (zpa K s7.2.2 100 r17 v13 (x16 + a2)).bind fun M18 =>
          (some (x16 + 1)).bind fun x19 =>
          some (.inl (x19, s7.2.1 + 1, M18))) n (s6.1, 0, s6.2.2)).bind fun e8 =>
      (zgf K e8.2.2 2 7 a1 2).bind fun v9 =>
      (zgk K self 4 7).bind fun _ => (qra_keep n K e8.2.2 self s6.2.1 e8.1 v9).bind fun M10 =>
      (zgk K self 4 7).bind fun _ => (qra_earlierLike n K M10 self s6.2.1).bind fun v11 =>
      if zw v11 < 0 then
        some (.inl (e8.1, s6.2.1 + 1, M10))
      else
        (zgk K self 4 7).bind fun _ => (qra_settle n K M10 self s6.2.1 v11 v5).bind fun M12 =>
        some (.inr (1, M12))) n (0, 0, M2)
def qrd_append (n : Nat) (K : zK) (M : zM) (self a1 : Int) : Option (Int × zM) :=
  (zgf K M 5 9 self 2).bind fun v1 =>
  if zw (v1 + 8) ≤ zw 240 then
    zwh (σ := Int × zM) (fun s2 =>
      if zw 8 ≤ zw s2.1 then
        (zgf K s2.2 5 9 self 2).bind fun v3 =>
        (zpf K s2.2 5 9 self 2 (v3 + 8)).bind fun M4 =>
        (zgf K M4 5 9 self 2).bind fun v5 =>
        some (.inr (v5, M4))
      else
        (zgr K s2.2 5 9 self 0).bind fun r6 =>
        (zgf K s2.2 5 9 self 2).bind fun v7 =>
        (zpa K s2.2 101 r6 (v7 + s2.1) (zb8 (zb8 (zlushr a1 (56 - (8 * s2.1)))))).bind fun M8 =>
        some (.inl (s2.1 + 1, M8))) n (0, M)
  else
    some ((-3), M)
def qrd_isLetter (K : zK) (M : zM) (a0 : Int) : Option (Int) :=
  if zw a0 < zw 97 then
    some 0
  else
    if zw 122 < zw a0 then
      some 0
    else
      some 1
def qrd_isFigure (K : zK) (M : zM) (a0 : Int) : Option (Int) :=
  if zw a0 < zw 48 then
    some 0
  else
    if zw 57 < zw a0 then
      some 0
    else
      some 1
def qbs_within (K : zK) (M : zM) (a0 a1 a2 : Int) : Option (Int) :=
  if zw a0 < zw a1 then
    some 0
  else
    if zw a2 < zw a0 then
      some 0
    else
      some 1
def qrd_refuse (K : zK) (M : zM) (self a1 : Int) : Option (Int × zM) :=
  (zpf K M 5 9 self 3 a1).bind fun M1 =>
  (zgf K M1 5 9 self 7).bind fun v2 =>
  (zpf K M1 5 9 self 4 v2).bind fun M3 =>
  some (0, M3)
def qrd_takeFigures (n : Nat) (K : zK) (M : zM) (self : Int) : Option (Int × zM) :=
  (zpf K M 5 9 self 8 0).bind fun M1 =>
  (zwh (σ := zM) (ρ := zM) (fun s2 =>
    (zgf K s2 5 9 self 5).bind fun v10 =>
    (zgf K s2 5 9 self 2).bind fun v11 =>
    if zw v11 ≤ zw v10 then
      some (.inr s2)
    else
      (zgr K s2 5 9 self 0).bind fun r12 =>
      (zgf K s2 5 9 self 5).bind fun v13 =>
      (zga K s2 101 r12 v13).bind fun v14 =>
      (qrd_isFigure K s2 v14).bind fun v15 =>
      if zw v15 = 0 then
        some (.inr s2)
      else
        (zgf K s2 5 9 self 5).bind fun v16 =>
        (zgf K s2 5 9 self 7).bind fun v17 =>
        (if zw 4 ≤ zw (v16 - v17) then
          some s2
        else
          (zgf K s2 5 9 self 8).bind fun v21 =>
          (zgr K s2 5 9 self 0).bind fun r22 =>
          (zgf K s2 5 9 self 5).bind fun v23 =>
          (zga K s2 101 r22 v23).bind fun v24 =>
          (zpf K s2 5 9 self 8 (((v21 * 10) + v24) - 48)).bind fun M25 =>
          some M25 : Option (zM)).bind fun j18 =>
        (zgf K j18 5 9 self 5).bind fun v19 =>
        (zpf K j18 5 9 self 5 (v19 + 1)).bind fun M20 =>
        some (.inl M20)) n M1).bind fun e3 =>
  (zpf K e3 5 9 self 6 2).bind fun M4 =>
  (zgf K M4 5 9 self 5).bind fun v5 =>
  (zgf K M4 5 9 self 7).bind fun v6 =>
  (qbs_within K M4 (v5 - v6) 1 4).bind fun v7 =>
  zesc (β := zM) (if zw v7 = 0 then
    (zgk K self 5 9).bind fun _ => (qrd_refuse K M4 self 1).bind fun p9 =>
    if zw p9.1 = 0 then
      some (.inr (0, p9.2))
    else
      some (.inl p9.2)
  else
    some (.inl M4)) fun j8 =>
  some (1, j8)
def qrd_takeToken (n : Nat) (K : zK) (M : zM) (self : Int) : Option (Int × zM) :=
  (zwh (σ := zM) (ρ := zM) (fun s1 =>
    (zgf K s1 5 9 self 5).bind fun v31 =>
    (zgf K s1 5 9 self 2).bind fun v32 =>
    if zw v32 ≤ zw v31 then
      some (.inr s1)
    else
      (zgr K s1 5 9 self 0).bind fun r33 =>
      (zgf K s1 5 9 self 5).bind fun v34 =>
      (zga K s1 101 r33 v34).bind fun v35 =>
      if zw v35 = zw 32 then
        (zgf K s1 5 9 self 5).bind fun v36 =>
        (zpf K s1 5 9 self 5 (v36 + 1)).bind fun M37 =>
        some (.inl M37)
      else
        some (.inr s1)) n M).bind fun e2 =>
  (zgf K e2 5 9 self 5).bind fun v3 =>
  (zpf K e2 5 9 self 7 v3).bind fun M4 =>
  (zgf K M4 5 9 self 5).bind fun v5 =>
  (zgf K M4 5 9 self 2).bind fun v6 =>
  if zw v5 < zw v6 then
    (zgr K M4 5 9 self 0).bind fun r7 =>
    (zgf K M4 5 9 self 5).bind fun v8 =>
    (zga K M4 101 r7 v8).bind fun v9 =>
    if zw v9 = zw 59 then
      (zgf K M4 5 9 self 5).bind fun v10 =>
      (zpf K M4 5 9 self 5 (v10 + 1)).bind fun M11 =>
      (zpf K M11 5 9 self 6 3).bind fun M12 =>
      some (1, M12)
    else
      (zgr K M4 5 9 self 0).bind fun r13 =>
      (zgf K M4 5 9 self 5).bind fun v14 =>
      (zga K M4 101 r13 v14).bind fun v15 =>
      (qrd_isLetter K M4 v15).bind fun v16 =>
      if zw v16 = 0 then
        (zgk K self 5 9).bind fun _ => (qrd_takeFigures n K M4 self).bind fun p17 =>
        (zbr p17.1).bind fun z18 => some (z18, p17.2)
      else
        zwh (σ := zM) (fun s19 =>
          (zgf K s19 5 9 self 5).bind fun v20 =>
          (zgf K s19 5 9 self 2).bind fun v21 =>
          zesc (β := Unit) (if zw v21 ≤ zw v20 then
            some (.inl ())
          else
            (zgr K s19 5 9 self 0).bind fun r24 =>
            (zgf K s19 5 9 self 5).bind fun v25 =>
            (zga K s19 101 r24 v25).bind fun v26 =>
            (qrd_isLetter K s19 v26).bind fun v27 =>
            if zw v27 = 0 then
              some (.inl ())
            else
              (zgf K s19 5 9 self 5).bind fun v28 =>
              (zpf K s19 5 9 self 5 (v28 + 1)).bind fun M29 =>
              some (.inr (.inl M29))) fun j22 =>
          (zpf K s19 5 9 self 6 1).bind fun M23 =>
          some (.inr (1, M23))) n M4
  else
    (zpf K M4 5 9 self 6 0).bind fun M30 =>
    some (1, M30)
def qrd_isNamed (n : Nat) (K : zK) (M : zM) (self a1 : Int) : Option (Int) :=
  (zgf K M 5 9 self 6).bind fun v1 =>
  if zw v1 = zw 1 then
    (zgf K M 5 9 self 5).bind fun v2 =>
    (zgf K M 5 9 self 7).bind fun v3 =>
    (qsg_length K M a1).bind fun v4 =>
    if zw (v2 - v3) = zw v4 then
      zwh (σ := Int) (fun s5 =>
        (qsg_length K M a1).bind fun v6 =>
        if zw v6 ≤ zw s5 then
          some (.inr 1)
        else
          (zgr K M 5 9 self 0).bind fun r7 =>
          (zgf K M 5 9 self 7).bind fun v8 =>
          (zga K M 101 r7 (v8 + s5)).bind fun v9 =>
          (qsg_charAt K M a1 s5).bind fun v10 =>
          if zw v9 = zw v10 then
            some (.inl (s5 + 1))
          else
            some (.inr 0)) n 0
    else
      some 0
  else
    some 0
def qrd_kindNamed (n : Nat) (K : zK) (M : zM) (self : Int) : Option (Int) :=
  (zgk K self 5 9).bind fun _ => (qrd_isNamed n K M self (-2)).bind fun v1 =>
  if zw v1 = 0 then
    (zgk K self 5 9).bind fun _ => (qrd_isNamed n K M self (-3)).bind fun v2 =>
    if zw v2 = 0 then
      (zgk K self 5 9).bind fun _ => (qrd_isNamed n K M self (-4)).bind fun v3 =>
      if zw v3 = 0 then
        (zgk K self 5 9).bind fun _ => (qrd_isNamed n K M self (-5)).bind fun v4 =>
        if zw v4 = 0 then
          some (-1)
        else
          some 3
      else
        some 2
    else
      some 1
  else
    some 0
def qrd_takeRow (n : Nat) (K : zK) (M : zM) (self a1 : Int) : Option (Int × zM) :=
  (zgk K self 5 9).bind fun _ => (qrd_takeToken n K M self).bind fun p1 =>
  if zw p1.1 = 0 then
    some (0, p1.2)
  else
    (zgf K p1.2 5 9 self 6).bind fun v2 =>
    zesc (β := Unit) (if zw v2 = zw 1 then
      (zgf K p1.2 5 9 self 5).bind fun v13 =>
      (zgf K p1.2 5 9 self 7).bind fun v14 =>
      if zw (v13 - v14) = zw 1 then
        (zgr K p1.2 5 9 self 0).bind fun r15 =>
        (zgf K p1.2 5 9 self 7).bind fun v16 =>
        (zga K p1.2 101 r15 v16).bind fun v17 =>
        (some (v17 - 97)).bind fun x18 =>
        (qbs_within K p1.2 x18 0 7).bind fun v19 =>
        if zw v19 = 0 then
          (zgk K self 5 9).bind fun _ => (qrd_refuse K p1.2 self 2).bind fun p20 =>
          (zbr p20.1).bind fun z21 => some (.inr (z21, p20.2))
        else
          zesc (β := Unit) (if zw a1 = 0 then
            some (.inl ())
          else
            (zgr K p1.2 5 9 self 1).bind fun r24 =>
            (zga K p1.2 100 r24 x18).bind fun v25 =>
            if 0 ≤ zw v25 then
              some (.inl ())
            else
              (zgk K self 5 9).bind fun _ => (qrd_refuse K p1.2 self 4).bind fun p26 =>
              (zbr p26.1).bind fun z27 => some (.inr (.inr (z27, p26.2)))) fun j22 =>
          (zpf K p1.2 5 9 self 8 x18).bind fun M23 =>
          some (.inr (1, M23))
      else
        some (.inl ())
    else
      some (.inl ())) fun j3 =>
    (qbs_within K p1.2 (-1) 0 7).bind fun v4 =>
    if zw v4 = 0 then
      (zgk K self 5 9).bind fun _ => (qrd_refuse K p1.2 self 2).bind fun p5 =>
      (zbr p5.1).bind fun z6 => some (z6, p5.2)
    else
      zesc (β := Unit) (if zw a1 = 0 then
        some (.inl ())
      else
        (zgr K p1.2 5 9 self 1).bind fun r9 =>
        (zga K p1.2 100 r9 (-1)).bind fun v10 =>
        if 0 ≤ zw v10 then
          some (.inl ())
        else
          (zgk K self 5 9).bind fun _ => (qrd_refuse K p1.2 self 4).bind fun p11 =>
          (zbr p11.1).bind fun z12 => some (.inr (z12, p11.2))) fun j7 =>
      (zpf K p1.2 5 9 self 8 (-1)).bind fun M8 =>
      some (1, M8)
def qrd_takeNumber (n : Nat) (K : zK) (M : zM) (self a1 a2 : Int) : Option (Int × zM) :=
  (zgk K self 5 9).bind fun _ => (qrd_takeToken n K M self).bind fun p1 =>
  if zw p1.1 = 0 then
    some (0, p1.2)
  else
    (zgf K p1.2 5 9 self 6).bind fun v2 =>
    if zw v2 = zw 2 then
      (zgf K p1.2 5 9 self 8).bind fun v3 =>
      (qbs_within K p1.2 v3 a1 a2).bind fun v4 =>
      zesc (β := zM) (if zw v4 = 0 then
        (zgk K self 5 9).bind fun _ => (qrd_refuse K p1.2 self 3).bind fun p6 =>
        if zw p6.1 = 0 then
          some (.inr (0, p6.2))
        else
          some (.inl p6.2)
      else
        some (.inl p1.2)) fun j5 =>
      some (1, j5)
    else
      (zgk K self 5 9).bind fun _ => (qrd_refuse K p1.2 self 2).bind fun p7 =>
      (zbr p7.1).bind fun z8 => some (z8, p7.2)
def qrd_takeMark (n : Nat) (K : zK) (M : zM) (self : Int) : Option (Int × zM) :=
  (zgk K self 5 9).bind fun _ => (qrd_takeToken n K M self).bind fun p1 =>
  if zw p1.1 = 0 then
    some (0, p1.2)
  else
    (zgf K p1.2 5 9 self 6).bind fun v2 =>
    zesc (β := zM) (if zw v2 = zw 3 then
      some (.inl p1.2)
    else
      (zgk K self 5 9).bind fun _ => (qrd_refuse K p1.2 self 2).bind fun p4 =>
      if zw p4.1 = 0 then
        some (.inr (0, p4.2))
      else
        some (.inl p4.2)) fun j3 =>
    some (1, j3)
def qrd_readLine (n : Nat) (K : zK) (M : zM) (self a1 a2 a3 : Int) : Option (Int × zM) :=
  zesc (β := Unit) (if zw a2 = 0 then
    some (.inl ())
  else
    if zw a2 = zw 1 then
      some (.inl ())
    else
      (if zw a2 = zw 1 then
        some 1
      else
        some 0 : Option (Int)).bind fun j44 =>
      (zgk K self 5 9).bind fun _ => (qrd_takeRow n K M self j44).bind fun p45 =>
      if zw p45.1 = 0 then
        some (.inr (0, p45.2))
      else
        (zgr K p45.2 3 7 a1 0).bind fun r46 =>
        (zpa K p45.2 100 r46 a3 a2).bind fun M47 =>
        (zgr K M47 3 7 a1 1).bind fun r48 =>
        (zgf K M47 5 9 self 8).bind fun v49 =>
        (zpa K M47 100 r48 a3 v49).bind fun M50 =>
        (zgr K M50 3 7 a1 4).bind fun r51 =>
        (if zw a2 = zw 1 then
          (zgr K M50 5 9 self 1).bind fun r83 =>
          (zgf K M50 5 9 self 8).bind fun v84 =>
          (zga K M50 100 r83 v84).bind fun v85 =>
          some v85
        else
          some (-1) : Option (Int)).bind fun j52 =>
        (zpa K M50 100 r51 a3 j52).bind fun M53 =>
        (zgr K M53 3 7 a1 5).bind fun r54 =>
        (zpa K M53 100 r54 a3 (-1)).bind fun M55 =>
        zesc (β := zM) (if zw 0 = 0 then
          (zgk K self 5 9).bind fun _ => (qrd_takeRow n K M55 self 1).bind fun p81 =>
          if zw p81.1 = 0 then
            some (.inr (.inr (0, p81.2)))
          else
            some (.inl p81.2)
        else
          (zgk K self 5 9).bind fun _ => (qrd_takeNumber n K M55 self 0 999).bind fun p82 =>
          if zw p82.1 = 0 then
            some (.inr (.inr (0, p82.2)))
          else
            some (.inl p82.2)) fun j56 =>
        (zgr K j56 3 7 a1 2).bind fun r57 =>
        (zgf K j56 5 9 self 8).bind fun v58 =>
        (zpa K j56 100 r57 a3 v58).bind fun M59 =>
        zesc (β := zM) (if zw 0 = 0 then
          (zgk K self 5 9).bind fun _ => (qrd_takeRow n K M59 self 1).bind fun p79 =>
          if zw p79.1 = 0 then
            some (.inr (.inr (0, p79.2)))
          else
            some (.inl p79.2)
        else
          (zgk K self 5 9).bind fun _ => (qrd_takeNumber n K M59 self 1 99).bind fun p80 =>
          if zw p80.1 = 0 then
            some (.inr (.inr (0, p80.2)))
          else
            some (.inl p80.2)) fun j60 =>
        (zgr K j60 3 7 a1 3).bind fun r61 =>
        (zgf K j60 5 9 self 8).bind fun v62 =>
        (zpa K j60 100 r61 a3 v62).bind fun M63 =>
        (if zw 0 = 0 then
          (zgr K M63 3 7 a1 4).bind fun r67 =>
          (zgr K M63 5 9 self 1).bind fun r68 =>
          (zgr K M63 3 7 a1 2).bind fun r69 =>
          (zga K M63 100 r69 a3).bind fun v70 =>
          (zga K M63 100 r68 v70).bind fun v71 =>
          (zpa K M63 100 r67 a3 v71).bind fun M72 =>
          (zgr K M72 3 7 a1 5).bind fun r73 =>
          (zgr K M72 5 9 self 1).bind fun r74 =>
          (zgr K M72 3 7 a1 3).bind fun r75 =>
          (zga K M72 100 r75 a3).bind fun v76 =>
          (zga K M72 100 r74 v76).bind fun v77 =>
          (zpa K M72 100 r73 a3 v77).bind fun M78 =>
          some M78
        else
          some M63 : Option (zM)).bind fun j64 =>
        (zgk K self 5 9).bind fun _ => (qrd_takeMark n K j64 self).bind fun p65 =>
        (zbr p65.1).bind fun z66 => some (.inr (z66, p65.2))) fun j1 =>
  (if zw a2 = zw 1 then
    some 1
  else
    some 0 : Option (Int)).bind fun j2 =>
  (zgk K self 5 9).bind fun _ => (qrd_takeRow n K M self j2).bind fun p3 =>
  if zw p3.1 = 0 then
    some (0, p3.2)
  else
    (zgr K p3.2 3 7 a1 0).bind fun r4 =>
    (zpa K p3.2 100 r4 a3 a2).bind fun M5 =>
    (zgr K M5 3 7 a1 1).bind fun r6 =>
    (zgf K M5 5 9 self 8).bind fun v7 =>
    (zpa K M5 100 r6 a3 v7).bind fun M8 =>
    (zgr K M8 3 7 a1 4).bind fun r9 =>
    (if zw a2 = zw 1 then
      (zgr K M8 5 9 self 1).bind fun r41 =>
      (zgf K M8 5 9 self 8).bind fun v42 =>
      (zga K M8 100 r41 v42).bind fun v43 =>
      some v43
    else
      some (-1) : Option (Int)).bind fun j10 =>
    (zpa K M8 100 r9 a3 j10).bind fun M11 =>
    (zgr K M11 3 7 a1 5).bind fun r12 =>
    (zpa K M11 100 r12 a3 (-1)).bind fun M13 =>
    zesc (β := zM) (if zw 1 = 0 then
      (zgk K self 5 9).bind fun _ => (qrd_takeRow n K M13 self 1).bind fun p39 =>
      if zw p39.1 = 0 then
        some (.inr (0, p39.2))
      else
        some (.inl p39.2)
    else
      (zgk K self 5 9).bind fun _ => (qrd_takeNumber n K M13 self 0 999).bind fun p40 =>
      if zw p40.1 = 0 then
        some (.inr (0, p40.2))
      else
        some (.inl p40.2)) fun j14 =>
    (zgr K j14 3 7 a1 2).bind fun r15 =>
    (zgf K j14 5 9 self 8).bind fun v16 =>
    (zpa K j14 100 r15 a3 v16).bind fun M17 =>
    zesc (β := zM) (if zw 1 = 0 then
      (zgk K self 5 9).bind fun _ => (qrd_takeRow n K M17 self 1).bind fun p37 =>
      if zw p37.1 = 0 then
        some (.inr (0, p37.2))
      else
        some (.inl p37.2)
    else
      (zgk K self 5 9).bind fun _ => (qrd_takeNumber n K M17 self 1 99).bind fun p38 =>
      if zw p38.1 = 0 then
        some (.inr (0, p38.2))
      else
        some (.inl p38.2)) fun j18 =>
    (zgr K j18 3 7 a1 3).bind fun r19 =>
    (zgf K j18 5 9 self 8).bind fun v20 =>
    (zpa K j18 100 r19 a3 v20).bind fun M21 =>
    (if zw 1 = 0 then
      (zgr K M21 3 7 a1 4).bind fun r25 =>
      (zgr K M21 5 9 self 1).bind fun r26 =>
      (zgr K M21 3 7 a1 2).bind fun r27 =>
      (zga K M21 100 r27 a3).bind fun v28 =>
      (zga K M21 100 r26 v28).bind fun v29 =>
      (zpa K M21 100 r25 a3 v29).bind fun M30 =>
      (zgr K M30 3 7 a1 5).bind fun r31 =>
      (zgr K M30 5 9 self 1).bind fun r32 =>
      (zgr K M30 3 7 a1 3).bind fun r33 =>
      (zga K M30 100 r33 a3).bind fun v34 =>
      (zga K M30 100 r32 v34).bind fun v35 =>
      (zpa K M30 100 r31 a3 v35).bind fun M36 =>
      some M36
    else
      some M21 : Option (zM)).bind fun j22 =>
    (zgk K self 5 9).bind fun _ => (qrd_takeMark n K j22 self).bind fun p23 =>
    (zbr p23.1).bind fun z24 => some (z24, p23.2)
def qrd_readInto (n : Nat) (K : zK) (M : zM) (self a1 : Int) : Option (Int × zM) :=
  (zpf K M 5 9 self 5 0).bind fun M1 =>
  (zpf K M1 5 9 self 3 0).bind fun M2 =>
  (zpf K M2 5 9 self 4 0).bind fun M3 =>
  (zpf K M3 3 7 a1 6 0).bind fun M4 =>
  (zgr K M4 5 9 self 1).bind fun r5 =>
  (qar_fillI n K M4 r5 (-1)).bind fun M6 =>
  zwh (σ := Int × zM) (fun s7 =>
    if zw 16 < zw s7.1 then
      some (.inr (0, s7.2))
    else
      (zgk K self 5 9).bind fun _ => (qrd_takeToken n K s7.2 self).bind fun p8 =>
      if zw p8.1 = 0 then
        some (.inr (0, p8.2))
      else
        (zgf K p8.2 5 9 self 6).bind fun v9 =>
        if zw v9 = 0 then
          some (.inr (1, p8.2))
        else
          (zgk K self 5 9).bind fun _ => (qrd_kindNamed n K p8.2 self).bind fun v10 =>
          if 0 ≤ zw v10 then
            if zw s7.1 = zw 16 then
              (zgk K self 5 9).bind fun _ => (qrd_refuse K p8.2 self 5).bind fun p11 =>
              (zbr p11.1).bind fun z12 => some (.inr (z12, p11.2))
            else
              (zgk K self 5 9).bind fun _ => (qrd_readLine n K p8.2 self a1 v10 s7.1).bind fun p13 =>
              if zw p13.1 = 0 then
                some (.inr (0, p13.2))
              else
                (zpf K p13.2 3 7 a1 6 (s7.1 + 1)).bind fun M14 =>
                (if zw v10 = zw 1 then
                  some M14
                else
                  (zgr K M14 5 9 self 1).bind fun r16 =>
                  (zgr K M14 3 7 a1 1).bind fun r17 =>
                  (zga K M14 100 r17 s7.1).bind fun v18 =>
                  (zpa K M14 100 r16 v18 s7.1).bind fun M19 =>
                  some M19 : Option (zM)).bind fun j15 =>
                some (.inl (s7.1 + 1, j15))
          else
            (zgk K self 5 9).bind fun _ => (qrd_refuse K p8.2 self 2).bind fun p20 =>
            (zbr p20.1).bind fun z21 => some (.inr (z21, p20.2))) n (0, M6)
def qsh_become (K : zK) (M : zM) (self a1 a2 a3 : Int) : Option (zM) :=
  (zpf K M 6 3 self 0 a1).bind fun M1 =>
  (zpf K M1 6 3 self 1 a2).bind fun M2 =>
  (zpf K M2 6 3 self 2 a3).bind fun M3 =>
  some M3
def qsh_beatsAt (n : Nat) (K : zK) (M : zM) (self a1 a2 a3 a4 : Int) : Option (Int × zM) :=
  (qar_fillI n K M a4 0).bind fun M1 =>
  zwh (σ := Int × Int × zM) (fun s2 =>
    (zgk K self 6 3).bind fun _ => (qsh_size K s2.2.2 self).bind fun v3 =>
    if zw v3 ≤ zw s2.2.1 then
      some (.inr (s2.1, s2.2.2))
    else
      (zgk K self 6 3).bind fun _ => (qsh_rowsDown K s2.2.2 self s2.2.1).bind fun v4 =>
      (zgk K self 6 3).bind fun _ => (qsh_columnsRight K s2.2.2 self s2.2.1).bind fun v5 =>
      (zgk K a1 2 7).bind fun _ => (qla_bankAt K s2.2.2 a1 (a2 + v4) (a3 + v5)).bind fun v6 =>
      (zga K s2.2.2 100 a4 v6).bind fun v7 =>
      (zpa K s2.2.2 100 a4 v6 (v7 + 1)).bind fun M8 =>
      (zga K M8 100 a4 v6).bind fun v9 =>
      (some (zmax s2.1 v9)).bind fun x10 =>
      some (.inl (x10, s2.2.1 + 1, M8))) n (0, 0, M1)
def qsh_isSomewhere (n : Nat) (K : zK) (M : zM) (self a1 : Int) : Option (Int) :=
  zwh (σ := Int) (fun s1 =>
    (zgf K M 2 7 a1 0).bind fun v2 =>
    if zw v2 ≤ zw s1 then
      some (.inr 0)
    else
      zesc (β := Int) (zwh (σ := Int) (fun s3 =>
        (zgf K M 2 7 a1 1).bind fun v5 =>
        if zw v5 ≤ zw s3 then
          some (.inr (.inl s3))
        else
          (zgk K self 6 3).bind fun _ => (qsh_fits K M self a1 s1 s3).bind fun v6 =>
          if zw v6 = 0 then
            some (.inl (s3 + 1))
          else
            some (.inr (.inr (.inr 1)))) n 0) fun e4 =>
      some (.inl (s1 + 1))) n 0
def qst_isNothing (K : zK) (M : zM) (self : Int) : Option (Int) :=
  (zgf K M 7 3 self 1).bind fun v1 =>
  if 0 ≤ zw v1 then
    some 0
  else
    some 1
def qst_has (K : zK) (M : zM) (self a1 : Int) : Option (Int) :=
  (zgf K M 7 3 self 1).bind fun v1 =>
  (qbs_within K M a1 0 (v1 - 1)).bind fun v2 =>
  (zbr v2).bind fun z3 => some z3
def qst_renew (n : Nat) (K : zK) (M : zM) (self a1 a2 : Int) : Option (zM) :=
  (zpf K M 7 3 self 2 a1).bind fun M1 =>
  (zpf K M1 7 3 self 1 a2).bind fun M2 =>
  (zgr K M2 7 3 self 0).bind fun r3 =>
  (qar_fillI n K M2 r3 0).bind fun M4 =>
  some M4
def qst_put (K : zK) (M : zM) (self a1 a2 : Int) : Option (zM) :=
  (zgf K M 7 3 self 2).bind fun v1 =>
  if zw v1 = 0 then
    (zgr K M 7 3 self 0).bind fun r2 =>
    (zpa K M 100 r2 a1 (zb8 a2)).bind fun M3 =>
    some M3
  else
    (zgr K M 7 3 self 0).bind fun r4 =>
    (zgf K M 7 3 self 2).bind fun v5 =>
    (if zw v5 = zw 1 then
      some (zb16 a2)
    else
      some a2 : Option (Int)).bind fun j6 =>
    (zpa K M 100 r4 a1 j6).bind fun M7 =>
    some M7
def qst_refusal (n : Nat) (K : zK) (M : zM) (self a1 a2 : Int) : Option (Int) :=
  zwh (σ := Int) (fun s1 =>
    (zgk K a1 2 7).bind fun _ => (qla_cellCount K M a1).bind fun v2 =>
    if zw v2 ≤ zw s1 then
      some (.inr 0)
    else
      (zgk K self 7 3).bind fun _ => (qst_has K M self (a2 + s1)).bind fun v3 =>
      if zw v3 = 0 then
        some (.inr (-12))
      else
        (zgr K M 7 3 self 0).bind fun r4 =>
        (zga K M 100 r4 (a2 + s1)).bind fun v5 =>
        (zgf K M 2 7 a1 2).bind fun v6 =>
        (qbs_within K M v5 0 (v6 - 1)).bind fun v7 =>
        if zw v7 = 0 then
          some (.inr ((-1000) - s1))
        else
          some (.inl (s1 + 1))) n 0
def qst_copyTo (n : Nat) (K : zK) (M : zM) (self a1 a2 : Int) : Option (Int × zM) :=
  zwh (σ := Int × Int × zM) (fun s1 =>
    (zgk K a1 2 7).bind fun _ => (qla_cellCount K s1.2.2 a1).bind fun v2 =>
    if zw v2 ≤ zw s1.2.1 then
      some (.inr (s1.1, s1.2.2))
    else
      (zgk K self 7 3).bind fun _ => (qst_has K s1.2.2 self (a2 + s1.2.1)).bind fun v3 =>
      if zw v3 = 0 then
        some (.inr (s1.1, s1.2.2))
      else
        (zgf K s1.2.2 2 7 a1 1).bind fun v4 =>
        (zdv s1.2.1 v4).bind fun v5 =>
        (zgf K s1.2.2 2 7 a1 1).bind fun v6 =>
        (zrm s1.2.1 v6).bind fun v7 =>
        (qbs_spot K s1.2.2 v5 v7).bind fun v8 =>
        (zgr K s1.2.2 2 7 a1 6).bind fun r9 =>
        (zga K s1.2.2 100 r9 v8).bind fun v10 =>
        (zgr K s1.2.2 7 3 self 0).bind fun r11 =>
        (zga K s1.2.2 100 r11 (a2 + s1.2.1)).bind fun v12 =>
        (if zw v10 = zw v12 then
          some 0
        else
          some 1 : Option (Int)).bind fun j13 =>
        (some (s1.1 + j13)).bind fun x14 =>
        (zgr K s1.2.2 2 7 a1 6).bind fun r15 =>
        (zgr K s1.2.2 7 3 self 0).bind fun r16 =>
        (zga K s1.2.2 100 r16 (a2 + s1.2.1)).bind fun v17 =>
        (zpa K s1.2.2 100 r15 v8 v17).bind fun M18 =>
        some (.inl (x14, s1.2.1 + 1, M18))) n (0, 0, M)
def qsm_beatOf (n : Nat) (K : zK) (M : zM) (self a1 a2 a3 a4 a5 : Int) : Option (Int × zM) :=
  (zgr K M 8 5 self 0).bind fun r1 =>
  (qar_fillI n K M r1 0).bind fun M2 =>
  zwh (σ := Int × Int × zM) (fun s3 =>
    if zw a5 < zw s3.2.1 then
      some (.inr (s3.1, s3.2.2))
    else
      (zgk K a1 2 7).bind fun _ => (qla_bankOfAddress K s3.2.2 a1 (a3 + (s3.2.1 * a4))).bind fun v4 =>
      (zgr K s3.2.2 8 5 self 0).bind fun r5 =>
      (zga K s3.2.2 100 r5 v4).bind fun v6 =>
      (some (zmax (s3.1 + 1) v6)).bind fun x7 =>
      (zgr K s3.2.2 8 5 self 0).bind fun r8 =>
      (zpa K s3.2.2 100 r8 v4 (x7 + a2)).bind fun M9 =>
      some (.inl (x7, s3.2.1 + 1, M9))) n ((-1), 0, M2)
def qsm_takeFirsts (n : Nat) (K : zK) (M : zM) (self a1 a2 a3 : Int) : Option (Int × zM) :=
  zwh (σ := Int × Int × zM) (fun s1 =>
    if zw a1 ≤ zw s1.2.1 then
      some (.inr (s1.1, s1.2.2))
    else
      (zgr K s1.2.2 8 5 self 1).bind fun r2 =>
      (zga K s1.2.2 100 r2 s1.2.1).bind fun v3 =>
      (if zw v3 ≤ 0 then
        some (s1.1, s1.2.2)
      else
        (zgr K s1.2.2 8 5 self 0).bind fun r5 =>
        (zga K s1.2.2 100 r5 s1.2.1).bind fun v6 =>
        if zw a3 < zw v6 then
          some (s1.1, s1.2.2)
        else
          (zgr K s1.2.2 8 5 self 1).bind fun r7 =>
          (zga K s1.2.2 100 r7 s1.2.1).bind fun v8 =>
          (zpa K s1.2.2 100 r7 s1.2.1 (v8 - 1)).bind fun M9 =>
          (zgr K M9 8 5 self 0).bind fun r10 =>
          (zpa K M9 100 r10 s1.2.1 (a3 + a2)).bind fun M11 =>
          (zpf K M11 8 5 self 2 (a3 + a2)).bind fun M12 =>
          some (s1.1 + 1, M12) : Option (Int × zM)).bind fun j4 =>
      some (.inl (j4.1, s1.2.1 + 1, j4.2))) n (0, 0, M)
def qsm_enter (K : zK) (M : zM) (self a1 a2 : Int) : Option (Int × zM) :=
  (zgr K M 8 5 self 1).bind fun r1 =>
  (zga K M 100 r1 a1).bind fun v2 =>
  if zw v2 < zw a2 then
    (zgr K M 8 5 self 1).bind fun r3 =>
    (zga K M 100 r3 a1).bind fun v4 =>
    (zpa K M 100 r3 a1 (v4 + 1)).bind fun M5 =>
    (zgf K M5 8 5 self 4).bind fun v6 =>
    (zgr K M5 8 5 self 1).bind fun r7 =>
    (zga K M5 100 r7 a1).bind fun v8 =>
    (zpf K M5 8 5 self 4 (zmax v6 v8)).bind fun M9 =>
    some (1, M9)
  else
    (zgf K M 8 5 self 3).bind fun v10 =>
    (zpf K M 8 5 self 3 (v10 + 1)).bind fun M11 =>
    some (0, M11)
def qsm_runQueues (n : Nat) (K : zK) (M : zM) (self a1 a2 a3 a4 a5 a6 : Int) : Option (zM) :=
  (zgr K M 8 5 self 0).bind fun r1 =>
  (qar_fillI n K M r1 0).bind fun M2 =>
  (zgr K M2 8 5 self 1).bind fun r3 =>
  (qar_fillI n K M2 r3 0).bind fun M4 =>
  (zpf K M4 8 5 self 2 0).bind fun M5 =>
  (zpf K M5 8 5 self 3 0).bind fun M6 =>
  (zpf K M6 8 5 self 4 0).bind fun M7 =>
  zwh (σ := Int × Int × Int × zM) (fun s8 =>
    if zw 10000 ≤ zw s8.2.2.1 then
      some (.inr s8.2.2.2)
    else
      if zw a5 ≤ zw s8.2.1 then
        some (.inr s8.2.2.2)
      else
        (zgf K s8.2.2.2 2 7 a1 2).bind fun v9 =>
        (zgk K self 8 5).bind fun _ => (qsm_takeFirsts n K s8.2.2.2 self v9 a2 s8.2.2.1).bind fun p10 =>
        (some (s8.2.1 + p10.1)).bind fun x11 =>
        (if zw a5 ≤ zw s8.1 then
          some (s8.1, p10.2)
        else
          (zgk K a1 2 7).bind fun _ => (qla_bankOfAddress K p10.2 a1 (a3 + (s8.1 * a4))).bind fun v13 =>
          (zgk K self 8 5).bind fun _ => (qsm_enter K p10.2 self v13 a6).bind fun p14 =>
          (some (s8.1 + p14.1)).bind fun x15 =>
          some (x15, p14.2) : Option (Int × zM)).bind fun j12 =>
        some (.inl (j12.1, x11, s8.2.2.1 + 1, j12.2))) n (0, 0, 0, M7)
def qtm_delayOf (K : zK) (M : zM) (a0 a1 : Int) : Option (Int) :=
  if zw a0 = zw 2 then
    some 3
  else
    if zw a0 = zw 3 then
      some 5
    else
      some a1
def qtm_goesAt (K : zK) (M : zM) (self a1 a2 : Int) : Option (Int) :=
  (zgr K M 9 5 self 0).bind fun r1 =>
  (zga K M 100 r1 ((a1 * 64) + a2)).bind fun v2 =>
  some v2
def qtm_thereAt (K : zK) (M : zM) (self a1 a2 : Int) : Option (Int) :=
  (zgk K self 9 5).bind fun _ => (qtm_goesAt K M self a1 a2).bind fun v1 =>
  (zgr K M 9 5 self 1).bind fun r2 =>
  (zga K M 100 r2 a1).bind fun v3 =>
  some (v1 + v3)
def qtm_sourceAt (K : zK) (M : zM) (self a1 a2 : Int) : Option (Int) :=
  if 0 ≤ zw a1 then
    (zgk K self 9 5).bind fun _ => (qtm_thereAt K M self a1 a2).bind fun v1 =>
    some v1
  else
    some 0
def qtm_runLine (n : Nat) (K : zK) (M : zM) (self a1 a2 a3 a4 a5 : Int) : Option (zM) :=
  (zgr K M 3 7 a2 0).bind fun r1 =>
  (zga K M 100 r1 a3).bind fun v2 =>
  (qpr_unitOf K M v2).bind fun v3 =>
  zwh (σ := Int × zM) (fun s4 =>
    if zw a4 ≤ zw s4.1 then
      some (.inr s4.2)
    else
      (if zw a5 = 0 then
        some (a4 - 1)
      else
        some s4.1 : Option (Int)).bind fun j5 =>
      (zgr K s4.2 9 5 self 2).bind fun r6 =>
      (zga K s4.2 100 r6 v3).bind fun v7 =>
      (zgr K s4.2 3 7 a2 4).bind fun r8 =>
      (zga K s4.2 100 r8 a3).bind fun v9 =>
      (zgk K self 9 5).bind fun _ => (qtm_sourceAt K s4.2 self v9 j5).bind fun v10 =>
      (zgr K s4.2 3 7 a2 5).bind fun r11 =>
      (zga K s4.2 100 r11 a3).bind fun v12 =>
      (zgk K self 9 5).bind fun _ => (qtm_sourceAt K s4.2 self v12 j5).bind fun v13 =>
      (some (zmax v7 (zmax v10 v13))).bind fun x14 =>
      (if zw v3 = 0 then
        (zgr K s4.2 3 7 a2 2).bind fun r20 =>
        (zga K s4.2 100 r20 a3).bind fun v21 =>
        (zgr K s4.2 3 7 a2 3).bind fun r22 =>
        (zga K s4.2 100 r22 a3).bind fun v23 =>
        (zgk K a1 2 7).bind fun _ => (qla_bankOfAddress K s4.2 a1 (v21 + (s4.1 * v23))).bind fun v24 =>
        (zgr K s4.2 9 5 self 3).bind fun r25 =>
        (zga K s4.2 100 r25 v24).bind fun v26 =>
        (some (zmax x14 v26)).bind fun x27 =>
        (zgr K s4.2 9 5 self 3).bind fun r28 =>
        (zgr K s4.2 9 5 self 1).bind fun r29 =>
        (zga K s4.2 100 r29 a3).bind fun v30 =>
        (zpa K s4.2 100 r28 v24 (x27 + v30)).bind fun M31 =>
        some (x27, M31)
      else
        some (x14, s4.2) : Option (Int × zM)).bind fun j15 =>
      (zgr K j15.2 9 5 self 0).bind fun r16 =>
      (zpa K j15.2 100 r16 ((a3 * 64) + s4.1) j15.1).bind fun M17 =>
      (zgr K M17 9 5 self 2).bind fun r18 =>
      (zpa K M17 100 r18 v3 (j15.1 + 1)).bind fun M19 =>
      some (.inl (s4.1 + 1, M19))) n (0, M)
def qtm_run (n : Nat) (K : zK) (M : zM) (self a1 a2 a3 a4 a5 : Int) : Option (zM) :=
  (zgr K M 9 5 self 2).bind fun r1 =>
  (qar_fillI n K M r1 0).bind fun M2 =>
  (zgr K M2 9 5 self 3).bind fun r3 =>
  (qar_fillI n K M2 r3 0).bind fun M4 =>
  (zpf K M4 9 5 self 4 0).bind fun M5 =>
  zwh (σ := Int × zM) (fun s6 =>
    (zgf K s6.2 3 7 a3 6).bind fun v7 =>
    if zw v7 ≤ zw s6.1 then
      some (.inr s6.2)
    else
      (zgr K s6.2 9 5 self 1).bind fun r8 =>
      (zgr K s6.2 3 7 a3 0).bind fun r9 =>
      (zga K s6.2 100 r9 s6.1).bind fun v10 =>
      (qtm_delayOf K s6.2 v10 a2).bind fun v11 =>
      (zpa K s6.2 100 r8 s6.1 v11).bind fun M12 =>
      (zgk K self 9 5).bind fun _ => (qtm_runLine n K M12 self a1 a3 s6.1 a4 a5).bind fun M13 =>
      (zgf K M13 9 5 self 4).bind fun v14 =>
      (zgk K self 9 5).bind fun _ => (qtm_thereAt K M13 self s6.1 (a4 - 1)).bind fun v15 =>
      (zpf K M13 9 5 self 4 (zmax v14 v15)).bind fun M16 =>
      some (.inl (s6.1 + 1, M16))) n (0, M5)
def qwi_add (K : zK) (M : zM) (self a1 a2 a3 : Int) : Option (Int × zM) :=
  (zgf K M 10 2 self 1).bind fun v1 =>
  if zw v1 < zw 6 then
    (zgr K M 10 2 self 0).bind fun r2 =>
    (zgf K M 10 2 self 1).bind fun v3 =>
    (zgq K M 103 r2 v3).bind fun r4 =>
    (zgk K r4 6 3).bind fun _ => (qsh_become K M r4 a1 a2 a3).bind fun M5 =>
    (zgf K M5 10 2 self 1).bind fun v6 =>
    (zpf K M5 10 2 self 1 (v6 + 1)).bind fun M7 =>
    (zgf K M7 10 2 self 1).bind fun v8 =>
    some (v8 - 1, M7)
  else
    some ((-3), M)
def qwi_grantedBy (n : Nat) (K : zK) (M : zM) (self a1 : Int) : Option (Int) :=
  zwh (σ := Int × Int) (fun s1 =>
    (zgf K M 10 2 self 1).bind fun v2 =>
    if zw v2 ≤ zw s1.2 then
      some (.inr s1.1)
    else
      (zgr K M 10 2 self 0).bind fun r3 =>
      (zgq K M 103 r3 s1.2).bind fun r4 =>
      (zgk K r4 6 3).bind fun _ => (qsh_isGrantedBy n K M r4 a1).bind fun v5 =>
      (if zw v5 = 0 then
        some s1.1
      else
        (some (zor s1.1 (zshl 1 s1.2))).bind fun x7 =>
        some x7 : Option (Int)).bind fun j6 =>
      some (.inl (j6, s1.2 + 1))) n (0, 0)
def qwi_largestCut (n : Nat) (K : zK) (M : zM) (self a1 : Int) : Option (Int) :=
  zwh (σ := Int × Int) (fun s1 =>
    (zgf K M 10 2 self 1).bind fun v2 =>
    if zw v2 ≤ zw s1.2 then
      some (.inr s1.1)
    else
      (zgr K M 10 2 self 0).bind fun r3 =>
      (zgq K M 103 r3 s1.2).bind fun r4 =>
      (zgk K r4 6 3).bind fun _ => (qsh_isSomewhere n K M r4 a1).bind fun v5 =>
      (if zw v5 = 0 then
        some s1.1
      else
        (zgr K M 10 2 self 0).bind fun r7 =>
        (zgq K M 103 r7 s1.2).bind fun r8 =>
        (zgk K r8 6 3).bind fun _ => (qsh_size K M r8).bind fun v9 =>
        (some (zmax s1.1 v9)).bind fun x10 =>
        some x10 : Option (Int)).bind fun j6 =>
      some (.inl (j6, s1.2 + 1))) n (1, 0)
def qbs_table (n : Nat) (K : zK) (M : zM) (self a1 a2 : Int) : Option (Int × zM) :=
  (qbs_within K M a1 1 16).bind fun v1 =>
  if zw v1 = 0 then
    some ((-1), M)
  else
    (qbs_within K M a2 1 16).bind fun v2 =>
    if zw v2 = 0 then
      some ((-1), M)
    else
      (zgr K M 11 15 self 0).bind fun r3 =>
      (zpf K M 2 7 r3 0 a1).bind fun M4 =>
      (zgr K M4 11 15 self 0).bind fun r5 =>
      (zpf K M4 2 7 r5 1 a2).bind fun M6 =>
      (zgr K M6 11 15 self 0).bind fun r7 =>
      (zgr K M6 2 7 r7 6).bind fun r8 =>
      (qar_fillI n K M6 r8 0).bind fun M9 =>
      some (1, M9)
def qbs_banks (n : Nat) (K : zK) (M : zM) (self a1 : Int) : Option (Int × zM) :=
  (qbs_within K M a1 1 17).bind fun v1 =>
  if zw v1 = 0 then
    some ((-1), M)
  else
    (zgr K M 11 15 self 0).bind fun r2 =>
    (zgf K M 2 7 r2 2).bind fun v3 =>
    (zgr K M 11 15 self 0).bind fun r4 =>
    (zpf K M 2 7 r4 2 a1).bind fun M5 =>
    (zgr K M5 11 15 self 0).bind fun r6 =>
    (zgr K M5 2 7 r6 6).bind fun r7 =>
    (qar_fillI n K M5 r7 0).bind fun M8 =>
    some (v3, M8)
def qbs_law (K : zK) (M : zM) (self a1 a2 a3 : Int) : Option (Int × zM) :=
  (qbs_within K M a1 0 2).bind fun v1 =>
  if zw v1 = 0 then
    some ((-1), M)
  else
    zesc (β := zM) (if zw a1 = zw 2 then
      some (.inl M)
    else
      (qbs_within K M a2 0 16).bind fun v7 =>
      if zw v7 = 0 then
        some (.inr ((-1), M))
      else
        (qbs_within K M a3 0 16).bind fun v8 =>
        if zw v8 = 0 then
          some (.inr ((-1), M))
        else
          (zgr K M 11 15 self 0).bind fun r9 =>
          (zpf K M 2 7 r9 4 a2).bind fun M10 =>
          (zgr K M10 11 15 self 0).bind fun r11 =>
          (zpf K M10 2 7 r11 5 a3).bind fun M12 =>
          some (.inl M12)) fun j2 =>
    (zgr K j2 11 15 self 0).bind fun r3 =>
    (zgf K j2 2 7 r3 3).bind fun v4 =>
    (zgr K j2 11 15 self 0).bind fun r5 =>
    (zpf K j2 2 7 r5 3 a1).bind fun M6 =>
    some (v4, M6)
def qbs_lay (K : zK) (M : zM) (self a1 a2 a3 : Int) : Option (Int × zM) :=
  (zgr K M 11 15 self 0).bind fun r1 =>
  (zgk K r1 2 7).bind fun _ => (qla_has K M r1 a1 a2).bind fun v2 =>
  if zw v2 = 0 then
    some ((-1), M)
  else
    (zgr K M 11 15 self 0).bind fun r3 =>
    (zgf K M 2 7 r3 2).bind fun v4 =>
    (qbs_within K M a3 0 (v4 - 1)).bind fun v5 =>
    if zw v5 = 0 then
      some ((-1), M)
    else
      (zgr K M 11 15 self 0).bind fun r6 =>
      (zgr K M 2 7 r6 6).bind fun r7 =>
      (qbs_spot K M a1 a2).bind fun v8 =>
      (zga K M 100 r7 v8).bind fun v9 =>
      (zgr K M 11 15 self 0).bind fun r10 =>
      (zgr K M 2 7 r10 6).bind fun r11 =>
      (qbs_spot K M a1 a2).bind fun v12 =>
      (zpa K M 100 r11 v12 a3).bind fun M13 =>
      some (v9, M13)
def qbs_cell (n : Nat) (K : zK) (M : zM) (self a1 a2 a3 : Int) : Option (Int) :=
  (zgr K M 11 15 self 0).bind fun r1 =>
  (zgk K r1 2 7).bind fun _ => (qla_has K M r1 a1 a2).bind fun v2 =>
  if zw v2 = 0 then
    some (-1)
  else
    (qbs_within K M a3 0 2).bind fun v3 =>
    if zw v3 = 0 then
      some (-1)
    else
      if zw a3 = 0 then
        (zgr K M 11 15 self 0).bind fun r4 =>
        (zgk K r4 2 7).bind fun _ => (qla_bankAt K M r4 a1 a2).bind fun v5 =>
        some v5
      else
        if zw a3 = zw 1 then
          (zgr K M 11 15 self 0).bind fun r6 =>
          (zgk K r6 2 7).bind fun _ => (qla_placeOf n K M r6 a1 a2).bind fun v7 =>
          some v7
        else
          (zgr K M 11 15 self 0).bind fun r8 =>
          (zgr K M 2 7 r8 6).bind fun r9 =>
          (qbs_spot K M a1 a2).bind fun v10 =>
          (zga K M 100 r9 v10).bind fun v11 =>
          some v11
def qbs_bank (n : Nat) (K : zK) (M : zM) (self a1 a2 : Int) : Option (Int) :=
  (zgr K M 11 15 self 0).bind fun r1 =>
  (zgf K M 2 7 r1 2).bind fun v2 =>
  (qbs_within K M a1 0 (v2 - 1)).bind fun v3 =>
  if zw v3 = 0 then
    some (-1)
  else
    (qbs_within K M a2 0 2).bind fun v4 =>
    if zw v4 = 0 then
      some (-1)
    else
      if zw a2 = 0 then
        (zgr K M 11 15 self 0).bind fun r5 =>
        (zgk K r5 2 7).bind fun _ => (qla_sizeOf n K M r5 a1).bind fun v6 =>
        some v6
      else
        if zw a2 = zw 1 then
          (zgr K M 11 15 self 0).bind fun r7 =>
          (zgk K r7 2 7).bind fun _ => (qla_firstOf n K M r7 a1).bind fun v8 =>
          some v8
        else
          (zgr K M 11 15 self 0).bind fun r9 =>
          (zgk K r9 2 7).bind fun _ => (qla_lastOf n K M r9 a1).bind fun v10 =>
          some v10
def qbs_isShape (K : zK) (M : zM) (a0 a1 a2 : Int) : Option (Int) :=
  (qbs_within K M a0 0 4).bind fun v1 =>
  if zw v1 = 0 then
    some 0
  else
    (qbs_within K M a1 1 16).bind fun v2 =>
    if zw v2 = 0 then
      some 0
    else
      (qbs_within K M a2 1 8).bind fun v3 =>
      if zw v3 = 0 then
        some 0
      else
        some 1
def qbs_cut (n : Nat) (K : zK) (M : zM) (self a1 a2 a3 a4 a5 : Int) : Option (Int × zM) :=
  (qbs_isShape K M a1 a2 a3).bind fun v1 =>
  if zw v1 = 0 then
    some ((-1), M)
  else
    (zgr K M 11 15 self 2).bind fun r2 =>
    (zgk K r2 6 3).bind fun _ => (qsh_become K M r2 a1 a2 a3).bind fun M3 =>
    (zgr K M3 11 15 self 2).bind fun r4 =>
    (zgr K M3 11 15 self 0).bind fun r5 =>
    (zgk K r4 6 3).bind fun _ => (qsh_fits K M3 r4 r5 a4 a5).bind fun v6 =>
    if zw v6 = 0 then
      some ((-1), M3)
    else
      (zgr K M3 11 15 self 2).bind fun r7 =>
      (zgr K M3 11 15 self 0).bind fun r8 =>
      (zgr K M3 11 15 self 3).bind fun r9 =>
      (zgk K r7 6 3).bind fun _ => (qsh_beatsAt n K M3 r7 r8 a4 a5 r9).bind fun p10 =>
      some (p10.1, p10.2)
def qbs_cuts (n : Nat) (K : zK) (M : zM) (self a1 a2 a3 a4 : Int) : Option (Int × zM) :=
  (qbs_isShape K M a1 a2 a3).bind fun v1 =>
  if zw v1 = 0 then
    some ((-1), M)
  else
    (qbs_within K M a4 0 4).bind fun v2 =>
    if zw v2 = 0 then
      some ((-1), M)
    else
      (zgr K M 11 15 self 2).bind fun r3 =>
      (zgk K r3 6 3).bind fun _ => (qsh_become K M r3 a1 a2 a3).bind fun M4 =>
      zwh (σ := Int × Int × Int × Int × Int × Int × zM) (fun s5 =>
        (zgr K s5.2.2.2.2.2.2 11 15 self 0).bind fun r6 =>
        (zgf K s5.2.2.2.2.2.2 2 7 r6 0).bind fun v7 =>
        if zw v7 ≤ zw s5.2.2.2.2.2.1 then
          if zw a4 = 0 then
            some (.inr (s5.1, s5.2.2.2.2.2.2))
          else if zw a4 = 1 then
            some (.inr (s5.2.1, s5.2.2.2.2.2.2))
          else if zw a4 = 2 then
            some (.inr (s5.2.2.1, s5.2.2.2.2.2.2))
          else if zw a4 = 3 then
            some (.inr (s5.2.2.2.1, s5.2.2.2.2.2.2))
          else 
            some (.inr (s5.2.2.2.2.1, s5.2.2.2.2.2.2))
        else
          (zwh (σ := Int × Int × Int × Int × Int × Int × zM) (ρ := Int × Int × Int × Int × Int × Int × zM) (fun s8 =>
            (zgr K s8.2.2.2.2.2.2 11 15 self 0).bind fun r10 =>
            (zgf K s8.2.2.2.2.2.2 2 7 r10 1).bind fun v11 =>
            if zw v11 ≤ zw s8.2.2.2.2.2.1 then
              some (.inr (s8.1, s8.2.1, s8.2.2.1, s8.2.2.2.1, s8.2.2.2.2.1, s8.2.2.2.2.2.1, s8.2.2.2.2.2.2))
            else
              (zgr K s8.2.2.2.2.2.2 11 15 self 2).bind fun r12 =>
              (zgr K s8.2.2.2.2.2.2 11 15 self 0).bind fun r13 =>
              (zgk K r12 6 3).bind fun _ => (qsh_fits K s8.2.2.2.2.2.2 r12 r13 s5.2.2.2.2.2.1 s8.2.2.2.2.2.1).bind fun v14 =>
              (if zw v14 = 0 then
                some (s8.1, s8.2.1, s8.2.2.1, s8.2.2.2.1, s8.2.2.2.2.1, s8.2.2.2.2.2.2)
              else
                (zgr K s8.2.2.2.2.2.2 11 15 self 2).bind fun r16 =>
                (zgr K s8.2.2.2.2.2.2 11 15 self 0).bind fun r17 =>
                (zgr K s8.2.2.2.2.2.2 11 15 self 3).bind fun r18 =>
                (zgk K r16 6 3).bind fun _ => (qsh_beatsAt n K s8.2.2.2.2.2.2 r16 r17 s5.2.2.2.2.2.1 s8.2.2.2.2.2.1 r18).bind fun p19 =>
                (if zw p19.1 = zw 1 then
                  some 1
                else
                  some 0 : Option (Int)).bind fun j20 =>
                (some (s8.2.1 + j20)).bind fun x21 =>
                (some (s8.2.2.2.1 + p19.1)).bind fun x22 =>
                if zw p19.1 ≤ zw s8.2.2.1 then
                  some (s8.1 + 1, x21, s8.2.2.1, x22, s8.2.2.2.2.1, p19.2)
                else
                  (qbs_spot K p19.2 s5.2.2.2.2.2.1 s8.2.2.2.2.2.1).bind fun v23 =>
                  some (s8.1 + 1, x21, p19.1, x22, v23, p19.2) : Option (Int × Int × Int × Int × Int × zM)).bind fun j15 =>
              some (.inl (j15.1, j15.2.1, j15.2.2.1, j15.2.2.2.1, j15.2.2.2.2.1, s8.2.2.2.2.2.1 + 1, j15.2.2.2.2.2))) n (s5.1, s5.2.1, s5.2.2.1, s5.2.2.2.1, s5.2.2.2.2.1, 0, s5.2.2.2.2.2.2)).bind fun e9 =>
          some (.inl (e9.1, e9.2.1, e9.2.2.1, e9.2.2.2.1, e9.2.2.2.2.1, s5.2.2.2.2.2.1 + 1, e9.2.2.2.2.2.2))) n (0, 0, 0, 0, (-4), 0, M4)
def qbs_wish (K : zK) (M : zM) (self a1 a2 a3 : Int) : Option (Int × zM) :=
  (qbs_isShape K M a1 a2 a3).bind fun v1 =>
  if zw v1 = 0 then
    some ((-1), M)
  else
    (zgr K M 11 15 self 4).bind fun r2 =>
    (zgk K r2 10 2).bind fun _ => (qwi_add K M r2 a1 a2 a3).bind fun p3 =>
    some (p3.1, p3.2)
def qbs_forget (K : zK) (M : zM) (self : Int) : Option (Int × zM) :=
  (zgr K M 11 15 self 4).bind fun r1 =>
  (zgf K M 10 2 r1 1).bind fun v2 =>
  (zgr K M 11 15 self 4).bind fun r3 =>
  (zpf K M 10 2 r3 1 0).bind fun M4 =>
  some (v2, M4)
def qbs_granted (n : Nat) (K : zK) (M : zM) (self : Int) : Option (Int) :=
  (zgr K M 11 15 self 4).bind fun r1 =>
  (zgr K M 11 15 self 0).bind fun r2 =>
  (zgk K r1 10 2).bind fun _ => (qwi_grantedBy n K M r1 r2).bind fun v3 =>
  some v3
def qbs_fewest (n : Nat) (K : zK) (M : zM) (self a1 a2 : Int) : Option (Int × zM) :=
  (qbs_within K M a1 0 1).bind fun v1 =>
  if zw v1 = 0 then
    some ((-1), M)
  else
    (qbs_within K M a2 0 3).bind fun v2 =>
    if zw v2 = 0 then
      some ((-1), M)
    else
      (zgr K M 11 15 self 1).bind fun r3 =>
      (zgr K M 11 15 self 0).bind fun r4 =>
      (zgk K r3 2 7).bind fun _ => (qla_takeTable K M r3 r4).bind fun M5 =>
      (zgr K M5 11 15 self 5).bind fun r6 =>
      (zpf K M5 1 3 r6 0 0).bind fun M7 =>
      (zgr K M7 11 15 self 4).bind fun r8 =>
      (zgr K M7 11 15 self 0).bind fun r9 =>
      (zgk K r8 10 2).bind fun _ => (qwi_largestCut n K M7 r8 r9).bind fun v10 =>
      (zwh (σ := Int × Int × zM) (ρ := Int × Int × zM) (fun s11 =>
        if zw 17 < zw s11.2.1 then
          some (.inr (s11.1, s11.2.1, s11.2.2))
        else
          (zgr K s11.2.2 11 15 self 5).bind fun r21 =>
          (zgf K s11.2.2 1 3 r21 0).bind fun v22 =>
          if zw v22 = 0 then
            (zgr K s11.2.2 11 15 self 5).bind fun r23 =>
            (zgr K s11.2.2 11 15 self 1).bind fun r24 =>
            (zgr K s11.2.2 11 15 self 4).bind fun r25 =>
            (zgk K r23 1 3).bind fun _ => (qsl_weighAll n K s11.2.2 r23 r24 a1 s11.2.1 r25).bind fun M26 =>
            some (.inl (s11.2.1, s11.2.1 + 1, M26))
          else
            some (.inr (s11.1, s11.2.1, s11.2.2))) n (0, v10, M7)).bind fun e12 =>
      (zgr K e12.2.2 11 15 self 5).bind fun r13 =>
      (zgf K e12.2.2 1 3 r13 0).bind fun v14 =>
      if zw v14 = 0 then
        some ((-4), e12.2.2)
      else
        if zw a2 = 0 then
          some (e12.1, e12.2.2)
        else if zw a2 = 1 then
          (zgr K e12.2.2 11 15 self 5).bind fun r17 =>
          (zgf K e12.2.2 1 3 r17 0).bind fun v18 =>
          some (v18, e12.2.2)
        else if zw a2 = 2 then
          (zgr K e12.2.2 11 15 self 5).bind fun r19 =>
          (zgf K e12.2.2 1 3 r19 1).bind fun v20 =>
          some (v20, e12.2.2)
        else 
          (zgr K e12.2.2 11 15 self 5).bind fun r15 =>
          (zgf K e12.2.2 1 3 r15 2).bind fun v16 =>
          some (v16, e12.2.2)
def qbs_bound (n : Nat) (K : zK) (M : zM) (self : Int) : Option (Int) :=
  (zgr K M 11 15 self 4).bind fun r1 =>
  (zgr K M 11 15 self 0).bind fun r2 =>
  (zgk K r1 10 2).bind fun _ => (qwi_largestCut n K M r1 r2).bind fun v3 =>
  some v3
def qbs_free (n : Nat) (K : zK) (M : zM) (self : Int) : Option (Int × zM) :=
  (zgr K M 11 15 self 0).bind fun r1 =>
  (zgk K r1 2 7).bind fun _ => (qla_cellCount K M r1).bind fun v2 =>
  if zw v2 ≤ zw 64 then
    (zgr K M 11 15 self 6).bind fun r3 =>
    (zgr K M 11 15 self 0).bind fun r4 =>
    (zgr K M 11 15 self 4).bind fun r5 =>
    (zgk K r3 0 5).bind fun _ => (qfs_gather n K M r3 r4 r5).bind fun M6 =>
    (zgr K M6 11 15 self 6).bind fun r7 =>
    (zgr K M6 11 15 self 0).bind fun r8 =>
    (zgf K M6 2 7 r8 2).bind fun v9 =>
    (zgk K r7 0 5).bind fun _ => (qfs_seek n K M6 r7 v9).bind fun p10 =>
    if zw p10.1 ≤ 0 then
      some (p10.1, p10.2)
    else
      (zgr K p10.2 11 15 self 6).bind fun r11 =>
      (zgr K p10.2 11 15 self 0).bind fun r12 =>
      (zgk K r11 0 5).bind fun _ => (qfs_copyTo n K p10.2 r11 r12).bind fun M13 =>
      some (p10.1, M13)
  else
    some ((-2), M)
def qbs_freeBanks (n : Nat) (K : zK) (M : zM) (self : Int) : Option (Int × zM) :=
  (zgr K M 11 15 self 0).bind fun r1 =>
  (zgk K r1 2 7).bind fun _ => (qla_cellCount K M r1).bind fun v2 =>
  if zw v2 ≤ zw 64 then
    (zgr K M 11 15 self 6).bind fun r3 =>
    (zgr K M 11 15 self 0).bind fun r4 =>
    (zgr K M 11 15 self 4).bind fun r5 =>
    (zgk K r3 0 5).bind fun _ => (qfs_gather n K M r3 r4 r5).bind fun M6 =>
    zwh (σ := Int × zM) (fun s7 =>
      if zw 17 < zw s7.1 then
        some (.inr ((-4), s7.2))
      else
        (zgr K s7.2 11 15 self 6).bind fun r8 =>
        (zgk K r8 0 5).bind fun _ => (qfs_seek n K s7.2 r8 s7.1).bind fun p9 =>
        if zw p9.1 ≤ 0 then
          if zw p9.1 = zw (-6) then
            some (.inr ((-6), p9.2))
          else
            some (.inl (s7.1 + 1, p9.2))
        else
          some (.inr (s7.1, p9.2))) n (1, M6)
  else
    some ((-2), M)
def qbs_rest (K : zK) (M : zM) (self a1 : Int) : Option (Int × zM) :=
  (qbs_within K M a1 1 12).bind fun v1 =>
  if zw v1 = 0 then
    some ((-1), M)
  else
    (zgf K M 11 15 self 14).bind fun v2 =>
    (zpf K M 11 15 self 14 a1).bind fun M3 =>
    some (v2, M3)
def qbs_isStream (K : zK) (M : zM) (a0 a1 : Int) : Option (Int) :=
  (qbs_within K M a0 0 999).bind fun v1 =>
  if zw v1 = 0 then
    some 0
  else
    (qbs_within K M a1 1 99).bind fun v2 =>
    if zw v2 = 0 then
      some 0
    else
      some 1
def qbs_inOrder (n : Nat) (K : zK) (M : zM) (self a1 a2 a3 : Int) : Option (Int × zM) :=
  (qbs_isStream K M a1 a2).bind fun v1 =>
  if zw v1 = 0 then
    some ((-1), M)
  else
    (qbs_within K M a3 1 200).bind fun v2 =>
    if zw v2 = 0 then
      some ((-1), M)
    else
      (zgr K M 11 15 self 7).bind fun r3 =>
      (zgr K M 11 15 self 0).bind fun r4 =>
      (zgf K M 11 15 self 14).bind fun v5 =>
      (zgk K r3 8 5).bind fun _ => (qsm_beatOf n K M r3 r4 v5 a1 a2 (a3 - 1)).bind fun p6 =>
      (zgf K p6.2 11 15 self 14).bind fun v7 =>
      some (p6.1 + v7, p6.2)
def qbs_beat (n : Nat) (K : zK) (M : zM) (self a1 a2 a3 : Int) : Option (Int × zM) :=
  (qbs_isStream K M a1 a2).bind fun v1 =>
  if zw v1 = 0 then
    some ((-1), M)
  else
    (qbs_within K M a3 0 199).bind fun v2 =>
    if zw v2 = 0 then
      some ((-1), M)
    else
      (zgr K M 11 15 self 7).bind fun r3 =>
      (zgr K M 11 15 self 0).bind fun r4 =>
      (zgf K M 11 15 self 14).bind fun v5 =>
      (zgk K r3 8 5).bind fun _ => (qsm_beatOf n K M r3 r4 v5 a1 a2 a3).bind fun p6 =>
      some (p6.1, p6.2)
def qbs_queued (n : Nat) (K : zK) (M : zM) (self a1 a2 a3 a4 a5 : Int) : Option (Int × zM) :=
  (qbs_isStream K M a1 a2).bind fun v1 =>
  if zw v1 = 0 then
    some ((-1), M)
  else
    (qbs_within K M a3 1 200).bind fun v2 =>
    if zw v2 = 0 then
      some ((-1), M)
    else
      (qbs_within K M a4 1 8).bind fun v3 =>
      if zw v3 = 0 then
        some ((-1), M)
      else
        (qbs_within K M a5 0 2).bind fun v4 =>
        if zw v4 = 0 then
          some ((-1), M)
        else
          (zgr K M 11 15 self 7).bind fun r5 =>
          (zgr K M 11 15 self 0).bind fun r6 =>
          (zgf K M 11 15 self 14).bind fun v7 =>
          (zgk K r5 8 5).bind fun _ => (qsm_runQueues n K M r5 r6 v7 a1 a2 a3 a4).bind fun M8 =>
          if zw a5 = 0 then
            (zgr K M8 11 15 self 7).bind fun r9 =>
            (zgf K M8 8 5 r9 2).bind fun v10 =>
            some (v10, M8)
          else
            if zw a5 = zw 1 then
              (zgr K M8 11 15 self 7).bind fun r11 =>
              (zgf K M8 8 5 r11 3).bind fun v12 =>
              some (v12, M8)
            else
              (zgr K M8 11 15 self 7).bind fun r13 =>
              (zgf K M8 8 5 r13 4).bind fun v14 =>
              some (v14, M8)
def qbs_rate (n : Nat) (K : zK) (M : zM) (self a1 a2 a3 : Int) : Option (Int × zM) :=
  (qbs_isStream K M a1 a2).bind fun v1 =>
  if zw v1 = 0 then
    some ((-1), M)
  else
    (qbs_within K M a3 0 2).bind fun v2 =>
    if zw v2 = 0 then
      some ((-1), M)
    else
      (zgr K M 11 15 self 8).bind fun r3 =>
      (zgr K M 11 15 self 0).bind fun r4 =>
      (zgf K M 11 15 self 14).bind fun v5 =>
      (zgk K r3 4 7).bind fun _ => (qra_seek n K M r3 r4 v5 a1 a2).bind fun p6 =>
      if zw p6.1 = 0 then
        some ((-6), p6.2)
      else
        if zw a3 = 0 then
          (zgr K p6.2 11 15 self 8).bind fun r7 =>
          (zgf K p6.2 4 7 r7 4).bind fun v8 =>
          some (v8, p6.2)
        else
          if zw a3 = zw 1 then
            (zgr K p6.2 11 15 self 8).bind fun r9 =>
            (zgf K p6.2 4 7 r9 5).bind fun v10 =>
            some (v10, p6.2)
          else
            (zgr K p6.2 11 15 self 8).bind fun r11 =>
            (zgf K p6.2 4 7 r11 6).bind fun v12 =>
            some (v12, p6.2)
def qbs_steps (n : Nat) (K : zK) (M : zM) (self a1 : Int) : Option (Int × zM) :=
  (qbs_within K M a1 0 1).bind fun v1 =>
  if zw v1 = 0 then
    some ((-1), M)
  else
    zwh (σ := Int × Int × Int × Int × Int × zM) (fun s2 =>
      if zw 99 < zw s2.2.2.2.2.1 then
        if zw a1 = 0 then
          some (.inr (s2.1, s2.2.2.2.2.2))
        else
          some (.inr (s2.2.1, s2.2.2.2.2.2))
      else
        (zgr K s2.2.2.2.2.2 11 15 self 8).bind fun r3 =>
        (zgr K s2.2.2.2.2.2 11 15 self 0).bind fun r4 =>
        (zgf K s2.2.2.2.2.2 11 15 self 14).bind fun v5 =>
        (zgk K r3 4 7).bind fun _ => (qra_seek n K s2.2.2.2.2.2 r3 r4 v5 0 s2.2.2.2.2.1).bind fun p6 =>
        if zw p6.1 = 0 then
          some (.inr ((-6), p6.2))
        else
          (zgr K p6.2 11 15 self 8).bind fun r7 =>
          (zgf K p6.2 4 7 r7 4).bind fun v8 =>
          (zgr K p6.2 11 15 self 8).bind fun r9 =>
          (zgf K p6.2 4 7 r9 5).bind fun v10 =>
          (if zw v8 = zw v10 then
            some 1
          else
            some 0 : Option (Int)).bind fun j11 =>
          (some (s2.1 + j11)).bind fun x12 =>
          zesc (β := Unit) (if zw s2.2.1 = 0 then
            some (.inl ())
          else
            (zgr K p6.2 11 15 self 8).bind fun r18 =>
            (zgf K p6.2 4 7 r18 4).bind fun v19 =>
            (zgr K p6.2 11 15 self 8).bind fun r20 =>
            (zgf K p6.2 4 7 r20 5).bind fun v21 =>
            if 0 ≤ zw (zlcmp ((zw v19) * (zw s2.2.2.2.1)) ((zw s2.2.2.1) * (zw v21))) then
              some (.inr (.inl (x12, s2.2.1, s2.2.2.1, s2.2.2.2.1, s2.2.2.2.2.1 + 1, p6.2)))
            else
              some (.inl ())) fun j13 =>
          (zgr K p6.2 11 15 self 8).bind fun r14 =>
          (zgf K p6.2 4 7 r14 4).bind fun v15 =>
          (zgr K p6.2 11 15 self 8).bind fun r16 =>
          (zgf K p6.2 4 7 r16 5).bind fun v17 =>
          some (.inl (x12, s2.2.2.2.2.1, v15, v17, s2.2.2.2.2.1 + 1, p6.2))) n (0, 0, 0, 0, 1, M)
def qbs_feed (n : Nat) (K : zK) (M : zM) (self a1 : Int) : Option (Int × zM) :=
  (zgr K M 11 15 self 9).bind fun r1 =>
  (zgk K r1 5 9).bind fun _ => (qrd_append n K M r1 a1).bind fun p2 =>
  some (p2.1, p2.2)
def qbs_end (K : zK) (M : zM) (self a1 : Int) : Option (Int × zM) :=
  (zgr K M 11 15 self 9).bind fun r1 =>
  (zgf K M 5 9 r1 2).bind fun v2 =>
  (qbs_within K M a1 0 v2).bind fun v3 =>
  if zw v3 = 0 then
    some ((-1), M)
  else
    (zgr K M 11 15 self 9).bind fun r4 =>
    (zgf K M 5 9 r4 2).bind fun v5 =>
    (zgr K M 11 15 self 9).bind fun r6 =>
    (zpf K M 5 9 r6 2 a1).bind fun M7 =>
    some (v5, M7)
def qbs_program (n : Nat) (K : zK) (M : zM) (self : Int) : Option (Int × zM) :=
  (zgr K M 11 15 self 9).bind fun r1 =>
  (zgr K M 11 15 self 13).bind fun r2 =>
  (zgk K r1 5 9).bind fun _ => (qrd_readInto n K M r1 r2).bind fun p3 =>
  (zgr K p3.2 11 15 self 9).bind fun r4 =>
  (zpf K p3.2 5 9 r4 2 0).bind fun M5 =>
  if zw p3.1 = 0 then
    (zgr K M5 11 15 self 9).bind fun r6 =>
    (zgf K M5 5 9 r6 4).bind fun v7 =>
    some ((-10) - v7, M5)
  else
    (zgr K M5 11 15 self 12).bind fun r8 =>
    (zgr K M5 11 15 self 13).bind fun r9 =>
    (zpf K M5 11 15 self 12 r9).bind fun M10 =>
    (zpf K M10 11 15 self 13 r8).bind fun M11 =>
    (zgr K M11 11 15 self 12).bind fun r12 =>
    (zgf K M11 3 7 r12 6).bind fun v13 =>
    some (v13, M11)
def qbs_fault (K : zK) (M : zM) (self : Int) : Option (Int) :=
  (zgr K M 11 15 self 9).bind fun r1 =>
  (zgf K M 5 9 r1 3).bind fun v2 =>
  some v2
def qbs_line (K : zK) (M : zM) (self a1 a2 : Int) : Option (Int) :=
  (zgr K M 11 15 self 12).bind fun r1 =>
  (zgf K M 3 7 r1 6).bind fun v2 =>
  (qbs_within K M a1 0 (v2 - 1)).bind fun v3 =>
  if zw v3 = 0 then
    some (-1)
  else
    (qbs_within K M a2 0 3).bind fun v4 =>
    if zw v4 = 0 then
      some (-1)
    else
      if zw a2 = 0 then
        (zgr K M 11 15 self 12).bind fun r8 =>
        (zgr K M 3 7 r8 0).bind fun r9 =>
        (zga K M 100 r9 a1).bind fun v10 =>
        some v10
      else if zw a2 = 1 then
        (zgr K M 11 15 self 12).bind fun r11 =>
        (zgr K M 3 7 r11 1).bind fun r12 =>
        (zga K M 100 r12 a1).bind fun v13 =>
        some v13
      else if zw a2 = 2 then
        (zgr K M 11 15 self 12).bind fun r14 =>
        (zgr K M 3 7 r14 2).bind fun r15 =>
        (zga K M 100 r15 a1).bind fun v16 =>
        some v16
      else 
        (zgr K M 11 15 self 12).bind fun r5 =>
        (zgr K M 3 7 r5 3).bind fun r6 =>
        (zga K M 100 r6 a1).bind fun v7 =>
        some v7
def qbs_time (n : Nat) (K : zK) (M : zM) (self a1 a2 a3 : Int) : Option (Int × zM) :=
  (qbs_within K M a1 1 64).bind fun v1 =>
  if zw v1 = 0 then
    some ((-1), M)
  else
    zesc (β := Unit) (if zw a3 = zw (-4) then
      some (.inl ())
    else
      (zgr K M 11 15 self 12).bind fun r12 =>
      (zgf K M 3 7 r12 6).bind fun v13 =>
      (qbs_within K M a3 0 (v13 - 1)).bind fun v14 =>
      if zw v14 = 0 then
        some (.inr ((-1), M))
      else
        some (.inl ())) fun j2 =>
    (zgr K M 11 15 self 10).bind fun r3 =>
    (zgr K M 11 15 self 0).bind fun r4 =>
    (zgf K M 11 15 self 14).bind fun v5 =>
    (zgr K M 11 15 self 12).bind fun r6 =>
    (zgk K r3 9 5).bind fun _ => (qtm_run n K M r3 r4 v5 r6 a1 a2).bind fun M7 =>
    if zw a3 = zw (-4) then
      (zgr K M7 11 15 self 10).bind fun r8 =>
      (zgf K M7 9 5 r8 4).bind fun v9 =>
      some (v9, M7)
    else
      (zgr K M7 11 15 self 10).bind fun r10 =>
      (zgk K r10 9 5).bind fun _ => (qtm_thereAt K M7 r10 a3 (a1 - 1)).bind fun v11 =>
      some (v11, M7)
def qbs_when (n : Nat) (K : zK) (M : zM) (self a1 a2 a3 a4 a5 : Int) : Option (Int × zM) :=
  (qbs_within K M a1 1 64).bind fun v1 =>
  if zw v1 = 0 then
    some ((-1), M)
  else
    (zgr K M 11 15 self 12).bind fun r2 =>
    (zgf K M 3 7 r2 6).bind fun v3 =>
    (qbs_within K M a3 0 (v3 - 1)).bind fun v4 =>
    if zw v4 = 0 then
      some ((-1), M)
    else
      (qbs_within K M a4 0 (a1 - 1)).bind fun v5 =>
      if zw v5 = 0 then
        some ((-1), M)
      else
        (qbs_within K M a5 0 1).bind fun v6 =>
        if zw v6 = 0 then
          some ((-1), M)
        else
          (zgr K M 11 15 self 10).bind fun r7 =>
          (zgr K M 11 15 self 0).bind fun r8 =>
          (zgf K M 11 15 self 14).bind fun v9 =>
          (zgr K M 11 15 self 12).bind fun r10 =>
          (zgk K r7 9 5).bind fun _ => (qtm_run n K M r7 r8 v9 r10 a1 a2).bind fun M11 =>
          if zw a5 = 0 then
            (zgr K M11 11 15 self 10).bind fun r12 =>
            (zgk K r12 9 5).bind fun _ => (qtm_goesAt K M11 r12 a3 a4).bind fun v13 =>
            some (v13, M11)
          else
            (zgr K M11 11 15 self 10).bind fun r14 =>
            (zgk K r14 9 5).bind fun _ => (qtm_thereAt K M11 r14 a3 a4).bind fun v15 =>
            some (v15, M11)
def qbs_used (n : Nat) (K : zK) (M : zM) (self a1 a2 a3 a4 : Int) : Option (Int × zM) :=
  (qbs_within K M a1 1 64).bind fun v1 =>
  if zw v1 = 0 then
    some ((-1), M)
  else
    (qbs_within K M a3 0 2).bind fun v2 =>
    if zw v2 = 0 then
      some ((-1), M)
    else
      (qbs_within K M a4 0 1).bind fun v3 =>
      if zw v3 = 0 then
        some ((-1), M)
      else
        if zw a4 = 0 then
          (zgr K M 11 15 self 12).bind fun r4 =>
          (zgk K r4 3 7).bind fun _ => (qpr_linesOf n K M r4 a3).bind fun v5 =>
          some (v5 * a1, M)
        else
          (zgr K M 11 15 self 10).bind fun r6 =>
          (zgr K M 11 15 self 0).bind fun r7 =>
          (zgf K M 11 15 self 14).bind fun v8 =>
          (zgr K M 11 15 self 12).bind fun r9 =>
          (zgk K r6 9 5).bind fun _ => (qtm_run n K M r6 r7 v8 r9 a1 a2).bind fun M10 =>
          (zgr K M10 11 15 self 10).bind fun r11 =>
          (zgf K M10 9 5 r11 4).bind fun v12 =>
          some (v12, M10)
def qbs_tuned (n : Nat) (K : zK) (M : zM) (self a1 a2 a3 : Int) : Option (Int × zM) :=
  (qbs_within K M a1 1 64).bind fun v1 =>
  if zw v1 = 0 then
    some ((-1), M)
  else
    (qbs_within K M a3 0 2).bind fun v2 =>
    if zw v2 = 0 then
      some ((-1), M)
    else
      (zgr K M 11 15 self 1).bind fun r3 =>
      (zgr K M 11 15 self 0).bind fun r4 =>
      (zgk K r3 2 7).bind fun _ => (qla_takeTable K M r3 r4).bind fun M5 =>
      zwh (σ := Int × Int × Int × Int × zM) (fun s6 =>
        (zgr K s6.2.2.2.2 11 15 self 0).bind fun r7 =>
        (zgf K s6.2.2.2.2 2 7 r7 2).bind fun v8 =>
        if zw v8 ≤ zw s6.2.2.2.1 then
          if zw a3 = 0 then
            some (.inr (s6.1, s6.2.2.2.2))
          else
            if zw a3 = zw 1 then
              some (.inr (s6.2.1, s6.2.2.2.2))
            else
              some (.inr (s6.2.2.1, s6.2.2.2.2))
        else
          (zwh (σ := Int × Int × Int × Int × zM) (ρ := Int × Int × Int × Int × zM) (fun s9 =>
            (zgr K s9.2.2.2.2 11 15 self 0).bind fun r11 =>
            (zgf K s9.2.2.2.2 2 7 r11 2).bind fun v12 =>
            if zw v12 ≤ zw s9.2.2.2.1 then
              some (.inr (s9.1, s9.2.1, s9.2.2.1, s9.2.2.2.1, s9.2.2.2.2))
            else
              (zgr K s9.2.2.2.2 11 15 self 1).bind fun r13 =>
              (zgr K s9.2.2.2.2 11 15 self 0).bind fun r14 =>
              (zgf K s9.2.2.2.2 2 7 r14 2).bind fun v15 =>
              (zgk K r13 2 7).bind fun _ => (qla_takeLaw K s9.2.2.2.2 r13 0 s6.2.2.2.1 s9.2.2.2.1 v15).bind fun M16 =>
              (zgr K M16 11 15 self 10).bind fun r17 =>
              (zgr K M16 11 15 self 1).bind fun r18 =>
              (zgf K M16 11 15 self 14).bind fun v19 =>
              (zgr K M16 11 15 self 12).bind fun r20 =>
              (zgk K r17 9 5).bind fun _ => (qtm_run n K M16 r17 r18 v19 r20 a1 a2).bind fun M21 =>
              zesc (β := Unit) (if zw s9.2.2.1 < 0 then
                some (.inl ())
              else
                (zgr K M21 11 15 self 10).bind fun r25 =>
                (zgf K M21 9 5 r25 4).bind fun v26 =>
                if zw s9.2.2.1 ≤ zw v26 then
                  some (.inr (.inl (s9.1, s9.2.1, s9.2.2.1, s9.2.2.2.1 + 1, M21)))
                else
                  some (.inl ())) fun j22 =>
              (zgr K M21 11 15 self 10).bind fun r23 =>
              (zgf K M21 9 5 r23 4).bind fun v24 =>
              some (.inl (s6.2.2.2.1, s9.2.2.2.1, v24, s9.2.2.2.1 + 1, M21))) n (s6.1, s6.2.1, s6.2.2.1, 0, s6.2.2.2.2)).bind fun e10 =>
          some (.inl (e10.1, e10.2.1, e10.2.2.1, s6.2.2.2.1 + 1, e10.2.2.2.2))) n (0, 0, (-1), 0, M5)
def qbs_sheet (n : Nat) (K : zK) (M : zM) (self a1 a2 a3 : Int) : Option (Int × zM) :=
  (qbs_within K M a1 0 3).bind fun v1 =>
  if zw v1 = 0 then
    some ((-1), M)
  else
    (qbs_within K M a2 0 2).bind fun v2 =>
    if zw v2 = 0 then
      some ((-1), M)
    else
      if zw a3 ≤ zw 256 then
        if 0 ≤ zw a3 then
          (zgr K M 11 15 self 11).bind fun r3 =>
          (zgq K M 104 r3 a1).bind fun r4 =>
          (zgk K r4 7 3).bind fun _ => (qst_renew n K M r4 a2 a3).bind fun M5 =>
          some (1, M5)
        else
          some ((-14), M)
      else
        some ((-1), M)
def qbs_write (K : zK) (M : zM) (self a1 a2 a3 : Int) : Option (Int × zM) :=
  (qbs_within K M a1 0 3).bind fun v1 =>
  if zw v1 = 0 then
    some ((-1), M)
  else
    (zgr K M 11 15 self 11).bind fun r2 =>
    (zgq K M 104 r2 a1).bind fun r3 =>
    (zgk K r3 7 3).bind fun _ => (qst_isNothing K M r3).bind fun v4 =>
    if zw v4 = 0 then
      (zgk K r3 7 3).bind fun _ => (qst_has K M r3 a2).bind fun v5 =>
      if zw v5 = 0 then
        some ((-12), M)
      else
        (zgk K r3 7 3).bind fun _ => (qst_put K M r3 a2 a3).bind fun M6 =>
        some (1, M6)
    else
      some ((-11), M)
def qbs_read (n : Nat) (K : zK) (M : zM) (self a1 a2 a3 : Int) : Option (Int × zM) :=
  (qbs_within K M a1 0 3).bind fun v1 =>
  if zw v1 = 0 then
    some ((-1), M)
  else
    (qbs_within K M a2 0 2).bind fun v2 =>
    if zw v2 = 0 then
      some ((-1), M)
    else
      (zgr K M 11 15 self 11).bind fun r3 =>
      (zgq K M 104 r3 a1).bind fun r4 =>
      (zgk K r4 7 3).bind fun _ => (qst_isNothing K M r4).bind fun v5 =>
      if zw v5 = 0 then
        (zgf K M 7 3 r4 2).bind fun v6 =>
        if zw v6 = zw a2 then
          (zgr K M 11 15 self 0).bind fun r7 =>
          (zgk K r4 7 3).bind fun _ => (qst_refusal n K M r4 r7 a3).bind fun v8 =>
          if 0 ≤ zw v8 then
            (zgr K M 11 15 self 0).bind fun r9 =>
            (zgk K r4 7 3).bind fun _ => (qst_copyTo n K M r4 r9 a3).bind fun p10 =>
            some (p10.1, p10.2)
          else
            some (v8, M)
        else
          some ((-13), M)
      else
        some ((-11), M)
def qbs_count (K : zK) (M : zM) (self a1 : Int) : Option (Int) :=
  if zw a1 = 0 then
    (zgr K M 11 15 self 0).bind fun r1 =>
    (zgf K M 2 7 r1 0).bind fun v2 =>
    some v2
  else if zw a1 = 1 then
    (zgr K M 11 15 self 0).bind fun r3 =>
    (zgf K M 2 7 r3 1).bind fun v4 =>
    some v4
  else if zw a1 = 2 then
    (zgr K M 11 15 self 0).bind fun r5 =>
    (zgf K M 2 7 r5 2).bind fun v6 =>
    some v6
  else if zw a1 = 3 then
    (zgr K M 11 15 self 0).bind fun r7 =>
    (zgf K M 2 7 r7 3).bind fun v8 =>
    some v8
  else if zw a1 = 4 then
    (zgr K M 11 15 self 0).bind fun r9 =>
    (zgf K M 2 7 r9 4).bind fun v10 =>
    some v10
  else if zw a1 = 5 then
    (zgr K M 11 15 self 0).bind fun r11 =>
    (zgf K M 2 7 r11 5).bind fun v12 =>
    some v12
  else if zw a1 = 6 then
    (zgr K M 11 15 self 4).bind fun r13 =>
    (zgf K M 10 2 r13 1).bind fun v14 =>
    some v14
  else if zw a1 = 7 then
    (zgf K M 11 15 self 14).bind fun v15 =>
    some v15
  else if zw a1 = 8 then
    (zgr K M 11 15 self 12).bind fun r16 =>
    (zgf K M 3 7 r16 6).bind fun v17 =>
    some v17
  else if zw a1 = 9 then
    (zgr K M 11 15 self 9).bind fun r18 =>
    (zgf K M 5 9 r18 2).bind fun v19 =>
    some v19
  else if zw a1 = 10 then
    (zgr K M 11 15 self 11).bind fun r20 =>
    (zgq K M 104 r20 0).bind fun r21 =>
    (zgk K r21 7 3).bind fun _ => (qst_isNothing K M r21).bind fun v22 =>
    if zw v22 = 0 then
      (zgr K M 11 15 self 11).bind fun r23 =>
      (zgq K M 104 r23 0).bind fun r24 =>
      (zgf K M 7 3 r24 1).bind fun v25 =>
      some v25
    else
      some (-4)
  else 
    some (-1)
def qmd_in (K : zK) (M : zM) (a0 a2 a4 : Int) : Option (Int) :=
  if zw (zlcmp a0 a2) < 0 then
    some 0
  else
    if 0 < zw (zlcmp a0 a4) then
      some 0
    else
      some 1
def qmd_forgetsTold (n : Nat) (K : zK) (M : zM) (self : Int) : Option (zM) :=
  zwh (σ := Int × zM) (fun s1 =>
    if zw 256 ≤ zw s1.1 then
      some (.inr s1.2)
    else
      (zgr K s1.2 12 49 self 6).bind fun r2 =>
      (zpa K s1.2 100 r2 s1.1 0).bind fun M3 =>
      some (.inl (s1.1 + 1, M3))) n (0, M)
def qmd_table (n : Nat) (K : zK) (M : zM) (self a1 a2 : Int) : Option (Int × zM) :=
  (qmd_in K M (zw a1) 1 16).bind fun v1 =>
  if zw v1 = 0 then
    some ((-1), M)
  else
    (qmd_in K M (zw a2) 1 16).bind fun v2 =>
    if zw v2 = 0 then
      some ((-1), M)
    else
      (zpf K M 12 49 self 0 a1).bind fun M3 =>
      (zpf K M3 12 49 self 1 a2).bind fun M4 =>
      (zgk K self 12 49).bind fun _ => (qmd_forgetsTold n K M4 self).bind fun M5 =>
      some (1, M5)
def qmd_banks (n : Nat) (K : zK) (M : zM) (self a1 : Int) : Option (Int × zM) :=
  (qmd_in K M (zw a1) 1 17).bind fun v1 =>
  if zw v1 = 0 then
    some ((-1), M)
  else
    (zgf K M 12 49 self 2).bind fun v2 =>
    (zpf K M 12 49 self 2 a1).bind fun M3 =>
    (zgk K self 12 49).bind fun _ => (qmd_forgetsTold n K M3 self).bind fun M4 =>
    some (v2, M4)
def qmd_law (K : zK) (M : zM) (self a1 a2 a3 : Int) : Option (Int × zM) :=
  (qmd_in K M (zw a1) 0 2).bind fun v1 =>
  if zw v1 = 0 then
    some ((-1), M)
  else
    zesc (β := Unit) (if zw 2 ≤ zw a1 then
      some (.inl ())
    else
      (qmd_in K M (zw a2) 0 16).bind fun v11 =>
      if zw v11 = 0 then
        some (.inr ((-1), M))
      else
        (qmd_in K M (zw a3) 0 16).bind fun v12 =>
        if zw v12 = 0 then
          some (.inr ((-1), M))
        else
          some (.inl ())) fun j2 =>
    (zgf K M 12 49 self 3).bind fun v3 =>
    (zpf K M 12 49 self 3 a1).bind fun M4 =>
    (if zw 2 ≤ zw a1 then
      (zgf K M4 12 49 self 4).bind fun v10 =>
      some v10
    else
      some a2 : Option (Int)).bind fun j5 =>
    (zpf K M4 12 49 self 4 j5).bind fun M6 =>
    (if zw 2 ≤ zw a1 then
      (zgf K M6 12 49 self 5).bind fun v9 =>
      some v9
    else
      some a3 : Option (Int)).bind fun j7 =>
    (zpf K M6 12 49 self 5 j7).bind fun M8 =>
    some (v3, M8)
def qmd_isCell (K : zK) (M : zM) (self a1 a2 : Int) : Option (Int) :=
  (zgf K M 12 49 self 0).bind fun v1 =>
  (qmd_in K M (zw a1) 0 (zw (v1 - 1))).bind fun v2 =>
  if zw v2 = 0 then
    some 0
  else
    (zgf K M 12 49 self 1).bind fun v3 =>
    (qmd_in K M (zw a2) 0 (zw (v3 - 1))).bind fun v4 =>
    if zw v4 = 0 then
      some 0
    else
      some 1
def qmd_lay (K : zK) (M : zM) (self a1 a2 a3 : Int) : Option (Int × zM) :=
  (zgk K self 12 49).bind fun _ => (qmd_isCell K M self a1 a2).bind fun v1 =>
  if zw v1 = 0 then
    some ((-1), M)
  else
    (zgf K M 12 49 self 2).bind fun v2 =>
    (qmd_in K M (zw a3) 0 (zw (v2 - 1))).bind fun v3 =>
    if zw v3 = 0 then
      some ((-1), M)
    else
      (zgr K M 12 49 self 6).bind fun r4 =>
      (zga K M 100 r4 ((16 * a1) + a2)).bind fun v5 =>
      (zgr K M 12 49 self 6).bind fun r6 =>
      (zpa K M 100 r6 ((16 * a1) + a2) a3).bind fun M7 =>
      some (v5, M7)
def qmd_lays (n : Nat) (K : zK) (M : zM) (self a1 a2 a3 a4 : Int) : Option (zM) :=
  zwh (σ := Int × zM) (fun s1 =>
    (zgf K s1.2 12 49 self 0).bind fun v2 =>
    if zw v2 ≤ zw s1.1 then
      some (.inr s1.2)
    else
      (zwh (σ := Int × zM) (ρ := Int × zM) (fun s3 =>
        (zgf K s3.2 12 49 self 1).bind fun v5 =>
        if zw v5 ≤ zw s3.1 then
          some (.inr (s3.1, s3.2))
        else
          (zgr K s3.2 12 49 self 7).bind fun r6 =>
          (if zw a1 = 0 then
            (zrm ((a2 * s1.1) + (a3 * s3.1)) a4).bind fun v9 =>
            some v9
          else
            if zw a1 = zw 1 then
              (zrm (zxor (a2 * s1.1) (a3 * s3.1)) a4).bind fun v10 =>
              some v10
            else
              (zgr K s3.2 12 49 self 6).bind fun r11 =>
              (zga K s3.2 100 r11 ((16 * s1.1) + s3.1)).bind fun v12 =>
              some v12 : Option (Int)).bind fun j7 =>
          (zpa K s3.2 100 r6 ((16 * s1.1) + s3.1) j7).bind fun M8 =>
          some (.inl (s3.1 + 1, M8))) n (0, s1.2)).bind fun e4 =>
      some (.inl (s1.1 + 1, e4.2))) n (0, M)
def qmd_laysNow (n : Nat) (K : zK) (M : zM) (self : Int) : Option (zM) :=
  (zgf K M 12 49 self 3).bind fun v1 =>
  (zgf K M 12 49 self 4).bind fun v2 =>
  (zgf K M 12 49 self 5).bind fun v3 =>
  (zgf K M 12 49 self 2).bind fun v4 =>
  (zgk K self 12 49).bind fun _ => (qmd_lays n K M self v1 v2 v3 v4).bind fun M5 =>
  some M5
def qmd_cell (n : Nat) (K : zK) (M : zM) (self a1 a2 a3 : Int) : Option (Int × zM) :=
  (zgk K self 12 49).bind fun _ => (qmd_isCell K M self a1 a2).bind fun v1 =>
  if zw v1 = 0 then
    some ((-1), M)
  else
    (qmd_in K M (zw a3) 0 2).bind fun v2 =>
    if zw v2 = 0 then
      some ((-1), M)
    else
      (zgk K self 12 49).bind fun _ => (qmd_laysNow n K M self).bind fun M3 =>
      (zwh (σ := Int × Int) (ρ := Int × Int) (fun s4 =>
        if zw ((16 * a1) + a2) ≤ zw s4.2 then
          some (.inr (s4.1, s4.2))
        else
          (zrm s4.2 16).bind fun v10 =>
          (zgf K M3 12 49 self 1).bind fun v11 =>
          zesc (β := Unit) (if zw v11 ≤ zw v10 then
            some (.inl ())
          else
            (zgr K M3 12 49 self 7).bind fun r14 =>
            (zga K M3 100 r14 s4.2).bind fun v15 =>
            (zgr K M3 12 49 self 7).bind fun r16 =>
            (zga K M3 100 r16 ((16 * a1) + a2)).bind fun v17 =>
            if zw v15 = zw v17 then
              (some (s4.1 + 1)).bind fun x18 =>
              some (.inr (.inl (x18, s4.2 + 1)))
            else
              some (.inl ())) fun j12 =>
          (some (s4.1 + 0)).bind fun x13 =>
          some (.inl (x13, s4.2 + 1))) n (0, 0)).bind fun e5 =>
      if zw a3 = 0 then
        (zgr K M3 12 49 self 7).bind fun r6 =>
        (zga K M3 100 r6 ((16 * a1) + a2)).bind fun v7 =>
        some (v7, M3)
      else
        if zw a3 = zw 1 then
          some (e5.1, M3)
        else
          (zgr K M3 12 49 self 6).bind fun r8 =>
          (zga K M3 100 r8 ((16 * a1) + a2)).bind fun v9 =>
          some (v9, M3)
def qmd_bank (n : Nat) (K : zK) (M : zM) (self a1 a2 : Int) : Option (Int × zM) :=
  (zgf K M 12 49 self 2).bind fun v1 =>
  (qmd_in K M (zw a1) 0 (zw (v1 - 1))).bind fun v2 =>
  if zw v2 = 0 then
    some ((-1), M)
  else
    (qmd_in K M (zw a2) 0 2).bind fun v3 =>
    if zw v3 = 0 then
      some ((-1), M)
    else
      (zgk K self 12 49).bind fun _ => (qmd_laysNow n K M self).bind fun M4 =>
      zwh (σ := Int × Int × Int × Int) (fun s5 =>
        (zgf K M4 12 49 self 0).bind fun v6 =>
        if zw v6 ≤ zw s5.2.2.2 then
          if zw a2 = 0 then
            some (.inr (s5.1, M4))
          else
            if zw a2 = zw 1 then
              some (.inr (s5.2.1, M4))
            else
              some (.inr (s5.2.2.1, M4))
        else
          (zwh (σ := Int × Int × Int × Int) (ρ := Int × Int × Int × Int) (fun s7 =>
            (zgf K M4 12 49 self 1).bind fun v9 =>
            if zw v9 ≤ zw s7.2.2.2 then
              some (.inr (s7.1, s7.2.1, s7.2.2.1, s7.2.2.2))
            else
              (zgr K M4 12 49 self 7).bind fun r10 =>
              (zga K M4 100 r10 ((16 * s5.2.2.2) + s7.2.2.2)).bind fun v11 =>
              (if zw v11 = zw a1 then
                (if zw s7.2.1 = zw (-4) then
                  some ((16 * s5.2.2.2) + s7.2.2.2)
                else
                  some s7.2.1 : Option (Int)).bind fun j13 =>
                (some ((16 * s5.2.2.2) + s7.2.2.2)).bind fun x14 =>
                some (s7.1 + 1, j13, x14)
              else
                some (s7.1, s7.2.1, s7.2.2.1) : Option (Int × Int × Int)).bind fun j12 =>
              some (.inl (j12.1, j12.2.1, j12.2.2, s7.2.2.2 + 1))) n (s5.1, s5.2.1, s5.2.2.1, 0)).bind fun e8 =>
          some (.inl (e8.1, e8.2.1, e8.2.2.1, s5.2.2.2 + 1))) n (0, (-4), (-4), 0)
def qmd_isCut (K : zK) (M : zM) (a0 a1 a2 : Int) : Option (Int) :=
  (qmd_in K M (zw a0) 0 4).bind fun v1 =>
  if zw v1 = 0 then
    some 0
  else
    (qmd_in K M (zw a1) 1 16).bind fun v2 =>
    if zw v2 = 0 then
      some 0
    else
      (qmd_in K M (zw a2) 1 8).bind fun v3 =>
      if zw v3 = 0 then
        some 0
      else
        some 1
def qmd_cellsOf (K : zK) (M : zM) (a0 a1 a2 : Int) : Option (Int) :=
  if zw a0 = zw 4 then
    some (a1 * a2)
  else
    some a1
def qmd_cellAt (K : zK) (M : zM) (a0 a1 a2 a3 a4 : Int) : Option (Int) :=
  (if zw a0 = 0 then
    some a2
  else
    if zw a0 = zw 4 then
      (zdv a4 a1).bind fun v6 =>
      some (a2 + v6)
    else
      some (a2 + (a4 * a1)) : Option (Int)).bind fun j1 =>
  zesc (β := Unit) (if zw a0 = 0 then
    some (.inl ())
  else
    if zw a0 = zw 2 then
      some (.inl ())
    else
      (if zw a0 = zw 1 then
        some a3
      else
        if zw a0 = zw 3 then
          some (a3 - (a4 * a1))
        else
          (zrm a4 a1).bind fun v5 =>
          some (a3 + v5) : Option (Int)).bind fun j4 =>
      some (.inr (((1024 * (j1 + 256)) + j4) + 256))) fun j2 =>
  (some (a3 + (a4 * a1))).bind fun x3 =>
  some (((1024 * (j1 + 256)) + x3) + 256)
def qmd_isThere (K : zK) (M : zM) (self a1 a2 a3 a4 a5 : Int) : Option (Int) :=
  (qmd_cellsOf K M a1 a2 a3).bind fun v1 =>
  (qmd_cellAt K M a1 a3 a4 a5 (v1 - 1)).bind fun v2 =>
  (zgk K self 12 49).bind fun _ => (qmd_isCell K M self a4 a5).bind fun v3 =>
  if zw v3 = 0 then
    some 0
  else
    (zdv v2 1024).bind fun v4 =>
    (zrm v2 1024).bind fun v5 =>
    (zgk K self 12 49).bind fun _ => (qmd_isCell K M self (v4 - 256) (v5 - 256)).bind fun v6 =>
    if zw v6 = 0 then
      some 0
    else
      some 1
def qmd_beatsOf (n : Nat) (K : zK) (M : zM) (self a1 a2 a3 a4 a5 : Int) : Option (Int × zM) :=
  (zwh (σ := Int × zM) (ρ := Int × zM) (fun s1 =>
    if zw 17 ≤ zw s1.1 then
      some (.inr (s1.1, s1.2))
    else
      (zgr K s1.2 12 49 self 8).bind fun r18 =>
      (zpa K s1.2 100 r18 s1.1 0).bind fun M19 =>
      some (.inl (s1.1 + 1, M19))) n (0, M)).bind fun e2 =>
  zwh (σ := Int × Int × zM) (fun s3 =>
    (qmd_cellsOf K s3.2.2 a1 a2 a3).bind fun v4 =>
    if zw v4 ≤ zw s3.2.1 then
      some (.inr (s3.1, s3.2.2))
    else
      (qmd_cellAt K s3.2.2 a1 a3 a4 a5 s3.2.1).bind fun v5 =>
      (zgr K s3.2.2 12 49 self 7).bind fun r6 =>
      (zdv v5 1024).bind fun v7 =>
      (zrm v5 1024).bind fun v8 =>
      (zga K s3.2.2 100 r6 (((16 * (v7 - 256)) + v8) - 256)).bind fun v9 =>
      (zgr K s3.2.2 12 49 self 8).bind fun r10 =>
      (zga K s3.2.2 100 r10 v9).bind fun v11 =>
      (zpa K s3.2.2 100 r10 v9 (v11 + 1)).bind fun M12 =>
      (zgr K M12 12 49 self 8).bind fun r13 =>
      (zga K M12 100 r13 v9).bind fun v14 =>
      (if zw v14 ≤ zw s3.1 then
        some s3.1
      else
        (zgr K M12 12 49 self 8).bind fun r16 =>
        (zga K M12 100 r16 v9).bind fun v17 =>
        some v17 : Option (Int)).bind fun j15 =>
      some (.inl (j15, s3.2.1 + 1, M12))) n (0, 0, e2.2)
def qmd_cut (n : Nat) (K : zK) (M : zM) (self a1 a2 a3 a4 a5 : Int) : Option (Int × zM) :=
  (qmd_isCut K M a1 a2 a3).bind fun v1 =>
  if zw v1 = 0 then
    some ((-1), M)
  else
    (zgk K self 12 49).bind fun _ => (qmd_isThere K M self a1 a2 a3 a4 a5).bind fun v2 =>
    if zw v2 = 0 then
      some ((-1), M)
    else
      (zgk K self 12 49).bind fun _ => (qmd_laysNow n K M self).bind fun M3 =>
      (zgk K self 12 49).bind fun _ => (qmd_beatsOf n K M3 self a1 a2 a3 a4 a5).bind fun p4 =>
      some (p4.1, p4.2)
def qmd_cuts (n : Nat) (K : zK) (M : zM) (self a1 a2 a3 a4 : Int) : Option (Int × zM) :=
  (qmd_isCut K M a1 a2 a3).bind fun v1 =>
  if zw v1 = 0 then
    some ((-1), M)
  else
    (qmd_in K M (zw a4) 0 4).bind fun v2 =>
    if zw v2 = 0 then
      some ((-1), M)
    else
      (zgk K self 12 49).bind fun _ => (qmd_laysNow n K M self).bind fun M3 =>
      (zwh (σ := Int × Int × Int × Int × Int × Int × zM) (ρ := Int × Int × Int × Int × Int × Int × zM) (fun s4 =>
        (zgf K s4.2.2.2.2.2.2 12 49 self 0).bind fun v6 =>
        if zw v6 ≤ zw s4.2.2.2.2.2.1 then
          some (.inr (s4.1, s4.2.1, s4.2.2.1, s4.2.2.2.1, s4.2.2.2.2.1, s4.2.2.2.2.2.1, s4.2.2.2.2.2.2))
        else
          (zwh (σ := Int × Int × Int × Int × Int × Int × zM) (ρ := Int × Int × Int × Int × Int × Int × zM) (fun s7 =>
            (zgf K s7.2.2.2.2.2.2 12 49 self 1).bind fun v9 =>
            if zw v9 ≤ zw s7.2.2.2.2.2.1 then
              some (.inr (s7.1, s7.2.1, s7.2.2.1, s7.2.2.2.1, s7.2.2.2.2.1, s7.2.2.2.2.2.1, s7.2.2.2.2.2.2))
            else
              (zgk K self 12 49).bind fun _ => (qmd_isThere K s7.2.2.2.2.2.2 self a1 a2 a3 s4.2.2.2.2.2.1 s7.2.2.2.2.2.1).bind fun v10 =>
              (if zw v10 = 0 then
                some (s7.1, s7.2.1, s7.2.2.1, s7.2.2.2.1, s7.2.2.2.2.1, s7.2.2.2.2.2.2)
              else
                (zgk K self 12 49).bind fun _ => (qmd_beatsOf n K s7.2.2.2.2.2.2 self a1 a2 a3 s4.2.2.2.2.2.1 s7.2.2.2.2.2.1).bind fun p12 =>
                (if zw p12.1 = zw 1 then
                  some 1
                else
                  some 0 : Option (Int)).bind fun j13 =>
                (some (s7.2.1 + j13)).bind fun x14 =>
                (some (s7.2.2.2.1 + p12.1)).bind fun x15 =>
                (if zw p12.1 ≤ zw s7.2.2.1 then
                  some s7.2.2.2.2.1
                else
                  some ((16 * s4.2.2.2.2.2.1) + s7.2.2.2.2.2.1) : Option (Int)).bind fun j16 =>
                (if zw p12.1 ≤ zw s7.2.2.1 then
                  some s7.2.2.1
                else
                  some p12.1 : Option (Int)).bind fun j17 =>
                some (s7.1 + 1, x14, j17, x15, j16, p12.2) : Option (Int × Int × Int × Int × Int × zM)).bind fun j11 =>
              some (.inl (j11.1, j11.2.1, j11.2.2.1, j11.2.2.2.1, j11.2.2.2.2.1, s7.2.2.2.2.2.1 + 1, j11.2.2.2.2.2))) n (s4.1, s4.2.1, s4.2.2.1, s4.2.2.2.1, s4.2.2.2.2.1, 0, s4.2.2.2.2.2.2)).bind fun e8 =>
          some (.inl (e8.1, e8.2.1, e8.2.2.1, e8.2.2.2.1, e8.2.2.2.2.1, s4.2.2.2.2.2.1 + 1, e8.2.2.2.2.2.2))) n (0, 0, 0, 0, (-4), 0, M3)).bind fun e5 =>
      if zw a4 = 0 then
        some (e5.1, e5.2.2.2.2.2.2)
      else
        if zw a4 = zw 1 then
          some (e5.2.1, e5.2.2.2.2.2.2)
        else
          if zw a4 = zw 2 then
            some (e5.2.2.1, e5.2.2.2.2.2.2)
          else
            if zw a4 = zw 3 then
              some (e5.2.2.2.1, e5.2.2.2.2.2.2)
            else
              some (e5.2.2.2.2.1, e5.2.2.2.2.2.2)
def qmd_wish (K : zK) (M : zM) (self a1 a2 a3 : Int) : Option (Int × zM) :=
  (qmd_isCut K M a1 a2 a3).bind fun v1 =>
  if zw v1 = 0 then
    some ((-1), M)
  else
    (zgf K M 12 49 self 9).bind fun v2 =>
    if zw v2 = zw 6 then
      some ((-3), M)
    else
      (zgr K M 12 49 self 10).bind fun r3 =>
      (zgf K M 12 49 self 9).bind fun v4 =>
      (zpa K M 100 r3 v4 a1).bind fun M5 =>
      (zgr K M5 12 49 self 11).bind fun r6 =>
      (zgf K M5 12 49 self 9).bind fun v7 =>
      (zpa K M5 100 r6 v7 a2).bind fun M8 =>
      (zgr K M8 12 49 self 12).bind fun r9 =>
      (zgf K M8 12 49 self 9).bind fun v10 =>
      (zpa K M8 100 r9 v10 a3).bind fun M11 =>
      (zgf K M11 12 49 self 9).bind fun v12 =>
      (zpf K M11 12 49 self 9 (v12 + 1)).bind fun M13 =>
      (zgf K M13 12 49 self 9).bind fun v14 =>
      some (v14 - 1, M13)
def qmd_forget (K : zK) (M : zM) (self : Int) : Option (Int × zM) :=
  (zgf K M 12 49 self 9).bind fun v1 =>
  (zpf K M 12 49 self 9 0).bind fun M2 =>
  some (v1, M2)
def qmd_isFree (n : Nat) (K : zK) (M : zM) (self a1 a2 a3 a4 a5 : Int) : Option (Int) :=
  zwh (σ := Int × Int × Int) (fun s1 =>
    (qmd_cellsOf K M a1 a2 a3).bind fun v2 =>
    if zw v2 ≤ zw s1.2.2 then
      (zbr s1.2.1).bind fun z3 => some (.inr z3)
    else
      if zw s1.2.1 = 0 then
        (zbr s1.2.1).bind fun z4 => some (.inr z4)
      else
        (qmd_cellAt K M a1 a3 a4 a5 s1.2.2).bind fun v5 =>
        (zgr K M 12 49 self 7).bind fun r6 =>
        (zdv v5 1024).bind fun v7 =>
        (zrm v5 1024).bind fun v8 =>
        (zga K M 100 r6 (((16 * (v7 - 256)) + v8) - 256)).bind fun v9 =>
        (some (zshl 1 v9)).bind fun x10 =>
        (if zw (zand s1.1 x10) = 0 then
          some 1
        else
          some 0 : Option (Int)).bind fun j11 =>
        (some (zor s1.1 x10)).bind fun x12 =>
        some (.inl (x12, j11, s1.2.2 + 1))) n (0, 1, 0)
def qmd_grants (n : Nat) (K : zK) (M : zM) (self a1 : Int) : Option (Int) :=
  zwh (σ := Int × Int) (fun s1 =>
    (zgf K M 12 49 self 0).bind fun v2 =>
    if zw v2 ≤ zw s1.2 then
      (zbr s1.1).bind fun z3 => some (.inr z3)
    else
      if zw s1.1 = 0 then
        (zbr s1.1).bind fun z4 => some (.inr z4)
      else
        (zwh (σ := Int × Int) (ρ := Int × Int) (fun s5 =>
          (zgf K M 12 49 self 1).bind fun v7 =>
          if zw v7 ≤ zw s5.2 then
            some (.inr (s5.1, s5.2))
          else
            if zw s5.1 = 0 then
              some (.inr (s5.1, s5.2))
            else
              (zgr K M 12 49 self 10).bind fun r8 =>
              (zga K M 100 r8 a1).bind fun v9 =>
              (zgr K M 12 49 self 11).bind fun r10 =>
              (zga K M 100 r10 a1).bind fun v11 =>
              (zgr K M 12 49 self 12).bind fun r12 =>
              (zga K M 100 r12 a1).bind fun v13 =>
              (zgk K self 12 49).bind fun _ => (qmd_isThere K M self v9 v11 v13 s1.2 s5.2).bind fun v14 =>
              zesc (β := Unit) (if zw v14 = 0 then
                some (.inl ())
              else
                (zgr K M 12 49 self 10).bind fun r16 =>
                (zga K M 100 r16 a1).bind fun v17 =>
                (zgr K M 12 49 self 11).bind fun r18 =>
                (zga K M 100 r18 a1).bind fun v19 =>
                (zgr K M 12 49 self 12).bind fun r20 =>
                (zga K M 100 r20 a1).bind fun v21 =>
                (zgk K self 12 49).bind fun _ => (qmd_isFree n K M self v17 v19 v21 s1.2 s5.2).bind fun v22 =>
                if zw v22 = 0 then
                  some (.inr (.inl (0, s5.2 + 1)))
                else
                  some (.inl ())) fun j15 =>
              some (.inl (1, s5.2 + 1))) n (s1.1, 0)).bind fun e6 =>
        some (.inl (e6.1, s1.2 + 1))) n (1, 0)
def qmd_granted (n : Nat) (K : zK) (M : zM) (self : Int) : Option (Int × zM) :=
  (zgk K self 12 49).bind fun _ => (qmd_laysNow n K M self).bind fun M1 =>
  zwh (σ := Int × Int) (fun s2 =>
    (zgf K M1 12 49 self 9).bind fun v3 =>
    if zw v3 ≤ zw s2.2 then
      some (.inr (s2.1, M1))
    else
      (zgk K self 12 49).bind fun _ => (qmd_grants n K M1 self s2.2).bind fun v4 =>
      (if zw v4 = 0 then
        some 0
      else
        some (zshl 1 s2.2) : Option (Int)).bind fun j5 =>
      (some (zor s2.1 j5)).bind fun x6 =>
      some (.inl (x6, s2.2 + 1))) n (0, 0)
def qmd_grantsAll (n : Nat) (K : zK) (M : zM) (self : Int) : Option (Int) :=
  zwh (σ := Int × Int) (fun s1 =>
    (zgf K M 12 49 self 9).bind fun v2 =>
    if zw v2 ≤ zw s1.2 then
      (zbr s1.1).bind fun z3 => some (.inr z3)
    else
      if zw s1.1 = 0 then
        (zbr s1.1).bind fun z4 => some (.inr z4)
      else
        (zgk K self 12 49).bind fun _ => (qmd_grants n K M self s1.2).bind fun v5 =>
        some (.inl (v5, s1.2 + 1))) n (1, 0)
def qmd_bound (n : Nat) (K : zK) (M : zM) (self : Int) : Option (Int) :=
  zwh (σ := Int × Int) (fun s1 =>
    (zgf K M 12 49 self 9).bind fun v2 =>
    if zw v2 ≤ zw s1.2 then
      some (.inr s1.1)
    else
      (zwh (σ := Int × Int) (ρ := Int × Int) (fun s3 =>
        if zw 256 ≤ zw s3.2 then
          some (.inr (s3.1, s3.2))
        else
          zesc (β := Unit) (if zw s3.1 = 0 then
            (zgr K M 12 49 self 10).bind fun r14 =>
            (zga K M 100 r14 s1.2).bind fun v15 =>
            (zgr K M 12 49 self 11).bind fun r16 =>
            (zga K M 100 r16 s1.2).bind fun v17 =>
            (zgr K M 12 49 self 12).bind fun r18 =>
            (zga K M 100 r18 s1.2).bind fun v19 =>
            (zdv s3.2 16).bind fun v20 =>
            (zrm s3.2 16).bind fun v21 =>
            (zgk K self 12 49).bind fun _ => (qmd_isThere K M self v15 v17 v19 v20 v21).bind fun v22 =>
            if zw v22 = 0 then
              some (.inr (.inl (0, s3.2 + 1)))
            else
              some (.inl ())
          else
            some (.inl ())) fun j13 =>
          some (.inl (1, s3.2 + 1))) n (0, 0)).bind fun e4 =>
      (zgr K M 12 49 self 10).bind fun r5 =>
      (zga K M 100 r5 s1.2).bind fun v6 =>
      (zgr K M 12 49 self 11).bind fun r7 =>
      (zga K M 100 r7 s1.2).bind fun v8 =>
      (zgr K M 12 49 self 12).bind fun r9 =>
      (zga K M 100 r9 s1.2).bind fun v10 =>
      (qmd_cellsOf K M v6 v8 v10).bind fun v11 =>
      zesc (β := Unit) (if zw e4.1 = 0 then
        some (.inl ())
      else
        if zw v11 ≤ zw s1.1 then
          some (.inl ())
        else
          some (.inr (.inl (v11, s1.2 + 1)))) fun j12 =>
      some (.inl (s1.1, s1.2 + 1))) n (1, 0)
def qmd_fewest (n : Nat) (K : zK) (M : zM) (self a1 a2 : Int) : Option (Int × zM) :=
  (qmd_in K M (zw a1) 0 1).bind fun v1 =>
  if zw v1 = 0 then
    some ((-1), M)
  else
    (qmd_in K M (zw a2) 0 3).bind fun v2 =>
    if zw v2 = 0 then
      some ((-1), M)
    else
      zesc (β := Int × Int × Int × zM) (zwh (σ := Int × zM) (fun s3 =>
        if zw 17 < zw s3.1 then
          some (.inr (.inr ((-4), s3.2)))
        else
          (zwh (σ := Int × Int × Int × zM) (ρ := Int × Int × Int × zM) (fun s7 =>
            if zw (s3.1 * s3.1) ≤ zw s7.2.2.1 then
              some (.inr (s7.1, s7.2.1, s7.2.2.1, s7.2.2.2))
            else
              (zgk K self 12 49).bind fun _ => (qmd_bound n K s7.2.2.2 self).bind fun v9 =>
              if zw s3.1 < zw v9 then
                some (.inr (s7.1, s7.2.1, s7.2.2.1, s7.2.2.2))
              else
                (zdv s7.2.2.1 s3.1).bind fun v10 =>
                (zrm s7.2.2.1 s3.1).bind fun v11 =>
                (zgk K self 12 49).bind fun _ => (qmd_lays n K s7.2.2.2 self a1 v10 v11 s3.1).bind fun M12 =>
                (zgk K self 12 49).bind fun _ => (qmd_grantsAll n K M12 self).bind fun v13 =>
                (if zw v13 = 0 then
                  some (s7.1, s7.2.1)
                else
                  (if zw s7.1 = 0 then
                    some s7.2.2.1
                  else
                    some s7.2.1 : Option (Int)).bind fun j15 =>
                  some (s7.1 + 1, j15) : Option (Int × Int)).bind fun j14 =>
                some (.inl (j14.1, j14.2, s7.2.2.1 + 1, M12))) n (0, 0, 0, s3.2)).bind fun e8 =>
          if zw e8.1 ≤ 0 then
            some (.inl (s3.1 + 1, e8.2.2.2))
          else
            some (.inr (.inl (s3.1, e8.1, e8.2.1, e8.2.2.2)))) n (1, M)) fun e4 =>
      if zw a2 = 0 then
        some (e4.1, e4.2.2.2)
      else
        if zw a2 = zw 1 then
          some (e4.2.1, e4.2.2.2)
        else
          if zw a2 = zw 2 then
            (zdv e4.2.2.1 e4.1).bind fun v5 =>
            some (v5, e4.2.2.2)
          else
            (zrm e4.2.2.1 e4.1).bind fun v6 =>
            some (v6, e4.2.2.2)
def qmd_placeOf (K : zK) (M : zM) (self a1 : Int) : Option (Int) :=
  (zdv a1 1024).bind fun v1 =>
  (zgf K M 12 49 self 1).bind fun v2 =>
  (zrm a1 1024).bind fun v3 =>
  some ((((v1 - 256) * v2) + v3) - 256)
def qmd_findClash (n : Nat) (K : zK) (M : zM) (self : Int) : Option (zM) :=
  (zwh (σ := Int × zM) (ρ := Int × zM) (fun s1 =>
    if zw 64 ≤ zw s1.1 then
      some (.inr (s1.1, s1.2))
    else
      (zgr K s1.2 12 49 self 13).bind fun r55 =>
      (zpa K s1.2 102 r55 s1.1 0).bind fun M56 =>
      some (.inl (s1.1 + 1, M56))) n (0, M)).bind fun e2 =>
  zwh (σ := Int × zM) (fun s3 =>
    (zgf K s3.2 12 49 self 9).bind fun v4 =>
    if zw v4 ≤ zw s3.1 then
      some (.inr s3.2)
    else
      (zgr K s3.2 12 49 self 10).bind fun r5 =>
      (zga K s3.2 100 r5 s3.1).bind fun v6 =>
      (zgr K s3.2 12 49 self 11).bind fun r7 =>
      (zga K s3.2 100 r7 s3.1).bind fun v8 =>
      (zgr K s3.2 12 49 self 12).bind fun r9 =>
      (zga K s3.2 100 r9 s3.1).bind fun v10 =>
      (qmd_cellsOf K s3.2 v6 v8 v10).bind fun v11 =>
      (zwh (σ := Int × zM) (ρ := Int × zM) (fun s12 =>
        (zgf K s12.2 12 49 self 0).bind fun v14 =>
        (zgf K s12.2 12 49 self 1).bind fun v15 =>
        if zw (v14 * v15) ≤ zw s12.1 then
          some (.inr (s12.1, s12.2))
        else
          (zgr K s12.2 12 49 self 10).bind fun r16 =>
          (zga K s12.2 100 r16 s3.1).bind fun v17 =>
          (zgr K s12.2 12 49 self 11).bind fun r18 =>
          (zga K s12.2 100 r18 s3.1).bind fun v19 =>
          (zgr K s12.2 12 49 self 12).bind fun r20 =>
          (zga K s12.2 100 r20 s3.1).bind fun v21 =>
          (zgf K s12.2 12 49 self 1).bind fun v22 =>
          (zdv s12.1 v22).bind fun v23 =>
          (zgf K s12.2 12 49 self 1).bind fun v24 =>
          (zrm s12.1 v24).bind fun v25 =>
          (zgk K self 12 49).bind fun _ => (qmd_isThere K s12.2 self v17 v19 v21 v23 v25).bind fun v26 =>
          (if zw v26 = 0 then
            some s12.2
          else
            (zwh (σ := Int × Int) (ρ := Int × Int) (fun s28 =>
              if zw v11 ≤ zw s28.2 then
                some (.inr (s28.1, s28.2))
              else
                (zgr K s12.2 12 49 self 10).bind fun r45 =>
                (zga K s12.2 100 r45 s3.1).bind fun v46 =>
                (zgr K s12.2 12 49 self 12).bind fun r47 =>
                (zga K s12.2 100 r47 s3.1).bind fun v48 =>
                (zgf K s12.2 12 49 self 1).bind fun v49 =>
                (zdv s12.1 v49).bind fun v50 =>
                (zgf K s12.2 12 49 self 1).bind fun v51 =>
                (zrm s12.1 v51).bind fun v52 =>
                (qmd_cellAt K s12.2 v46 v48 v50 v52 s28.2).bind fun v53 =>
                (zgk K self 12 49).bind fun _ => (qmd_placeOf K s12.2 self v53).bind fun v54 =>
                some (.inl (zlor s28.1 (zlshl 1 v54), s28.2 + 1))) n (0, 0)).bind fun e29 =>
            (zwh (σ := Int × zM) (ρ := Int × zM) (fun s30 =>
              if zw v11 ≤ zw s30.1 then
                some (.inr (s30.1, s30.2))
              else
                (zgr K s30.2 12 49 self 13).bind fun r32 =>
                (zgr K s30.2 12 49 self 10).bind fun r33 =>
                (zga K s30.2 100 r33 s3.1).bind fun v34 =>
                (zgr K s30.2 12 49 self 12).bind fun r35 =>
                (zga K s30.2 100 r35 s3.1).bind fun v36 =>
                (zgf K s30.2 12 49 self 1).bind fun v37 =>
                (zdv s12.1 v37).bind fun v38 =>
                (zgf K s30.2 12 49 self 1).bind fun v39 =>
                (zrm s12.1 v39).bind fun v40 =>
                (qmd_cellAt K s30.2 v34 v36 v38 v40 s30.1).bind fun v41 =>
                (zgk K self 12 49).bind fun _ => (qmd_placeOf K s30.2 self v41).bind fun v42 =>
                (zga K s30.2 102 r32 v42).bind fun v43 =>
                (zpa K s30.2 102 r32 v42 (zlor v43 e29.1)).bind fun M44 =>
                some (.inl (s30.1 + 1, M44))) n (0, s12.2)).bind fun e31 =>
            some e31.2 : Option (zM)).bind fun j27 =>
          some (.inl (s12.1 + 1, j27))) n (0, s3.2)).bind fun e13 =>
      some (.inl (s3.1 + 1, e13.2))) n (0, e2.2)
def qmd_isAlone (n : Nat) (K : zK) (M : zM) (self a1 a2 : Int) : Option (Int) :=
  zwh (σ := Int × Int) (fun s1 =>
    if zw a1 ≤ zw s1.2 then
      (zbr s1.1).bind fun z2 => some (.inr z2)
    else
      if zw s1.1 = 0 then
        (zbr s1.1).bind fun z3 => some (.inr z3)
      else
        (zgr K M 12 49 self 13).bind fun r4 =>
        (zga K M 102 r4 a1).bind fun v5 =>
        zesc (β := Unit) (if zw (zlcmp (zland (zlshr v5 s1.2) 1) 0) = 0 then
          some (.inl ())
        else
          (zgr K M 12 49 self 14).bind fun r7 =>
          (zga K M 100 r7 s1.2).bind fun v8 =>
          if zw v8 = zw a2 then
            some (.inr (.inl (0, s1.2 + 1)))
          else
            some (.inl ())) fun j6 =>
        some (.inl (1, s1.2 + 1))) n (1, 0)
def qmd_greatestAhead (n : Nat) (K : zK) (M : zM) (self a1 : Int) : Option (Int) :=
  zwh (σ := Int × Int) (fun s1 =>
    if zw a1 ≤ zw s1.2 then
      some (.inr s1.1)
    else
      (zgr K M 12 49 self 14).bind fun r2 =>
      (zga K M 100 r2 s1.2).bind fun v3 =>
      (if zw v3 ≤ zw s1.1 then
        some s1.1
      else
        (zgr K M 12 49 self 14).bind fun r5 =>
        (zga K M 100 r5 s1.2).bind fun v6 =>
        some v6 : Option (Int)).bind fun j4 =>
      some (.inl (j4, s1.2 + 1))) n ((-1), 0)
def qmd_laysFree (n : Nat) (K : zK) (M : zM) (self a1 : Int) : Option (Int × zM) :=
  (zgk K self 12 49).bind fun _ => (qmd_findClash n K M self).bind fun M1 =>
  (zpf K M1 12 49 self 15 0).bind fun M2 =>
  (zgr K M2 12 49 self 14).bind fun r3 =>
  (zpa K M2 100 r3 0 (-1)).bind fun M4 =>
  zwh (σ := Int × zM) (fun s5 =>
    zesc (β := Unit) (if zw s5.1 < 0 then
      some (.inl ())
    else
      (zgf K s5.2 12 49 self 0).bind fun v8 =>
      (zgf K s5.2 12 49 self 1).bind fun v9 =>
      if zw (v8 * v9) ≤ zw s5.1 then
        some (.inl ())
      else
        (zgk K self 12 49).bind fun _ => (qmd_greatestAhead n K s5.2 self s5.1).bind fun v10 =>
        (some (v10 + 1)).bind fun x11 =>
        (if zw (a1 - 1) ≤ zw x11 then
          some (a1 - 1)
        else
          some x11 : Option (Int)).bind fun j12 =>
        zesc (β := Int × zM) (zwh (σ := Int × zM) (fun s13 =>
          if zw s13.1 = 0 then
            (zgr K s13.2 12 49 self 14).bind fun r22 =>
            (zga K s13.2 100 r22 s5.1).bind fun v23 =>
            if zw j12 ≤ zw v23 then
              some (.inr (.inl (s13.1, s13.2)))
            else
              (zgf K s13.2 12 49 self 15).bind fun v24 =>
              (zpf K s13.2 12 49 self 15 (v24 + 1)).bind fun M25 =>
              (zgr K M25 12 49 self 14).bind fun r26 =>
              (zga K M25 100 r26 s5.1).bind fun v27 =>
              (zpa K M25 100 r26 s5.1 (v27 + 1)).bind fun M28 =>
              (zgr K M28 12 49 self 14).bind fun r29 =>
              (zga K M28 100 r29 s5.1).bind fun v30 =>
              (zgk K self 12 49).bind fun _ => (qmd_isAlone n K M28 self s5.1 v30).bind fun v31 =>
              (zgf K M28 12 49 self 15).bind fun v32 =>
              if zw v32 = zw 20000 then
                if zw v31 = 0 then
                  some (.inr (.inr (.inr (.inr ((-6), M28)))))
                else
                  (zgf K M28 12 49 self 0).bind fun v33 =>
                  (zgf K M28 12 49 self 1).bind fun v34 =>
                  if zw s5.1 = zw ((v33 * v34) - 1) then
                    some (.inl (v31, M28))
                  else
                    some (.inr (.inr (.inr (.inr ((-6), M28)))))
              else
                some (.inl (v31, M28))
          else
            some (.inr (.inl (s13.1, s13.2)))) n (0, s5.2)) fun e14 =>
        (if zw e14.1 = 0 then
          some (-1)
        else
          some 1 : Option (Int)).bind fun j15 =>
        (some (s5.1 + j15)).bind fun x16 =>
        (if zw e14.1 = 0 then
          some e14.2
        else
          (zgf K e14.2 12 49 self 0).bind fun v18 =>
          (zgf K e14.2 12 49 self 1).bind fun v19 =>
          if zw (v18 * v19) ≤ zw x16 then
            some e14.2
          else
            (zgr K e14.2 12 49 self 14).bind fun r20 =>
            (zpa K e14.2 100 r20 x16 (-1)).bind fun M21 =>
            some M21 : Option (zM)).bind fun j17 =>
        some (.inr (.inl (x16, j17)))) fun j6 =>
    if 0 ≤ zw s5.1 then
      (zgf K s5.2 12 49 self 15).bind fun v7 =>
      some (.inr (v7, s5.2))
    else
      some (.inr ((-4), s5.2))) n (0, M4)
def qmd_free (n : Nat) (K : zK) (M : zM) (self : Int) : Option (Int × zM) :=
  (zgf K M 12 49 self 0).bind fun v1 =>
  (zgf K M 12 49 self 1).bind fun v2 =>
  if zw (v1 * v2) ≤ zw 64 then
    (zgf K M 12 49 self 2).bind fun v3 =>
    (zgk K self 12 49).bind fun _ => (qmd_laysFree n K M self v3).bind fun p4 =>
    zwh (σ := Int × zM) (fun s5 =>
      (zgf K s5.2 12 49 self 0).bind fun v6 =>
      (zgf K s5.2 12 49 self 1).bind fun v7 =>
      if zw (v6 * v7) ≤ zw s5.1 then
        some (.inr (p4.1, s5.2))
      else
        if zw p4.1 ≤ 0 then
          some (.inr (p4.1, s5.2))
        else
          (zgr K s5.2 12 49 self 6).bind fun r8 =>
          (zgf K s5.2 12 49 self 1).bind fun v9 =>
          (zdv s5.1 v9).bind fun v10 =>
          (zgf K s5.2 12 49 self 1).bind fun v11 =>
          (zrm s5.1 v11).bind fun v12 =>
          (zgr K s5.2 12 49 self 14).bind fun r13 =>
          (zga K s5.2 100 r13 s5.1).bind fun v14 =>
          (zpa K s5.2 100 r8 ((16 * v10) + v12) v14).bind fun M15 =>
          some (.inl (s5.1 + 1, M15))) n (0, p4.2)
  else
    some ((-2), M)
def qmd_freeBanks (n : Nat) (K : zK) (M : zM) (self : Int) : Option (Int × zM) :=
  (zgf K M 12 49 self 0).bind fun v1 =>
  (zgf K M 12 49 self 1).bind fun v2 =>
  if zw (v1 * v2) ≤ zw 64 then
    zwh (σ := Int × zM) (fun s3 =>
      if zw 17 < zw s3.1 then
        some (.inr ((-4), s3.2))
      else
        (zgk K self 12 49).bind fun _ => (qmd_laysFree n K s3.2 self s3.1).bind fun p4 =>
        if zw p4.1 = zw (-4) then
          some (.inl (s3.1 + 1, p4.2))
        else
          if zw p4.1 = zw (-6) then
            some (.inr ((-6), p4.2))
          else
            some (.inr (s3.1, p4.2))) n (1, M)
  else
    some ((-2), M)
def qmd_rest (K : zK) (M : zM) (self a1 : Int) : Option (Int × zM) :=
  (qmd_in K M (zw a1) 1 12).bind fun v1 =>
  if zw v1 = 0 then
    some ((-1), M)
  else
    (zgf K M 12 49 self 16).bind fun v2 =>
    (zpf K M 12 49 self 16 a1).bind fun M3 =>
    some (v2, M3)
def qmd_begins (n : Nat) (K : zK) (M : zM) (self : Int) : Option (zM) :=
  (zgk K self 12 49).bind fun _ => (qmd_laysNow n K M self).bind fun M1 =>
  zwh (σ := Int × zM) (fun s2 =>
    if zw 17 ≤ zw s2.1 then
      some (.inr s2.2)
    else
      (zgr K s2.2 12 49 self 17).bind fun r3 =>
      (zpa K s2.2 100 r3 s2.1 0).bind fun M4 =>
      some (.inl (s2.1 + 1, M4))) n (0, M1)
def qmd_bankAt (K : zK) (M : zM) (self a1 : Int) : Option (Int) :=
  (zgf K M 12 49 self 0).bind fun v1 =>
  (zgf K M 12 49 self 1).bind fun v2 =>
  (zrm a1 (v1 * v2)).bind fun v3 =>
  (zgr K M 12 49 self 7).bind fun r4 =>
  (zgf K M 12 49 self 1).bind fun v5 =>
  (zdv v3 v5).bind fun v6 =>
  (zgf K M 12 49 self 1).bind fun v7 =>
  (zrm v3 v7).bind fun v8 =>
  (zga K M 100 r4 ((16 * v6) + v8)).bind fun v9 =>
  some v9
def qmd_isStream (K : zK) (M : zM) (a0 a1 : Int) : Option (Int) :=
  (qmd_in K M (zw a0) 0 999).bind fun v1 =>
  if zw v1 = 0 then
    some 0
  else
    (qmd_in K M (zw a1) 1 99).bind fun v2 =>
    if zw v2 = 0 then
      some 0
    else
      some 1
def qmd_asks (K : zK) (M : zM) (self a1 a2 : Int) : Option (Int × zM) :=
  (zgk K self 12 49).bind fun _ => (qmd_bankAt K M self a1).bind fun v1 =>
  (zgr K M 12 49 self 17).bind fun r2 =>
  (zga K M 100 r2 v1).bind fun v3 =>
  (if zw (a2 + 1) ≤ zw v3 then
    (zgr K M 12 49 self 17).bind fun r8 =>
    (zga K M 100 r8 v1).bind fun v9 =>
    some v9
  else
    some (a2 + 1) : Option (Int)).bind fun j4 =>
  (zgr K M 12 49 self 17).bind fun r5 =>
  (zgf K M 12 49 self 16).bind fun v6 =>
  (zpa K M 100 r5 v1 (j4 + v6)).bind fun M7 =>
  some (j4, M7)
def qmd_lastOf (n : Nat) (K : zK) (M : zM) (self a1 a2 a3 : Int) : Option (Int × zM) :=
  (zgk K self 12 49).bind fun _ => (qmd_begins n K M self).bind fun M1 =>
  zwh (σ := Int × Int × zM) (fun s2 =>
    if zw a3 ≤ zw s2.2.1 then
      some (.inr (s2.1, s2.2.2))
    else
      (zgk K self 12 49).bind fun _ => (qmd_asks K s2.2.2 self (a1 + (s2.2.1 * a2)) s2.1).bind fun p3 =>
      some (.inl (p3.1, s2.2.1 + 1, p3.2))) n ((-1), 0, M1)
def qmd_inOrder (n : Nat) (K : zK) (M : zM) (self a1 a2 a3 : Int) : Option (Int × zM) :=
  (qmd_isStream K M a1 a2).bind fun v1 =>
  if zw v1 = 0 then
    some ((-1), M)
  else
    (qmd_in K M (zw a3) 1 200).bind fun v2 =>
    if zw v2 = 0 then
      some ((-1), M)
    else
      (zgk K self 12 49).bind fun _ => (qmd_lastOf n K M self a1 a2 a3).bind fun p3 =>
      (zgf K p3.2 12 49 self 16).bind fun v4 =>
      some (p3.1 + v4, p3.2)
def qmd_beat (n : Nat) (K : zK) (M : zM) (self a1 a2 a3 : Int) : Option (Int × zM) :=
  (qmd_isStream K M a1 a2).bind fun v1 =>
  if zw v1 = 0 then
    some ((-1), M)
  else
    (qmd_in K M (zw a3) 0 199).bind fun v2 =>
    if zw v2 = 0 then
      some ((-1), M)
    else
      (zgk K self 12 49).bind fun _ => (qmd_lastOf n K M self a1 a2 (a3 + 1)).bind fun p3 =>
      some (p3.1, p3.2)
def qmd_queued (n : Nat) (K : zK) (M : zM) (self a1 a2 a3 a4 a5 : Int) : Option (Int × zM) :=
  (qmd_isStream K M a1 a2).bind fun v1 =>
  if zw v1 = 0 then
    some ((-1), M)
  else
    (qmd_in K M (zw a3) 1 200).bind fun v2 =>
    if zw v2 = 0 then
      some ((-1), M)
    else
      (qmd_in K M (zw a4) 1 8).bind fun v3 =>
      if zw v3 = 0 then
        some ((-1), M)
      else
        (qmd_in K M (zw a5) 0 2).bind fun v4 =>
        if zw v4 = 0 then
          some ((-1), M)
        else
          (zgk K self 12 49).bind fun _ => (qmd_begins n K M self).bind fun M5 =>
          (zwh (σ := Int × zM) (ρ := Int × zM) (fun s6 =>
            if zw 17 ≤ zw s6.1 then
              some (.inr (s6.1, s6.2))
            else
              (zgr K s6.2 12 49 self 18).bind fun r37 =>
              (zpa K s6.2 100 r37 s6.1 0).bind fun M38 =>
              some (.inl (s6.1 + 1, M38))) n (0, M5)).bind fun e7 =>
          (zwh (σ := Int × Int × Int × Int × Int × Int × zM) (ρ := Int × Int × Int × Int × Int × Int × zM) (fun s8 =>
            if zw a3 ≤ zw s8.2.1 then
              some (.inr (s8.1, s8.2.1, s8.2.2.1, s8.2.2.2.1, s8.2.2.2.2.1, s8.2.2.2.2.2.1, s8.2.2.2.2.2.2))
            else
              (zwh (σ := Int × Int × Int × zM) (ρ := Int × Int × Int × zM) (fun s11 =>
                (zgf K s11.2.2.2 12 49 self 2).bind fun v25 =>
                if zw v25 ≤ zw s11.2.2.1 then
                  some (.inr (s11.1, s11.2.1, s11.2.2.1, s11.2.2.2))
                else
                  (zgr K s11.2.2.2 12 49 self 18).bind fun r26 =>
                  (zga K s11.2.2.2 100 r26 s11.2.2.1).bind fun v27 =>
                  (if zw v27 ≤ 0 then
                    some (s11.1, s11.2.1, s11.2.2.2)
                  else
                    (zgr K s11.2.2.2 12 49 self 17).bind fun r29 =>
                    (zga K s11.2.2.2 100 r29 s11.2.2.1).bind fun v30 =>
                    if zw s8.2.2.2.2.2.1 < zw v30 then
                      some (s11.1, s11.2.1, s11.2.2.2)
                    else
                      (zgr K s11.2.2.2 12 49 self 18).bind fun r31 =>
                      (zga K s11.2.2.2 100 r31 s11.2.2.1).bind fun v32 =>
                      (zpa K s11.2.2.2 100 r31 s11.2.2.1 (v32 - 1)).bind fun M33 =>
                      (zgr K M33 12 49 self 17).bind fun r34 =>
                      (zgf K M33 12 49 self 16).bind fun v35 =>
                      (zpa K M33 100 r34 s11.2.2.1 (s8.2.2.2.2.2.1 + v35)).bind fun M36 =>
                      some (s11.1 + 1, s8.2.2.2.2.2.1, M36) : Option (Int × Int × zM)).bind fun j28 =>
                  some (.inl (j28.1, j28.2.1, s11.2.2.1 + 1, j28.2.2))) n (s8.2.1, s8.2.2.2.2.1, 0, s8.2.2.2.2.2.2)).bind fun e12 =>
              (if zw a3 ≤ zw s8.1 then
                some (s8.1, s8.2.2.1, s8.2.2.2.1, e12.2.2.2)
              else
                (zgk K self 12 49).bind fun _ => (qmd_bankAt K e12.2.2.2 self (a1 + (s8.1 * a2))).bind fun v14 =>
                (zgr K e12.2.2.2 12 49 self 18).bind fun r15 =>
                (zga K e12.2.2.2 100 r15 v14).bind fun v16 =>
                if zw a4 ≤ zw v16 then
                  some (s8.1, s8.2.2.1 + 1, s8.2.2.2.1, e12.2.2.2)
                else
                  (zgr K e12.2.2.2 12 49 self 18).bind fun r17 =>
                  (zga K e12.2.2.2 100 r17 v14).bind fun v18 =>
                  (zpa K e12.2.2.2 100 r17 v14 (v18 + 1)).bind fun M19 =>
                  (zgr K M19 12 49 self 18).bind fun r20 =>
                  (zga K M19 100 r20 v14).bind fun v21 =>
                  (if zw v21 ≤ zw s8.2.2.2.1 then
                    some s8.2.2.2.1
                  else
                    (zgr K M19 12 49 self 18).bind fun r23 =>
                    (zga K M19 100 r23 v14).bind fun v24 =>
                    some v24 : Option (Int)).bind fun j22 =>
                  some (s8.1 + 1, s8.2.2.1, j22, M19) : Option (Int × Int × Int × zM)).bind fun j13 =>
              some (.inl (j13.1, e12.1, j13.2.1, j13.2.2.1, e12.2.1, s8.2.2.2.2.2.1 + 1, j13.2.2.2))) n (0, 0, 0, 0, 0, 0, e7.2)).bind fun e9 =>
          if zw a5 = 0 then
            (zgf K e9.2.2.2.2.2.2 12 49 self 16).bind fun v10 =>
            some (e9.2.2.2.2.1 + v10, e9.2.2.2.2.2.2)
          else
            if zw a5 = zw 1 then
              some (e9.2.2.1, e9.2.2.2.2.2.2)
            else
              some (e9.2.2.2.1, e9.2.2.2.2.2.2)
def qmd_common (n : Nat) (K : zK) (M : zM) (a0 a1 : Int) : Option (Int) :=
  zwh (σ := Int × Int) (fun s1 =>
    if zw s1.2 = 0 then
      some (.inr s1.1)
    else
      (zrm s1.1 s1.2).bind fun v2 =>
      some (.inl (s1.2, v2))) n (a0, a1)
def qmd_areAlike (n : Nat) (K : zK) (M : zM) (self a1 a2 : Int) : Option (Int) :=
  zwh (σ := Int × Int) (fun s1 =>
    if zw 17 ≤ zw s1.2 then
      (zbr s1.1).bind fun z2 => some (.inr z2)
    else
      zesc (β := Unit) (if zw s1.1 = 0 then
        some (.inl ())
      else
        (zgr K M 12 49 self 19).bind fun r4 =>
        (zga K M 100 r4 ((17 * a1) + s1.2)).bind fun v5 =>
        (zgr K M 12 49 self 19).bind fun r6 =>
        (zga K M 100 r6 ((17 * a2) + s1.2)).bind fun v7 =>
        if zw v5 = zw v7 then
          some (.inr (.inl (1, s1.2 + 1)))
        else
          some (.inl ())) fun j3 =>
      some (.inl (0, s1.2 + 1))) n (1, 0)
def qmd_findRate (n : Nat) (K : zK) (M : zM) (self a1 a2 : Int) : Option (Int × zM) :=
  (zgk K self 12 49).bind fun _ => (qmd_begins n K M self).bind fun M1 =>
  (zgf K M1 12 49 self 0).bind fun v2 =>
  (zgf K M1 12 49 self 1).bind fun v3 =>
  (some (v2 * v3)).bind fun x4 =>
  (qmd_common n K M1 a2 x4).bind fun v5 =>
  (zdv x4 v5).bind fun v6 =>
  zesc (β := Int × Int × Int × Int × zM) (zwh (σ := Int × Int × Int × zM) (fun s7 =>
    if zw 64 < zw s7.2.2.1 then
      some (.inr (.inr (0, s7.2.2.2)))
    else
      (zwh (σ := Int × Int × Int × zM) (ρ := Int × Int × Int × zM) (fun s21 =>
        if zw v6 ≤ zw s21.2.2.1 then
          some (.inr (s21.1, s21.2.1, s21.2.2.1, s21.2.2.2))
        else
          (zrm s21.2.1 x4).bind fun v37 =>
          (zgk K self 12 49).bind fun _ => (qmd_asks K s21.2.2.2 self (a1 + (v37 * a2)) s21.1).bind fun p38 =>
          some (.inl (p38.1, s21.2.1 + 1, s21.2.2.1 + 1, p38.2))) n (s7.1, s7.2.1, 0, s7.2.2.2)).bind fun e22 =>
      (zgr K e22.2.2.2 12 49 self 20).bind fun r23 =>
      (zpa K e22.2.2.2 100 r23 s7.2.2.1 e22.1).bind fun M24 =>
      (zwh (σ := Int × zM) (ρ := Int × zM) (fun s25 =>
        if zw 17 ≤ zw s25.1 then
          some (.inr (s25.1, s25.2))
        else
          (zgr K s25.2 12 49 self 19).bind fun r30 =>
          (zgr K s25.2 12 49 self 17).bind fun r31 =>
          (zga K s25.2 100 r31 s25.1).bind fun v32 =>
          (if zw v32 ≤ zw (e22.1 + 1) then
            some 0
          else
            (zgr K s25.2 12 49 self 17).bind fun r35 =>
            (zga K s25.2 100 r35 s25.1).bind fun v36 =>
            some ((v36 - e22.1) - 1) : Option (Int)).bind fun j33 =>
          (zpa K s25.2 100 r30 ((17 * s7.2.2.1) + s25.1) j33).bind fun M34 =>
          some (.inl (s25.1 + 1, M34))) n (0, M24)).bind fun e26 =>
      zesc (β := Int) (zwh (σ := Int) (fun s27 =>
        if zw s7.2.2.1 ≤ zw s27 then
          some (.inr (.inl s27))
        else
          (zgk K self 12 49).bind fun _ => (qmd_areAlike n K e26.2 self s27 s7.2.2.1).bind fun v29 =>
          if zw v29 = 0 then
            some (.inl (s27 + 1))
          else
            some (.inr (.inr (.inr (.inl (e22.1, e22.2.1, s7.2.2.1, s27, e26.2)))))) n 1) fun e28 =>
      some (.inl (e22.1, e22.2.1, s7.2.2.1 + 1, e26.2))) n ((-1), 0, 1, M1)) fun e8 =>
  (some ((e8.2.2.1 - e8.2.2.2.1) * v6)).bind fun x9 =>
  (zgr K e8.2.2.2.2 12 49 self 20).bind fun r10 =>
  (zga K e8.2.2.2.2 100 r10 e8.2.2.1).bind fun v11 =>
  (zgr K e8.2.2.2.2 12 49 self 20).bind fun r12 =>
  (zga K e8.2.2.2.2 100 r12 e8.2.2.2.1).bind fun v13 =>
  (some (v11 - v13)).bind fun x14 =>
  (qmd_common n K e8.2.2.2.2 x9 x14).bind fun v15 =>
  (zdv x9 v15).bind fun v16 =>
  (zpf K e8.2.2.2.2 12 49 self 21 v16).bind fun M17 =>
  (zdv x14 v15).bind fun v18 =>
  (zpf K M17 12 49 self 22 v18).bind fun M19 =>
  (zpf K M19 12 49 self 23 e8.2.2.1).bind fun M20 =>
  some (1, M20)
def qmd_rate (n : Nat) (K : zK) (M : zM) (self a1 a2 a3 : Int) : Option (Int × zM) :=
  (qmd_isStream K M a1 a2).bind fun v1 =>
  if zw v1 = 0 then
    some ((-1), M)
  else
    (qmd_in K M (zw a3) 0 2).bind fun v2 =>
    if zw v2 = 0 then
      some ((-1), M)
    else
      (zgk K self 12 49).bind fun _ => (qmd_findRate n K M self a1 a2).bind fun p3 =>
      if zw p3.1 = 0 then
        some ((-6), p3.2)
      else
        if zw a3 = 0 then
          (zgf K p3.2 12 49 self 21).bind fun v4 =>
          some (v4, p3.2)
        else
          if zw a3 = zw 1 then
            (zgf K p3.2 12 49 self 22).bind fun v5 =>
            some (v5, p3.2)
          else
            (zgf K p3.2 12 49 self 23).bind fun v6 =>
            some (v6, p3.2)
def qmd_steps (n : Nat) (K : zK) (M : zM) (self a1 : Int) : Option (Int × zM) :=
  (qmd_in K M (zw a1) 0 1).bind fun v1 =>
  if zw v1 = 0 then
    some ((-1), M)
  else
    zwh (σ := Int × Int × Int × Int × Int × zM) (fun s2 =>
      if zw 100 ≤ zw s2.2.2.2.2.1 then
        if zw a1 = 0 then
          some (.inr (s2.1, s2.2.2.2.2.2))
        else
          some (.inr (s2.2.1, s2.2.2.2.2.2))
      else
        (zgk K self 12 49).bind fun _ => (qmd_findRate n K s2.2.2.2.2.2 self 0 s2.2.2.2.2.1).bind fun p3 =>
        if zw p3.1 = 0 then
          some (.inr ((-6), p3.2))
        else
          (zgf K p3.2 12 49 self 21).bind fun v4 =>
          (zgf K p3.2 12 49 self 22).bind fun v5 =>
          (if zw v4 = zw v5 then
            some 1
          else
            some 0 : Option (Int)).bind fun j6 =>
          (some (s2.1 + j6)).bind fun x7 =>
          zesc (β := Unit) (if zw s2.2.2.2.1 = 0 then
            some (.inl ())
          else
            (zgf K p3.2 12 49 self 21).bind fun v11 =>
            (zgf K p3.2 12 49 self 22).bind fun v12 =>
            if zw (s2.2.2.1 * v12) ≤ zw (v11 * s2.2.2.2.1) then
              some (.inr (.inl (x7, s2.2.1, s2.2.2.1, s2.2.2.2.1, s2.2.2.2.2.1 + 1, p3.2)))
            else
              some (.inl ())) fun j8 =>
          (zgf K p3.2 12 49 self 21).bind fun v9 =>
          (zgf K p3.2 12 49 self 22).bind fun v10 =>
          some (.inl (x7, s2.2.2.2.2.1, v9, v10, s2.2.2.2.2.1 + 1, p3.2))) n (0, 1, 1, 0, 1, M)
def qmd_feed (n : Nat) (K : zK) (M : zM) (self a1 : Int) : Option (Int × zM) :=
  (zgf K M 12 49 self 36).bind fun v1 =>
  if zw (v1 + 8) ≤ zw 240 then
    zwh (σ := Int × zM) (fun s2 =>
      if zw s2.1 < 0 then
        (zgf K s2.2 12 49 self 36).bind fun v3 =>
        some (.inr (v3, s2.2))
      else
        (zgr K s2.2 12 49 self 35).bind fun r4 =>
        (zgf K s2.2 12 49 self 36).bind fun v5 =>
        (zpa K s2.2 100 r4 v5 (zland (zlshr a1 s2.1) 255)).bind fun M6 =>
        (zgf K M6 12 49 self 36).bind fun v7 =>
        (zpf K M6 12 49 self 36 (v7 + 1)).bind fun M8 =>
        some (.inl (s2.1 + (-8), M8))) n (56, M)
  else
    some ((-3), M)
def qmd_end (K : zK) (M : zM) (self a1 : Int) : Option (Int × zM) :=
  (zgf K M 12 49 self 36).bind fun v1 =>
  (qmd_in K M (zw a1) 0 (zw v1)).bind fun v2 =>
  if zw v2 = 0 then
    some ((-1), M)
  else
    (zgf K M 12 49 self 36).bind fun v3 =>
    (zpf K M 12 49 self 36 a1).bind fun M4 =>
    some (v3, M4)
def qmd_wants (K : zK) (M : zM) (self a1 a2 : Int) : Option (zM) :=
  if zw a1 = 0 then
    (zgf K M 12 49 self 41).bind fun v1 =>
    if zw v1 = 0 then
      (zpf K M 12 49 self 41 a2).bind fun M2 =>
      (zgf K M2 12 49 self 38).bind fun v3 =>
      (zpf K M2 12 49 self 42 v3).bind fun M4 =>
      some M4
    else
      some M
  else
    some M
def qmd_look (K : zK) (M : zM) (self a1 : Int) : Option (Int) :=
  (zgf K M 12 49 self 36).bind fun v1 =>
  if zw v1 ≤ zw a1 then
    some (-1)
  else
    (zgr K M 12 49 self 35).bind fun r2 =>
    (zga K M 100 r2 a1).bind fun v3 =>
    some v3
def qmd_next (n : Nat) (K : zK) (M : zM) (self : Int) : Option (zM) :=
  (zgf K M 12 49 self 41).bind fun v1 =>
  if zw v1 ≤ 0 then
    (zwh (σ := zM) (ρ := zM) (fun s2 =>
      (zgf K s2 12 49 self 37).bind fun v44 =>
      (zgk K self 12 49).bind fun _ => (qmd_look K s2 self v44).bind fun v45 =>
      if zw v45 = zw 32 then
        (zgf K s2 12 49 self 37).bind fun v46 =>
        (zpf K s2 12 49 self 37 (v46 + 1)).bind fun M47 =>
        some (.inl M47)
      else
        some (.inr s2)) n M).bind fun e3 =>
    (zgf K e3 12 49 self 37).bind fun v4 =>
    (zpf K e3 12 49 self 38 v4).bind fun M5 =>
    (zgf K M5 12 49 self 37).bind fun v6 =>
    (zgk K self 12 49).bind fun _ => (qmd_look K M5 self v6).bind fun v7 =>
    if 0 ≤ zw v7 then
      (qmd_in K M5 (zw v7) 97 122).bind fun v8 =>
      if zw v8 = 0 then
        (qmd_in K M5 (zw v7) 48 57).bind fun v9 =>
        if zw v9 = 0 then
          (zpf K M5 12 49 self 39 3).bind fun M10 =>
          (if zw v7 = zw 59 then
            some 1
          else
            some 0 : Option (Int)).bind fun j11 =>
          (zgk K self 12 49).bind fun _ => (qmd_wants K M10 self j11 1).bind fun M12 =>
          (zgf K M12 12 49 self 37).bind fun v13 =>
          (zpf K M12 12 49 self 37 (v13 + 1)).bind fun M14 =>
          some M14
        else
          (zpf K M5 12 49 self 39 2).bind fun M15 =>
          (zpf K M15 12 49 self 40 0).bind fun M16 =>
          (zwh (σ := zM) (ρ := zM) (fun s17 =>
            (zgf K s17 12 49 self 37).bind fun v23 =>
            (zgk K self 12 49).bind fun _ => (qmd_look K s17 self v23).bind fun v24 =>
            (qmd_in K s17 (zw v24) 48 57).bind fun v25 =>
            if zw v25 = 0 then
              some (.inr s17)
            else
              (zgf K s17 12 49 self 37).bind fun v26 =>
              (zgf K s17 12 49 self 38).bind fun v27 =>
              (if zw 4 ≤ zw (v26 - v27) then
                (zgf K s17 12 49 self 40).bind fun v32 =>
                some v32
              else
                (zgf K s17 12 49 self 40).bind fun v33 =>
                (zgf K s17 12 49 self 37).bind fun v34 =>
                (zgk K self 12 49).bind fun _ => (qmd_look K s17 self v34).bind fun v35 =>
                some (((10 * v33) + v35) - 48) : Option (Int)).bind fun j28 =>
              (zpf K s17 12 49 self 40 j28).bind fun M29 =>
              (zgf K M29 12 49 self 37).bind fun v30 =>
              (zpf K M29 12 49 self 37 (v30 + 1)).bind fun M31 =>
              some (.inl M31)) n M16).bind fun e18 =>
          (zgf K e18 12 49 self 37).bind fun v19 =>
          (zgf K e18 12 49 self 38).bind fun v20 =>
          (if zw 4 < zw (v19 - v20) then
            some 0
          else
            some 1 : Option (Int)).bind fun j21 =>
          (zgk K self 12 49).bind fun _ => (qmd_wants K e18 self j21 1).bind fun M22 =>
          some M22
      else
        (zpf K M5 12 49 self 39 1).bind fun M36 =>
        zwh (σ := zM) (fun s37 =>
          (zgf K s37 12 49 self 37).bind fun v38 =>
          (zgk K self 12 49).bind fun _ => (qmd_look K s37 self v38).bind fun v39 =>
          (qmd_in K s37 (zw v39) 97 122).bind fun v40 =>
          if zw v40 = 0 then
            some (.inr s37)
          else
            (zgf K s37 12 49 self 37).bind fun v41 =>
            (zpf K s37 12 49 self 37 (v41 + 1)).bind fun M42 =>
            some (.inl M42)) n M36
    else
      (zpf K M5 12 49 self 39 0).bind fun M43 =>
      some M43
  else
    some M
def qmd_is (K : zK) (M : zM) (self a1 a2 a3 a4 a5 a6 : Int) : Option (Int) :=
  (zgf K M 12 49 self 39).bind fun v1 =>
  if zw v1 = zw 1 then
    (zgf K M 12 49 self 37).bind fun v2 =>
    (zgf K M 12 49 self 38).bind fun v3 =>
    if zw (v2 - v3) = zw a1 then
      (zgf K M 12 49 self 38).bind fun v4 =>
      (zgk K self 12 49).bind fun _ => (qmd_look K M self v4).bind fun v5 =>
      if zw v5 = zw a2 then
        (zgf K M 12 49 self 38).bind fun v6 =>
        (zgk K self 12 49).bind fun _ => (qmd_look K M self (v6 + 1)).bind fun v7 =>
        if zw v7 = zw a3 then
          (zgf K M 12 49 self 38).bind fun v8 =>
          (zgk K self 12 49).bind fun _ => (qmd_look K M self (v8 + 2)).bind fun v9 =>
          if zw v9 = zw a4 then
            zesc (β := Unit) (if zw a1 < zw 4 then
              some (.inl ())
            else
              (zgf K M 12 49 self 38).bind fun v14 =>
              (zgk K self 12 49).bind fun _ => (qmd_look K M self (v14 + 3)).bind fun v15 =>
              if zw v15 = zw a5 then
                some (.inl ())
              else
                some (.inr 0)) fun j10 =>
            zesc (β := Unit) (if zw a1 < zw 5 then
              some (.inl ())
            else
              (zgf K M 12 49 self 38).bind fun v12 =>
              (zgk K self 12 49).bind fun _ => (qmd_look K M self (v12 + 4)).bind fun v13 =>
              if zw v13 = zw a6 then
                some (.inl ())
              else
                some (.inr 0)) fun j11 =>
            some 1
          else
            some 0
        else
          some 0
      else
        some 0
    else
      some 0
  else
    some 0
def qmd_lineNow (K : zK) (M : zM) (self : Int) : Option (Int) :=
  (zgk K self 12 49).bind fun _ => (qmd_is K M self 4 108 111 97 100 0).bind fun v1 =>
  if zw v1 = 0 then
    (zgk K self 12 49).bind fun _ => (qmd_is K M self 5 115 116 111 114 101).bind fun v2 =>
    if zw v2 = 0 then
      (zgk K self 12 49).bind fun _ => (qmd_is K M self 3 97 100 100 0 0).bind fun v3 =>
      if zw v3 = 0 then
        (zgk K self 12 49).bind fun _ => (qmd_is K M self 3 109 117 108 0 0).bind fun v4 =>
        if zw v4 = 0 then
          some (-4)
        else
          some 3
      else
        some 2
    else
      some 1
  else
    some 0
def qmd_readRow (n : Nat) (K : zK) (M : zM) (self a1 : Int) : Option (Int × zM) :=
  (zgf K M 12 49 self 39).bind fun v1 =>
  zesc (β := Unit) (if zw v1 = zw 1 then
    (zgf K M 12 49 self 37).bind fun v15 =>
    (zgf K M 12 49 self 38).bind fun v16 =>
    if zw (v15 - v16) = zw 1 then
      (zgf K M 12 49 self 38).bind fun v17 =>
      (zgk K self 12 49).bind fun _ => (qmd_look K M self v17).bind fun v18 =>
      (qmd_in K M (zw v18) 97 104).bind fun v19 =>
      if zw v19 = 0 then
        some (.inl ())
      else
        (zgk K self 12 49).bind fun _ => (qmd_wants K M self 1 2).bind fun M20 =>
        (zgf K M20 12 49 self 41).bind fun v21 =>
        (if zw v21 = 0 then
          (zgf K M20 12 49 self 38).bind fun v30 =>
          (zgk K self 12 49).bind fun _ => (qmd_look K M20 self v30).bind fun v31 =>
          some (v31 - 97)
        else
          some 0 : Option (Int)).bind fun j22 =>
        (zgf K M20 12 49 self 41).bind fun v23 =>
        (if zw v23 = 0 then
          zesc (β := Unit) (if zw a1 = 0 then
            some (.inl ())
          else
            (zgf K M20 12 49 self 34).bind fun v28 =>
            if zw (zand (zshr v28 j22) 1) = zw 1 then
              some (.inl ())
            else
              (zgk K self 12 49).bind fun _ => (qmd_wants K M20 self 0 4).bind fun M29 =>
              some (.inr M29)) fun j26 =>
          (zgk K self 12 49).bind fun _ => (qmd_wants K M20 self 1 4).bind fun M27 =>
          some M27
        else
          some M20 : Option (zM)).bind fun j24 =>
        (zgk K self 12 49).bind fun _ => (qmd_next n K j24 self).bind fun M25 =>
        some (.inr (j22, M25))
    else
      some (.inl ())
  else
    some (.inl ())) fun j2 =>
  (zgk K self 12 49).bind fun _ => (qmd_wants K M self 0 2).bind fun M3 =>
  (zgf K M3 12 49 self 41).bind fun v4 =>
  (if zw v4 = 0 then
    (zgf K M3 12 49 self 38).bind fun v13 =>
    (zgk K self 12 49).bind fun _ => (qmd_look K M3 self v13).bind fun v14 =>
    some (v14 - 97)
  else
    some 0 : Option (Int)).bind fun j5 =>
  (zgf K M3 12 49 self 41).bind fun v6 =>
  (if zw v6 = 0 then
    zesc (β := Unit) (if zw a1 = 0 then
      some (.inl ())
    else
      (zgf K M3 12 49 self 34).bind fun v11 =>
      if zw (zand (zshr v11 j5) 1) = zw 1 then
        some (.inl ())
      else
        (zgk K self 12 49).bind fun _ => (qmd_wants K M3 self 0 4).bind fun M12 =>
        some (.inr M12)) fun j9 =>
    (zgk K self 12 49).bind fun _ => (qmd_wants K M3 self 1 4).bind fun M10 =>
    some M10
  else
    some M3 : Option (zM)).bind fun j7 =>
  (zgk K self 12 49).bind fun _ => (qmd_next n K j7 self).bind fun M8 =>
  some (j5, M8)
def qmd_readNumber (n : Nat) (K : zK) (M : zM) (self a1 a2 : Int) : Option (Int × zM) :=
  (zgf K M 12 49 self 39).bind fun v1 =>
  (if zw v1 = zw 2 then
    some 1
  else
    some 0 : Option (Int)).bind fun j2 =>
  (zgk K self 12 49).bind fun _ => (qmd_wants K M self j2 2).bind fun M3 =>
  (zgf K M3 12 49 self 41).bind fun v4 =>
  (if zw v4 = 0 then
    (zgf K M3 12 49 self 40).bind fun v8 =>
    (qmd_in K M3 (zw v8) (zw a1) (zw a2)).bind fun v9 =>
    (zgk K self 12 49).bind fun _ => (qmd_wants K M3 self v9 3).bind fun M10 =>
    some M10
  else
    some M3 : Option (zM)).bind fun j5 =>
  (zgf K j5 12 49 self 40).bind fun v6 =>
  (zgk K self 12 49).bind fun _ => (qmd_next n K j5 self).bind fun M7 =>
  some (v6, M7)
def qmd_readLine (n : Nat) (K : zK) (M : zM) (self : Int) : Option (zM) :=
  (zgk K self 12 49).bind fun _ => (qmd_lineNow K M self).bind fun v1 =>
  (if zw v1 = zw (-4) then
    some 0
  else
    some 1 : Option (Int)).bind fun j2 =>
  (zgk K self 12 49).bind fun _ => (qmd_wants K M self j2 2).bind fun M3 =>
  (zgf K M3 12 49 self 29).bind fun v4 =>
  (if zw 16 ≤ zw v4 then
    some 0
  else
    some 1 : Option (Int)).bind fun j5 =>
  (zgk K self 12 49).bind fun _ => (qmd_wants K M3 self j5 5).bind fun M6 =>
  (zgf K M6 12 49 self 41).bind fun v7 =>
  if zw v7 ≤ 0 then
    (zgk K self 12 49).bind fun _ => (qmd_next n K M6 self).bind fun M8 =>
    (if zw v1 = zw 1 then
      some 1
    else
      some 0 : Option (Int)).bind fun j9 =>
    (zgk K self 12 49).bind fun _ => (qmd_readRow n K M8 self j9).bind fun p10 =>
    (if zw 2 ≤ zw v1 then
      (zgk K self 12 49).bind fun _ => (qmd_readRow n K p10.2 self 1).bind fun p38 =>
      some (p38.1, p38.2)
    else
      (zgk K self 12 49).bind fun _ => (qmd_readNumber n K p10.2 self 0 999).bind fun p39 =>
      some (p39.1, p39.2) : Option (Int × zM)).bind fun j11 =>
    (if zw 2 ≤ zw v1 then
      (zgk K self 12 49).bind fun _ => (qmd_readRow n K j11.2 self 1).bind fun p36 =>
      some (p36.1, p36.2)
    else
      (zgk K self 12 49).bind fun _ => (qmd_readNumber n K j11.2 self 1 99).bind fun p37 =>
      some (p37.1, p37.2) : Option (Int × zM)).bind fun j12 =>
    (zgf K j12.2 12 49 self 41).bind fun v13 =>
    (if zw v13 = 0 then
      (zgf K j12.2 12 49 self 39).bind fun v33 =>
      (if zw v33 = zw 3 then
        some 1
      else
        some 0 : Option (Int)).bind fun j34 =>
      (zgk K self 12 49).bind fun _ => (qmd_wants K j12.2 self j34 2).bind fun M35 =>
      some M35
    else
      some j12.2 : Option (zM)).bind fun j14 =>
    (zgr K j14 12 49 self 30).bind fun r15 =>
    (zgf K j14 12 49 self 29).bind fun v16 =>
    (zpa K j14 100 r15 v16 v1).bind fun M17 =>
    (zgr K M17 12 49 self 31).bind fun r18 =>
    (zgf K M17 12 49 self 29).bind fun v19 =>
    (zpa K M17 100 r18 v19 p10.1).bind fun M20 =>
    (zgr K M20 12 49 self 32).bind fun r21 =>
    (zgf K M20 12 49 self 29).bind fun v22 =>
    (zpa K M20 100 r21 v22 j11.1).bind fun M23 =>
    (zgr K M23 12 49 self 33).bind fun r24 =>
    (zgf K M23 12 49 self 29).bind fun v25 =>
    (zpa K M23 100 r24 v25 j12.1).bind fun M26 =>
    (zgf K M26 12 49 self 34).bind fun v27 =>
    (if zw v1 = zw 1 then
      some 0
    else
      some (zshl 1 p10.1) : Option (Int)).bind fun j28 =>
    (zpf K M26 12 49 self 34 (zor v27 j28)).bind fun M29 =>
    (zgf K M29 12 49 self 29).bind fun v30 =>
    (zpf K M29 12 49 self 29 (v30 + 1)).bind fun M31 =>
    (zgk K self 12 49).bind fun _ => (qmd_next n K M31 self).bind fun M32 =>
    some M32
  else
    some M6
def qmd_program (n : Nat) (K : zK) (M : zM) (self : Int) : Option (Int × zM) :=
  (zpf K M 12 49 self 41 0).bind fun M1 =>
  (zpf K M1 12 49 self 37 0).bind fun M2 =>
  (zpf K M2 12 49 self 29 0).bind fun M3 =>
  (zpf K M3 12 49 self 34 0).bind fun M4 =>
  (zgk K self 12 49).bind fun _ => (qmd_next n K M4 self).bind fun M5 =>
  (zwh (σ := zM) (ρ := zM) (fun s6 =>
    (zgf K s6 12 49 self 41).bind fun v31 =>
    if zw v31 = 0 then
      (zgf K s6 12 49 self 39).bind fun v32 =>
      if zw v32 = 0 then
        some (.inr s6)
      else
        (zgk K self 12 49).bind fun _ => (qmd_readLine n K s6 self).bind fun M33 =>
        some (.inl M33)
    else
      some (.inr s6)) n M5).bind fun e7 =>
  (zpf K e7 12 49 self 36 0).bind fun M8 =>
  (zgf K M8 12 49 self 41).bind fun v9 =>
  if zw v9 ≤ 0 then
    (zgf K M8 12 49 self 29).bind fun v10 =>
    (zpf K M8 12 49 self 24 v10).bind fun M11 =>
    zwh (σ := Int × zM) (fun s12 =>
      if zw 16 ≤ zw s12.1 then
        (zgf K s12.2 12 49 self 24).bind fun v13 =>
        some (.inr (v13, s12.2))
      else
        (zgr K s12.2 12 49 self 25).bind fun r14 =>
        (zgr K s12.2 12 49 self 30).bind fun r15 =>
        (zga K s12.2 100 r15 s12.1).bind fun v16 =>
        (zpa K s12.2 100 r14 s12.1 v16).bind fun M17 =>
        (zgr K M17 12 49 self 26).bind fun r18 =>
        (zgr K M17 12 49 self 31).bind fun r19 =>
        (zga K M17 100 r19 s12.1).bind fun v20 =>
        (zpa K M17 100 r18 s12.1 v20).bind fun M21 =>
        (zgr K M21 12 49 self 27).bind fun r22 =>
        (zgr K M21 12 49 self 32).bind fun r23 =>
        (zga K M21 100 r23 s12.1).bind fun v24 =>
        (zpa K M21 100 r22 s12.1 v24).bind fun M25 =>
        (zgr K M25 12 49 self 28).bind fun r26 =>
        (zgr K M25 12 49 self 33).bind fun r27 =>
        (zga K M25 100 r27 s12.1).bind fun v28 =>
        (zpa K M25 100 r26 s12.1 v28).bind fun M29 =>
        some (.inl (s12.1 + 1, M29))) n (0, M11)
  else
    (zgf K M8 12 49 self 42).bind fun v30 =>
    some ((-10) - v30, M8)
def qmd_fault (K : zK) (M : zM) (self : Int) : Option (Int) :=
  (zgf K M 12 49 self 41).bind fun v1 =>
  some v1
def qmd_isLine (K : zK) (M : zM) (self a1 : Int) : Option (Int) :=
  (zgf K M 12 49 self 24).bind fun v1 =>
  (qmd_in K M (zw a1) 0 (zw (v1 - 1))).bind fun v2 =>
  (zbr v2).bind fun z3 => some z3
def qmd_line (K : zK) (M : zM) (self a1 a2 : Int) : Option (Int) :=
  (zgk K self 12 49).bind fun _ => (qmd_isLine K M self a1).bind fun v1 =>
  zesc (β := Unit) (if zw v1 = 0 then
    some (.inl ())
  else
    (qmd_in K M (zw a2) 0 3).bind fun v3 =>
    if zw v3 = 0 then
      some (.inl ())
    else
      if zw a2 = 0 then
        (zgr K M 12 49 self 25).bind fun r4 =>
        (zga K M 100 r4 a1).bind fun v5 =>
        some (.inr v5)
      else
        if zw a2 = zw 1 then
          (zgr K M 12 49 self 26).bind fun r6 =>
          (zga K M 100 r6 a1).bind fun v7 =>
          some (.inr v7)
        else
          if zw a2 = zw 2 then
            (zgr K M 12 49 self 27).bind fun r8 =>
            (zga K M 100 r8 a1).bind fun v9 =>
            some (.inr v9)
          else
            (zgr K M 12 49 self 28).bind fun r10 =>
            (zga K M 100 r10 a1).bind fun v11 =>
            some (.inr v11)) fun j2 =>
  some (-1)
def qmd_madeBy (n : Nat) (K : zK) (M : zM) (self a1 a2 : Int) : Option (Int) :=
  (some (a1 - 1)).bind fun x1 =>
  zwh (σ := Int) (fun s2 =>
    (zgr K M 12 49 self 25).bind fun r3 =>
    (zga K M 100 r3 s2).bind fun v4 =>
    zesc (β := Unit) (if zw v4 = zw 1 then
      some (.inl ())
    else
      (zgr K M 12 49 self 26).bind fun r6 =>
      (zga K M 100 r6 s2).bind fun v7 =>
      if zw v7 = zw a2 then
        some (.inr (.inr s2))
      else
        some (.inl ())) fun j5 =>
    some (.inl (s2 + (-1)))) n x1
def qmd_thereAt (n : Nat) (K : zK) (M : zM) (self a1 a2 a3 a4 : Int) : Option (Int) :=
  (zgr K M 12 49 self 44).bind fun r1 =>
  (zga K M 100 r1 ((64 * a1) + a2)).bind fun v2 =>
  zwh (σ := Int × Int) (fun s3 =>
    if zw a3 ≤ zw s3.2 then
      some (.inr s3.1)
    else
      if zw a4 = 0 then
        (zgr K M 12 49 self 44).bind fun r4 =>
        (zga K M 100 r4 ((64 * a1) + s3.2)).bind fun v5 =>
        (if zw v5 ≤ zw s3.1 then
          some s3.1
        else
          (zgr K M 12 49 self 44).bind fun r7 =>
          (zga K M 100 r7 ((64 * a1) + s3.2)).bind fun v8 =>
          some v8 : Option (Int)).bind fun j6 =>
        some (.inl (j6, s3.2 + 1))
      else
        some (.inr s3.1)) n (v2, 0)
def qmd_more (K : zK) (M : zM) (a0 a1 : Int) : Option (Int) :=
  if zw a0 ≤ zw a1 then
    some a1
  else
    some a0
def qmd_runsLine (n : Nat) (K : zK) (M : zM) (self a1 a2 a3 : Int) : Option (zM) :=
  (zgr K M 12 49 self 25).bind fun r1 =>
  (zga K M 100 r1 a1).bind fun v2 =>
  (if zw 2 ≤ zw v2 then
    (zgr K M 12 49 self 25).bind fun r45 =>
    (zga K M 100 r45 a1).bind fun v46 =>
    some (v46 - 1)
  else
    some 0 : Option (Int)).bind fun j3 =>
  zwh (σ := Int × zM) (fun s4 =>
    if zw a2 ≤ zw s4.1 then
      some (.inr s4.2)
    else
      (zgr K s4.2 12 49 self 45).bind fun r5 =>
      (zga K s4.2 100 r5 j3).bind fun v6 =>
      (zgr K s4.2 12 49 self 25).bind fun r7 =>
      (zga K s4.2 100 r7 a1).bind fun v8 =>
      (if zw v8 = zw 1 then
        (zgr K s4.2 12 49 self 26).bind fun r40 =>
        (zga K s4.2 100 r40 a1).bind fun v41 =>
        (zgk K self 12 49).bind fun _ => (qmd_madeBy n K s4.2 self a1 v41).bind fun v42 =>
        (zgk K self 12 49).bind fun _ => (qmd_thereAt n K s4.2 self v42 s4.1 a2 a3).bind fun v43 =>
        (qmd_more K s4.2 v6 v43).bind fun v44 =>
        some v44
      else
        some v6 : Option (Int)).bind fun j9 =>
      (if zw j3 ≤ 0 then
        (zgr K s4.2 12 49 self 27).bind fun r19 =>
        (zga K s4.2 100 r19 a1).bind fun v20 =>
        (zgr K s4.2 12 49 self 28).bind fun r21 =>
        (zga K s4.2 100 r21 a1).bind fun v22 =>
        (zgk K self 12 49).bind fun _ => (qmd_bankAt K s4.2 self (v20 + (s4.1 * v22))).bind fun v23 =>
        (zgr K s4.2 12 49 self 17).bind fun r24 =>
        (zga K s4.2 100 r24 v23).bind fun v25 =>
        (qmd_more K s4.2 j9 v25).bind fun v26 =>
        (zgr K s4.2 12 49 self 17).bind fun r27 =>
        (zgf K s4.2 12 49 self 16).bind fun v28 =>
        (zpa K s4.2 100 r27 v23 (v26 + v28)).bind fun M29 =>
        some (v26, M29)
      else
        (zgr K s4.2 12 49 self 27).bind fun r30 =>
        (zga K s4.2 100 r30 a1).bind fun v31 =>
        (zgk K self 12 49).bind fun _ => (qmd_madeBy n K s4.2 self a1 v31).bind fun v32 =>
        (zgk K self 12 49).bind fun _ => (qmd_thereAt n K s4.2 self v32 s4.1 a2 a3).bind fun v33 =>
        (zgr K s4.2 12 49 self 28).bind fun r34 =>
        (zga K s4.2 100 r34 a1).bind fun v35 =>
        (zgk K self 12 49).bind fun _ => (qmd_madeBy n K s4.2 self a1 v35).bind fun v36 =>
        (zgk K self 12 49).bind fun _ => (qmd_thereAt n K s4.2 self v36 s4.1 a2 a3).bind fun v37 =>
        (qmd_more K s4.2 v33 v37).bind fun v38 =>
        (qmd_more K s4.2 j9 v38).bind fun v39 =>
        some (v39, s4.2) : Option (Int × zM)).bind fun j10 =>
      (zgr K j10.2 12 49 self 43).bind fun r11 =>
      (zpa K j10.2 100 r11 ((64 * a1) + s4.1) j10.1).bind fun M12 =>
      (zgr K M12 12 49 self 44).bind fun r13 =>
      (if zw j3 = 0 then
        (zgf K M12 12 49 self 16).bind fun v18 =>
        some v18
      else
        if zw j3 = zw 1 then
          some 3
        else
          some 5 : Option (Int)).bind fun j14 =>
      (zpa K M12 100 r13 ((64 * a1) + s4.1) (j10.1 + j14)).bind fun M15 =>
      (zgr K M15 12 49 self 45).bind fun r16 =>
      (zpa K M15 100 r16 j3 (j10.1 + 1)).bind fun M17 =>
      some (.inl (s4.1 + 1, M17))) n (0, M)
def qmd_runs (n : Nat) (K : zK) (M : zM) (self a1 a2 : Int) : Option (Int × zM) :=
  (zwh (σ := Int × zM) (ρ := Int × zM) (fun s1 =>
    if zw 17 ≤ zw s1.1 then
      some (.inr (s1.1, s1.2))
    else
      (zgr K s1.2 12 49 self 17).bind fun r13 =>
      (zpa K s1.2 100 r13 s1.1 0).bind fun M14 =>
      some (.inl (s1.1 + 1, M14))) n (0, M)).bind fun e2 =>
  (zwh (σ := Int × zM) (ρ := Int × zM) (fun s3 =>
    if zw 3 ≤ zw s3.1 then
      some (.inr (s3.1, s3.2))
    else
      (zgr K s3.2 12 49 self 45).bind fun r11 =>
      (zpa K s3.2 100 r11 s3.1 0).bind fun M12 =>
      some (.inl (s3.1 + 1, M12))) n (0, e2.2)).bind fun e4 =>
  zwh (σ := Int × Int × zM) (fun s5 =>
    (zgf K s5.2.2 12 49 self 24).bind fun v6 =>
    if zw v6 ≤ zw s5.2.1 then
      some (.inr (s5.1, s5.2.2))
    else
      (zgk K self 12 49).bind fun _ => (qmd_runsLine n K s5.2.2 self s5.2.1 a1 a2).bind fun M7 =>
      (zgr K M7 12 49 self 44).bind fun r8 =>
      (zga K M7 100 r8 (((64 * s5.2.1) + a1) - 1)).bind fun v9 =>
      (qmd_more K M7 s5.1 v9).bind fun v10 =>
      some (.inl (v10, s5.2.1 + 1, M7))) n (0, 0, e4.2)
def qmd_isLong (K : zK) (M : zM) (a0 : Int) : Option (Int) :=
  (qmd_in K M (zw a0) 1 64).bind fun v1 =>
  (zbr v1).bind fun z2 => some z2
def qmd_time (n : Nat) (K : zK) (M : zM) (self a1 a2 a3 : Int) : Option (Int × zM) :=
  (qmd_isLong K M a1).bind fun v1 =>
  if zw v1 = 0 then
    some ((-1), M)
  else
    zesc (β := Unit) (if zw a3 = zw (-4) then
      some (.inl ())
    else
      (zgk K self 12 49).bind fun _ => (qmd_isLine K M self a3).bind fun v7 =>
      if zw v7 = 0 then
        some (.inr ((-1), M))
      else
        some (.inl ())) fun j2 =>
    (zgk K self 12 49).bind fun _ => (qmd_laysNow n K M self).bind fun M3 =>
    (zgk K self 12 49).bind fun _ => (qmd_runs n K M3 self a1 a2).bind fun p4 =>
    if zw a3 = zw (-4) then
      some (p4.1, p4.2)
    else
      (zgr K p4.2 12 49 self 44).bind fun r5 =>
      (zga K p4.2 100 r5 (((64 * a3) + a1) - 1)).bind fun v6 =>
      some (v6, p4.2)
def qmd_when (n : Nat) (K : zK) (M : zM) (self a1 a2 a3 a4 a5 : Int) : Option (Int × zM) :=
  (qmd_isLong K M a1).bind fun v1 =>
  if zw v1 = 0 then
    some ((-1), M)
  else
    (zgk K self 12 49).bind fun _ => (qmd_isLine K M self a3).bind fun v2 =>
    if zw v2 = 0 then
      some ((-1), M)
    else
      (qmd_in K M (zw a4) 0 (zw (a1 - 1))).bind fun v3 =>
      if zw v3 = 0 then
        some ((-1), M)
      else
        (qmd_in K M (zw a5) 0 1).bind fun v4 =>
        if zw v4 = 0 then
          some ((-1), M)
        else
          (zgk K self 12 49).bind fun _ => (qmd_laysNow n K M self).bind fun M5 =>
          (zgk K self 12 49).bind fun _ => (qmd_runs n K M5 self a1 a2).bind fun p6 =>
          if zw a5 = 0 then
            (zgr K p6.2 12 49 self 43).bind fun r7 =>
            (zga K p6.2 100 r7 ((64 * a3) + a4)).bind fun v8 =>
            some (v8, p6.2)
          else
            (zgr K p6.2 12 49 self 44).bind fun r9 =>
            (zga K p6.2 100 r9 ((64 * a3) + a4)).bind fun v10 =>
            some (v10, p6.2)
def qmd_used (n : Nat) (K : zK) (M : zM) (self a1 a2 a3 a4 : Int) : Option (Int × zM) :=
  (qmd_isLong K M a1).bind fun v1 =>
  if zw v1 = 0 then
    some ((-1), M)
  else
    (qmd_in K M (zw a3) 0 2).bind fun v2 =>
    if zw v2 = 0 then
      some ((-1), M)
    else
      (qmd_in K M (zw a4) 0 1).bind fun v3 =>
      if zw v3 = 0 then
        some ((-1), M)
      else
        (zgk K self 12 49).bind fun _ => (qmd_laysNow n K M self).bind fun M4 =>
        (zgk K self 12 49).bind fun _ => (qmd_runs n K M4 self a1 a2).bind fun p5 =>
        zwh (σ := Int × Int) (fun s6 =>
          (zgf K p5.2 12 49 self 24).bind fun v7 =>
          if zw v7 ≤ zw s6.2 then
            if zw a4 = 0 then
              some (.inr (s6.1, p5.2))
            else
              some (.inr (p5.1, p5.2))
          else
            (zgr K p5.2 12 49 self 25).bind fun r8 =>
            (zga K p5.2 100 r8 s6.2).bind fun v9 =>
            (if zw 2 ≤ zw v9 then
              (zgr K p5.2 12 49 self 25).bind fun r13 =>
              (zga K p5.2 100 r13 s6.2).bind fun v14 =>
              some (v14 - 1)
            else
              some 0 : Option (Int)).bind fun j10 =>
            (if zw j10 = zw a3 then
              some a1
            else
              some 0 : Option (Int)).bind fun j11 =>
            (some (s6.1 + j11)).bind fun x12 =>
            some (.inl (x12, s6.2 + 1))) n (0, 0)
def qmd_tuned (n : Nat) (K : zK) (M : zM) (self a1 a2 a3 : Int) : Option (Int × zM) :=
  (qmd_isLong K M a1).bind fun v1 =>
  if zw v1 = 0 then
    some ((-1), M)
  else
    (qmd_in K M (zw a3) 0 2).bind fun v2 =>
    if zw v2 = 0 then
      some ((-1), M)
    else
      (zwh (σ := Int × Int × Int × zM) (ρ := Int × Int × Int × zM) (fun s3 =>
        (zgf K s3.2.2.2 12 49 self 2).bind fun v9 =>
        (zgf K s3.2.2.2 12 49 self 2).bind fun v10 =>
        if zw (v9 * v10) ≤ zw s3.2.2.1 then
          some (.inr (s3.1, s3.2.1, s3.2.2.1, s3.2.2.2))
        else
          (zgf K s3.2.2.2 12 49 self 2).bind fun v11 =>
          (zdv s3.2.2.1 v11).bind fun v12 =>
          (zgf K s3.2.2.2 12 49 self 2).bind fun v13 =>
          (zrm s3.2.2.1 v13).bind fun v14 =>
          (zgf K s3.2.2.2 12 49 self 2).bind fun v15 =>
          (zgk K self 12 49).bind fun _ => (qmd_lays n K s3.2.2.2 self 0 v12 v14 v15).bind fun M16 =>
          (zgk K self 12 49).bind fun _ => (qmd_runs n K M16 self a1 a2).bind fun p17 =>
          zesc (β := Unit) (if zw s3.2.1 < 0 then
            some (.inl ())
          else
            if zw s3.2.1 ≤ zw p17.1 then
              some (.inr (.inl (s3.1, s3.2.1, s3.2.2.1 + 1, p17.2)))
            else
              some (.inl ())) fun j18 =>
          some (.inl (s3.2.2.1, p17.1, s3.2.2.1 + 1, p17.2))) n (0, (-1), 0, M)).bind fun e4 =>
      if zw a3 = 0 then
        (zgf K e4.2.2.2 12 49 self 2).bind fun v5 =>
        (zdv e4.1 v5).bind fun v6 =>
        some (v6, e4.2.2.2)
      else
        if zw a3 = zw 1 then
          (zgf K e4.2.2.2 12 49 self 2).bind fun v7 =>
          (zrm e4.1 v7).bind fun v8 =>
          some (v8, e4.2.2.2)
        else
          some (e4.2.1, e4.2.2.2)
def qmd_isSheet (K : zK) (M : zM) (a0 a1 : Int) : Option (Int) :=
  (qmd_in K M (zw a0) 0 3).bind fun v1 =>
  if zw v1 = 0 then
    some 0
  else
    (qmd_in K M (zw a1) 0 2).bind fun v2 =>
    if zw v2 = 0 then
      some 0
    else
      some 1
def qmd_sheet (n : Nat) (K : zK) (M : zM) (self a1 a2 a3 : Int) : Option (Int × zM) :=
  (qmd_isSheet K M a1 a2).bind fun v1 =>
  if zw v1 = 0 then
    some ((-1), M)
  else
    if zw a3 ≤ zw 256 then
      if 0 ≤ zw a3 then
        (zgr K M 12 49 self 46).bind fun r2 =>
        (zpa K M 100 r2 a1 a2).bind fun M3 =>
        (zgr K M3 12 49 self 47).bind fun r4 =>
        (zpa K M3 100 r4 a1 a3).bind fun M5 =>
        zwh (σ := Int × zM) (fun s6 =>
          if zw 256 ≤ zw s6.1 then
            some (.inr (1, s6.2))
          else
            (zgr K s6.2 12 49 self 48).bind fun r7 =>
            (zpa K s6.2 100 r7 ((256 * a1) + s6.1) 0).bind fun M8 =>
            some (.inl (s6.1 + 1, M8))) n (0, M5)
      else
        some ((-14), M)
    else
      some ((-1), M)
def qmd_write (K : zK) (M : zM) (self a1 a2 a3 : Int) : Option (Int × zM) :=
  (qmd_isSheet K M a1 0).bind fun v1 =>
  if zw v1 = 0 then
    some ((-1), M)
  else
    (zgr K M 12 49 self 46).bind fun r2 =>
    (zga K M 100 r2 a1).bind fun v3 =>
    if zw v3 = zw (-4) then
      some ((-11), M)
    else
      (zgr K M 12 49 self 47).bind fun r4 =>
      (zga K M 100 r4 a1).bind fun v5 =>
      (qmd_in K M (zw a2) 0 (zw (v5 - 1))).bind fun v6 =>
      if zw v6 = 0 then
        some ((-12), M)
      else
        (zgr K M 12 49 self 48).bind fun r7 =>
        (zgr K M 12 49 self 46).bind fun r8 =>
        (zga K M 100 r8 a1).bind fun v9 =>
        (if zw v9 = 0 then
          some (zb8 a3)
        else
          (zgr K M 12 49 self 46).bind fun r12 =>
          (zga K M 100 r12 a1).bind fun v13 =>
          if zw v13 = zw 1 then
            some (zb16 a3)
          else
            some a3 : Option (Int)).bind fun j10 =>
        (zpa K M 100 r7 ((256 * a1) + a2) j10).bind fun M11 =>
        some (1, M11)
def qmd_read (n : Nat) (K : zK) (M : zM) (self a1 a2 a3 : Int) : Option (Int × zM) :=
  (qmd_isSheet K M a1 a2).bind fun v1 =>
  if zw v1 = 0 then
    some ((-1), M)
  else
    (zgr K M 12 49 self 46).bind fun r2 =>
    (zga K M 100 r2 a1).bind fun v3 =>
    if zw v3 = zw a2 then
      zesc (β := Int) (zwh (σ := Int) (fun s4 =>
        (zgf K M 12 49 self 0).bind fun v22 =>
        (zgf K M 12 49 self 1).bind fun v23 =>
        if zw (v22 * v23) ≤ zw s4 then
          some (.inr (.inl s4))
        else
          if zw (zlcmp ((zw a3) + (zw s4)) 0) < 0 then
            some (.inr (.inr ((-12), M)))
          else
            (zgr K M 12 49 self 47).bind fun r24 =>
            (zga K M 100 r24 a1).bind fun v25 =>
            if zw (zlcmp ((zw a3) + (zw s4)) (zw v25)) < 0 then
              (zgr K M 12 49 self 48).bind fun r26 =>
              (zga K M 100 r26 ((256 * a1) + ((zw a3) + (zw s4)))).bind fun v27 =>
              (zgf K M 12 49 self 2).bind fun v28 =>
              (qmd_in K M (zw v27) 0 (zw (v28 - 1))).bind fun v29 =>
              if zw v29 = 0 then
                some (.inr (.inr ((-1000) - s4, M)))
              else
                some (.inl (s4 + 1))
            else
              some (.inr (.inr ((-12), M)))) n 0) fun e5 =>
      zwh (σ := Int × Int × zM) (fun s6 =>
        (zgf K s6.2.2 12 49 self 0).bind fun v7 =>
        (zgf K s6.2.2 12 49 self 1).bind fun v8 =>
        if zw (v7 * v8) ≤ zw s6.2.1 then
          some (.inr (s6.1, s6.2.2))
        else
          (zgf K s6.2.2 12 49 self 1).bind fun v9 =>
          (zdv s6.2.1 v9).bind fun v10 =>
          (zgf K s6.2.2 12 49 self 1).bind fun v11 =>
          (zrm s6.2.1 v11).bind fun v12 =>
          (some ((16 * v10) + v12)).bind fun x13 =>
          (zgr K s6.2.2 12 49 self 48).bind fun r14 =>
          (zga K s6.2.2 100 r14 (((256 * a1) + a3) + s6.2.1)).bind fun v15 =>
          (zgr K s6.2.2 12 49 self 6).bind fun r16 =>
          (zga K s6.2.2 100 r16 x13).bind fun v17 =>
          (if zw v17 = zw v15 then
            some 0
          else
            some 1 : Option (Int)).bind fun j18 =>
          (some (s6.1 + j18)).bind fun x19 =>
          (zgr K s6.2.2 12 49 self 6).bind fun r20 =>
          (zpa K s6.2.2 100 r20 x13 v15).bind fun M21 =>
          some (.inl (x19, s6.2.1 + 1, M21))) n (0, 0, M)
    else
      (zgr K M 12 49 self 46).bind fun r30 =>
      (zga K M 100 r30 a1).bind fun v31 =>
      if zw v31 = zw (-4) then
        some ((-11), M)
      else
        some ((-13), M)
def qmd_count (K : zK) (M : zM) (self a1 : Int) : Option (Int) :=
  if zw a1 = 0 then
    (zgf K M 12 49 self 0).bind fun v1 =>
    some v1
  else if zw a1 = 1 then
    (zgf K M 12 49 self 1).bind fun v2 =>
    some v2
  else if zw a1 = 2 then
    (zgf K M 12 49 self 2).bind fun v3 =>
    some v3
  else if zw a1 = 3 then
    (zgf K M 12 49 self 3).bind fun v4 =>
    some v4
  else if zw a1 = 4 then
    (zgf K M 12 49 self 4).bind fun v5 =>
    some v5
  else if zw a1 = 5 then
    (zgf K M 12 49 self 5).bind fun v6 =>
    some v6
  else if zw a1 = 6 then
    (zgf K M 12 49 self 9).bind fun v7 =>
    some v7
  else if zw a1 = 7 then
    (zgf K M 12 49 self 16).bind fun v8 =>
    some v8
  else if zw a1 = 8 then
    (zgf K M 12 49 self 24).bind fun v9 =>
    some v9
  else if zw a1 = 9 then
    (zgf K M 12 49 self 36).bind fun v10 =>
    some v10
  else if zw a1 = 10 then
    (zgr K M 12 49 self 46).bind fun r11 =>
    (zga K M 100 r11 0).bind fun v12 =>
    if zw v12 = zw (-4) then
      some (-4)
    else
      (zgr K M 12 49 self 47).bind fun r13 =>
      (zga K M 100 r13 0).bind fun v14 =>
      some v14
  else 
    some (-1)
