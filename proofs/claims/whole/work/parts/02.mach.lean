/-! the numbers and the memory of the small machine -/
abbrev zV : Type := Int ⊕ (Int ⊕ Int)
abbrev zi (x : Int) : zV := .inl x
abbrev zl (x : Int) : zV := .inr (.inl x)
abbrev zr (x : Int) : zV := .inr (.inr x)
abbrev zU : zV := .inr (.inr (-1000))
abbrev zM : Type := Int → Int → Int
abbrev zK : Type := List (Nat × Nat)
def zw (x : Int) : Int := x.bmod 4294967296
def zq (x : Int) : Int := x.bmod 18446744073709551616
def zu (M : zM) (r k v : Int) : zM := fun r' k' => if r' = r ∧ k' = k then v else M r' k'
def zclr (M : zM) (r : Int) : zM := fun r' k' => if r' = r then 0 else M r' k'
def zkd (K : zK) (r : Int) : Option (Nat × Nat) := if 1 ≤ r then K[(r - 1).toNat]? else none
/-- a field of an object: a number; a reference (not null) -/
def zgf (K : zK) (M : zM) (ci N : Nat) (r k : Int) : Option Int := if zkd K r = some (ci, N) then some (M r k) else none
def zgr (K : zK) (M : zM) (ci N : Nat) (r k : Int) : Option Int := if zkd K r = some (ci, N) ∧ 1 ≤ M r k then some (M r k) else none
def zpf (K : zK) (M : zM) (ci N : Nat) (r k v : Int) : Option zM := if zkd K r = some (ci, N) then some (zu M r k v) else none
/-- the length of an array of a kind -/
def zln (K : zK) (kn : Nat) (r : Int) : Option Int := match zkd K r with
  | some q => if q.1 = kn then some (q.2 : Int) else none
  | none => none
def zga (K : zK) (M : zM) (kn : Nat) (r i : Int) : Option Int := match zln K kn r with
  | some n => if 0 ≤ zw i ∧ zw i < n then some (M r (zw i)) else none
  | none => none
def zgq (K : zK) (M : zM) (kn : Nat) (r i : Int) : Option Int := match zga K M kn r i with
  | some x => if 1 ≤ x then some x else none
  | none => none
def zpa (K : zK) (M : zM) (kn : Nat) (r i v : Int) : Option zM := match zln K kn r with
  | some n => if 0 ≤ zw i ∧ zw i < n then some (zu M r (zw i) v) else none
  | none => none
def zdv (x y : Int) : Option Int := if zw y = 0 then none else some ((zw x).tdiv (zw y))
def zrm (x y : Int) : Option Int := if zw y = 0 then none else some ((zw x).tmod (zw y))
def zand (x y : Int) : Int := (Int32.ofInt x &&& Int32.ofInt y).toInt
def zor (x y : Int) : Int := (Int32.ofInt x ||| Int32.ofInt y).toInt
def zxor (x y : Int) : Int := (Int32.ofInt x ^^^ Int32.ofInt y).toInt
def zshl (x y : Int) : Int := (Int32.ofInt x <<< (Int32.ofInt y &&& 31)).toInt
def zshr (x y : Int) : Int := (Int32.ofInt x >>> (Int32.ofInt y &&& 31)).toInt
def zland (x y : Int) : Int := (Int64.ofInt x &&& Int64.ofInt y).toInt
def zlor (x y : Int) : Int := (Int64.ofInt x ||| Int64.ofInt y).toInt
def zlxor (x y : Int) : Int := (Int64.ofInt x ^^^ Int64.ofInt y).toInt
def zlshl (x y : Int) : Int := (Int64.ofInt x <<< ((Int32.ofInt y).toInt64 &&& 63)).toInt
def zlshr (x y : Int) : Int := (Int64.ofInt x >>> ((Int32.ofInt y).toInt64 &&& 63)).toInt
def zlushr (x y : Int) : Int := ((Int64.ofInt x).toUInt64 >>> ((Int32.ofInt y).toInt64.toUInt64 &&& Int64.toUInt64 63)).toInt64.toInt
def zlcmp (x y : Int) : Int := if zq y < zq x then 1 else if zq x = zq y then 0 else -1
def zb8 (x : Int) : Int := x.bmod 256
def zb16 (x : Int) : Int := x.bmod 65536
def zcd (b : Int) (x y : Int) : Bool := if b = 0 then decide (x = y) else if b = 1 then decide (¬ x = y) else if b = 2 then decide (x < y) else if b = 3 then decide (y ≤ x) else if b = 4 then decide (y < x) else decide (x ≤ y)
/-- a row of a method's table: the operation, its place in the code, the next row, two numbers, a list -/
abbrev zE : Type := Nat × Nat × Nat × Int × Int × List Int
/-- where a method stands: its row, its variables, its stack, the memory -/
abbrev zC : Type := Nat × List zV × List zV × zM × zK
/-- what a row does: goes on; calls (whom, with what, then: row, variables, stack); ends -/
abbrev zA : Type := zC ⊕ ((Nat × List zV × Nat × List zV × List zV) ⊕ Option zV)
def zgo (nd : Nat) (ls st : List zV) (M : zM) (K : zK) : Option zA := some (.inl (nd, ls, st, M, K))
def zset (ls : List zV) (i : Nat) (v : zV) : List zV :=
  (if i = 0 then ls else match ls[i - 1]? with
    | some (.inr (.inl _)) => ls.set (i - 1) zU
    | _ => ls).set i v
def zset2 (ls : List zV) (i : Nat) (v : zV) : List zV := (zset ls i v).set (i + 1) zU
def zkill (ls : List zV) (l : List Int) : List zV := l.foldl (fun ls i => ls.set i.toNat zU) ls
def zargs : List zV → List zV
  | [] => []
  | .inr (.inl x) :: t => .inr (.inl x) :: zU :: zargs t
  | v :: t => v :: zargs t
/-- the variables at a method's entry -/
def zent (n : Nat) (as : List zV) : List zV := zargs as ++ List.replicate (n - (zargs as).length) zU
def zcat (v : zV) : Nat := match v with
  | .inr (.inl _) => 2
  | _ => 1
def zroom (st : List zV) : Bool := decide ((st.map zcat).sum ≤ 8)
def zbin (b x y : Int) : Int := if b = 0 then x + y else if b = 1 then x - y else if b = 2 then x * y else if b = 3 then zand x y else if b = 4 then zor x y else if b = 5 then zxor x y else if b = 6 then zshl x y else zshr x y
def zlbin (b x y : Int) : Int := if b = 0 then x + y else if b = 1 then x * y else if b = 2 then zland x y else if b = 3 then zlor x y else zlxor x y
def zlsh (b x y : Int) : Int := if b = 0 then zlshl x y else if b = 1 then zlshr x y else zlushr x y
def zmax (x y : Int) : Int := if zw x < zw y then y else x
def zmin (x y : Int) : Int := if zw y < zw x then y else x
/-- the literals -/
def zSb : List (List Int) := [[108, 111, 97, 100], [115, 116, 111, 114, 101], [97, 100, 100], [109, 117, 108]]
/-- one row done; X: the script's length and what it holds -/
def zstp (X : Int × (Int → Int)) (e : zE) (ls st : List zV) (M : zM) (K : zK) : Option zA :=
  match e with
  | (op, _, nx, a, b, l) =>
  match op with
  | 1 => zgo nx ls (zi a :: st) M K
  | 2 => zgo nx ls (zl a :: st) M K
  | 3 => match ls[a.toNat]? with
    | some (.inl x) => if b = 0 ∨ b = 1 then zgo nx ls (zi x :: st) M K else none
    | some (.inr (.inl x)) => if b = 2 ∨ b = 3 then zgo nx ls (zl x :: st) M K else none
    | some (.inr (.inr x)) => if (b = 4 ∨ b = 5) ∧ -20 < x then zgo nx ls (zr x :: st) M K else none
    | none => none
  | 4 => match st with
    | .inl x :: st => if b = 0 ∨ b = 1 then zgo nx (zset ls a.toNat (zi x)) st M K else none
    | .inr (.inl x) :: st => if b = 2 ∨ b = 3 then zgo nx (zset2 ls a.toNat (zl x)) st M K else none
    | .inr (.inr x) :: st => if (b = 4 ∨ b = 5) ∧ -20 < x then zgo nx (zset ls a.toNat (zr x)) st M K else none
    | _ => none
  | 5 => match ls[a.toNat]? with
    | some (.inl x) => zgo nx (zset ls a.toNat (zi (x + b))) st M K
    | _ => none
  | 6 => match st with
    | .inl y :: .inl x :: st => zgo nx ls (zi (zbin b x y) :: st) M K
    | _ => none
  | 7 => match st with
    | .inl y :: .inl x :: st => (if b = 0 then zdv x y else zrm x y).bind fun v => zgo nx ls (zi v :: st) M K
    | _ => none
  | 8 => match st with
    | .inl x :: st => zgo nx ls (zi (-x) :: st) M K
    | _ => none
  | 9 => match st with
    | .inr (.inl y) :: .inr (.inl x) :: st => zgo nx ls (zl (zlbin b x y) :: st) M K
    | _ => none
  | 10 => match st with
    | .inl y :: .inr (.inl x) :: st => zgo nx ls (zl (zlsh b x y) :: st) M K
    | _ => none
  | 11 => match st with
    | .inr (.inl y) :: .inr (.inl x) :: st => zgo nx ls (zi (zlcmp x y) :: st) M K
    | _ => none
  | 12 => match st with
    | .inl x :: st => if b = 0 then zgo nx ls (zl (zw x) :: st) M K else if b = 2 then zgo nx ls (zi (zb8 x) :: st) M K else if b = 3 then zgo nx ls (zi (zb16 x) :: st) M K else if b = 4 then zgo nx ls (zi (x % 65536) :: st) M K else none
    | .inr (.inl x) :: st => if b = 1 then zgo nx ls (zi x :: st) M K else none
    | _ => none
  | 13 => match st with
    | .inl x :: st => zgo nx ls (zi x :: zi x :: st) M K
    | .inr (.inr x) :: st => zgo nx ls (zr x :: zr x :: st) M K
    | _ => none
  | 14 => match st with
    | .inl x :: .inr (.inr y) :: st => zgo nx ls (zi x :: zr y :: zi x :: zr y :: st) M K
    | _ => none
  | 15 => match st with
    | .inl _ :: st => zgo nx ls st M K
    | _ => none
  | 16 => match st with
    | .inl x :: st => if zcd b (zw x) 0 = true then zgo a.toNat ls st M K else zgo nx ls st M K
    | _ => none
  | 17 => match st with
    | .inl y :: .inl x :: st => if zcd b (zw x) (zw y) = true then zgo a.toNat ls st M K else zgo nx ls st M K
    | _ => none
  | 18 => zgo nx ls st M K
  | 19 => match st with
    | .inl x :: st => if zw x < a ∨ b < zw x then zgo nx ls st M K else match l[(zw x - a).toNat]? with
      | some t => zgo t.toNat ls st M K
      | none => none
    | _ => none
  | 20 => match st with
    | .inr (.inr r) :: st => (zgf K M a.toNat (l.getD 1 0).toNat r b).bind fun v => zgo nx ls (zi v :: st) M K
    | _ => none
  | 21 => match st with
    | .inr (.inr r) :: st => (zgr K M a.toNat (l.getD 1 0).toNat r b).bind fun v => zgo nx ls (zr v :: st) M K
    | _ => none
  | 22 => match st with
    | .inl v :: .inr (.inr r) :: st => (zpf K M a.toNat (l.getD 1 0).toNat r b v).bind fun M => zgo nx ls st M K
    | _ => none
  | 23 => match st with
    | .inr (.inr v) :: .inr (.inr r) :: st => if 1 ≤ v then (zpf K M a.toNat (l.getD 1 0).toNat r b v).bind fun M => zgo nx ls st M K else none
    | _ => none
  | 24 => match st with
    | .inl i :: .inr (.inr r) :: st => (zga K M 100 r i).bind fun v => zgo nx ls (zi v :: st) M K
    | _ => none
  | 25 => match st with
    | .inl i :: .inr (.inr r) :: st => (zga K M 101 r i).bind fun v => zgo nx ls (zi v :: st) M K
    | _ => none
  | 26 => match st with
    | .inl i :: .inr (.inr r) :: st => (zga K M 102 r i).bind fun v => zgo nx ls (zl v :: st) M K
    | _ => none
  | 27 => match st with
    | .inl i :: .inr (.inr r) :: st => (zgq K M a.toNat r i).bind fun v => zgo nx ls (zr v :: st) M K
    | _ => none
  | 28 => match st with
    | .inl v :: .inl i :: .inr (.inr r) :: st => (zpa K M 100 r i v).bind fun M => zgo nx ls st M K
    | _ => none
  | 29 => match st with
    | .inl v :: .inl i :: .inr (.inr r) :: st => (zpa K M 101 r i (zb8 v)).bind fun M => zgo nx ls st M K
    | _ => none
  | 30 => match st with
    | .inr (.inl v) :: .inl i :: .inr (.inr r) :: st => (zpa K M 102 r i v).bind fun M => zgo nx ls st M K
    | _ => none
  | 31 => match st with
    | .inr (.inr v) :: .inl i :: .inr (.inr r) :: st => if zkd K v = some ((l.getD 0 0).toNat, (l.getD 1 0).toNat) then (zpa K M a.toNat r i v).bind fun M => zgo nx ls st M K else none
    | _ => none
  | 32 => match st with
    | .inr (.inr r) :: st => (zln K a.toNat r).bind fun v => zgo nx ls (zi v :: st) M K
    | _ => none
  | 33 => zgo nx ls (zr (K.length + 1) :: st) (zclr M (K.length + 1)) (K ++ [(a.toNat, (l.getD 1 0).toNat)])
  | 34 => match st with
    | .inl x :: st => if 0 ≤ zw x ∧ zw x ≤ 1000000 then zgo nx ls (zr (K.length + 1) :: st) (zclr M (K.length + 1)) (K ++ [(a.toNat, (zw x).toNat)]) else none
    | _ => none
  | 35 => match st with
    | .inl x :: st => if 0 ≤ zw x ∧ zw x ≤ 1000000 then zgo nx ls (zr (K.length + 1) :: st) (zclr M (K.length + 1)) (K ++ [(a.toNat, (zw x).toNat)]) else none
    | _ => none
  | 36 => if zroom (st.drop (l.getD 1 0).toNat) = true ∧ (l.getD 1 0).toNat ≤ st.length then some (.inr (.inl (a.toNat, (st.take (l.getD 1 0).toNat).reverse, nx, ls, st.drop (l.getD 1 0).toNat))) else none
  | 37 => if zroom (st.drop (l.getD 1 0).toNat) = true ∧ (l.getD 1 0).toNat ≤ st.length then match (st.take (l.getD 1 0).toNat).reverse with
      | .inr (.inr r) :: as => if zkd K r = some ((l.getD 2 0).toNat, (l.getD 3 0).toNat) then some (.inr (.inl (a.toNat, zr r :: as, nx, ls, st.drop (l.getD 1 0).toNat))) else none
      | _ => none
    else none
  | 38 => if zroom (st.drop (l.getD 1 0).toNat) = true ∧ (l.getD 1 0).toNat ≤ st.length then match (st.take (l.getD 1 0).toNat).reverse with
      | .inr (.inr r) :: as => if 1 ≤ r then some (.inr (.inl (a.toNat, zr r :: as, nx, ls, st.drop (l.getD 1 0).toNat))) else none
      | _ => none
    else none
  | 39 => match st with
    | .inr (.inr r) :: st => if zroom st = true ∧ 1 ≤ r then zgo nx ls st M K else none
    | _ => none
  | 40 => match st with
    | [.inl v] => some (.inr (.inr (some (zi v))))
    | _ => none
  | 41 => match st with
    | [] => some (.inr (.inr none))
    | _ => none
  | 42 => match st with
    | [.inl v] => if v = 0 ∨ v = 1 then some (.inr (.inr (some (zi v)))) else none
    | _ => none
  | 43 => zgo nx ls (zr a :: st) M K
  | 44 => zgo nx (zkill ls l) st M K
  | 45 => match st with
    | .inl i :: .inr (.inr r) :: st => if r = -1 ∧ 0 ≤ zw i ∧ zw i < X.1 then zgo nx ls (zi (X.2 (zw i)) :: st) M K else none
    | _ => none
  | 46 => match st with
    | .inr (.inr r) :: st => if r = -1 then zgo nx ls (zi X.1 :: st) M K else none
    | _ => none
  | 47 => if a = 0 then zgo nx ls (zi 1 :: st) M K else zgo nx ls (zr (-20) :: st) M K
  | 48 => match st with
    | .inr (.inr r) :: st => if -5 ≤ r ∧ r ≤ -2 then zgo nx ls (zr (r - 8) :: st) M K else none
    | _ => none
  | 49 => match st with
    | .inr (.inr r) :: st => if -5 ≤ r ∧ r ≤ -2 then zgo nx ls (zi 0 :: st) M K else none
    | _ => none
  | 50 => match st with
    | .inr (.inr r) :: st => if -13 ≤ r ∧ r ≤ -10 then zgo nx ls (zi ((zSb.getD (-10 - r).toNat []).length : Int) :: st) M K else none
    | _ => none
  | 51 => match st with
    | .inl i :: .inr (.inr r) :: st => if (-13 ≤ r ∧ r ≤ -10) ∧ 0 ≤ zw i ∧ zw i < ((zSb.getD (-10 - r).toNat []).length : Int) then zgo nx ls (zi ((zSb.getD (-10 - r).toNat []).getD (zw i).toNat 0) :: st) M K else none
    | _ => none
  | 52 => match st with
    | [.inl v] => if 0 ≤ v ∧ v < 128 then some (.inr (.inr (some (zi v)))) else none
    | _ => none
  | 53 => if zroom (st.drop (l.getD 1 0).toNat) = true ∧ (l.getD 1 0).toNat ≤ st.length then match (st.take (l.getD 1 0).toNat).reverse with
      | .inr (.inr r) :: as => if -5 ≤ r ∧ r ≤ -2 then some (.inr (.inl (a.toNat, zr r :: as, nx, ls, st.drop (l.getD 1 0).toNat))) else none
      | _ => none
    else none
  | 54 => match st with
    | .inl y :: .inl x :: st => if zroom st = true then zgo nx ls (zi (if b = 0 then zmax x y else zmin x y) :: st) M K else none
    | _ => none
  | _ => none
def zpush (v : Option zV) (st : List zV) : List zV := match v with
  | some v => v :: st
  | none => st
/-- a method run; T: the tables, nl: how many variables -/
def zrun (X : Int × (Int → Int)) (T : Nat → List zE) (nl : Nat → Nat) : Nat → Nat → zC → Option (Option zV × zM × zK)
  | 0, _, _ => none
  | n + 1, k, (nd, ls, st, M, K) => match (T k)[nd]? with
    | none => none
    | some e => match zstp X e ls st M K with
      | none => none
      | some (.inl c) => zrun X T nl n k c
      | some (.inr (.inr v)) => some (v, M, K)
      | some (.inr (.inl (k', as, nx, ls', st'))) => if (zargs as).length ≤ nl k' then match zrun X T nl n k' (0, zent (nl k') as, [], M, K) with
        | none => none
        | some (v, M', K') => zrun X T nl n k (nx, ls', zpush v st', M', K') else none
