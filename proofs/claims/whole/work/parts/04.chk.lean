/-! what of the tables is checked against the program -/
def zN (ci : Nat) : Nat := (zFs.getD ci []).length
def zFT (ci : Nat) : u_T := fun k => (zFs.getD ci []).getD k ("", "", "", false)
def zfty (ci k : Nat) : FieldType := (parseFieldDescriptor (zFT ci k).2.2.1).getD .int
def zFI (ci k : Nat) : Bool := decide ((zFT ci k).2.2.1 = "I")
def zCl : List vw_C := [("BankStore$FreeSearch", zFT 0, 5), ("BankStore$LawSearch", zFT 1, 3), ("BankStore$Layout", zFT 2, 7), ("BankStore$Program", zFT 3, 7), ("BankStore$Rates", zFT 4, 7), ("BankStore$Reader", zFT 5, 9), ("BankStore$Shape", zFT 6, 3), ("BankStore$Sheet", zFT 7, 3), ("BankStore$Streams", zFT 8, 5), ("BankStore$Timer", zFT 9, 5), ("BankStore$Wishes", zFT 10, 2), ("BankStore", zFT 11, 15), ("BankStoreModel", zFT 12, 49)]
theorem zCl_at : ∀ ci, ci < 13 → zCl[ci]? = some (zCn.getD ci "", zFT ci, zN ci) := by
  intro ci h
  match ci, h with
  | 0, _ => rfl
  | 1, _ => rfl
  | 2, _ => rfl
  | 3, _ => rfl
  | 4, _ => rfl
  | 5, _ => rfl
  | 6, _ => rfl
  | 7, _ => rfl
  | 8, _ => rfl
  | 9, _ => rfl
  | 10, _ => rfl
  | 11, _ => rfl
  | 12, _ => rfl
  | n + 13, h => omega
theorem zfty_ok : ∀ ci, ci < 13 → ∀ k, k < zN ci → parseFieldDescriptor (zFT ci k).2.2.1 = some (zfty ci k) := by decide +kernel
theorem znm_ok : ∀ ci, ci < 13 → ∀ a, a < zN ci → ∀ b, b < zN ci → a ≠ b → (zFT ci a).2.1 ≠ (zFT ci b).2.1 := by decide +kernel
theorem zfty_int : ∀ ci, ci < 13 → ∀ k, k < zN ci → zFI ci k = true → zfty ci k = .int := by decide +kernel
theorem zlay_ok : ∀ ci, ci < 13 → ∀ k, k < zN ci → u_lay (zCn.getD ci "") (zFT ci) k ∈ lw_tbl ∧ goodWord (u_lay (zCn.getD ci "") (zFT ci) k) = true := by decide +kernel
def zin (i : Nat) (w : Jvm.Cond) : Bool := decide (lw_tbl[i]? = some w) && goodWord w
def zdc (cc : ByteArray) (pc : Nat) (i : Instr) (n : Nat) : Bool := decide (decode cc pc = .ok (i, n))
def znx (T : List zE) (nd p : Nat) : Bool := decide ((T[nd]?).map (fun e => e.2.1) = some p)
def zpd (T : List zE) (nd : Nat) : Nat := ((T[nd]?).map (fun e => e.2.1)).getD 0
def zcc (b : Int) : Jvm.ClassFile.Cond := if b = 0 then .eq else if b = 1 then .ne else if b = 2 then .lt else if b = 3 then .ge else if b = 4 then .gt else .le
def zSt : List String := ["load", "store", "add", "mul"]
def zSi : List Nat := [110, 116, 118, 120]
def zat (a : Int) : ArrayType := if a = 100 then .int else if a = 101 then .byte else .long
def zatf (a : Int) : FieldType := if a = 100 then .int else if a = 101 then .byte else .long
def zcomp (a : Int) : Nat := if a = 103 then 6 else 7
/-- a call's words: the callee's row of zMs, its link, its code, its room -/
def zcall (lo fr : Nat) (a na : Int) (hc hi : Nat) (st : Bool) (p : MethodName → Bool) : Bool := match zMs[a.toNat]? with
  | none => false
  | some (y, cc, nL, ret, fr', lo') => p y && zin hc (.code y cc nL ret) && zin hi (.initialized y.cls) && decide (fr' + 1 ≤ fr) && decide (8 + (nL + 11) + lo' ≤ lo) && decide (y.cls ≠ "java/lang/invoke/MethodHandle") && decide (y.cls ≠ "java/lang/invoke/VarHandle") && decide ((parseMethodDescriptor y.desc).map (fun d => d.parameters.length) = some (if st then na.toNat else na.toNat - 1)) && decide (1 ≤ na ∨ st = true) && decide (ret = none ∨ ret = some .int ∨ ret = some .boolean ∨ ret = some .char ∨ ret = some .byte)
def zlk (own : String) (i : Int) (b : Int) (h : Nat) (y : MethodName) : Bool := if b = 0 then zin h (.methodLink own i.toNat y) else decide (lw_tbl[h]? = some (.methodLinkNest own i.toNat y "BankStore"))
def zokE (y : MethodName) (cc : ByteArray) (nL : Nat) (ret : Option FieldType) (fr lo : Nat) (T : List zE) (e : zE) (h : List Nat) : Bool :=
  match e with
  | (op, pc, nx, a, b, l) =>
  match op with
  | 0 => true
  | 1 => (decide (b = 0) && zdc cc pc (.iconst a) 1 && znx T nx (pc + 1)) || (decide (b = 1) && zdc cc pc (.bipush a) 2 && znx T nx (pc + 2) && decide ((Int8.ofInt a).toInt32 = Int32.ofInt a)) || (decide (b = 2) && zdc cc pc (.sipush a) 3 && znx T nx (pc + 3) && decide ((Int16.ofInt a).toInt32 = Int32.ofInt a))
  | 2 => (decide (b = 0) && zdc cc pc (.lconst (Fin.ofNat 2 a.toNat)) 1 && znx T nx (pc + 1) && decide (Int64.ofNat ((Fin.ofNat 2 a.toNat : Fin 2) : Nat) = Int64.ofInt a)) || (decide (b = 1) && zdc cc pc (.ldc2_w (l.getD 0 0).toNat) 3 && znx T nx (pc + 3) && zin (h.getD 0 0) (.constantLong y.cls (l.getD 0 0).toNat (Int64.ofInt a)))
  | 3 => (decide (b = 0) && zdc cc pc (.iload_n (Fin.ofNat 4 a.toNat)) 1 && znx T nx (pc + 1) && decide (a.toNat < 4)) || (decide (b = 1) && zdc cc pc (.iload a.toNat) 2 && znx T nx (pc + 2)) || (decide (b = 2) && zdc cc pc (.lload_n (Fin.ofNat 4 a.toNat)) 1 && znx T nx (pc + 1) && decide (a.toNat < 4)) || (decide (b = 3) && zdc cc pc (.lload a.toNat) 2 && znx T nx (pc + 2)) || (decide (b = 4) && zdc cc pc (.aload_n (Fin.ofNat 4 a.toNat)) 1 && znx T nx (pc + 1) && decide (a.toNat < 4)) || (decide (b = 5) && zdc cc pc (.aload a.toNat) 2 && znx T nx (pc + 2))
  | 4 => (decide (b = 0) && zdc cc pc (.istore_n (Fin.ofNat 4 a.toNat)) 1 && znx T nx (pc + 1) && decide (a.toNat < 4 ∧ a.toNat < nL)) || (decide (b = 1) && zdc cc pc (.istore a.toNat) 2 && znx T nx (pc + 2) && decide (a.toNat < nL)) || (decide (b = 2) && zdc cc pc (.lstore_n (Fin.ofNat 4 a.toNat)) 1 && znx T nx (pc + 1) && decide (a.toNat < 4 ∧ a.toNat + 1 < nL)) || (decide (b = 3) && zdc cc pc (.lstore a.toNat) 2 && znx T nx (pc + 2) && decide (a.toNat + 1 < nL)) || (decide (b = 4) && zdc cc pc (.astore_n (Fin.ofNat 4 a.toNat)) 1 && znx T nx (pc + 1) && decide (a.toNat < 4 ∧ a.toNat < nL)) || (decide (b = 5) && zdc cc pc (.astore a.toNat) 2 && znx T nx (pc + 2) && decide (a.toNat < nL))
  | 5 => zdc cc pc (.iinc a.toNat b) 3 && znx T nx (pc + 3) && decide (a.toNat < nL)
  | 6 => znx T nx (pc + 1) && ((decide (b = 0) && zdc cc pc .iadd 1) || (decide (b = 1) && zdc cc pc .isub 1) || (decide (b = 2) && zdc cc pc .imul 1) || (decide (b = 3) && zdc cc pc .iand 1) || (decide (b = 4) && zdc cc pc .ior 1) || (decide (b = 5) && zdc cc pc .ixor 1) || (decide (b = 6) && zdc cc pc .ishl 1) || (decide (b = 7) && zdc cc pc .ishr 1))
  | 7 => znx T nx (pc + 1) && ((decide (b = 0) && zdc cc pc .idiv 1) || (decide (b = 1) && zdc cc pc .irem 1))
  | 8 => znx T nx (pc + 1) && zdc cc pc .ineg 1
  | 9 => znx T nx (pc + 1) && ((decide (b = 0) && zdc cc pc .ladd 1) || (decide (b = 1) && zdc cc pc .lmul 1) || (decide (b = 2) && zdc cc pc .land 1) || (decide (b = 3) && zdc cc pc .lor 1) || (decide (b = 4) && zdc cc pc .lxor 1))
  | 10 => znx T nx (pc + 1) && ((decide (b = 0) && zdc cc pc .lshl 1) || (decide (b = 1) && zdc cc pc .lshr 1) || (decide (b = 2) && zdc cc pc .lushr 1))
  | 11 => znx T nx (pc + 1) && zdc cc pc .lcmp 1
  | 12 => znx T nx (pc + 1) && ((decide (b = 0) && zdc cc pc .i2l 1) || (decide (b = 1) && zdc cc pc .l2i 1) || (decide (b = 2) && zdc cc pc .i2b 1) || (decide (b = 3) && zdc cc pc .i2s 1) || (decide (b = 4) && zdc cc pc .i2c 1))
  | 13 => znx T nx (pc + 1) && zdc cc pc .dup 1
  | 14 => znx T nx (pc + 1) && zdc cc pc .dup2 1
  | 15 => znx T nx (pc + 1) && zdc cc pc .pop 1
  | 16 => znx T nx (pc + 3) && zdc cc pc (.ifCond (zcc b) ((zpd T a.toNat : Int) - pc)) 3 && znx T a.toNat (zpd T a.toNat) && decide (0 ≤ b ∧ b ≤ 5)
  | 17 => znx T nx (pc + 3) && zdc cc pc (.if_icmp (zcc b) ((zpd T a.toNat : Int) - pc)) 3 && znx T a.toNat (zpd T a.toNat) && decide (0 ≤ b ∧ b ≤ 5)
  | 18 => znx T nx (zpd T nx) && zdc cc pc (.goto ((zpd T nx : Int) - pc)) 3
  | 19 => znx T nx (zpd T nx) && zdc cc pc (.tableswitch ((zpd T nx : Int) - pc) a b ((l.map fun t => (zpd T t.toNat : Int) - pc).toArray)) (h.getD 0 0) && l.all (fun t => znx T t.toNat (zpd T t.toNat))
  | 20 => znx T nx (pc + 3) && zdc cc pc (.getfield (l.getD 0 0).toNat) 3 && zin (h.getD 0 0) (.fieldLink y.cls (l.getD 0 0).toNat (zFT a.toNat b.toNat).1 (zFT a.toNat b.toNat).2.1 (zFT a.toNat b.toNat).2.2.1) && decide (0 ≤ a ∧ a.toNat < 13 ∧ (l.getD 1 0).toNat = zN a.toNat ∧ 0 ≤ b ∧ b.toNat < zN a.toNat) && zFI a.toNat b.toNat
  | 21 => znx T nx (pc + 3) && zdc cc pc (.getfield (l.getD 0 0).toNat) 3 && zin (h.getD 0 0) (.fieldLink y.cls (l.getD 0 0).toNat (zFT a.toNat b.toNat).1 (zFT a.toNat b.toNat).2.1 (zFT a.toNat b.toNat).2.2.1) && decide (0 ≤ a ∧ a.toNat < 13 ∧ (l.getD 1 0).toNat = zN a.toNat ∧ 0 ≤ b ∧ b.toNat < zN a.toNat) && !zFI a.toNat b.toNat
  | 22 => znx T nx (pc + 3) && zdc cc pc (.putfield (l.getD 0 0).toNat) 3 && zin (h.getD 0 0) (.fieldLink y.cls (l.getD 0 0).toNat (zFT a.toNat b.toNat).1 (zFT a.toNat b.toNat).2.1 (zFT a.toNat b.toNat).2.2.1) && decide (0 ≤ a ∧ a.toNat < 13 ∧ (l.getD 1 0).toNat = zN a.toNat ∧ 0 ≤ b ∧ b.toNat < zN a.toNat) && zFI a.toNat b.toNat && decide ((zFT a.toNat b.toNat).2.2.2 = false)
  | 23 => znx T nx (pc + 3) && zdc cc pc (.putfield (l.getD 0 0).toNat) 3 && zin (h.getD 0 0) (.fieldLink y.cls (l.getD 0 0).toNat (zFT a.toNat b.toNat).1 (zFT a.toNat b.toNat).2.1 (zFT a.toNat b.toNat).2.2.1) && decide (0 ≤ a ∧ a.toNat < 13 ∧ (l.getD 1 0).toNat = zN a.toNat ∧ 0 ≤ b ∧ b.toNat < zN a.toNat) && !zFI a.toNat b.toNat && decide ((zFT a.toNat b.toNat).2.2.2 = false ∨ ((zFT a.toNat b.toNat).2.2.2 = true ∧ y.name = "<init>" ∧ (zFT a.toNat b.toNat).1 = y.cls))
  | 24 => znx T nx (pc + 1) && zdc cc pc .iaload 1
  | 25 => znx T nx (pc + 1) && zdc cc pc .baload 1
  | 26 => znx T nx (pc + 1) && zdc cc pc .laload 1
  | 27 => znx T nx (pc + 1) && zdc cc pc .aaload 1 && decide (a = 103 ∨ a = 104)
  | 28 => znx T nx (pc + 1) && zdc cc pc .iastore 1
  | 29 => znx T nx (pc + 1) && zdc cc pc .bastore 1
  | 30 => znx T nx (pc + 1) && zdc cc pc .lastore 1
  | 31 => znx T nx (pc + 1) && zdc cc pc .aastore 1 && decide ((a = 103 ∨ a = 104) ∧ (l.getD 0 0).toNat = zcomp a ∧ (l.getD 1 0).toNat = zN (zcomp a))
  | 32 => znx T nx (pc + 1) && zdc cc pc .arraylength 1 && decide (a = 100 ∨ a = 101 ∨ a = 102)
  | 33 => znx T nx (pc + 3) && zdc cc pc (.new (l.getD 0 0).toNat) 3 && decide (0 ≤ a ∧ a.toNat < 13 ∧ (l.getD 1 0).toNat = zN a.toNat) && zin (h.getD 0 0) (.classLink y.cls (l.getD 0 0).toNat (zCn.getD a.toNat "")) && zin (h.getD 1 0) (.instantiable (zCn.getD a.toNat "") (zN a.toNat)) && zin (h.getD 2 0) (.initialized (zCn.getD a.toNat ""))
  | 34 => znx T nx (pc + 2) && zdc cc pc (.newarray (zat a)) 2 && decide (a = 100 ∨ a = 101 ∨ a = 102) && zin (h.getD 0 0) (.arrayClass (zatf a))
  | 35 => znx T nx (pc + 3) && zdc cc pc (.anewarray (l.getD 0 0).toNat) 3 && decide (a = 103 ∨ a = 104) && zin (h.getD 0 0) (.classLink y.cls (l.getD 0 0).toNat (zCn.getD (zcomp a) ""))
  | 36 => znx T nx (pc + 3) && zdc cc pc (.invokestatic (l.getD 0 0).toNat) 3 && zcall lo fr a (l.getD 1 0) (h.getD 3 0) (h.getD 2 0) true (fun y' => zlk y.cls (l.getD 0 0) b (h.getD 0 0) y' && zin (h.getD 1 0) (.static y'))
  | 37 => znx T nx (pc + 3) && zdc cc pc (.invokevirtual (l.getD 0 0).toNat) 3 && decide (b = 0 ∧ (l.getD 2 0).toNat < 13 ∧ (l.getD 3 0).toNat = zN (l.getD 2 0).toNat) && zcall lo fr a (l.getD 1 0) (h.getD 4 0) (h.getD 3 0) false (fun y' => zlk y.cls (l.getD 0 0) 0 (h.getD 0 0) y' && zin (h.getD 1 0) (.instanceMethod y') && zin (h.getD 2 0) (.selects y'.cls y' y') && decide (y'.cls = zCn.getD (l.getD 2 0).toNat ""))
  | 38 => znx T nx (pc + 3) && zdc cc pc (.invokespecial (l.getD 0 0).toNat) 3 && zcall lo fr a (l.getD 1 0) (h.getD 3 0) (h.getD 2 0) false (fun y' => zlk y.cls (l.getD 0 0) b (h.getD 0 0) y' && zin (h.getD 1 0) (.instanceMethod y') && decide (y'.name = "<init>")) && decide ((zMs[a.toNat]?).map (fun q => q.2.2.2.1) = some none)
  | 39 => znx T nx (pc + 3) && zdc cc pc (.invokespecial (l.getD 0 0).toNat) 3 && zin (h.getD 0 0) (.methodLink y.cls (l.getD 0 0).toNat objectInit) && zin (h.getD 1 0) (.instanceMethod objectInit) && zin (h.getD 2 0) (.code objectInit ⟨#[0xb1]⟩ 1 none) && decide (1 ≤ fr ∧ 20 ≤ lo)
  | 40 => zdc cc pc .ireturn 1 && decide (ret = some .int)
  | 41 => zdc cc pc .return_ 1 && decide (ret = none)
  | 42 => zdc cc pc .ireturn 1 && decide (ret = some .boolean)
  | 43 => znx T nx (pc + 2) && zdc cc pc (.ldc (l.getD 0 0).toNat) 2 && decide (-5 ≤ a ∧ a ≤ -2) && decide (lw_tbl[h.getD 0 0]? = some (.stringRef y.cls (l.getD 0 0).toNat (zSt.getD (-2 - a).toNat ""))) && decide (y.cls = "BankStore$Reader" ∧ (l.getD 0 0).toNat = zSi.getD (-2 - a).toNat 0)
  | 44 => znx T nx pc
  | 45 => znx T nx (pc + 1) && zdc cc pc .iaload 1
  | 46 => znx T nx (pc + 1) && zdc cc pc .arraylength 1
  | 47 => znx T nx (pc + 3) && zdc cc pc (.getstatic (l.getD 0 0).toNat) 3 && ((decide (a = 0) && zin (h.getD 0 0) (.fieldLink y.cls (l.getD 0 0).toNat "java/lang/String" "COMPACT_STRINGS" "Z")) || (decide (a = 1) && zin (h.getD 0 0) (.fieldLink y.cls (l.getD 0 0).toNat "jdk/internal/util/Preconditions" "SIOOBE_FORMATTER" "Ljava/util/function/BiFunction;")))
  | 48 => znx T nx (pc + 3) && zdc cc pc (.getfield (l.getD 0 0).toNat) 3 && zin (h.getD 0 0) (.fieldLink y.cls (l.getD 0 0).toNat "java/lang/String" "value" "[B")
  | 49 => znx T nx (pc + 3) && zdc cc pc (.getfield (l.getD 0 0).toNat) 3 && zin (h.getD 0 0) (.fieldLink y.cls (l.getD 0 0).toNat "java/lang/String" "coder" "B")
  | 50 => znx T nx (pc + 1) && zdc cc pc .arraylength 1
  | 51 => znx T nx (pc + 1) && zdc cc pc .baload 1
  | 52 => zdc cc pc .ireturn 1 && decide (ret = some .char ∨ ret = some .byte)
  | 53 => znx T nx (pc + 3) && zdc cc pc (.invokevirtual (l.getD 0 0).toNat) 3 && zcall lo fr a (l.getD 1 0) (h.getD 4 0) (h.getD 3 0) false (fun y' => zlk y.cls (l.getD 0 0) 0 (h.getD 0 0) y' && zin (h.getD 1 0) (.instanceMethod y') && zin (h.getD 2 0) (.selects y'.cls y' y') && decide (y'.cls = "java/lang/String"))
  | 54 => znx T nx (pc + 3) && zdc cc pc (.invokestatic (l.getD 0 0).toNat) 3 && decide (1 ≤ fr ∧ 21 ≤ lo) && zin (h.getD 2 0) (.initialized "java/lang/Math") && ((decide (b = 0) && zin (h.getD 0 0) (.methodLink y.cls (l.getD 0 0).toNat Lib.Math.max.name) && zin (h.getD 1 0) (.static Lib.Math.max.name) && zin (h.getD 3 0) (.code Lib.Math.max.name Lib.Math.max.code 2 (some .int))) || (decide (b = 1) && zin (h.getD 0 0) (.methodLink y.cls (l.getD 0 0).toNat Lib.Math.min.name) && zin (h.getD 1 0) (.static Lib.Math.min.name) && zin (h.getD 3 0) (.code Lib.Math.min.name Lib.Math.min.code 2 (some .int))))
  | _ => false
def zokM (k : Nat) : Bool := match zMs[k]? with
  | none => false
  | some (y, cc, nL, ret, fr, lo) => plainName y.cls && decide ((zT k).length = (zHs.getD k []).length) && ((zT k).zip (zHs.getD k [])).all (fun q => zokE y cc nL ret fr lo (zT k) q.1 q.2) && znx (zT k) 0 0
/-- the checks of a stretch of a long table -/
def zokC (k i n : Nat) : Bool := match zMs[k]? with
  | none => false
  | some (y, cc, nL, ret, fr, lo) => (((zT k).drop i).take n).zip (((zHs.getD k []).drop i).take n) |>.all (fun q => zokE y cc nL ret fr lo (zT k) q.1 q.2)
