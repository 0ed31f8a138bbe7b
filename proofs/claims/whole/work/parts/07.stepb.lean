theorem z_i2c (x : Int) : ((Int32.ofInt x).toUInt32 % 65536).toInt32 = Int32.ofInt (x % 65536) := by
  rw [pk_char]
  apply Int32.toInt_inj.mp
  have e1 : ((Int32.ofInt x).toBitVec.toNat : Int) = x % 4294967296 := by
    rw [show (Int32.ofInt x).toBitVec = BitVec.ofInt 32 x from rfl, BitVec.toNat_ofInt]
    have := Int.emod_nonneg x (show (4294967296 : Int) ≠ 0 by decide)
    omega
  have e2 : x % 4294967296 % 65536 = x % 65536 := Int.emod_emod_of_dvd x (by decide)
  have e3 : (((Int32.ofInt x).toBitVec.toNat % 65536 : Nat) : Int) = x % 65536 := by rw [← e2, ← e1]; rfl
  rw [show nI ((Int32.ofInt x).toBitVec.toNat % 65536) = Int32.ofInt (((Int32.ofInt x).toBitVec.toNat % 65536 : Nat) : Int) by rw [Int32.ofInt_eq_ofNat]; rfl, e3]
section
variable {p : Program} {l : Launch} {e : Env} {R : Room} {s : State} {m : MethodId} {args : Array Value} {below : List Frame} {meth : Method} {c : Code} {H : Heap} {locs : List Loc} {cells slots : Nat} {Q : State → Prop}
variable {X : Int × (Int → Int)} {b0 : Nat} {D : va_G} {cA : Nat → ClassId} {sA : Int → Nat} {vF : Value} {Ts : List Jvm.Cond} {y : MethodName} {cc : ByteArray} {nL : Nat} {ret : Option FieldType} {fr lo : Nat} {T : List zE} {pc nx : Nat} {a b : Int} {li : List Int} {h : List Nat} {ls st ls' st' : List zV} {M M' : zM} {K K' : zK} {nd' : Nat} {lsA : Array Slot}
theorem zs_6 (F : zFr p R s m args meth c X b0 D cA sA vF Ts y cc nL fr lo) (hok : zokE y cc nL ret fr lo T (6, pc, nx, a, b, li) h = true) (hs : zstp X (6, pc, nx, a, b, li) ls st M K = some (.inl (nd', ls', st', M', K'))) (hl : lv_has lsA nL (zlv (zcv b0 sA vF) ls)) (hr : zrel b0 D cA M K H) (hS : va_S (zA0 b0) s.heap H locs) (hz : s.heap.size + cells = b0 + K.length) (hrm : cells + (K'.length - K.length) ≤ R.cells ∧ slots + (zsl K' - zsl K) ≤ R.slots) (kk : zKo p l e R s m args below meth c cells slots Q b0 D cA sA vF nL T K nd' ls' st' M' K') : W p l e R s m args below meth c H locs cells slots Q (F0 m pc lsA (st.map (zcv b0 sA vF))) := by
  obtain ⟨hx, hb, hml, hown, hts, hTs, hst, hb0, hmn, hfr, hlo⟩ := F
  have hcat := zcv_cat (b0 := b0) (sA := sA) hst.2.2.2.2.2.2.2.2.1
  simp only [zokE, zdc, znx, Bool.and_eq_true, Bool.or_eq_true, decide_eq_true_eq] at hok
  simp only [zstp, zgo] at hs
  split at hs
  · rename_i y1 x1 st1
    simp only [Option.some.injEq, Sum.inl.injEq, Prod.mk.injEq] at hs
    obtain ⟨rfl, rfl, rfl, rfl, rfl⟩ := hs
    obtain ⟨h0, hok⟩ := hok
    have k1 := kk H locs lsA (pc + 1) cells slots h0 hl hr hS (by simp) (by simp)
    rcases hok with ((((((⟨h1, h2⟩ | ⟨h1, h2⟩) | ⟨h1, h2⟩) | ⟨h1, h2⟩) | ⟨h1, h2⟩) | ⟨h1, h2⟩) | ⟨h1, h2⟩) | ⟨h1, h2⟩
    · subst h1
      refine lv_iadd hx hb h2 ?_
      rw [show Int32.ofInt x1 + Int32.ofInt y1 = Int32.ofInt (zbin 0 x1 y1) from (Int32.ofInt_add x1 y1).symm]
      exact k1
    · subst h1
      refine lv_isub hx hb h2 ?_
      rw [show Int32.ofInt x1 - Int32.ofInt y1 = Int32.ofInt (zbin 1 x1 y1) from (Int32.ofInt_sub x1 y1).symm]
      exact k1
    · subst h1
      refine lv_imul hx hb h2 ?_
      rw [show Int32.ofInt x1 * Int32.ofInt y1 = Int32.ofInt (zbin 2 x1 y1) from (Int32.ofInt_mul x1 y1).symm]
      exact k1
    · subst h1
      refine lv_iand hx hb h2 ?_
      rw [show Int32.ofInt x1 &&& Int32.ofInt y1 = Int32.ofInt (zbin 3 x1 y1) from (Int32.ofInt_toInt _).symm]
      exact k1
    · subst h1
      refine lv_ior hx hb h2 ?_
      rw [show Int32.ofInt x1 ||| Int32.ofInt y1 = Int32.ofInt (zbin 4 x1 y1) from (Int32.ofInt_toInt _).symm]
      exact k1
    · subst h1
      refine lv_ixor hx hb h2 ?_
      rw [show Int32.ofInt x1 ^^^ Int32.ofInt y1 = Int32.ofInt (zbin 5 x1 y1) from (Int32.ofInt_toInt _).symm]
      exact k1
    · subst h1
      refine lv_ishl hx hb h2 ?_
      rw [show Int32.ofInt x1 <<< (Int32.ofInt y1 &&& 31) = Int32.ofInt (zbin 6 x1 y1) from (Int32.ofInt_toInt _).symm]
      exact k1
    · subst h1
      refine lv_ishr hx hb h2 ?_
      rw [show Int32.ofInt x1 >>> (Int32.ofInt y1 &&& 31) = Int32.ofInt (zbin 7 x1 y1) from (Int32.ofInt_toInt _).symm]
      exact k1
  · cases hs
theorem zs_7 (F : zFr p R s m args meth c X b0 D cA sA vF Ts y cc nL fr lo) (hok : zokE y cc nL ret fr lo T (7, pc, nx, a, b, li) h = true) (hs : zstp X (7, pc, nx, a, b, li) ls st M K = some (.inl (nd', ls', st', M', K'))) (hl : lv_has lsA nL (zlv (zcv b0 sA vF) ls)) (hr : zrel b0 D cA M K H) (hS : va_S (zA0 b0) s.heap H locs) (hz : s.heap.size + cells = b0 + K.length) (hrm : cells + (K'.length - K.length) ≤ R.cells ∧ slots + (zsl K' - zsl K) ≤ R.slots) (kk : zKo p l e R s m args below meth c cells slots Q b0 D cA sA vF nL T K nd' ls' st' M' K') : W p l e R s m args below meth c H locs cells slots Q (F0 m pc lsA (st.map (zcv b0 sA vF))) := by
  obtain ⟨hx, hb, hml, hown, hts, hTs, hst, hb0, hmn, hfr, hlo⟩ := F
  have hcat := zcv_cat (b0 := b0) (sA := sA) hst.2.2.2.2.2.2.2.2.1
  simp only [zokE, zdc, znx, Bool.and_eq_true, Bool.or_eq_true, decide_eq_true_eq] at hok
  simp only [zstp, zgo] at hs
  split at hs
  · rename_i y1 x1 st1
    obtain ⟨h0, ⟨h1, h2⟩ | ⟨h1, h2⟩⟩ := hok
    · subst h1
      rw [if_pos rfl] at hs
      simp only [zdv] at hs
      split at hs
      · cases hs
      · rename_i hz
        simp only [Option.bind_some, Option.some.injEq, Sum.inl.injEq, Prod.mk.injEq] at hs
        obtain ⟨rfl, rfl, rfl, rfl, rfl⟩ := hs
        have k1 := kk H locs lsA (pc + 1) cells slots h0 hl hr hS (by simp) (by simp)
        refine lv_idiv hx hb h2 (fun q => hz ((z32_eq0 y1).mp q)) ?_
        rw [← z32_div]
        exact k1
    · subst h1
      rw [if_neg (by decide)] at hs
      simp only [zrm] at hs
      split at hs
      · cases hs
      · rename_i hz
        simp only [Option.bind_some, Option.some.injEq, Sum.inl.injEq, Prod.mk.injEq] at hs
        obtain ⟨rfl, rfl, rfl, rfl, rfl⟩ := hs
        have k1 := kk H locs lsA (pc + 1) cells slots h0 hl hr hS (by simp) (by simp)
        refine lv_irem hx hb h2 (fun q => hz ((z32_eq0 y1).mp q)) ?_
        rw [← z32_rem]
        exact k1
  · cases hs
theorem zs_8 (F : zFr p R s m args meth c X b0 D cA sA vF Ts y cc nL fr lo) (hok : zokE y cc nL ret fr lo T (8, pc, nx, a, b, li) h = true) (hs : zstp X (8, pc, nx, a, b, li) ls st M K = some (.inl (nd', ls', st', M', K'))) (hl : lv_has lsA nL (zlv (zcv b0 sA vF) ls)) (hr : zrel b0 D cA M K H) (hS : va_S (zA0 b0) s.heap H locs) (hz : s.heap.size + cells = b0 + K.length) (hrm : cells + (K'.length - K.length) ≤ R.cells ∧ slots + (zsl K' - zsl K) ≤ R.slots) (kk : zKo p l e R s m args below meth c cells slots Q b0 D cA sA vF nL T K nd' ls' st' M' K') : W p l e R s m args below meth c H locs cells slots Q (F0 m pc lsA (st.map (zcv b0 sA vF))) := by
  obtain ⟨hx, hb, hml, hown, hts, hTs, hst, hb0, hmn, hfr, hlo⟩ := F
  have hcat := zcv_cat (b0 := b0) (sA := sA) hst.2.2.2.2.2.2.2.2.1
  simp only [zokE, zdc, znx, Bool.and_eq_true, Bool.or_eq_true, decide_eq_true_eq] at hok
  simp only [zstp, zgo] at hs
  split at hs
  · rename_i x1 st1
    simp only [Option.some.injEq, Sum.inl.injEq, Prod.mk.injEq] at hs
    obtain ⟨rfl, rfl, rfl, rfl, rfl⟩ := hs
    have k1 := kk H locs lsA (pc + 1) cells slots hok.1 hl hr hS (by simp) (by simp)
    refine lv_ineg hx hb hok.2 ?_
    rw [← Int32.ofInt_neg]
    exact k1
  · cases hs
theorem zs_9 (F : zFr p R s m args meth c X b0 D cA sA vF Ts y cc nL fr lo) (hok : zokE y cc nL ret fr lo T (9, pc, nx, a, b, li) h = true) (hs : zstp X (9, pc, nx, a, b, li) ls st M K = some (.inl (nd', ls', st', M', K'))) (hl : lv_has lsA nL (zlv (zcv b0 sA vF) ls)) (hr : zrel b0 D cA M K H) (hS : va_S (zA0 b0) s.heap H locs) (hz : s.heap.size + cells = b0 + K.length) (hrm : cells + (K'.length - K.length) ≤ R.cells ∧ slots + (zsl K' - zsl K) ≤ R.slots) (kk : zKo p l e R s m args below meth c cells slots Q b0 D cA sA vF nL T K nd' ls' st' M' K') : W p l e R s m args below meth c H locs cells slots Q (F0 m pc lsA (st.map (zcv b0 sA vF))) := by
  obtain ⟨hx, hb, hml, hown, hts, hTs, hst, hb0, hmn, hfr, hlo⟩ := F
  have hcat := zcv_cat (b0 := b0) (sA := sA) hst.2.2.2.2.2.2.2.2.1
  simp only [zokE, zdc, znx, Bool.and_eq_true, Bool.or_eq_true, decide_eq_true_eq] at hok
  simp only [zstp, zgo] at hs
  split at hs
  · rename_i y1 x1 st1
    simp only [Option.some.injEq, Sum.inl.injEq, Prod.mk.injEq] at hs
    obtain ⟨rfl, rfl, rfl, rfl, rfl⟩ := hs
    obtain ⟨h0, hok⟩ := hok
    have k1 := kk H locs lsA (pc + 1) cells slots h0 hl hr hS (by simp) (by simp)
    rcases hok with (((⟨h1, h2⟩ | ⟨h1, h2⟩) | ⟨h1, h2⟩) | ⟨h1, h2⟩) | ⟨h1, h2⟩
    · subst h1
      refine lv_ladd hx hb h2 ?_
      rw [show Int64.ofInt x1 + Int64.ofInt y1 = Int64.ofInt (zlbin 0 x1 y1) from (Int64.ofInt_add x1 y1).symm]
      exact k1
    · subst h1
      refine lv_lmul hx hb h2 ?_
      rw [show Int64.ofInt x1 * Int64.ofInt y1 = Int64.ofInt (zlbin 1 x1 y1) from (Int64.ofInt_mul x1 y1).symm]
      exact k1
    · subst h1
      refine lv_land hx hb h2 ?_
      rw [show Int64.ofInt x1 &&& Int64.ofInt y1 = Int64.ofInt (zlbin 2 x1 y1) from (Int64.ofInt_toInt _).symm]
      exact k1
    · subst h1
      refine lv_lor hx hb h2 ?_
      rw [show Int64.ofInt x1 ||| Int64.ofInt y1 = Int64.ofInt (zlbin 3 x1 y1) from (Int64.ofInt_toInt _).symm]
      exact k1
    · subst h1
      refine lv_lxor hx hb h2 ?_
      rw [show Int64.ofInt x1 ^^^ Int64.ofInt y1 = Int64.ofInt (zlbin 4 x1 y1) from (Int64.ofInt_toInt _).symm]
      exact k1
  · cases hs
theorem zs_10 (F : zFr p R s m args meth c X b0 D cA sA vF Ts y cc nL fr lo) (hok : zokE y cc nL ret fr lo T (10, pc, nx, a, b, li) h = true) (hs : zstp X (10, pc, nx, a, b, li) ls st M K = some (.inl (nd', ls', st', M', K'))) (hl : lv_has lsA nL (zlv (zcv b0 sA vF) ls)) (hr : zrel b0 D cA M K H) (hS : va_S (zA0 b0) s.heap H locs) (hz : s.heap.size + cells = b0 + K.length) (hrm : cells + (K'.length - K.length) ≤ R.cells ∧ slots + (zsl K' - zsl K) ≤ R.slots) (kk : zKo p l e R s m args below meth c cells slots Q b0 D cA sA vF nL T K nd' ls' st' M' K') : W p l e R s m args below meth c H locs cells slots Q (F0 m pc lsA (st.map (zcv b0 sA vF))) := by
  obtain ⟨hx, hb, hml, hown, hts, hTs, hst, hb0, hmn, hfr, hlo⟩ := F
  have hcat := zcv_cat (b0 := b0) (sA := sA) hst.2.2.2.2.2.2.2.2.1
  simp only [zokE, zdc, znx, Bool.and_eq_true, Bool.or_eq_true, decide_eq_true_eq] at hok
  simp only [zstp, zgo] at hs
  split at hs
  · rename_i y1 x1 st1
    simp only [Option.some.injEq, Sum.inl.injEq, Prod.mk.injEq] at hs
    obtain ⟨rfl, rfl, rfl, rfl, rfl⟩ := hs
    obtain ⟨h0, hok⟩ := hok
    have k1 := kk H locs lsA (pc + 1) cells slots h0 hl hr hS (by simp) (by simp)
    rcases hok with (⟨h1, h2⟩ | ⟨h1, h2⟩) | ⟨h1, h2⟩
    · subst h1
      exact lv_lshl hx hb h2 (v := Int64.ofInt (zlsh 0 x1 y1)) (Int64.ofInt_toInt _).symm k1
    · subst h1
      exact lv_lshr hx hb h2 (v := Int64.ofInt (zlsh 1 x1 y1)) (Int64.ofInt_toInt _).symm k1
    · subst h1
      exact lv_lushr hx hb h2 (v := Int64.ofInt (zlsh 2 x1 y1)) (Int64.ofInt_toInt _).symm k1
  · cases hs
theorem zs_11 (F : zFr p R s m args meth c X b0 D cA sA vF Ts y cc nL fr lo) (hok : zokE y cc nL ret fr lo T (11, pc, nx, a, b, li) h = true) (hs : zstp X (11, pc, nx, a, b, li) ls st M K = some (.inl (nd', ls', st', M', K'))) (hl : lv_has lsA nL (zlv (zcv b0 sA vF) ls)) (hr : zrel b0 D cA M K H) (hS : va_S (zA0 b0) s.heap H locs) (hz : s.heap.size + cells = b0 + K.length) (hrm : cells + (K'.length - K.length) ≤ R.cells ∧ slots + (zsl K' - zsl K) ≤ R.slots) (kk : zKo p l e R s m args below meth c cells slots Q b0 D cA sA vF nL T K nd' ls' st' M' K') : W p l e R s m args below meth c H locs cells slots Q (F0 m pc lsA (st.map (zcv b0 sA vF))) := by
  obtain ⟨hx, hb, hml, hown, hts, hTs, hst, hb0, hmn, hfr, hlo⟩ := F
  have hcat := zcv_cat (b0 := b0) (sA := sA) hst.2.2.2.2.2.2.2.2.1
  simp only [zokE, zdc, znx, Bool.and_eq_true, Bool.or_eq_true, decide_eq_true_eq] at hok
  simp only [zstp, zgo] at hs
  split at hs
  · rename_i y1 x1 st1
    simp only [Option.some.injEq, Sum.inl.injEq, Prod.mk.injEq] at hs
    obtain ⟨rfl, rfl, rfl, rfl, rfl⟩ := hs
    have k1 := kk H locs lsA (pc + 1) cells slots hok.1 hl hr hS (by simp) (by simp)
    refine W.lcmp hx hb hok.2 ?_
    rw [z64_cmp]
    exact k1
  · cases hs
theorem zs_12 (F : zFr p R s m args meth c X b0 D cA sA vF Ts y cc nL fr lo) (hok : zokE y cc nL ret fr lo T (12, pc, nx, a, b, li) h = true) (hs : zstp X (12, pc, nx, a, b, li) ls st M K = some (.inl (nd', ls', st', M', K'))) (hl : lv_has lsA nL (zlv (zcv b0 sA vF) ls)) (hr : zrel b0 D cA M K H) (hS : va_S (zA0 b0) s.heap H locs) (hz : s.heap.size + cells = b0 + K.length) (hrm : cells + (K'.length - K.length) ≤ R.cells ∧ slots + (zsl K' - zsl K) ≤ R.slots) (kk : zKo p l e R s m args below meth c cells slots Q b0 D cA sA vF nL T K nd' ls' st' M' K') : W p l e R s m args below meth c H locs cells slots Q (F0 m pc lsA (st.map (zcv b0 sA vF))) := by
  obtain ⟨hx, hb, hml, hown, hts, hTs, hst, hb0, hmn, hfr, hlo⟩ := F
  have hcat := zcv_cat (b0 := b0) (sA := sA) hst.2.2.2.2.2.2.2.2.1
  simp only [zokE, zdc, znx, Bool.and_eq_true, Bool.or_eq_true, decide_eq_true_eq] at hok
  simp only [zstp, zgo] at hs
  obtain ⟨h0, hok⟩ := hok
  split at hs
  · rename_i x1 st1
    rcases hok with (((⟨h1, h2⟩ | ⟨h1, h2⟩) | ⟨h1, h2⟩) | ⟨h1, h2⟩) | ⟨h1, h2⟩
    · subst h1
      rw [if_pos rfl] at hs
      simp only [Option.some.injEq, Sum.inl.injEq, Prod.mk.injEq] at hs
      obtain ⟨rfl, rfl, rfl, rfl, rfl⟩ := hs
      have k1 := kk H locs lsA (pc + 1) cells slots h0 hl hr hS (by simp) (by simp)
      exact lv_i2l hx hb h2 (z_i2l x1) k1
    · subst h1
      simp at hs
    · subst h1
      simp only [show ¬ ((2 : Int) = 0) by decide, if_false, if_true] at hs
      simp only [Option.some.injEq, Sum.inl.injEq, Prod.mk.injEq] at hs
      obtain ⟨rfl, rfl, rfl, rfl, rfl⟩ := hs
      have k1 := kk H locs lsA (pc + 1) cells slots h0 hl hr hS (by simp) (by simp)
      exact lv_i2b hx hb h2 (z_i2b x1) k1
    · subst h1
      simp only [show ¬ ((3 : Int) = 0) by decide, show ¬ ((3 : Int) = 2) by decide, if_false, if_true] at hs
      simp only [Option.some.injEq, Sum.inl.injEq, Prod.mk.injEq] at hs
      obtain ⟨rfl, rfl, rfl, rfl, rfl⟩ := hs
      have k1 := kk H locs lsA (pc + 1) cells slots h0 hl hr hS (by simp) (by simp)
      exact lv_i2s hx hb h2 (z_i2s x1) k1
    · subst h1
      simp only [show ¬ ((4 : Int) = 0) by decide, show ¬ ((4 : Int) = 2) by decide, show ¬ ((4 : Int) = 3) by decide, if_false, if_true] at hs
      simp only [Option.some.injEq, Sum.inl.injEq, Prod.mk.injEq] at hs
      obtain ⟨rfl, rfl, rfl, rfl, rfl⟩ := hs
      have k1 := kk H locs lsA (pc + 1) cells slots h0 hl hr hS (by simp) (by simp)
      exact lv_i2c hx hb h2 (z_i2c x1) k1
  · rename_i x1 st1
    rcases hok with (((⟨h1, h2⟩ | ⟨h1, h2⟩) | ⟨h1, h2⟩) | ⟨h1, h2⟩) | ⟨h1, h2⟩
    · subst h1
      simp at hs
    · subst h1
      rw [if_pos rfl] at hs
      simp only [Option.some.injEq, Sum.inl.injEq, Prod.mk.injEq] at hs
      obtain ⟨rfl, rfl, rfl, rfl, rfl⟩ := hs
      have k1 := kk H locs lsA (pc + 1) cells slots h0 hl hr hS (by simp) (by simp)
      exact lv_l2i hx hb h2 (z_l2i x1) k1
    · subst h1
      simp at hs
    · subst h1
      simp at hs
    · subst h1
      simp at hs
  · cases hs
theorem zs_13 (F : zFr p R s m args meth c X b0 D cA sA vF Ts y cc nL fr lo) (hok : zokE y cc nL ret fr lo T (13, pc, nx, a, b, li) h = true) (hs : zstp X (13, pc, nx, a, b, li) ls st M K = some (.inl (nd', ls', st', M', K'))) (hl : lv_has lsA nL (zlv (zcv b0 sA vF) ls)) (hr : zrel b0 D cA M K H) (hS : va_S (zA0 b0) s.heap H locs) (hz : s.heap.size + cells = b0 + K.length) (hrm : cells + (K'.length - K.length) ≤ R.cells ∧ slots + (zsl K' - zsl K) ≤ R.slots) (kk : zKo p l e R s m args below meth c cells slots Q b0 D cA sA vF nL T K nd' ls' st' M' K') : W p l e R s m args below meth c H locs cells slots Q (F0 m pc lsA (st.map (zcv b0 sA vF))) := by
  obtain ⟨hx, hb, hml, hown, hts, hTs, hst, hb0, hmn, hfr, hlo⟩ := F
  have hcat := zcv_cat (b0 := b0) (sA := sA) hst.2.2.2.2.2.2.2.2.1
  simp only [zokE, zdc, znx, Bool.and_eq_true, Bool.or_eq_true, decide_eq_true_eq] at hok
  simp only [zstp, zgo] at hs
  split at hs
  · rename_i x1 st1
    simp only [Option.some.injEq, Sum.inl.injEq, Prod.mk.injEq] at hs
    obtain ⟨rfl, rfl, rfl, rfl, rfl⟩ := hs
    have k1 := kk H locs lsA (pc + 1) cells slots hok.1 hl hr hS (by simp) (by simp)
    exact lv_dup hx hb hok.2 rfl k1
  · rename_i x1 st1
    simp only [Option.some.injEq, Sum.inl.injEq, Prod.mk.injEq] at hs
    obtain ⟨rfl, rfl, rfl, rfl, rfl⟩ := hs
    have k1 := kk H locs lsA (pc + 1) cells slots hok.1 hl hr hS (by simp) (by simp)
    exact lv_dup hx hb hok.2 (hcat (zr x1)) k1
  · cases hs
theorem zs_14 (F : zFr p R s m args meth c X b0 D cA sA vF Ts y cc nL fr lo) (hok : zokE y cc nL ret fr lo T (14, pc, nx, a, b, li) h = true) (hs : zstp X (14, pc, nx, a, b, li) ls st M K = some (.inl (nd', ls', st', M', K'))) (hl : lv_has lsA nL (zlv (zcv b0 sA vF) ls)) (hr : zrel b0 D cA M K H) (hS : va_S (zA0 b0) s.heap H locs) (hz : s.heap.size + cells = b0 + K.length) (hrm : cells + (K'.length - K.length) ≤ R.cells ∧ slots + (zsl K' - zsl K) ≤ R.slots) (kk : zKo p l e R s m args below meth c cells slots Q b0 D cA sA vF nL T K nd' ls' st' M' K') : W p l e R s m args below meth c H locs cells slots Q (F0 m pc lsA (st.map (zcv b0 sA vF))) := by
  obtain ⟨hx, hb, hml, hown, hts, hTs, hst, hb0, hmn, hfr, hlo⟩ := F
  have hcat := zcv_cat (b0 := b0) (sA := sA) hst.2.2.2.2.2.2.2.2.1
  simp only [zokE, zdc, znx, Bool.and_eq_true, Bool.or_eq_true, decide_eq_true_eq] at hok
  simp only [zstp, zgo] at hs
  split at hs
  · rename_i x1 y1 st1
    simp only [Option.some.injEq, Sum.inl.injEq, Prod.mk.injEq] at hs
    obtain ⟨rfl, rfl, rfl, rfl, rfl⟩ := hs
    have k1 := kk H locs lsA (pc + 1) cells slots hok.1 hl hr hS (by simp) (by simp)
    exact lv_dup2_11 hx hb hok.2 rfl (hcat (zr y1)) k1
  · cases hs
theorem zs_15 (F : zFr p R s m args meth c X b0 D cA sA vF Ts y cc nL fr lo) (hok : zokE y cc nL ret fr lo T (15, pc, nx, a, b, li) h = true) (hs : zstp X (15, pc, nx, a, b, li) ls st M K = some (.inl (nd', ls', st', M', K'))) (hl : lv_has lsA nL (zlv (zcv b0 sA vF) ls)) (hr : zrel b0 D cA M K H) (hS : va_S (zA0 b0) s.heap H locs) (hz : s.heap.size + cells = b0 + K.length) (hrm : cells + (K'.length - K.length) ≤ R.cells ∧ slots + (zsl K' - zsl K) ≤ R.slots) (kk : zKo p l e R s m args below meth c cells slots Q b0 D cA sA vF nL T K nd' ls' st' M' K') : W p l e R s m args below meth c H locs cells slots Q (F0 m pc lsA (st.map (zcv b0 sA vF))) := by
  obtain ⟨hx, hb, hml, hown, hts, hTs, hst, hb0, hmn, hfr, hlo⟩ := F
  have hcat := zcv_cat (b0 := b0) (sA := sA) hst.2.2.2.2.2.2.2.2.1
  simp only [zokE, zdc, znx, Bool.and_eq_true, Bool.or_eq_true, decide_eq_true_eq] at hok
  simp only [zstp, zgo] at hs
  split at hs
  · rename_i x1 st1
    simp only [Option.some.injEq, Sum.inl.injEq, Prod.mk.injEq] at hs
    obtain ⟨rfl, rfl, rfl, rfl, rfl⟩ := hs
    have k1 := kk H locs lsA (pc + 1) cells slots hok.1 hl hr hS (by simp) (by simp)
    exact lv_pop hx hb hok.2 rfl k1
  · cases hs
end
