theorem zinst_ok : ∀ ci, ci < 13 → Jvm.Cond.instantiable (zCn.getD ci "") (zN ci) ∈ lw_tbl := by decide +kernel
theorem zstr_in : ∀ i, i < 4 → Jvm.Cond.stringRef "BankStore$Reader" (zSi.getD i 0) (zSt.getD i "") ∈ lw_tbl := by decide +kernel
def ztm (i : Nat) : Term := .string "BankStore$Reader" (zSi.getD i 0)
theorem zflat_ex : ∀ i, i < 4 → Jvm.Cond.exactly (ztm i) "java/lang/String" ∈ flatC (Jvm.Cond.and given_1 narrow_1) := by decide +kernel
theorem zflat_co : ∀ i, i < 4 → Jvm.Cond.eq (.field (ztm i) "java/lang/String" "coder" "B") (.int 0) ∈ flatC (Jvm.Cond.and given_1 narrow_1) := by decide +kernel
theorem zflat_ar : ∀ i, i < 4 → Jvm.Cond.arrayOf (.field (ztm i) "java/lang/String" "value" "[B") .byte ∈ flatC (Jvm.Cond.and given_1 narrow_1) := by decide +kernel
theorem zflat_le : ∀ i, i < 4 → Jvm.Cond.eq (.length (.field (ztm i) "java/lang/String" "value" "[B")) (.int (Int32.ofNat (zlen.getD i 0))) ∈ flatC (Jvm.Cond.and given_1 narrow_1) := by decide +kernel
theorem zflat_el : ∀ i, i < 4 → ∀ j, j < zlen.getD i 0 → Jvm.Cond.eq (.elem (.field (ztm i) "java/lang/String" "value" "[B") (.int (Int32.ofNat j))) (.int ((zbyt.getD i []).getD j 0)) ∈ flatC (Jvm.Cond.and given_1 narrow_1) := by decide +kernel
theorem zflat_ne : ∀ i, i < 4 → ∀ j, j < 4 → i ≠ j → Jvm.Cond.not (Jvm.Cond.eq (ztm i) (ztm j)) ∈ flatC (Jvm.Cond.and given_1 narrow_1) ∨ Jvm.Cond.not (Jvm.Cond.eq (ztm j) (ztm i)) ∈ flatC (Jvm.Cond.and given_1 narrow_1) := by decide +kernel
/-- an array's kind at the start -/
theorem zarr_of {s : State} {cA : ClassId} {kA : Class} {comp : ClassId} {ty : FieldType} (h2 : s.vm.classes[cA]? = some kA) (h3 : kA.kind = .array comp ty) : ArrOfT s cA ty := fun n z => ⟨fun k h => (by cases h), kA, h2, comp, h3⟩
theorem zstat_at {p : Program} {s : State} {m : MethodId} {meth : Method} {c : Code} {b L : Nat} {xs : Nat → Int32} (hL : L ≤ 3072) (hts : ∀ w ∈ lw_tbl, w.before #[Value.ref b] s = true) (hX : va_X b L xs s s.heap) (hbl : b < s.heap.size) (hgv : (Jvm.Cond.and given_1 narrow_1).before #[Value.ref b] s = true) :
    ∃ (D : va_G) (cA : Nat → ClassId) (sA : Int → Nat) (vF : Value), zstat ((L : Int), fun i => (xs i.toNat).toInt) s.heap.size D cA sA vF s s.heap ∧ sA (-1) = b := by
  have hfl := flat_of_before _ hgv
  have hA : ∀ a : Nat, a < s.heap.size → ¬ zA0 s.heap.size a := fun a h => by simp only [zA0]; omega
  have hD : ∀ k : Nat, ∃ q : ClassId × (Nat → Nat), ∀ r : vw_C, zCl[k]? = some r → u_Kn s r.1 r.2.1 r.2.2 q.1 q.2 := by
    intro k
    by_cases hk : k < 13
    · obtain ⟨cC, iS, h⟩ := u_known (C := zCn.getD k "") (T := zFT k) (N := zN k) (n := zN k) hts (zlay_in (fun w h _ => h) hk) (hts _ (zinst_ok k hk))
      refine ⟨(cC, iS), fun r hr => ?_⟩
      rw [zCl_at k hk] at hr
      cases hr
      exact h
    · exact ⟨(0, fun _ => 0), fun r hr => by rw [List.getElem?_eq_none (by show 13 ≤ k; omega)] at hr; cases hr⟩
  obtain ⟨f, hf⟩ := Classical.axiomOfChoice hD
  obtain ⟨c0, k0, p0, a0, a1, a2⟩ := Cond.arrayClass_spec (hts (.arrayClass .int) (by decide +kernel))
  obtain ⟨c1, k1, p1, b0, b1, b2⟩ := Cond.arrayClass_spec (hts (.arrayClass .byte) (by decide +kernel))
  obtain ⟨c2, k2, p2, d0, d1, d2⟩ := Cond.arrayClass_spec (hts (.arrayClass .long) (by decide +kernel))
  obtain ⟨p3, c3, k3, e0, e1, e2, e3, e4⟩ := Cond.arrayOver_spec (hts (.arrayOver (.object "BankStore$Shape")) (by decide +kernel))
  obtain ⟨p4, c4, k4, f0, f1, f2, f3, f4⟩ := Cond.arrayOver_spec (hts (.arrayOver (.object "BankStore$Sheet")) (by decide +kernel))
  obtain ⟨adK, adV, hS, hev⟩ := vk_Sof (args := #[Value.ref b]) (s := s) (N := 4) (tm := ztm) (len := zlen) (byt := zbyt) (A := zA0 s.heap.size) (by decide) (fun i hi => hfl _ (zflat_ex i hi)) (fun i hi => hfl _ (zflat_co i hi)) (fun i hi => hfl _ (zflat_ar i hi)) (fun i hi => hfl _ (zflat_le i hi)) (fun i hi j hj => hfl _ (zflat_el i hi j hj)) (fun i j hi hj hij => (zflat_ne i hi j hj hij).imp (hfl _) (hfl _)) hA
  have hZ1 := va_Zof (hts (.laysStatic "java/lang/String" "COMPACT_STRINGS" "Z") (by decide +kernel)) (hts (.initialized "java/lang/String") (by decide +kernel)) (va_eqi (hfl (.eq (.static "java/lang/String" "COMPACT_STRINGS" "Z") (.int 1)) (by decide +kernel))) hA
  have hZ2 := va_Zqof (hts (.laysStatic "jdk/internal/util/Preconditions" "SIOOBE_FORMATTER" "Ljava/util/function/BiFunction;") (by decide +kernel)) (hts (.initialized "jdk/internal/util/Preconditions") (by decide +kernel)) (hfl (.isRef (.static "jdk/internal/util/Preconditions" "SIOOBE_FORMATTER" "Ljava/util/function/BiFunction;")) (by decide +kernel)) hA
  obtain ⟨vF, hvF, hZ3⟩ : ∃ vF : Value, (vF = .null ∨ ∃ a, vF = .ref a) ∧ va_Z "jdk/internal/util/Preconditions" "SIOOBE_FORMATTER" "Ljava/util/function/BiFunction;" vF (zA0 s.heap.size) s s.heap := by
    rcases hZ2 with h | ⟨t, h⟩
    · exact ⟨.null, Or.inl rfl, h⟩
    · exact ⟨.ref t, Or.inr ⟨t, rfl⟩, h⟩
  let sA : Int → Nat := fun x => if x = -1 then b else if -5 ≤ x then adK (-2 - x).toNat else adV (-10 - x).toNat
  have sK : (fun i : Nat => sA (-2 - (i : Int))) = fun i => if i < 4 then adK i else sA (-2 - (i : Int)) := by
    funext i
    by_cases hi : i < 4
    · show (if (-2 - (i : Int)) = -1 then b else if -5 ≤ (-2 - (i : Int)) then adK (-2 - (-2 - (i : Int))).toNat else adV (-10 - (-2 - (i : Int))).toNat) = _
      rw [if_neg (by omega), if_pos (by omega), if_pos hi, show (-2 - (-2 - (i : Int))).toNat = i by omega]
    · rw [if_neg hi]
  have sV : ∀ i : Nat, sA (-10 - (i : Int)) = adV i := by
    intro i
    show (if (-10 - (i : Int)) = -1 then b else if -5 ≤ (-10 - (i : Int)) then adK (-2 - (-10 - (i : Int))).toNat else adV (-10 - (-10 - (i : Int))).toNat) = _
    rw [if_neg (by omega), if_neg (by omega), show (-10 - (-10 - (i : Int))).toNat = i by omega]
  have sK1 : ∀ i : Nat, i < 4 → sA (-2 - (i : Int)) = adK i := by
    intro i hi
    have := congrFun sK i
    rwa [if_pos hi] at this
  have hb1 : sA (-1) = b := rfl
  refine ⟨(fun k => (f k).1, fun k => (f k).2), fun k => if k = 100 then c0 else if k = 101 then c1 else if k = 102 then c2 else if k = 103 then c3 else c4, sA, vF, ⟨⟨fun k q hq => hf k q hq, ?_⟩, ?_, hts (.arrayOver (.object "BankStore$Shape")) (by decide +kernel), hts (.arrayOver (.object "BankStore$Sheet")) (by decide +kernel), ?_, ?_, hZ1, hZ3, hvF, ⟨L, xs, hX, rfl, fun i hi => rfl, hL⟩, hbl⟩, hb1⟩
  · intro k q hq
    match k, hq with
    | 0, hq => cases hq; exact ⟨zarr_of a1 a2, a0⟩
    | 1, hq => cases hq; exact ⟨zarr_of b1 b2, b0⟩
    | 2, hq => cases hq; exact ⟨zarr_of d1 d2, d0⟩
    | 3, hq => cases hq; exact ⟨zarr_of e2 e3, k3, p3, e2, e3, e0, e4⟩
    | 4, hq => cases hq; exact ⟨zarr_of f2 f3, k4, p4, f2, f3, f0, f4⟩
    | k + 5, hq => simp [ztys] at hq
  · intro w hw hn
    exact va_Nw.of (by cases w <;> first | rfl | (simp [zisN] at hn)) (hts w hw)
  · intro i hi
    rw [sK1 i hi]
    exact vk_R.of (hts _ (zstr_in i hi)) (hev i hi)
  · refine ⟨fun i hi => ?_, fun i j hi hj h => ?_⟩
    · have h := hS.1 i hi
      dsimp only
      rw [sK1 i hi, sV i]
      exact h
    · dsimp only at h
      rw [sK1 i hi, sK1 j hj] at h
      exact hS.2 i j hi hj h
theorem zlaw_at : zMs[205]? = some (⟨"BankStoreLaw", "law", "([I)Z"⟩, code, 4, some .boolean, 11, 388) := rfl
/-- the claim's start, out of the run of the law's loop -/
theorem zwhole {p : Program} {e : Env} {s : State} {m : MethodId} {below : List Frame} {meth : Method} {c : Code} (l : Launch) {b L : Nat} {xs : Nat → Int32} (hL : L ≤ 3072) (Z : State → Prop) (hall : ∀ k y cc nL ret fr lo, zMs[k]? = some (y, cc, nL, ret, fr, lo) → zOKp k y cc nL ret fr lo)
    (hmath : ∀ (X : Int × (Int → Int)) (M : zM), zchk M = true → 0 ≤ X.1 → X.1 ≤ 3072 → ∃ n M', qlw_law X n zK0 M 1 60 0 = some (1, M'))
    (hx : p.tables.exec = Jvm.exec) (hb : c.code = code) (hml : c.maxLocals = 4) (hown : s.vm.findClass "BankStoreLaw" = some m.cls) (hts : ∀ w ∈ lw_tbl, w.before #[Value.ref b] s = true) (hX : va_X b L xs s s.heap) (hbl : b < s.heap.size) (hgv : (Jvm.Cond.and given_1 narrow_1).before #[Value.ref b] s = true)
    (hend : ∀ (H' : Heap) (lsA' : Array Slot) (pc' : Nat), decode code pc' = .ok (.ireturn, 1) → W p l e room_1 s m #[Value.ref b] below meth c H' [] 600000 7302249 Z (F0 m pc' lsA' [.int 1])) :
    W p l e room_1 s m #[Value.ref b] below meth c s.heap [] 0 0 Z (entryFrame m ([Value.ref b] : List Value).toArray 4) := by
  obtain ⟨D, cA, sA, vF, hst, hsA⟩ := zstat_at (p := p) (m := m) (meth := meth) (c := c) hL hts hX hbl hgv
  have hvF := hst.2.2.2.2.2.2.2.2.1
  have hcat := zcv_cat (b0 := s.heap.size) (sA := sA) hvF
  obtain ⟨M2, hchk, hpre⟩ := zprefix ((L : Int), fun i => (xs i.toNat).toInt)
  obtain ⟨n, M3, hq⟩ := hmath ((L : Int), fun i => (xs i.toNat).toInt) M2 hchk (by show (0 : Int) ≤ (L : Int); omega) (by show (L : Int) ≤ 3072; omega)
  have hG := hpre (fun r => ∃ M4, r = (some (zi 1), M4, zK0)) (t_qlw_law _ n zK0 M2 1 60 0 (by decide) (by decide) _ hq _ ⟨M3, rfl⟩)
  obtain ⟨n2, r, hrun, M4, rfl⟩ := hG
  obtain ⟨o1, o2, o3⟩ := hall 205 _ _ _ _ _ _ zlaw_at
  have hlv := lv_entry ([.ref b]) (n := 4) (Nat.le_of_ble_eq_true rfl)
  have hmap : ([Value.ref b] : List Value) = [zr (-1)].map (zcv s.heap.size sA vF) := by
    show [Value.ref b] = [zcv s.heap.size sA vF (zr (-1))]
    rw [zcv_s (by decide) (by decide), hsA]
  rw [lg_entry_eq]
  have hlv2 : lv_has (lg_sl ([.ref b]) ++ List.replicate (4 - (lg_sl ([.ref b])).length) Slot.unset).toArray 4 (zlv (zcv s.heap.size sA vF) [zr (-1), zU, zU, zU]) := by
    have h1 := hlv
    rw [hmap] at h1 ⊢
    exact zent_in (n := 4) (as := [zr (-1)]) hcat h1
  refine zsound hall n2 205 0 [zr (-1), zU, zU, zU] [] (fun _ _ => 0) [] (some (zi 1)) M4 zK0 hrun _ _ _ _ _ _ zlaw_at p e room_1 s m _ below meth c s.heap [] 0 0 Z lw_tbl _ 0 ⟨hx, hb, hml, hown, hts, fun w h _ => h, hst, Nat.le_refl _, fun q => absurd q (by decide), Nat.le_refl _, Nat.le_refl _⟩ hlv2 o3 (fun k q hk => by simp [zws] at hk) va_S.rf (by simp) ⟨by decide, by decide⟩ ?_
  intro H' locs' lsA' pc' cells' slots' z1 z2 z3 z4 z5
  have e1 : cells' = 87 := z3
  have e2 : slots' = zsl zK0 := by rw [z4]; rfl
  subst e1
  subst e2
  refine va_forget z2.2.2 (W.widen (k := 600000) (n := 7302249) (by decide) (by decide) ?_)
  exact hend H' lsA' pc' z5.1
