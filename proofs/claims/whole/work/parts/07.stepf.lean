section
variable {p : Program} {l : Launch} {e : Env} {R : Room} {s : State} {m : MethodId} {args : Array Value} {below : List Frame} {meth : Method} {c : Code} {H : Heap} {locs : List Loc} {cells slots : Nat} {Q : State → Prop}
variable {X : Int × (Int → Int)} {b0 : Nat} {D : va_G} {cA : Nat → ClassId} {sA : Int → Nat} {vF : Value} {Ts : List Jvm.Cond} {y : MethodName} {cc : ByteArray} {nL : Nat} {ret : Option FieldType} {fr lo : Nat} {T : List zE} {pc nx : Nat} {a b : Int} {li : List Int} {h : List Nat} {ls st ls' st' : List zV} {M M' : zM} {K K' : zK} {nd' : Nat} {lsA : Array Slot}
theorem zs_45 (F : zFr p R s m args meth c X b0 D cA sA vF Ts y cc nL fr lo) (hok : zokE y cc nL ret fr lo T (45, pc, nx, a, b, li) h = true) (hs : zstp X (45, pc, nx, a, b, li) ls st M K = some (.inl (nd', ls', st', M', K'))) (hl : lv_has lsA nL (zlv (zcv b0 sA vF) ls)) (hr : zrel b0 D cA M K H) (hS : va_S (zA0 b0) s.heap H locs) (hz : s.heap.size + cells = b0 + K.length) (hrm : cells + (K'.length - K.length) ≤ R.cells ∧ slots + (zsl K' - zsl K) ≤ R.slots) (kk : zKo p l e R s m args below meth c cells slots Q b0 D cA sA vF nL T K nd' ls' st' M' K') : W p l e R s m args below meth c H locs cells slots Q (F0 m pc lsA (st.map (zcv b0 sA vF))) := by
  obtain ⟨hx, hb, hml, hown, hts, hTs, hst, hb0, hmn, hfr, hlo⟩ := F
  have hcat := zcv_cat (b0 := b0) (sA := sA) hst.2.2.2.2.2.2.2.2.1
  simp only [zokE, zdc, znx, Bool.and_eq_true, Bool.or_eq_true, decide_eq_true_eq] at hok
  simp only [zstp, zgo] at hs
  split at hs
  · rename_i i r st1
    split at hs
    · rename_i hc
      obtain ⟨rfl, h3, h4⟩ := hc
      simp only [Option.some.injEq, Sum.inl.injEq, Prod.mk.injEq] at hs
      obtain ⟨rfl, rfl, rfl, rfl, rfl⟩ := hs
      have k1 := kk H locs lsA (pc + 1) cells slots hok.1 hl hr hS (by simp) (by simp)
      obtain ⟨L, xs, x1, x2, x3, x4⟩ := hst.2.2.2.2.2.2.2.2.2.1
      have x5 := hst.2.2.2.2.2.2.2.2.2.2
      rw [List.map_cons, List.map_cons, zcv_s (by omega) (by omega)]
      refine va_sld hx hb x1 (by omega) (show ¬ zA0 b0 (sA (-1)) by simp only [zA0]; omega) hS (i := Int32.ofInt i) ((z32_in i L).mpr ⟨h3, by omega⟩) hok.2 ?_
      have e1 := x3 (zw i).toNat (by omega)
      rw [Int.toNat_of_nonneg h3] at e1
      rw [z32_cl]
      rw [List.map_cons, show zcv b0 sA vF (zi (X.2 (zw i))) = .int (xs (zw i).toNat) by simp only [zcv]; rw [e1, Int32.ofInt_toInt]] at k1
      exact k1
    · cases hs
  · cases hs
theorem zs_46 (F : zFr p R s m args meth c X b0 D cA sA vF Ts y cc nL fr lo) (hok : zokE y cc nL ret fr lo T (46, pc, nx, a, b, li) h = true) (hs : zstp X (46, pc, nx, a, b, li) ls st M K = some (.inl (nd', ls', st', M', K'))) (hl : lv_has lsA nL (zlv (zcv b0 sA vF) ls)) (hr : zrel b0 D cA M K H) (hS : va_S (zA0 b0) s.heap H locs) (hz : s.heap.size + cells = b0 + K.length) (hrm : cells + (K'.length - K.length) ≤ R.cells ∧ slots + (zsl K' - zsl K) ≤ R.slots) (kk : zKo p l e R s m args below meth c cells slots Q b0 D cA sA vF nL T K nd' ls' st' M' K') : W p l e R s m args below meth c H locs cells slots Q (F0 m pc lsA (st.map (zcv b0 sA vF))) := by
  obtain ⟨hx, hb, hml, hown, hts, hTs, hst, hb0, hmn, hfr, hlo⟩ := F
  have hcat := zcv_cat (b0 := b0) (sA := sA) hst.2.2.2.2.2.2.2.2.1
  simp only [zokE, zdc, znx, Bool.and_eq_true, Bool.or_eq_true, decide_eq_true_eq] at hok
  simp only [zstp, zgo] at hs
  split at hs
  · rename_i r st1
    split at hs
    · rename_i hc
      subst hc
      simp only [Option.some.injEq, Sum.inl.injEq, Prod.mk.injEq] at hs
      obtain ⟨rfl, rfl, rfl, rfl, rfl⟩ := hs
      have k1 := kk H locs lsA (pc + 1) cells slots hok.1 hl hr hS (by simp) (by simp)
      obtain ⟨L, xs, x1, x2, x3, x4⟩ := hst.2.2.2.2.2.2.2.2.2.1
      have x5 := hst.2.2.2.2.2.2.2.2.2.2
      rw [List.map_cons, zcv_s (by omega) (by omega)]
      refine va_slen hx hb x1 (by omega) (show ¬ zA0 b0 (sA (-1)) by simp only [zA0]; omega) hS hok.2 ?_
      rw [List.map_cons, show zcv b0 sA vF (zi X.1) = .int (Int32.ofNat L) by simp only [zcv]; rw [x2, Int32.ofInt_eq_ofNat]] at k1
      exact k1
    · cases hs
  · cases hs
theorem zs_47 (F : zFr p R s m args meth c X b0 D cA sA vF Ts y cc nL fr lo) (hok : zokE y cc nL ret fr lo T (47, pc, nx, a, b, li) h = true) (hs : zstp X (47, pc, nx, a, b, li) ls st M K = some (.inl (nd', ls', st', M', K'))) (hl : lv_has lsA nL (zlv (zcv b0 sA vF) ls)) (hr : zrel b0 D cA M K H) (hS : va_S (zA0 b0) s.heap H locs) (hz : s.heap.size + cells = b0 + K.length) (hrm : cells + (K'.length - K.length) ≤ R.cells ∧ slots + (zsl K' - zsl K) ≤ R.slots) (kk : zKo p l e R s m args below meth c cells slots Q b0 D cA sA vF nL T K nd' ls' st' M' K') : W p l e R s m args below meth c H locs cells slots Q (F0 m pc lsA (st.map (zcv b0 sA vF))) := by
  obtain ⟨hx, hb, hml, hown, hts, hTs, hst, hb0, hmn, hfr, hlo⟩ := F
  have hcat := zcv_cat (b0 := b0) (sA := sA) hst.2.2.2.2.2.2.2.2.1
  simp only [zokE, zdc, znx, Bool.and_eq_true, Bool.or_eq_true, decide_eq_true_eq] at hok
  simp only [zstp, zgo] at hs
  obtain ⟨⟨h0, h2⟩, ⟨h3, h4⟩ | ⟨h3, h4⟩⟩ := hok
  · subst h3
    rw [if_pos rfl] at hs
    simp only [Option.some.injEq, Sum.inl.injEq, Prod.mk.injEq] at hs
    obtain ⟨rfl, rfl, rfl, rfl, rfl⟩ := hs
    exact va_gets hx hb hst.2.2.2.2.2.2.1 hS hown (zin_b h4 hts hTs) (fun x q => q) h2 (kk H locs lsA (pc + 3) cells slots h0 hl hr hS (by simp) (by simp))
  · subst h3
    rw [if_neg (by decide)] at hs
    simp only [Option.some.injEq, Sum.inl.injEq, Prod.mk.injEq] at hs
    obtain ⟨rfl, rfl, rfl, rfl, rfl⟩ := hs
    exact va_gets hx hb hst.2.2.2.2.2.2.2.1 hS hown (zin_b h4 hts hTs) (fun x q => q) h2 (kk H locs lsA (pc + 3) cells slots h0 hl hr hS (by simp) (by simp))
theorem zs_48 (F : zFr p R s m args meth c X b0 D cA sA vF Ts y cc nL fr lo) (hok : zokE y cc nL ret fr lo T (48, pc, nx, a, b, li) h = true) (hs : zstp X (48, pc, nx, a, b, li) ls st M K = some (.inl (nd', ls', st', M', K'))) (hl : lv_has lsA nL (zlv (zcv b0 sA vF) ls)) (hr : zrel b0 D cA M K H) (hS : va_S (zA0 b0) s.heap H locs) (hz : s.heap.size + cells = b0 + K.length) (hrm : cells + (K'.length - K.length) ≤ R.cells ∧ slots + (zsl K' - zsl K) ≤ R.slots) (kk : zKo p l e R s m args below meth c cells slots Q b0 D cA sA vF nL T K nd' ls' st' M' K') : W p l e R s m args below meth c H locs cells slots Q (F0 m pc lsA (st.map (zcv b0 sA vF))) := by
  obtain ⟨hx, hb, hml, hown, hts, hTs, hst, hb0, hmn, hfr, hlo⟩ := F
  have hcat := zcv_cat (b0 := b0) (sA := sA) hst.2.2.2.2.2.2.2.2.1
  simp only [zokE, zdc, znx, Bool.and_eq_true, Bool.or_eq_true, decide_eq_true_eq] at hok
  simp only [zstp, zgo] at hs
  split at hs
  · rename_i r st1
    split at hs
    · rename_i hc
      obtain ⟨i, hi, rfl⟩ : ∃ i : Nat, i < 4 ∧ r = -2 - (i : Int) := ⟨(-2 - r).toNat, by omega, by omega⟩
      simp only [Option.some.injEq, Sum.inl.injEq, Prod.mk.injEq] at hs
      obtain ⟨rfl, rfl, rfl, rfl, rfl⟩ := hs
      have k1 := kk H locs lsA (pc + 3) cells slots hok.1.1 hl hr hS (by simp) (by simp)
      rw [List.map_cons, zcv_s (by omega) (by omega)]
      rw [List.map_cons, zcv_s (by omega) (by omega), show (-2 - (i : Int) - 8) = -10 - (i : Int) by omega] at k1
      exact vk_getf hx hb (hst.2.2.2.2.2.1.1 i hi).2.2.1 hS hown (zin_b hok.2 hts hTs) (fun x q => q) hok.1.2 k1
    · cases hs
  · cases hs
theorem zs_49 (F : zFr p R s m args meth c X b0 D cA sA vF Ts y cc nL fr lo) (hok : zokE y cc nL ret fr lo T (49, pc, nx, a, b, li) h = true) (hs : zstp X (49, pc, nx, a, b, li) ls st M K = some (.inl (nd', ls', st', M', K'))) (hl : lv_has lsA nL (zlv (zcv b0 sA vF) ls)) (hr : zrel b0 D cA M K H) (hS : va_S (zA0 b0) s.heap H locs) (hz : s.heap.size + cells = b0 + K.length) (hrm : cells + (K'.length - K.length) ≤ R.cells ∧ slots + (zsl K' - zsl K) ≤ R.slots) (kk : zKo p l e R s m args below meth c cells slots Q b0 D cA sA vF nL T K nd' ls' st' M' K') : W p l e R s m args below meth c H locs cells slots Q (F0 m pc lsA (st.map (zcv b0 sA vF))) := by
  obtain ⟨hx, hb, hml, hown, hts, hTs, hst, hb0, hmn, hfr, hlo⟩ := F
  have hcat := zcv_cat (b0 := b0) (sA := sA) hst.2.2.2.2.2.2.2.2.1
  simp only [zokE, zdc, znx, Bool.and_eq_true, Bool.or_eq_true, decide_eq_true_eq] at hok
  simp only [zstp, zgo] at hs
  split at hs
  · rename_i r st1
    split at hs
    · rename_i hc
      obtain ⟨i, hi, rfl⟩ : ∃ i : Nat, i < 4 ∧ r = -2 - (i : Int) := ⟨(-2 - r).toNat, by omega, by omega⟩
      simp only [Option.some.injEq, Sum.inl.injEq, Prod.mk.injEq] at hs
      obtain ⟨rfl, rfl, rfl, rfl, rfl⟩ := hs
      have k1 := kk H locs lsA (pc + 3) cells slots hok.1.1 hl hr hS (by simp) (by simp)
      rw [List.map_cons, zcv_s (by omega) (by omega)]
      exact vk_getf hx hb (hst.2.2.2.2.2.1.1 i hi).2.1 hS hown (zin_b hok.2 hts hTs) (fun x q => q) hok.1.2 k1
    · cases hs
  · cases hs
theorem zs_50 (F : zFr p R s m args meth c X b0 D cA sA vF Ts y cc nL fr lo) (hok : zokE y cc nL ret fr lo T (50, pc, nx, a, b, li) h = true) (hs : zstp X (50, pc, nx, a, b, li) ls st M K = some (.inl (nd', ls', st', M', K'))) (hl : lv_has lsA nL (zlv (zcv b0 sA vF) ls)) (hr : zrel b0 D cA M K H) (hS : va_S (zA0 b0) s.heap H locs) (hz : s.heap.size + cells = b0 + K.length) (hrm : cells + (K'.length - K.length) ≤ R.cells ∧ slots + (zsl K' - zsl K) ≤ R.slots) (kk : zKo p l e R s m args below meth c cells slots Q b0 D cA sA vF nL T K nd' ls' st' M' K') : W p l e R s m args below meth c H locs cells slots Q (F0 m pc lsA (st.map (zcv b0 sA vF))) := by
  obtain ⟨hx, hb, hml, hown, hts, hTs, hst, hb0, hmn, hfr, hlo⟩ := F
  have hcat := zcv_cat (b0 := b0) (sA := sA) hst.2.2.2.2.2.2.2.2.1
  simp only [zokE, zdc, znx, Bool.and_eq_true, Bool.or_eq_true, decide_eq_true_eq] at hok
  simp only [zstp, zgo] at hs
  split at hs
  · rename_i r st1
    split at hs
    · rename_i hc
      obtain ⟨i, hi, rfl⟩ : ∃ i : Nat, i < 4 ∧ r = -10 - (i : Int) := ⟨(-10 - r).toNat, by omega, by omega⟩
      rw [show (-10 - (-10 - (i : Int))).toNat = i by omega] at hs
      simp only [Option.some.injEq, Sum.inl.injEq, Prod.mk.injEq] at hs
      obtain ⟨rfl, rfl, rfl, rfl, rfl⟩ := hs
      have k1 := kk H locs lsA (pc + 1) cells slots hok.1 hl hr hS (by simp) (by simp)
      rw [List.map_cons, zcv_s (by omega) (by omega)]
      obtain ⟨cell, c1, c2, c3, c4, c5, c6, c7⟩ := ((hst.2.2.2.2.2.1.1 i hi).2.2.2).kept hS.2.1
      rw [List.map_cons, show zcv b0 sA vF (zi ((zSb.getD i []).length : Int)) = .int (Int32.ofNat (zlen.getD i 0)) by simp only [zcv]; rw [(zS_all i hi).1, Int32.ofInt_eq_ofNat]] at k1
      exact W.alen (n := Int32.ofNat (zlen.getD i 0)) hx hb c1 c2 c5 (g := F0 m pc lsA (.ref (sA (-10 - (i : Int))) :: st1.map (zcv b0 sA vF))) rfl rfl hok.2 k1
    · cases hs
  · cases hs
theorem zs_51 (F : zFr p R s m args meth c X b0 D cA sA vF Ts y cc nL fr lo) (hok : zokE y cc nL ret fr lo T (51, pc, nx, a, b, li) h = true) (hs : zstp X (51, pc, nx, a, b, li) ls st M K = some (.inl (nd', ls', st', M', K'))) (hl : lv_has lsA nL (zlv (zcv b0 sA vF) ls)) (hr : zrel b0 D cA M K H) (hS : va_S (zA0 b0) s.heap H locs) (hz : s.heap.size + cells = b0 + K.length) (hrm : cells + (K'.length - K.length) ≤ R.cells ∧ slots + (zsl K' - zsl K) ≤ R.slots) (kk : zKo p l e R s m args below meth c cells slots Q b0 D cA sA vF nL T K nd' ls' st' M' K') : W p l e R s m args below meth c H locs cells slots Q (F0 m pc lsA (st.map (zcv b0 sA vF))) := by
  obtain ⟨hx, hb, hml, hown, hts, hTs, hst, hb0, hmn, hfr, hlo⟩ := F
  have hcat := zcv_cat (b0 := b0) (sA := sA) hst.2.2.2.2.2.2.2.2.1
  simp only [zokE, zdc, znx, Bool.and_eq_true, Bool.or_eq_true, decide_eq_true_eq] at hok
  simp only [zstp, zgo] at hs
  split at hs
  · rename_i i0 r st1
    split at hs
    · rename_i hc
      obtain ⟨hc1, hc2, hc3⟩ := hc
      obtain ⟨i, hi, rfl⟩ : ∃ i : Nat, i < 4 ∧ r = -10 - (i : Int) := ⟨(-10 - r).toNat, by omega, by omega⟩
      rw [show (-10 - (-10 - (i : Int))).toNat = i by omega] at hs hc3
      simp only [Option.some.injEq, Sum.inl.injEq, Prod.mk.injEq] at hs
      obtain ⟨rfl, rfl, rfl, rfl, rfl⟩ := hs
      have k1 := kk H locs lsA (pc + 1) cells slots hok.1 hl hr hS (by simp) (by simp)
      rw [List.map_cons, List.map_cons, zcv_s (by omega) (by omega)]
      obtain ⟨a1, a2, a3⟩ := zS_all i hi
      obtain ⟨cell, c1, c2, c3, c4, c5, c6, c7⟩ := ((hst.2.2.2.2.2.1.1 i hi).2.2.2).kept hS.2.1
      rw [List.map_cons, show zcv b0 sA vF (zi ((zSb.getD i []).getD (zw i0).toNat 0)) = .int ((zbyt.getD i []).getD (zw i0).toNat 0) by simp only [zcv]; rw [a3 _ (by omega)]] at k1
      refine W.bald (v := .int ((zbyt.getD i []).getD (zw i0).toNat 0)) hx hb c1 c2 c3 (j := Int32.ofInt i0) ?_ ?_ (g := F0 m pc lsA (.int (Int32.ofInt i0) :: .ref (sA (-10 - (i : Int))) :: st1.map (zcv b0 sA vF))) rfl rfl hok.2 k1
      · have := (z32_in i0 cell.slots.size).mpr ⟨hc2, by omega⟩
        exact this
      · rw [z32_cl]
        exact c6 _ (by omega)
    · cases hs
  · cases hs
theorem zs_54 (F : zFr p R s m args meth c X b0 D cA sA vF Ts y cc nL fr lo) (hok : zokE y cc nL ret fr lo T (54, pc, nx, a, b, li) h = true) (hs : zstp X (54, pc, nx, a, b, li) ls st M K = some (.inl (nd', ls', st', M', K'))) (hl : lv_has lsA nL (zlv (zcv b0 sA vF) ls)) (hr : zrel b0 D cA M K H) (hS : va_S (zA0 b0) s.heap H locs) (hz : s.heap.size + cells = b0 + K.length) (hrm : cells + (K'.length - K.length) ≤ R.cells ∧ slots + (zsl K' - zsl K) ≤ R.slots) (kk : zKo p l e R s m args below meth c cells slots Q b0 D cA sA vF nL T K nd' ls' st' M' K') : W p l e R s m args below meth c H locs cells slots Q (F0 m pc lsA (st.map (zcv b0 sA vF))) := by
  obtain ⟨hx, hb, hml, hown, hts, hTs, hst, hb0, hmn, hfr, hlo⟩ := F
  have hcat := zcv_cat (b0 := b0) (sA := sA) hst.2.2.2.2.2.2.2.2.1
  simp only [zokE, zdc, znx, Bool.and_eq_true, Bool.or_eq_true, decide_eq_true_eq] at hok
  simp only [zstp, zgo] at hs
  obtain ⟨⟨⟨⟨h0, h2⟩, h3⟩, h4⟩, h5⟩ := hok
  split at hs
  · rename_i y1 x1 st1
    split at hs
    · rename_i hrr
      simp only [Option.some.injEq, Sum.inl.injEq, Prod.mk.injEq] at hs
      obtain ⟨rfl, rfl, rfl, rfl, rfl⟩ := hs
      have k1 := kk H locs lsA (pc + 3) cells slots h0 hl hr hS (by simp) (by simp)
      have hsum : ((st1.map (zcv b0 sA vF)).map fun v => v.category).sum ≤ 8 := by
        rw [List.map_map, show ((fun v : Value => v.category) ∘ zcv b0 sA vF) = zcat from funext hcat]
        simpa [zroom] using hrr
      have hcl : cells ≤ R.cells ∧ slots ≤ R.slots := by simpa using hrm
      rcases h5 with ⟨⟨⟨h6, h7⟩, h8⟩, h9⟩ | ⟨⟨⟨h6, h7⟩, h8⟩, h9⟩
      · subst h6
        refine va_mmax hx hb (hml.trans hl.1.symm) hown (zin_b h7 hts hTs) (zin_b h8 hts hTs) (zin_b h4 hts hTs) (zin_b h9 hts hTs) (by omega) (by omega) hcl.1 hcl.2 h2 ?_
        rw [List.map_cons, show zcv b0 sA vF (zi (if (0 : Int) = 0 then zmax x1 y1 else zmin x1 y1)) = .int (if Int32.ofInt x1 < Int32.ofInt y1 then Int32.ofInt y1 else Int32.ofInt x1) by simp only [zcv, if_pos, zmax, z32_lt]; split <;> rfl] at k1
        exact k1
      · subst h6
        refine va_mmin hx hb (hml.trans hl.1.symm) hown (zin_b h7 hts hTs) (zin_b h8 hts hTs) (zin_b h4 hts hTs) (zin_b h9 hts hTs) (by omega) (by omega) hcl.1 hcl.2 h2 ?_
        rw [List.map_cons, show zcv b0 sA vF (zi (if (1 : Int) = 0 then zmax x1 y1 else zmin x1 y1)) = .int (if Int32.ofInt y1 < Int32.ofInt x1 then Int32.ofInt y1 else Int32.ofInt x1) by simp only [zcv, show ¬ ((1 : Int) = 0) by decide, if_false, zmin, z32_lt]; split <;> rfl] at k1
        exact k1
    · cases hs
  · cases hs
end
