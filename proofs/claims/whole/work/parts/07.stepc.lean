section
variable {p : Program} {l : Launch} {e : Env} {R : Room} {s : State} {m : MethodId} {args : Array Value} {below : List Frame} {meth : Method} {c : Code} {H : Heap} {locs : List Loc} {cells slots : Nat} {Q : State → Prop}
variable {X : Int × (Int → Int)} {b0 : Nat} {D : va_G} {cA : Nat → ClassId} {sA : Int → Nat} {vF : Value} {Ts : List Jvm.Cond} {y : MethodName} {cc : ByteArray} {nL : Nat} {ret : Option FieldType} {fr lo : Nat} {T : List zE} {pc nx : Nat} {a b : Int} {li : List Int} {h : List Nat} {ls st ls' st' : List zV} {M M' : zM} {K K' : zK} {nd' : Nat} {lsA : Array Slot}
theorem zs_16 (F : zFr p R s m args meth c X b0 D cA sA vF Ts y cc nL fr lo) (hok : zokE y cc nL ret fr lo T (16, pc, nx, a, b, li) h = true) (hs : zstp X (16, pc, nx, a, b, li) ls st M K = some (.inl (nd', ls', st', M', K'))) (hl : lv_has lsA nL (zlv (zcv b0 sA vF) ls)) (hr : zrel b0 D cA M K H) (hS : va_S (zA0 b0) s.heap H locs) (hz : s.heap.size + cells = b0 + K.length) (hrm : cells + (K'.length - K.length) ≤ R.cells ∧ slots + (zsl K' - zsl K) ≤ R.slots) (kk : zKo p l e R s m args below meth c cells slots Q b0 D cA sA vF nL T K nd' ls' st' M' K') : W p l e R s m args below meth c H locs cells slots Q (F0 m pc lsA (st.map (zcv b0 sA vF))) := by
  obtain ⟨hx, hb, hml, hown, hts, hTs, hst, hb0, hmn, hfr, hlo⟩ := F
  have hcat := zcv_cat (b0 := b0) (sA := sA) hst.2.2.2.2.2.2.2.2.1
  simp only [zokE, zdc, znx, Bool.and_eq_true, Bool.or_eq_true, decide_eq_true_eq] at hok
  simp only [zstp, zgo] at hs
  split at hs
  · rename_i x1 st1
    obtain ⟨⟨⟨h0, h2⟩, h3⟩, h4⟩ := hok
    have ht : (pc : Int) + ((zpd T a.toNat : Int) - pc) = (zpd T a.toNat : Int) := by omega
    have kt : ∀ (hc : zcd b (zw x1) 0 = true), W p l e R s m args below meth c H locs cells slots Q (F0 m (zpd T a.toNat) lsA (st1.map (zcv b0 sA vF))) := by
      intro hc
      rw [if_pos hc] at hs
      simp only [Option.some.injEq, Sum.inl.injEq, Prod.mk.injEq] at hs
      obtain ⟨rfl, rfl, rfl, rfl, rfl⟩ := hs
      exact kk H locs lsA _ cells slots h3 hl hr hS (by simp) (by simp)
    have kf : ∀ (hc : ¬ zcd b (zw x1) 0 = true), W p l e R s m args below meth c H locs cells slots Q (F0 m (pc + 3) lsA (st1.map (zcv b0 sA vF))) := by
      intro hc
      rw [if_neg hc] at hs
      simp only [Option.some.injEq, Sum.inl.injEq, Prod.mk.injEq] at hs
      obtain ⟨rfl, rfl, rfl, rfl, rfl⟩ := hs
      exact kk H locs lsA _ cells slots h0 hl hr hS (by simp) (by simp)
    obtain ⟨b1, b2⟩ := h4
    rcases (show b = 0 ∨ b = 1 ∨ b = 2 ∨ b = 3 ∨ b = 4 ∨ b = 5 by omega) with rfl | rfl | rfl | rfl | rfl | rfl
    · exact lv_if_eq hx hb h2 ht (fun q => kt (by simp only [zcd, decide_eq_true_eq]; simpa [z32_eq0, z32_lt0, z32_le0, z32_gt0, z32_ge0] using q)) (fun q => kf (fun z => q (by simp only [zcd, decide_eq_true_eq] at z; simpa [z32_eq0, z32_lt0, z32_le0, z32_gt0, z32_ge0] using z)))
    · exact lv_if_ne hx hb h2 ht (fun q => kt (by simp only [zcd, decide_eq_true_eq]; simpa [z32_eq0, z32_lt0, z32_le0, z32_gt0, z32_ge0] using q)) (fun q => kf (fun z => absurd ((z32_eq0 x1).mp q) (by simpa [zcd] using z)))
    · exact lv_if_lt hx hb h2 ht (fun q => kt (by simp only [zcd, decide_eq_true_eq]; simpa [z32_eq0, z32_lt0, z32_le0, z32_gt0, z32_ge0] using q)) (fun q => kf (fun z => q (by simp only [zcd, decide_eq_true_eq] at z; simpa [z32_eq0, z32_lt0, z32_le0, z32_gt0, z32_ge0] using z)))
    · exact lv_if_ge hx hb h2 ht (fun q => kt (by simp only [zcd, decide_eq_true_eq]; simpa [z32_eq0, z32_lt0, z32_le0, z32_gt0, z32_ge0] using q)) (fun q => kf (fun z => q (by simp only [zcd, decide_eq_true_eq] at z; simpa [z32_eq0, z32_lt0, z32_le0, z32_gt0, z32_ge0] using z)))
    · exact lv_if_gt hx hb h2 ht (fun q => kt (by simp only [zcd, decide_eq_true_eq]; simpa [z32_eq0, z32_lt0, z32_le0, z32_gt0, z32_ge0] using q)) (fun q => kf (fun z => q (by simp only [zcd, decide_eq_true_eq] at z; simpa [z32_eq0, z32_lt0, z32_le0, z32_gt0, z32_ge0] using z)))
    · exact lv_if_le hx hb h2 ht (fun q => kt (by simp only [zcd, decide_eq_true_eq]; simpa [z32_eq0, z32_lt0, z32_le0, z32_gt0, z32_ge0] using q)) (fun q => kf (fun z => q (by simp only [zcd, decide_eq_true_eq] at z; simpa [z32_eq0, z32_lt0, z32_le0, z32_gt0, z32_ge0] using z)))
  · cases hs
theorem zs_17 (F : zFr p R s m args meth c X b0 D cA sA vF Ts y cc nL fr lo) (hok : zokE y cc nL ret fr lo T (17, pc, nx, a, b, li) h = true) (hs : zstp X (17, pc, nx, a, b, li) ls st M K = some (.inl (nd', ls', st', M', K'))) (hl : lv_has lsA nL (zlv (zcv b0 sA vF) ls)) (hr : zrel b0 D cA M K H) (hS : va_S (zA0 b0) s.heap H locs) (hz : s.heap.size + cells = b0 + K.length) (hrm : cells + (K'.length - K.length) ≤ R.cells ∧ slots + (zsl K' - zsl K) ≤ R.slots) (kk : zKo p l e R s m args below meth c cells slots Q b0 D cA sA vF nL T K nd' ls' st' M' K') : W p l e R s m args below meth c H locs cells slots Q (F0 m pc lsA (st.map (zcv b0 sA vF))) := by
  obtain ⟨hx, hb, hml, hown, hts, hTs, hst, hb0, hmn, hfr, hlo⟩ := F
  have hcat := zcv_cat (b0 := b0) (sA := sA) hst.2.2.2.2.2.2.2.2.1
  simp only [zokE, zdc, znx, Bool.and_eq_true, Bool.or_eq_true, decide_eq_true_eq] at hok
  simp only [zstp, zgo] at hs
  split at hs
  · rename_i y1 x1 st1
    obtain ⟨⟨⟨h0, h2⟩, h3⟩, h4⟩ := hok
    have ht : (pc : Int) + ((zpd T a.toNat : Int) - pc) = (zpd T a.toNat : Int) := by omega
    have kt : ∀ (hc : zcd b (zw x1) (zw y1) = true), W p l e R s m args below meth c H locs cells slots Q (F0 m (zpd T a.toNat) lsA (st1.map (zcv b0 sA vF))) := by
      intro hc
      rw [if_pos hc] at hs
      simp only [Option.some.injEq, Sum.inl.injEq, Prod.mk.injEq] at hs
      obtain ⟨rfl, rfl, rfl, rfl, rfl⟩ := hs
      exact kk H locs lsA _ cells slots h3 hl hr hS (by simp) (by simp)
    have kf : ∀ (hc : ¬ zcd b (zw x1) (zw y1) = true), W p l e R s m args below meth c H locs cells slots Q (F0 m (pc + 3) lsA (st1.map (zcv b0 sA vF))) := by
      intro hc
      rw [if_neg hc] at hs
      simp only [Option.some.injEq, Sum.inl.injEq, Prod.mk.injEq] at hs
      obtain ⟨rfl, rfl, rfl, rfl, rfl⟩ := hs
      exact kk H locs lsA _ cells slots h0 hl hr hS (by simp) (by simp)
    obtain ⟨b1, b2⟩ := h4
    rcases (show b = 0 ∨ b = 1 ∨ b = 2 ∨ b = 3 ∨ b = 4 ∨ b = 5 by omega) with rfl | rfl | rfl | rfl | rfl | rfl
    · exact lv_icmp_eq hx hb h2 ht (fun q => kt (by simp only [zcd, decide_eq_true_eq]; simpa [z32_eq, z32_lt, z32_le] using q)) (fun q => kf (fun z => q (by simp only [zcd, decide_eq_true_eq] at z; simpa [z32_eq, z32_lt, z32_le] using z)))
    · exact lv_icmp_ne hx hb h2 ht (fun q => kt (by simp only [zcd, decide_eq_true_eq]; simpa [z32_eq, z32_lt, z32_le] using q)) (fun q => kf (fun z => absurd ((z32_eq x1 y1).mp q) (by simpa [zcd] using z)))
    · exact lv_icmp_lt hx hb h2 ht (fun q => kt (by simp only [zcd, decide_eq_true_eq]; simpa [z32_eq, z32_lt, z32_le] using q)) (fun q => kf (fun z => q (by simp only [zcd, decide_eq_true_eq] at z; simpa [z32_eq, z32_lt, z32_le] using z)))
    · exact lv_icmp_ge hx hb h2 ht (fun q => kt (by simp only [zcd, decide_eq_true_eq]; simpa [z32_eq, z32_lt, z32_le] using q)) (fun q => kf (fun z => q (by simp only [zcd, decide_eq_true_eq] at z; simpa [z32_eq, z32_lt, z32_le] using z)))
    · exact lv_icmp_gt hx hb h2 ht (fun q => kt (by simp only [zcd, decide_eq_true_eq]; simpa [z32_eq, z32_lt, z32_le] using q)) (fun q => kf (fun z => q (by simp only [zcd, decide_eq_true_eq] at z; simpa [z32_eq, z32_lt, z32_le] using z)))
    · exact lv_icmp_le hx hb h2 ht (fun q => kt (by simp only [zcd, decide_eq_true_eq]; simpa [z32_eq, z32_lt, z32_le] using q)) (fun q => kf (fun z => q (by simp only [zcd, decide_eq_true_eq] at z; simpa [z32_eq, z32_lt, z32_le] using z)))
  · cases hs
theorem zs_18 (F : zFr p R s m args meth c X b0 D cA sA vF Ts y cc nL fr lo) (hok : zokE y cc nL ret fr lo T (18, pc, nx, a, b, li) h = true) (hs : zstp X (18, pc, nx, a, b, li) ls st M K = some (.inl (nd', ls', st', M', K'))) (hl : lv_has lsA nL (zlv (zcv b0 sA vF) ls)) (hr : zrel b0 D cA M K H) (hS : va_S (zA0 b0) s.heap H locs) (hz : s.heap.size + cells = b0 + K.length) (hrm : cells + (K'.length - K.length) ≤ R.cells ∧ slots + (zsl K' - zsl K) ≤ R.slots) (kk : zKo p l e R s m args below meth c cells slots Q b0 D cA sA vF nL T K nd' ls' st' M' K') : W p l e R s m args below meth c H locs cells slots Q (F0 m pc lsA (st.map (zcv b0 sA vF))) := by
  obtain ⟨hx, hb, hml, hown, hts, hTs, hst, hb0, hmn, hfr, hlo⟩ := F
  have hcat := zcv_cat (b0 := b0) (sA := sA) hst.2.2.2.2.2.2.2.2.1
  simp only [zokE, zdc, znx, Bool.and_eq_true, Bool.or_eq_true, decide_eq_true_eq] at hok
  simp only [zstp, zgo] at hs
  simp only [Option.some.injEq, Sum.inl.injEq, Prod.mk.injEq] at hs
  obtain ⟨rfl, rfl, rfl, rfl, rfl⟩ := hs
  exact lv_goto hx hb hok.2 (by omega) (kk H locs lsA _ cells slots hok.1 hl hr hS (by simp) (by simp))
theorem zs_19 (F : zFr p R s m args meth c X b0 D cA sA vF Ts y cc nL fr lo) (hok : zokE y cc nL ret fr lo T (19, pc, nx, a, b, li) h = true) (hs : zstp X (19, pc, nx, a, b, li) ls st M K = some (.inl (nd', ls', st', M', K'))) (hl : lv_has lsA nL (zlv (zcv b0 sA vF) ls)) (hr : zrel b0 D cA M K H) (hS : va_S (zA0 b0) s.heap H locs) (hz : s.heap.size + cells = b0 + K.length) (hrm : cells + (K'.length - K.length) ≤ R.cells ∧ slots + (zsl K' - zsl K) ≤ R.slots) (kk : zKo p l e R s m args below meth c cells slots Q b0 D cA sA vF nL T K nd' ls' st' M' K') : W p l e R s m args below meth c H locs cells slots Q (F0 m pc lsA (st.map (zcv b0 sA vF))) := by
  obtain ⟨hx, hb, hml, hown, hts, hTs, hst, hb0, hmn, hfr, hlo⟩ := F
  have hcat := zcv_cat (b0 := b0) (sA := sA) hst.2.2.2.2.2.2.2.2.1
  simp only [zokE, zdc, znx, Bool.and_eq_true, Bool.or_eq_true, decide_eq_true_eq] at hok
  simp only [zstp, zgo] at hs
  obtain ⟨⟨h0, h2⟩, h3⟩ := hok
  split at hs
  · rename_i x1 st1
    split at hs
    · rename_i hcc
      simp only [Option.some.injEq, Sum.inl.injEq, Prod.mk.injEq] at hs
      obtain ⟨rfl, rfl, rfl, rfl, rfl⟩ := hs
      exact lv_tableOut hx hb h2 (by rw [← zw_eq]; exact hcc) (by omega) (kk H locs lsA _ cells slots h0 hl hr hS (by simp) (by simp))
    · rename_i hcc
      split at hs
      · rename_i t ht
        simp only [Option.some.injEq, Sum.inl.injEq, Prod.mk.injEq] at hs
        obtain ⟨rfl, rfl, rfl, rfl, rfl⟩ := hs
        have hm := List.all_eq_true.mp h3 t (List.mem_of_getElem? ht)
        simp only [znx, decide_eq_true_eq] at hm
        refine lv_tableIn hx hb h2 (x := Int32.ofInt x1) (off := (zpd T t.toNat : Int) - pc) (tgt := zpd T t.toNat) (by rw [← zw_eq]; omega) (by rw [← zw_eq]; omega) ?_ (by omega) (kk H locs lsA _ cells slots hm hl hr hS (by simp) (by simp))
        rw [← zw_eq, List.getElem?_toArray, List.getElem?_map, ht]
        rfl
      · cases hs
  · cases hs
theorem zs_44 (F : zFr p R s m args meth c X b0 D cA sA vF Ts y cc nL fr lo) (hok : zokE y cc nL ret fr lo T (44, pc, nx, a, b, li) h = true) (hs : zstp X (44, pc, nx, a, b, li) ls st M K = some (.inl (nd', ls', st', M', K'))) (hl : lv_has lsA nL (zlv (zcv b0 sA vF) ls)) (hr : zrel b0 D cA M K H) (hS : va_S (zA0 b0) s.heap H locs) (hz : s.heap.size + cells = b0 + K.length) (hrm : cells + (K'.length - K.length) ≤ R.cells ∧ slots + (zsl K' - zsl K) ≤ R.slots) (kk : zKo p l e R s m args below meth c cells slots Q b0 D cA sA vF nL T K nd' ls' st' M' K') : W p l e R s m args below meth c H locs cells slots Q (F0 m pc lsA (st.map (zcv b0 sA vF))) := by
  obtain ⟨hx, hb, hml, hown, hts, hTs, hst, hb0, hmn, hfr, hlo⟩ := F
  have hcat := zcv_cat (b0 := b0) (sA := sA) hst.2.2.2.2.2.2.2.2.1
  simp only [zokE, zdc, znx, Bool.and_eq_true, Bool.or_eq_true, decide_eq_true_eq] at hok
  simp only [zstp, zgo] at hs
  simp only [Option.some.injEq, Sum.inl.injEq, Prod.mk.injEq] at hs
  obtain ⟨rfl, rfl, rfl, rfl, rfl⟩ := hs
  exact kk H locs lsA pc cells slots hok (zlv_sub hl (fun q hq => zkill_mem hq)) hr hS (by simp) (by simp)
end
