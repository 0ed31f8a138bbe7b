def zsl (K : zK) : Nat := (K.map fun q => q.2).sum
theorem zsl_push (K : zK) (q : Nat × Nat) : zsl (K ++ [q]) = zsl K + q.2 := by simp [zsl]
/-- where a method stands in the machine -/
def zFr (p : Program) (R : Room) (s : State) (m : MethodId) (args : Array Value) (meth : Method) (c : Code) (X : Int × (Int → Int)) (b0 : Nat) (D : va_G) (cA : Nat → ClassId) (sA : Int → Nat) (vF : Value) (Ts : List Jvm.Cond) (y : MethodName) (cc : ByteArray) (nL : Nat) (fr lo : Nat) : Prop :=
  p.tables.exec = Jvm.exec ∧ c.code = cc ∧ c.maxLocals = nL ∧ s.vm.findClass y.cls = some m.cls ∧ (∀ w ∈ Ts, w.before args s = true) ∧ (∀ w, w ∈ lw_tbl → goodWord w = true → w ∈ Ts) ∧ zstat X b0 D cA sA vF s s.heap ∧ b0 ≤ s.heap.size ∧ (y.name = "<init>" → meth.name = "<init>") ∧ fr ≤ R.frames ∧ lo ≤ R.locals
/-- what is owed behind a row -/
def zKo (p : Program) (l : Launch) (e : Env) (R : Room) (s : State) (m : MethodId) (args : Array Value) (below : List Frame) (meth : Method) (c : Code) (cells slots : Nat) (Q : State → Prop) (b0 : Nat) (D : va_G) (cA : Nat → ClassId) (sA : Int → Nat) (vF : Value) (nL : Nat) (T : List zE) (K : zK) (nd' : Nat) (ls' st' : List zV) (M' : zM) (K' : zK) : Prop :=
  ∀ (H' : Heap) (locs' : List Loc) (lsA' : Array Slot) (pc' cells' slots' : Nat), (T[nd']?).map (fun e => e.2.1) = some pc' → lv_has lsA' nL (zlv (zcv b0 sA vF) ls') → zrel b0 D cA M' K' H' → va_S (zA0 b0) s.heap H' locs' → cells' = cells + (K'.length - K.length) → slots' = slots + (zsl K' - zsl K) → W p l e R s m args below meth c H' locs' cells' slots' Q (F0 m pc' lsA' (st'.map (zcv b0 sA vF)))
theorem zin_w {i : Nat} {w : Jvm.Cond} (h : zin i w = true) : w ∈ lw_tbl ∧ goodWord w = true := by
  simp only [zin, Bool.and_eq_true, decide_eq_true_eq] at h
  exact ⟨List.mem_of_getElem? h.1, h.2⟩
theorem zin_b {i : Nat} {w : Jvm.Cond} {Ts : List Jvm.Cond} {args : Array Value} {s : State} (h : zin i w = true) (hts : ∀ w ∈ Ts, w.before args s = true) (hTs : ∀ w, w ∈ lw_tbl → goodWord w = true → w ∈ Ts) : w.before args s = true := hts w (hTs w (zin_w h).1 (zin_w h).2)
theorem zcv_cat {b0 : Nat} {sA : Int → Nat} {vF : Value} (hv : vF = .null ∨ ∃ a, vF = .ref a) : ∀ w, (zcv b0 sA vF w).category = zcat w := by
  intro w
  match w with
  | .inl x => rfl
  | .inr (.inl x) => rfl
  | .inr (.inr x) =>
    simp only [zcv]
    split
    · rcases hv with rfl | ⟨a, rfl⟩ <;> rfl
    · rfl
theorem zset_ls {ls : List zV} {i j : Nat} {v w : zV} (h1 : (zset ls i v)[j]? = some w) (h2 : w ≠ zU) (hj : j ≠ i) : ls[j]? = some w ∧ ¬ (j + 1 = i ∧ zcat w = 2) := by
  unfold zset at h1
  rw [List.getElem?_set_ne (Ne.symm hj)] at h1
  by_cases hi : i = 0
  · rw [if_pos hi] at h1
    exact ⟨h1, fun z => by omega⟩
  · rw [if_neg hi] at h1
    split at h1
    · rename_i x hx
      by_cases hji : j = i - 1
      · subst hji
        have hlt := (List.getElem?_eq_some_iff.mp h1).1
        rw [List.length_set] at hlt
        rw [List.getElem?_set_self hlt] at h1
        cases h1
        exact absurd rfl h2
      · rw [List.getElem?_set_ne (Ne.symm hji)] at h1
        exact ⟨h1, fun z => by omega⟩
    · rename_i hx
      refine ⟨h1, fun z => ?_⟩
      obtain ⟨z1, z2⟩ := z
      match w, z2, h1 with
      | .inr (.inl x), _, h1 => exact hx x (by rw [show i - 1 = j by omega]; exact h1)
      | .inl x, z2, _ => simp [zcat] at z2
      | .inr (.inr x), z2, _ => simp [zcat] at z2
theorem zset_own {ls : List zV} {i : Nat} {v w : zV} (h1 : (zset ls i v)[i]? = some w) : w = v := by
  unfold zset at h1
  have hlt := (List.getElem?_eq_some_iff.mp h1).1
  rw [List.length_set] at hlt
  rw [List.getElem?_set_self hlt] at h1
  exact (Option.some.inj h1).symm
theorem zset_mem {f : zV → Value} {ls : List zV} {i : Nat} {v : zV} {q : Nat × Value} (hc : ∀ w, (f w).category = zcat w) (h : q ∈ zlv f (zset ls i v)) : q ∈ (i, f v) :: (zlv f ls).filter (fun q => !(q.1 == i) && !(q.1 + 1 == i && q.2.category == 2)) := by
  obtain ⟨w, h1, h2, h3⟩ := zlv_mem.mp h
  obtain ⟨j, u⟩ := q
  dsimp only at h1 h2 h3
  by_cases hj : j = i
  · subst hj
    rw [h3, zset_own h1]
    exact List.mem_cons_self
  · obtain ⟨k1, k2⟩ := zset_ls h1 h2 hj
    refine List.mem_cons_of_mem _ (List.mem_filter.mpr ⟨zlv_mem.mpr ⟨w, k1, h2, h3⟩, ?_⟩)
    rw [h3]
    simp only [hc]
    rcases Nat.decEq (j + 1) i with q1 | q1
    · simp [hj, q1]
    · have q2 : ¬ zcat w = 2 := fun z => k2 ⟨q1, z⟩
      simp [hj, q2]
theorem zset2_mem {f : zV → Value} {ls : List zV} {i : Nat} {v : zV} {q : Nat × Value} (hc : ∀ w, (f w).category = zcat w) (h : q ∈ zlv f (zset2 ls i v)) : q ∈ (i, f v) :: (zlv f ls).filter (fun q => !(q.1 == i) && (!(q.1 == i + 1) && !(q.1 + 1 == i && q.2.category == 2))) := by
  obtain ⟨w, h1, h2, h3⟩ := zlv_mem.mp h
  obtain ⟨j, u⟩ := q
  dsimp only at h1 h2 h3
  unfold zset2 at h1
  by_cases hj1 : j = i + 1
  · subst hj1
    have hlt := (List.getElem?_eq_some_iff.mp h1).1
    rw [List.length_set] at hlt
    rw [List.getElem?_set_self hlt] at h1
    cases h1
    exact absurd rfl h2
  rw [List.getElem?_set_ne (Ne.symm hj1)] at h1
  by_cases hj : j = i
  · subst hj
    rw [h3, zset_own h1]
    exact List.mem_cons_self
  · obtain ⟨k1, k2⟩ := zset_ls h1 h2 hj
    refine List.mem_cons_of_mem _ (List.mem_filter.mpr ⟨zlv_mem.mpr ⟨w, k1, h2, h3⟩, ?_⟩)
    rw [h3]
    simp only [hc]
    rcases Nat.decEq (j + 1) i with q1 | q1
    · simp [hj, hj1, q1]
    · have q2 : ¬ zcat w = 2 := fun z => k2 ⟨q1, z⟩
      simp [hj, hj1, q2]
theorem zkill_mem {f : zV → Value} : ∀ {l : List Int} {ls : List zV} {q : Nat × Value}, q ∈ zlv f (zkill ls l) → q ∈ zlv f ls := by
  intro l
  induction l with
  | nil => intro ls q h; exact h
  | cons i l ih =>
    intro ls q h
    have h1 : q ∈ zlv f (ls.set i.toNat zU) := ih (ls := ls.set i.toNat zU) h
    obtain ⟨w, g1, g2, g3⟩ := zlv_mem.mp h1
    by_cases hj : q.1 = i.toNat
    · rw [hj] at g1
      have hlt := (List.getElem?_eq_some_iff.mp g1).1
      rw [List.length_set] at hlt
      rw [List.getElem?_set_self hlt] at g1
      cases g1
      exact absurd rfl g2
    · rw [List.getElem?_set_ne (Ne.symm hj)] at g1
      exact zlv_mem.mpr ⟨w, g1, g2, g3⟩
section
variable {p : Program} {l : Launch} {e : Env} {R : Room} {s : State} {m : MethodId} {args : Array Value} {below : List Frame} {meth : Method} {c : Code} {H : Heap} {locs : List Loc} {cells slots : Nat} {Q : State → Prop}
variable {X : Int × (Int → Int)} {b0 : Nat} {D : va_G} {cA : Nat → ClassId} {sA : Int → Nat} {vF : Value} {Ts : List Jvm.Cond} {y : MethodName} {cc : ByteArray} {nL : Nat} {ret : Option FieldType} {fr lo : Nat} {T : List zE} {pc nx : Nat} {a b : Int} {li : List Int} {h : List Nat} {ls st ls' st' : List zV} {M M' : zM} {K K' : zK} {nd' : Nat} {lsA : Array Slot}
theorem zs_1 (F : zFr p R s m args meth c X b0 D cA sA vF Ts y cc nL fr lo) (hok : zokE y cc nL ret fr lo T (1, pc, nx, a, b, li) h = true) (hs : zstp X (1, pc, nx, a, b, li) ls st M K = some (.inl (nd', ls', st', M', K'))) (hl : lv_has lsA nL (zlv (zcv b0 sA vF) ls)) (hr : zrel b0 D cA M K H) (hS : va_S (zA0 b0) s.heap H locs) (hz : s.heap.size + cells = b0 + K.length) (hrm : cells + (K'.length - K.length) ≤ R.cells ∧ slots + (zsl K' - zsl K) ≤ R.slots) (kk : zKo p l e R s m args below meth c cells slots Q b0 D cA sA vF nL T K nd' ls' st' M' K') : W p l e R s m args below meth c H locs cells slots Q (F0 m pc lsA (st.map (zcv b0 sA vF))) := by
  obtain ⟨hx, hb, hml, hown, hts, hTs, hst, hb0, hmn, hfr, hlo⟩ := F
  have hcat := zcv_cat (b0 := b0) (sA := sA) hst.2.2.2.2.2.2.2.2.1
  simp only [zokE, zdc, znx, Bool.and_eq_true, Bool.or_eq_true, decide_eq_true_eq] at hok
  simp only [zstp, zgo] at hs
  simp only [Option.some.injEq, Sum.inl.injEq, Prod.mk.injEq] at hs
  obtain ⟨rfl, rfl, rfl, rfl, rfl⟩ := hs
  rcases hok with (⟨⟨h1, h2⟩, h3⟩ | ⟨⟨⟨h1, h2⟩, h3⟩, h4⟩) | ⟨⟨⟨h1, h2⟩, h3⟩, h4⟩
  · exact lv_iconst hx hb h2 rfl (kk _ _ _ _ _ _ h3 hl hr hS (by simp) (by simp))
  · exact lv_bipush hx hb h2 h4 (kk _ _ _ _ _ _ h3 hl hr hS (by simp) (by simp))
  · exact lv_sipush hx hb h2 h4 (kk _ _ _ _ _ _ h3 hl hr hS (by simp) (by simp))
theorem zs_2 (F : zFr p R s m args meth c X b0 D cA sA vF Ts y cc nL fr lo) (hok : zokE y cc nL ret fr lo T (2, pc, nx, a, b, li) h = true) (hs : zstp X (2, pc, nx, a, b, li) ls st M K = some (.inl (nd', ls', st', M', K'))) (hl : lv_has lsA nL (zlv (zcv b0 sA vF) ls)) (hr : zrel b0 D cA M K H) (hS : va_S (zA0 b0) s.heap H locs) (hz : s.heap.size + cells = b0 + K.length) (hrm : cells + (K'.length - K.length) ≤ R.cells ∧ slots + (zsl K' - zsl K) ≤ R.slots) (kk : zKo p l e R s m args below meth c cells slots Q b0 D cA sA vF nL T K nd' ls' st' M' K') : W p l e R s m args below meth c H locs cells slots Q (F0 m pc lsA (st.map (zcv b0 sA vF))) := by
  obtain ⟨hx, hb, hml, hown, hts, hTs, hst, hb0, hmn, hfr, hlo⟩ := F
  have hcat := zcv_cat (b0 := b0) (sA := sA) hst.2.2.2.2.2.2.2.2.1
  simp only [zokE, zdc, znx, Bool.and_eq_true, Bool.or_eq_true, decide_eq_true_eq] at hok
  simp only [zstp, zgo] at hs
  simp only [Option.some.injEq, Sum.inl.injEq, Prod.mk.injEq] at hs
  obtain ⟨rfl, rfl, rfl, rfl, rfl⟩ := hs
  rcases hok with ⟨⟨⟨h1, h2⟩, h3⟩, h4⟩ | ⟨⟨⟨h1, h2⟩, h3⟩, h4⟩
  · exact lv_lconst hx hb h2 h4 (kk _ _ _ _ _ _ h3 hl hr hS (by simp) (by simp))
  · exact lv_ldc2 hx hb hown (zin_b h4 hts hTs) h2 (kk _ _ _ _ _ _ h3 hl hr hS (by simp) (by simp))
theorem zs_3 (F : zFr p R s m args meth c X b0 D cA sA vF Ts y cc nL fr lo) (hok : zokE y cc nL ret fr lo T (3, pc, nx, a, b, li) h = true) (hs : zstp X (3, pc, nx, a, b, li) ls st M K = some (.inl (nd', ls', st', M', K'))) (hl : lv_has lsA nL (zlv (zcv b0 sA vF) ls)) (hr : zrel b0 D cA M K H) (hS : va_S (zA0 b0) s.heap H locs) (hz : s.heap.size + cells = b0 + K.length) (hrm : cells + (K'.length - K.length) ≤ R.cells ∧ slots + (zsl K' - zsl K) ≤ R.slots) (kk : zKo p l e R s m args below meth c cells slots Q b0 D cA sA vF nL T K nd' ls' st' M' K') : W p l e R s m args below meth c H locs cells slots Q (F0 m pc lsA (st.map (zcv b0 sA vF))) := by
  obtain ⟨hx, hb, hml, hown, hts, hTs, hst, hb0, hmn, hfr, hlo⟩ := F
  have hcat := zcv_cat (b0 := b0) (sA := sA) hst.2.2.2.2.2.2.2.2.1
  simp only [zokE, zdc, znx, Bool.and_eq_true, Bool.or_eq_true, decide_eq_true_eq] at hok
  simp only [zstp, zgo] at hs
  split at hs
  · rename_i x hx1
    have hat := zlv_at hl hx1 (by simp)
    split at hs
    · rename_i hbb
      simp only [Option.some.injEq, Sum.inl.injEq, Prod.mk.injEq] at hs
      obtain ⟨rfl, rfl, rfl, rfl, rfl⟩ := hs
      rcases hok with ((((⟨⟨⟨h1, h2⟩, h3⟩, h4⟩ | ⟨⟨h1, h2⟩, h3⟩) | ⟨⟨⟨h1, h2⟩, h3⟩, h4⟩) | ⟨⟨h1, h2⟩, h3⟩) | ⟨⟨⟨h1, h2⟩, h3⟩, h4⟩) | ⟨⟨h1, h2⟩, h3⟩
      · exact lv_iload_n hx hb h2 (by simp [Fin.ofNat]; omega) hat (kk _ _ _ _ _ _ h3 hl hr hS (by simp) (by simp))
      · exact lv_iload hx hb h2 hat (kk _ _ _ _ _ _ h3 hl hr hS (by simp) (by simp))
      all_goals omega
    · cases hs
  · rename_i x hx1
    have hat := zlv_at hl hx1 (by simp)
    split at hs
    · rename_i hbb
      simp only [Option.some.injEq, Sum.inl.injEq, Prod.mk.injEq] at hs
      obtain ⟨rfl, rfl, rfl, rfl, rfl⟩ := hs
      rcases hok with ((((⟨⟨⟨h1, h2⟩, h3⟩, h4⟩ | ⟨⟨h1, h2⟩, h3⟩) | ⟨⟨⟨h1, h2⟩, h3⟩, h4⟩) | ⟨⟨h1, h2⟩, h3⟩) | ⟨⟨⟨h1, h2⟩, h3⟩, h4⟩) | ⟨⟨h1, h2⟩, h3⟩
      · omega
      · omega
      · exact lv_lload_n hx hb h2 (by simp [Fin.ofNat]; omega) hat (kk _ _ _ _ _ _ h3 hl hr hS (by simp) (by simp))
      · exact lv_lload hx hb h2 hat (kk _ _ _ _ _ _ h3 hl hr hS (by simp) (by simp))
      all_goals omega
    · cases hs
  · rename_i x hx1
    split at hs
    · rename_i hbb
      have hat := zlv_at hl hx1 (by intro z; injection z with z; injection z with z; omega)
      rw [show zcv b0 sA vF (Sum.inr (Sum.inr x)) = .ref (zad b0 sA x) by simp only [zcv]; rw [if_neg (by omega)]] at hat
      simp only [Option.some.injEq, Sum.inl.injEq, Prod.mk.injEq] at hs
      obtain ⟨rfl, rfl, rfl, rfl, rfl⟩ := hs
      have k2 : ∀ pc', (T[nx]?).map (fun e => e.2.1) = some pc' → W p l e R s m args below meth c H locs cells slots Q (F0 m pc' lsA (.ref (zad b0 sA x) :: st.map (zcv b0 sA vF))) := by
        intro pc' h3
        have k3 := kk H locs lsA pc' cells slots h3 hl hr hS (by simp) (by simp)
        rw [List.map_cons, show zcv b0 sA vF (zr x) = .ref (zad b0 sA x) by simp only [zcv]; rw [if_neg (by omega)]] at k3
        exact k3
      rcases hok with ((((⟨⟨⟨h1, h2⟩, h3⟩, h4⟩ | ⟨⟨h1, h2⟩, h3⟩) | ⟨⟨⟨h1, h2⟩, h3⟩, h4⟩) | ⟨⟨h1, h2⟩, h3⟩) | ⟨⟨⟨h1, h2⟩, h3⟩, h4⟩) | ⟨⟨h1, h2⟩, h3⟩
      · omega
      · omega
      · omega
      · omega
      · exact lv_aload_n hx hb h2 (by simp [Fin.ofNat]; omega) hat (k2 _ h3)
      · exact lv_aload hx hb h2 hat (k2 _ h3)
    · cases hs
  · cases hs
theorem zs_4 (F : zFr p R s m args meth c X b0 D cA sA vF Ts y cc nL fr lo) (hok : zokE y cc nL ret fr lo T (4, pc, nx, a, b, li) h = true) (hs : zstp X (4, pc, nx, a, b, li) ls st M K = some (.inl (nd', ls', st', M', K'))) (hl : lv_has lsA nL (zlv (zcv b0 sA vF) ls)) (hr : zrel b0 D cA M K H) (hS : va_S (zA0 b0) s.heap H locs) (hz : s.heap.size + cells = b0 + K.length) (hrm : cells + (K'.length - K.length) ≤ R.cells ∧ slots + (zsl K' - zsl K) ≤ R.slots) (kk : zKo p l e R s m args below meth c cells slots Q b0 D cA sA vF nL T K nd' ls' st' M' K') : W p l e R s m args below meth c H locs cells slots Q (F0 m pc lsA (st.map (zcv b0 sA vF))) := by
  obtain ⟨hx, hb, hml, hown, hts, hTs, hst, hb0, hmn, hfr, hlo⟩ := F
  have hcat := zcv_cat (b0 := b0) (sA := sA) hst.2.2.2.2.2.2.2.2.1
  simp only [zokE, zdc, znx, Bool.and_eq_true, Bool.or_eq_true, decide_eq_true_eq] at hok
  simp only [zstp, zgo] at hs
  split at hs
  · rename_i x st1
    split at hs
    · rename_i hbb
      simp only [Option.some.injEq, Sum.inl.injEq, Prod.mk.injEq] at hs
      obtain ⟨rfl, rfl, rfl, rfl, rfl⟩ := hs
      rcases hok with ((((⟨⟨⟨h1, h2⟩, h3⟩, h4⟩ | ⟨⟨⟨h1, h2⟩, h3⟩, h4⟩) | ⟨⟨⟨h1, h2⟩, h3⟩, h4⟩) | ⟨⟨⟨h1, h2⟩, h3⟩, h4⟩) | ⟨⟨⟨h1, h2⟩, h3⟩, h4⟩) | ⟨⟨⟨h1, h2⟩, h3⟩, h4⟩
      · exact lv_istore_n hx hb h2 (by simp [Fin.ofNat]; omega) hl h4.2 rfl (fun ls' hl' => kk _ _ _ _ _ _ h3 (zlv_sub hl' (fun q hq => zset_mem hcat hq)) hr hS (by simp) (by simp))
      · exact lv_istore hx hb h2 hl h4 rfl (fun ls' hl' => kk _ _ _ _ _ _ h3 (zlv_sub hl' (fun q hq => zset_mem hcat hq)) hr hS (by simp) (by simp))
      all_goals omega
    · cases hs
  · rename_i x st1
    split at hs
    · rename_i hbb
      simp only [Option.some.injEq, Sum.inl.injEq, Prod.mk.injEq] at hs
      obtain ⟨rfl, rfl, rfl, rfl, rfl⟩ := hs
      rcases hok with ((((⟨⟨⟨h1, h2⟩, h3⟩, h4⟩ | ⟨⟨⟨h1, h2⟩, h3⟩, h4⟩) | ⟨⟨⟨h1, h2⟩, h3⟩, h4⟩) | ⟨⟨⟨h1, h2⟩, h3⟩, h4⟩) | ⟨⟨⟨h1, h2⟩, h3⟩, h4⟩) | ⟨⟨⟨h1, h2⟩, h3⟩, h4⟩
      · omega
      · omega
      · exact lv_lstore_n hx hb h2 (by simp [Fin.ofNat]; omega) hl h4.2 rfl (fun ls' hl' => kk _ _ _ _ _ _ h3 (zlv_sub hl' (fun q hq => zset2_mem hcat hq)) hr hS (by simp) (by simp))
      · exact lv_lstore hx hb h2 hl h4 rfl (fun ls' hl' => kk _ _ _ _ _ _ h3 (zlv_sub hl' (fun q hq => zset2_mem hcat hq)) hr hS (by simp) (by simp))
      all_goals omega
    · cases hs
  · rename_i x st1
    split at hs
    · rename_i hbb
      simp only [Option.some.injEq, Sum.inl.injEq, Prod.mk.injEq] at hs
      obtain ⟨rfl, rfl, rfl, rfl, rfl⟩ := hs
      have ev : zcv b0 sA vF (zr x) = .ref (zad b0 sA x) := by simp only [zcv]; rw [if_neg (by omega)]
      rw [List.map_cons, ev]
      have k2 : ∀ q ∈ zlv (zcv b0 sA vF) (zset ls a.toNat (zr x)), q ∈ (a.toNat, Value.ref (zad b0 sA x)) :: (zlv (zcv b0 sA vF) ls).filter (fun q => !(q.1 == a.toNat) && !(q.1 + 1 == a.toNat && q.2.category == 2)) := by
        intro q hq
        have := zset_mem hcat hq
        rw [ev] at this
        exact this
      rcases hok with ((((⟨⟨⟨h1, h2⟩, h3⟩, h4⟩ | ⟨⟨⟨h1, h2⟩, h3⟩, h4⟩) | ⟨⟨⟨h1, h2⟩, h3⟩, h4⟩) | ⟨⟨⟨h1, h2⟩, h3⟩, h4⟩) | ⟨⟨⟨h1, h2⟩, h3⟩, h4⟩) | ⟨⟨⟨h1, h2⟩, h3⟩, h4⟩
      · omega
      · omega
      · omega
      · omega
      · exact lv_astore_n hx hb h2 (by simp [Fin.ofNat]; omega) hl h4.2 rfl (fun ls' hl' => kk _ _ _ _ _ _ h3 (zlv_sub hl' k2) hr hS (by simp) (by simp))
      · exact lv_astore hx hb h2 hl h4 rfl (fun ls' hl' => kk _ _ _ _ _ _ h3 (zlv_sub hl' k2) hr hS (by simp) (by simp))
    · cases hs
  · cases hs
theorem zs_5 (F : zFr p R s m args meth c X b0 D cA sA vF Ts y cc nL fr lo) (hok : zokE y cc nL ret fr lo T (5, pc, nx, a, b, li) h = true) (hs : zstp X (5, pc, nx, a, b, li) ls st M K = some (.inl (nd', ls', st', M', K'))) (hl : lv_has lsA nL (zlv (zcv b0 sA vF) ls)) (hr : zrel b0 D cA M K H) (hS : va_S (zA0 b0) s.heap H locs) (hz : s.heap.size + cells = b0 + K.length) (hrm : cells + (K'.length - K.length) ≤ R.cells ∧ slots + (zsl K' - zsl K) ≤ R.slots) (kk : zKo p l e R s m args below meth c cells slots Q b0 D cA sA vF nL T K nd' ls' st' M' K') : W p l e R s m args below meth c H locs cells slots Q (F0 m pc lsA (st.map (zcv b0 sA vF))) := by
  obtain ⟨hx, hb, hml, hown, hts, hTs, hst, hb0, hmn, hfr, hlo⟩ := F
  have hcat := zcv_cat (b0 := b0) (sA := sA) hst.2.2.2.2.2.2.2.2.1
  simp only [zokE, zdc, znx, Bool.and_eq_true, Bool.or_eq_true, decide_eq_true_eq] at hok
  simp only [zstp, zgo] at hs
  split at hs
  · rename_i x hx1
    simp only [Option.some.injEq, Sum.inl.injEq, Prod.mk.injEq] at hs
    obtain ⟨rfl, rfl, rfl, rfl, rfl⟩ := hs
    obtain ⟨⟨h1, h2⟩, h3⟩ := hok
    have hm : (a.toNat, zcv b0 sA vF (zi x)) ∈ zlv (zcv b0 sA vF) ls := zlv_mem.mpr ⟨zi x, hx1, by simp, rfl⟩
    obtain ⟨k, hk⟩ := List.getElem?_of_mem hm
    exact lv_iinc hx hb h1 hl hk (v := Int32.ofInt (x + b)) (Int32.ofInt_add x b).symm h3 rfl (fun ls' hl' => kk _ _ _ _ _ _ h2 (zlv_sub hl' (fun q hq => zset_mem (v := zi (x + b)) hcat hq)) hr hS (by simp) (by simp))
  · cases hs
end
