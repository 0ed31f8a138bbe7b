theorem zkd_at {K : zK} {r : Int} {q : Nat × Nat} (h : zkd K r = some q) : ∃ j : Nat, r = (j : Int) + 1 ∧ K[j]? = some q := by
  unfold zkd at h
  split at h
  · exact ⟨(r - 1).toNat, by omega, h⟩
  · cases h
theorem zln_at {K : zK} {kn : Nat} {r n : Int} (h : zln K kn r = some n) : ∃ j N : Nat, r = (j : Int) + 1 ∧ n = (N : Int) ∧ K[j]? = some (kn, N) := by
  unfold zln at h
  split at h
  · rename_i q hq
    split at h
    · rename_i hk
      obtain ⟨j, h1, h2⟩ := zkd_at hq
      cases h
      exact ⟨j, q.2, h1, rfl, by rw [h2, ← hk]⟩
    · cases h
  · cases h
theorem zga_at {K : zK} {M : zM} {kn : Nat} {r i x : Int} (h : zga K M kn r i = some x) : ∃ j N : Nat, r = (j : Int) + 1 ∧ K[j]? = some (kn, N) ∧ 0 ≤ zw i ∧ zw i < N ∧ x = M ((j : Int) + 1) (zw i) := by
  unfold zga at h
  split at h
  · rename_i n hn
    obtain ⟨j, N, rfl, rfl, h3⟩ := zln_at hn
    split at h
    · rename_i hc
      cases h
      exact ⟨j, N, rfl, h3, hc.1, hc.2, rfl⟩
    · cases h
  · cases h
theorem zpa_at {K : zK} {M M' : zM} {kn : Nat} {r i v : Int} (h : zpa K M kn r i v = some M') : ∃ j N : Nat, r = (j : Int) + 1 ∧ K[j]? = some (kn, N) ∧ 0 ≤ zw i ∧ zw i < N ∧ M' = zu M ((j : Int) + 1) (zw i) v := by
  unfold zpa at h
  split at h
  · rename_i n hn
    obtain ⟨j, N, rfl, rfl, h3⟩ := zln_at hn
    split at h
    · rename_i hc
      cases h
      exact ⟨j, N, rfl, h3, hc.1, hc.2, rfl⟩
    · cases h
  · cases h
theorem zcv_j {b0 : Nat} {sA : Int → Nat} {vF : Value} {j : Nat} : zcv b0 sA vF (Sum.inr (Sum.inr ((j : Int) + 1))) = .ref (b0 + j) := by
  simp only [zcv, zad]
  rw [if_neg (by omega), if_pos (by omega), show ((j : Int) + 1 - 1).toNat = j by omega]
theorem zcv_r {b0 : Nat} {sA : Int → Nat} {vF : Value} {x : Int} (h : 1 ≤ x) : zcv b0 sA vF (Sum.inr (Sum.inr x)) = .ref (b0 + (x - 1).toNat) := by
  simp only [zcv, zad]
  rw [if_neg (by omega), if_pos h]
theorem zlay_in {Ts : List Jvm.Cond} (hTs : ∀ w, w ∈ lw_tbl → goodWord w = true → w ∈ Ts) {ci : Nat} (h : ci < 13) : ∀ w ∈ u_ws (zCn.getD ci "") (zFT ci) (zN ci), w ∈ Ts := by
  intro w hw
  simp only [u_ws, List.mem_map, List.mem_range] at hw
  obtain ⟨k, hk, rfl⟩ := hw
  exact hTs _ (zlay_ok ci h k hk).1 (zlay_ok ci h k hk).2
theorem zobj_at {b0 : Nat} {cA : Nat → ClassId} {M : zM} {K : zK} {j ci N : Nat} (h : K[j]? = some (ci, N)) (hc : ci < 13) : (zws b0 cA M K)[j]? = some (b0 + j, .inr (ci, (List.range N).map fun (k : Nat) => zfv b0 (zFI ci k) (M ((j : Int) + 1) (k : Int)))) := by
  rw [zws_at h, zcell, if_pos hc]
theorem zfs_at {b0 : Nat} {ci N k : Nat} {M : zM} {r : Int} (h : k < N) : ((List.range N).map fun (k : Nat) => zfv b0 (zFI ci k) (M r (k : Int)))[k]? = some (zfv b0 (zFI ci k) (M r (k : Int))) := by
  rw [List.getElem?_map, List.getElem?_range h]; rfl
theorem zu_o {M : zM} {i j : Nat} {b v k : Int} (h : i ≠ j) : zu M ((j : Int) + 1) b v ((i : Int) + 1) k = M ((i : Int) + 1) k := by
  unfold zu
  rw [if_neg (by omega)]
theorem zu_k {M : zM} {r b v k : Int} (h : k ≠ b) : zu M r b v r k = M r k := by
  unfold zu
  rw [if_neg (fun q => h q.2)]
theorem zu_s {M : zM} {r b v : Int} : zu M r b v r b = v := by
  unfold zu
  rw [if_pos ⟨rfl, rfl⟩]
theorem zrange_set {α : Type} {N k : Nat} {f f' : Nat → α} {x : α} (hk : k < N) (h1 : x = f' k) (h2 : ∀ i, i ≠ k → f i = f' i) : ((List.range N).map f).set k x = (List.range N).map f' := by
  apply List.ext_getElem?
  intro i
  by_cases hi : i < N
  · by_cases hik : i = k
    · subst hik
      rw [List.getElem?_set_self (by simpa using hi), List.getElem?_map, List.getElem?_range hi, h1]; rfl
    · rw [List.getElem?_set_ne (Ne.symm hik), List.getElem?_map, List.getElem?_map, List.getElem?_range hi]
      show some (f i) = some (f' i)
      rw [h2 i hik]
  · rw [List.getElem?_eq_none (by simp; omega), List.getElem?_eq_none (by simp; omega)]
def zisr : FieldType → Bool
  | .array _ => true
  | .object _ => true
  | _ => false
theorem zfty_ref : ∀ ci, ci < 13 → ∀ k, k < zN ci → zFI ci k = false → zisr (zfty ci k) = true := by decide +kernel
theorem zref_nar {ty : FieldType} (h : zisr ty = true) (a : Nat) : narrow ty (.ref a) = .ref a ∧ fits ty (.ref a) = true ∧ defaultValue ty = .null := by
  cases ty <;> first | exact ⟨rfl, rfl, rfl⟩ | (simp [zisr] at h)
theorem zcell_100 {b0 : Nat} {cA : Nat → ClassId} {M : zM} {j N : Nat} : zcell b0 cA M j (100, N) = .inl (cA 100, N, .inl fun (i : Nat) => Int32.ofInt (M ((j : Int) + 1) (i : Int))) := rfl
theorem zcell_101 {b0 : Nat} {cA : Nat → ClassId} {M : zM} {j N : Nat} : zcell b0 cA M j (101, N) = .inl (cA 101, N, .inl fun (i : Nat) => Int32.ofInt (M ((j : Int) + 1) (i : Int))) := rfl
theorem zcell_102 {b0 : Nat} {cA : Nat → ClassId} {M : zM} {j N : Nat} : zcell b0 cA M j (102, N) = .inl (cA 102, N, .inr (.inl fun (i : Nat) => Int64.ofInt (M ((j : Int) + 1) (i : Int)))) := rfl
theorem zcell_6 {b0 : Nat} {cA : Nat → ClassId} {M : zM} {j N : Nat} : zcell b0 cA M j (Int.toNat 103, N) = .inl (cA (Int.toNat 103), N, .inr (.inr (.inr (.inr fun (i : Nat) => zrf b0 (M ((j : Int) + 1) (i : Int)))))) := rfl
theorem zcell_7 {b0 : Nat} {cA : Nat → ClassId} {M : zM} {j N : Nat} : zcell b0 cA M j (Int.toNat 104, N) = .inl (cA (Int.toNat 104), N, .inr (.inr (.inr (.inr fun (i : Nat) => zrf b0 (M ((j : Int) + 1) (i : Int)))))) := rfl
theorem zW_size {p : Program} {l : Launch} {e : Env} {R : Room} {s : State} {m : MethodId} {args : Array Value} {below : List Frame} {meth : Method} {c : Code} {H : Heap} {locs : List Loc} {cells slots : Nat} {Q : State → Prop} {g : JFrame} (k : H.size ≤ s.heap.size + cells → W p l e R s m args below meth c H locs cells slots Q g) : W p l e R s m args below meth c H locs cells slots Q g := fun T hT X => k (by rw [← hT]; exact X.same.2.2.1) T hT X
section
variable {p : Program} {l : Launch} {e : Env} {R : Room} {s : State} {m : MethodId} {args : Array Value} {below : List Frame} {meth : Method} {c : Code} {H : Heap} {locs : List Loc} {cells slots : Nat} {Q : State → Prop}
variable {X : Int × (Int → Int)} {b0 : Nat} {D : va_G} {cA : Nat → ClassId} {sA : Int → Nat} {vF : Value} {Ts : List Jvm.Cond} {y : MethodName} {cc : ByteArray} {nL : Nat} {ret : Option FieldType} {fr lo : Nat} {T : List zE} {pc nx : Nat} {a b : Int} {li : List Int} {h : List Nat} {ls st ls' st' : List zV} {M M' : zM} {K K' : zK} {nd' : Nat} {lsA : Array Slot}
theorem zs_20 (F : zFr p R s m args meth c X b0 D cA sA vF Ts y cc nL fr lo) (hok : zokE y cc nL ret fr lo T (20, pc, nx, a, b, li) h = true) (hs : zstp X (20, pc, nx, a, b, li) ls st M K = some (.inl (nd', ls', st', M', K'))) (hl : lv_has lsA nL (zlv (zcv b0 sA vF) ls)) (hr : zrel b0 D cA M K H) (hS : va_S (zA0 b0) s.heap H locs) (hz : s.heap.size + cells = b0 + K.length) (hrm : cells + (K'.length - K.length) ≤ R.cells ∧ slots + (zsl K' - zsl K) ≤ R.slots) (kk : zKo p l e R s m args below meth c cells slots Q b0 D cA sA vF nL T K nd' ls' st' M' K') : W p l e R s m args below meth c H locs cells slots Q (F0 m pc lsA (st.map (zcv b0 sA vF))) := by
  obtain ⟨hx, hb, hml, hown, hts, hTs, hst, hb0, hmn, hfr, hlo⟩ := F
  have hcat := zcv_cat (b0 := b0) (sA := sA) hst.2.2.2.2.2.2.2.2.1
  simp only [zokE, zdc, znx, Bool.and_eq_true, Bool.or_eq_true, decide_eq_true_eq] at hok
  simp only [zstp, zgo] at hs
  obtain ⟨⟨⟨⟨h0, h2⟩, h3⟩, h4⟩, h5⟩ := hok
  obtain ⟨g1, g2, g3, g4, g5⟩ := h4
  split at hs
  · rename_i r st1
    simp only [zgf, g3] at hs
    split at hs
    · rename_i hkd
      simp only [Option.bind_some] at hs
      obtain ⟨j, rfl, hj⟩ := zkd_at hkd
      simp only [Option.some.injEq, Sum.inl.injEq, Prod.mk.injEq] at hs
      obtain ⟨rfl, rfl, rfl, rfl, rfl⟩ := hs
      have k1 := kk H locs lsA (pc + 3) cells slots h0 hl hr hS (by simp) (by simp)
      rw [List.map_cons, zcv_j]
      refine va_get hx hb hts (zlay_in hTs g2) hown hst.1 hr j (zobj_at hj g2) (zCl_at _ g2) b.toNat g5 (zin_b h3 hts hTs) (fun x q => q) (v := .int (Int32.ofInt (M ((j : Int) + 1) b))) ?_ h2 k1
      rw [zfs_at g5, zfv, if_pos h5, Int.toNat_of_nonneg g4]
    · cases hs
  · cases hs
theorem zs_21 (F : zFr p R s m args meth c X b0 D cA sA vF Ts y cc nL fr lo) (hok : zokE y cc nL ret fr lo T (21, pc, nx, a, b, li) h = true) (hs : zstp X (21, pc, nx, a, b, li) ls st M K = some (.inl (nd', ls', st', M', K'))) (hl : lv_has lsA nL (zlv (zcv b0 sA vF) ls)) (hr : zrel b0 D cA M K H) (hS : va_S (zA0 b0) s.heap H locs) (hz : s.heap.size + cells = b0 + K.length) (hrm : cells + (K'.length - K.length) ≤ R.cells ∧ slots + (zsl K' - zsl K) ≤ R.slots) (kk : zKo p l e R s m args below meth c cells slots Q b0 D cA sA vF nL T K nd' ls' st' M' K') : W p l e R s m args below meth c H locs cells slots Q (F0 m pc lsA (st.map (zcv b0 sA vF))) := by
  obtain ⟨hx, hb, hml, hown, hts, hTs, hst, hb0, hmn, hfr, hlo⟩ := F
  have hcat := zcv_cat (b0 := b0) (sA := sA) hst.2.2.2.2.2.2.2.2.1
  simp only [zokE, zdc, znx, Bool.and_eq_true, Bool.or_eq_true, decide_eq_true_eq] at hok
  simp only [zstp, zgo] at hs
  obtain ⟨⟨⟨⟨h0, h2⟩, h3⟩, h4⟩, h5⟩ := hok
  obtain ⟨g1, g2, g3, g4, g5⟩ := h4
  split at hs
  · rename_i r st1
    simp only [zgr, g3] at hs
    split at hs
    · rename_i hkd
      obtain ⟨hkd, hge⟩ := hkd
      simp only [Option.bind_some] at hs
      obtain ⟨j, rfl, hj⟩ := zkd_at hkd
      simp only [Option.some.injEq, Sum.inl.injEq, Prod.mk.injEq] at hs
      obtain ⟨rfl, rfl, rfl, rfl, rfl⟩ := hs
      have k1 := kk H locs lsA (pc + 3) cells slots h0 hl hr hS (by simp) (by simp)
      rw [List.map_cons, zcv_r hge] at k1
      rw [List.map_cons, zcv_j]
      refine va_get hx hb hts (zlay_in hTs g2) hown hst.1 hr j (zobj_at hj g2) (zCl_at _ g2) b.toNat g5 (zin_b h3 hts hTs) (fun x q => q) (v := .ref (b0 + (M ((j : Int) + 1) b - 1).toNat)) ?_ h2 k1
      simp only [Bool.not_eq_true'] at h5
      rw [zfs_at g5, zfv, h5, if_neg (by simp), Int.toNat_of_nonneg g4, zrf, if_pos hge]
      rfl
    · cases hs
  · cases hs
theorem zs_22 (F : zFr p R s m args meth c X b0 D cA sA vF Ts y cc nL fr lo) (hok : zokE y cc nL ret fr lo T (22, pc, nx, a, b, li) h = true) (hs : zstp X (22, pc, nx, a, b, li) ls st M K = some (.inl (nd', ls', st', M', K'))) (hl : lv_has lsA nL (zlv (zcv b0 sA vF) ls)) (hr : zrel b0 D cA M K H) (hS : va_S (zA0 b0) s.heap H locs) (hz : s.heap.size + cells = b0 + K.length) (hrm : cells + (K'.length - K.length) ≤ R.cells ∧ slots + (zsl K' - zsl K) ≤ R.slots) (kk : zKo p l e R s m args below meth c cells slots Q b0 D cA sA vF nL T K nd' ls' st' M' K') : W p l e R s m args below meth c H locs cells slots Q (F0 m pc lsA (st.map (zcv b0 sA vF))) := by
  obtain ⟨hx, hb, hml, hown, hts, hTs, hst, hb0, hmn, hfr, hlo⟩ := F
  have hcat := zcv_cat (b0 := b0) (sA := sA) hst.2.2.2.2.2.2.2.2.1
  simp only [zokE, zdc, znx, Bool.and_eq_true, Bool.or_eq_true, decide_eq_true_eq] at hok
  simp only [zstp, zgo] at hs
  obtain ⟨⟨⟨⟨⟨h0, h2⟩, h3⟩, h4⟩, h5⟩, h6⟩ := hok
  obtain ⟨g1, g2, g3, g4, g5⟩ := h4
  split at hs
  · rename_i v r st1
    simp only [zpf, g3] at hs
    split at hs
    · rename_i hkd
      simp only [Option.bind_some] at hs
      obtain ⟨j, rfl, hj⟩ := zkd_at hkd
      simp only [Option.some.injEq, Sum.inl.injEq, Prod.mk.injEq] at hs
      obtain ⟨rfl, rfl, rfl, rfl, rfl⟩ := hs
      rw [List.map_cons, List.map_cons, zcv_j]
      refine va_put hx hb hts (zlay_in hTs g2) (zfty a.toNat) (zfty_ok _ g2) (znm_ok _ g2) hown hst.1 hr zws_D hS j (zobj_at hj g2) (zCl_at _ g2) b.toNat g5 (zin_b h3 hts hTs) (fun x q => q) h6 (ty := .int) (v := .int (Int32.ofInt v)) (by rw [zfty_ok _ g2 _ g5, zfty_int _ g2 _ g5 h5]) rfl rfl (by simpa using g5) h2 (fun H1 locs1 hP1 hD1 hS1 => ?_)
      refine kk H1 locs1 lsA (pc + 3) cells slots h0 hl ?_ hS1 (by simp) (by simp)
      rw [zws_set hj (M' := zu M ((j : Int) + 1) b v) ?_ (fun i hi k => zu_o hi)] at hP1
      · exact hP1
      · rw [zcell, if_pos g2]
        refine congrArg Sum.inr (congrArg (Prod.mk _) ?_)
        refine zrange_set g5 ?_ (fun i hi => ?_)
        · rw [zfv, if_pos h5, Int.toNat_of_nonneg g4, zu_s]
        · rw [zu_k (by omega)]
    · cases hs
  · cases hs
theorem zs_23 (F : zFr p R s m args meth c X b0 D cA sA vF Ts y cc nL fr lo) (hok : zokE y cc nL ret fr lo T (23, pc, nx, a, b, li) h = true) (hs : zstp X (23, pc, nx, a, b, li) ls st M K = some (.inl (nd', ls', st', M', K'))) (hl : lv_has lsA nL (zlv (zcv b0 sA vF) ls)) (hr : zrel b0 D cA M K H) (hS : va_S (zA0 b0) s.heap H locs) (hz : s.heap.size + cells = b0 + K.length) (hrm : cells + (K'.length - K.length) ≤ R.cells ∧ slots + (zsl K' - zsl K) ≤ R.slots) (kk : zKo p l e R s m args below meth c cells slots Q b0 D cA sA vF nL T K nd' ls' st' M' K') : W p l e R s m args below meth c H locs cells slots Q (F0 m pc lsA (st.map (zcv b0 sA vF))) := by
  obtain ⟨hx, hb, hml, hown, hts, hTs, hst, hb0, hmn, hfr, hlo⟩ := F
  have hcat := zcv_cat (b0 := b0) (sA := sA) hst.2.2.2.2.2.2.2.2.1
  simp only [zokE, zdc, znx, Bool.and_eq_true, Bool.or_eq_true, decide_eq_true_eq] at hok
  simp only [zstp, zgo] at hs
  obtain ⟨⟨⟨⟨⟨h0, h2⟩, h3⟩, h4⟩, h5⟩, h6⟩ := hok
  obtain ⟨g1, g2, g3, g4, g5⟩ := h4
  split at hs
  · rename_i v r st1
    split at hs
    · rename_i hv
      simp only [zpf, g3] at hs
      split at hs
      · rename_i hkd
        simp only [Option.bind_some] at hs
        obtain ⟨j, rfl, hj⟩ := zkd_at hkd
        simp only [Option.some.injEq, Sum.inl.injEq, Prod.mk.injEq] at hs
        obtain ⟨rfl, rfl, rfl, rfl, rfl⟩ := hs
        rw [List.map_cons, List.map_cons, zcv_j, zcv_r hv]
        simp only [Bool.not_eq_true'] at h5
        have hty := zref_nar (zfty_ref _ g2 _ g5 h5) (b0 + (v - 1).toNat)
        rcases h6 with h6 | ⟨h6, h7, h8⟩
        · refine va_put hx hb hts (zlay_in hTs g2) (zfty a.toNat) (zfty_ok _ g2) (znm_ok _ g2) hown hst.1 hr zws_D hS j (zobj_at hj g2) (zCl_at _ g2) b.toNat g5 (zin_b h3 hts hTs) (fun x q => q) h6 (ty := zfty a.toNat b.toNat) (zfty_ok _ g2 _ g5) hty.1 hty.2.1 (by simpa using g5) h2 (fun H1 locs1 hP1 hD1 hS1 => ?_)
          refine kk H1 locs1 lsA (pc + 3) cells slots h0 hl ?_ hS1 (by simp) (by simp)
          rw [zws_set hj (M' := zu M ((j : Int) + 1) b v) ?_ (fun i hi k => zu_o hi)] at hP1
          · exact hP1
          · rw [zcell, if_pos g2]
            refine congrArg Sum.inr (congrArg (Prod.mk _) ?_)
            refine zrange_set g5 ?_ (fun i hi => ?_)
            · rw [zfv, h5, if_neg (by simp), Int.toNat_of_nonneg g4, zu_s, zrf, if_pos hv]
              rfl
            · rw [zu_k (by omega)]
        · refine va_putF hx hb hts (zlay_in hTs g2) (zfty a.toNat) (zfty_ok _ g2) (znm_ok _ g2) hown hst.1 hr zws_D hS j (zobj_at hj g2) (zCl_at _ g2) b.toNat g5 (zin_b h3 hts hTs) (fun x q => q) h6 (hmn h7) h8 (ty := zfty a.toNat b.toNat) (zfty_ok _ g2 _ g5) hty.1 hty.2.1 (by simpa using g5) h2 (fun H1 locs1 hP1 hD1 hS1 => ?_)
          refine kk H1 locs1 lsA (pc + 3) cells slots h0 hl ?_ hS1 (by simp) (by simp)
          rw [zws_set hj (M' := zu M ((j : Int) + 1) b v) ?_ (fun i hi k => zu_o hi)] at hP1
          · exact hP1
          · rw [zcell, if_pos g2]
            refine congrArg Sum.inr (congrArg (Prod.mk _) ?_)
            refine zrange_set g5 ?_ (fun i hi => ?_)
            · rw [zfv, h5, if_neg (by simp), Int.toNat_of_nonneg g4, zu_s, zrf, if_pos hv]
              rfl
            · rw [zu_k (by omega)]
      · cases hs
    · cases hs
  · cases hs
theorem zs_24 (F : zFr p R s m args meth c X b0 D cA sA vF Ts y cc nL fr lo) (hok : zokE y cc nL ret fr lo T (24, pc, nx, a, b, li) h = true) (hs : zstp X (24, pc, nx, a, b, li) ls st M K = some (.inl (nd', ls', st', M', K'))) (hl : lv_has lsA nL (zlv (zcv b0 sA vF) ls)) (hr : zrel b0 D cA M K H) (hS : va_S (zA0 b0) s.heap H locs) (hz : s.heap.size + cells = b0 + K.length) (hrm : cells + (K'.length - K.length) ≤ R.cells ∧ slots + (zsl K' - zsl K) ≤ R.slots) (kk : zKo p l e R s m args below meth c cells slots Q b0 D cA sA vF nL T K nd' ls' st' M' K') : W p l e R s m args below meth c H locs cells slots Q (F0 m pc lsA (st.map (zcv b0 sA vF))) := by
  obtain ⟨hx, hb, hml, hown, hts, hTs, hst, hb0, hmn, hfr, hlo⟩ := F
  have hcat := zcv_cat (b0 := b0) (sA := sA) hst.2.2.2.2.2.2.2.2.1
  simp only [zokE, zdc, znx, Bool.and_eq_true, Bool.or_eq_true, decide_eq_true_eq] at hok
  simp only [zstp, zgo] at hs
  split at hs
  · rename_i i r st1
    cases hg : zga K M 100 r i with
    | none => rw [hg] at hs; cases hs
    | some v =>
      rw [hg] at hs
      simp only [Option.bind_some] at hs
      obtain ⟨j, N, rfl, hj, h3, h4, rfl⟩ := zga_at hg
      simp only [Option.some.injEq, Sum.inl.injEq, Prod.mk.injEq] at hs
      obtain ⟨rfl, rfl, rfl, rfl, rfl⟩ := hs
      have k1 := kk H locs lsA (pc + 1) cells slots hok.1 hl hr hS (by simp) (by simp)
      rw [List.map_cons, List.map_cons, zcv_j]
      refine va_iald hx hb hst.1 hr j 0 (zws_at hj) rfl (i := Int32.ofInt i) ((z32_in i N).mpr ⟨h3, h4⟩) hok.2 ?_
      rw [z32_cl, Int.toNat_of_nonneg h3]
      exact k1
  · cases hs
theorem zs_25 (F : zFr p R s m args meth c X b0 D cA sA vF Ts y cc nL fr lo) (hok : zokE y cc nL ret fr lo T (25, pc, nx, a, b, li) h = true) (hs : zstp X (25, pc, nx, a, b, li) ls st M K = some (.inl (nd', ls', st', M', K'))) (hl : lv_has lsA nL (zlv (zcv b0 sA vF) ls)) (hr : zrel b0 D cA M K H) (hS : va_S (zA0 b0) s.heap H locs) (hz : s.heap.size + cells = b0 + K.length) (hrm : cells + (K'.length - K.length) ≤ R.cells ∧ slots + (zsl K' - zsl K) ≤ R.slots) (kk : zKo p l e R s m args below meth c cells slots Q b0 D cA sA vF nL T K nd' ls' st' M' K') : W p l e R s m args below meth c H locs cells slots Q (F0 m pc lsA (st.map (zcv b0 sA vF))) := by
  obtain ⟨hx, hb, hml, hown, hts, hTs, hst, hb0, hmn, hfr, hlo⟩ := F
  have hcat := zcv_cat (b0 := b0) (sA := sA) hst.2.2.2.2.2.2.2.2.1
  simp only [zokE, zdc, znx, Bool.and_eq_true, Bool.or_eq_true, decide_eq_true_eq] at hok
  simp only [zstp, zgo] at hs
  split at hs
  · rename_i i r st1
    cases hg : zga K M 101 r i with
    | none => rw [hg] at hs; cases hs
    | some v =>
      rw [hg] at hs
      simp only [Option.bind_some] at hs
      obtain ⟨j, N, rfl, hj, h3, h4, rfl⟩ := zga_at hg
      simp only [Option.some.injEq, Sum.inl.injEq, Prod.mk.injEq] at hs
      obtain ⟨rfl, rfl, rfl, rfl, rfl⟩ := hs
      have k1 := kk H locs lsA (pc + 1) cells slots hok.1 hl hr hS (by simp) (by simp)
      rw [List.map_cons, List.map_cons, zcv_j]
      refine va_bald hx hb hst.1 hr j 1 (zws_at hj) rfl (i := Int32.ofInt i) ((z32_in i N).mpr ⟨h3, h4⟩) hok.2 ?_
      rw [z32_cl, Int.toNat_of_nonneg h3]
      exact k1
  · cases hs
theorem zs_26 (F : zFr p R s m args meth c X b0 D cA sA vF Ts y cc nL fr lo) (hok : zokE y cc nL ret fr lo T (26, pc, nx, a, b, li) h = true) (hs : zstp X (26, pc, nx, a, b, li) ls st M K = some (.inl (nd', ls', st', M', K'))) (hl : lv_has lsA nL (zlv (zcv b0 sA vF) ls)) (hr : zrel b0 D cA M K H) (hS : va_S (zA0 b0) s.heap H locs) (hz : s.heap.size + cells = b0 + K.length) (hrm : cells + (K'.length - K.length) ≤ R.cells ∧ slots + (zsl K' - zsl K) ≤ R.slots) (kk : zKo p l e R s m args below meth c cells slots Q b0 D cA sA vF nL T K nd' ls' st' M' K') : W p l e R s m args below meth c H locs cells slots Q (F0 m pc lsA (st.map (zcv b0 sA vF))) := by
  obtain ⟨hx, hb, hml, hown, hts, hTs, hst, hb0, hmn, hfr, hlo⟩ := F
  have hcat := zcv_cat (b0 := b0) (sA := sA) hst.2.2.2.2.2.2.2.2.1
  simp only [zokE, zdc, znx, Bool.and_eq_true, Bool.or_eq_true, decide_eq_true_eq] at hok
  simp only [zstp, zgo] at hs
  split at hs
  · rename_i i r st1
    cases hg : zga K M 102 r i with
    | none => rw [hg] at hs; cases hs
    | some v =>
      rw [hg] at hs
      simp only [Option.bind_some] at hs
      obtain ⟨j, N, rfl, hj, h3, h4, rfl⟩ := zga_at hg
      simp only [Option.some.injEq, Sum.inl.injEq, Prod.mk.injEq] at hs
      obtain ⟨rfl, rfl, rfl, rfl, rfl⟩ := hs
      have k1 := kk H locs lsA (pc + 1) cells slots hok.1 hl hr hS (by simp) (by simp)
      rw [List.map_cons, List.map_cons, zcv_j]
      refine va_lald hx hb hst.1 hr j 2 (zws_at hj) rfl (i := Int32.ofInt i) ((z32_in i N).mpr ⟨h3, h4⟩) hok.2 ?_
      rw [z32_cl, Int.toNat_of_nonneg h3]
      exact k1
  · cases hs
theorem zs_27 (F : zFr p R s m args meth c X b0 D cA sA vF Ts y cc nL fr lo) (hok : zokE y cc nL ret fr lo T (27, pc, nx, a, b, li) h = true) (hs : zstp X (27, pc, nx, a, b, li) ls st M K = some (.inl (nd', ls', st', M', K'))) (hl : lv_has lsA nL (zlv (zcv b0 sA vF) ls)) (hr : zrel b0 D cA M K H) (hS : va_S (zA0 b0) s.heap H locs) (hz : s.heap.size + cells = b0 + K.length) (hrm : cells + (K'.length - K.length) ≤ R.cells ∧ slots + (zsl K' - zsl K) ≤ R.slots) (kk : zKo p l e R s m args below meth c cells slots Q b0 D cA sA vF nL T K nd' ls' st' M' K') : W p l e R s m args below meth c H locs cells slots Q (F0 m pc lsA (st.map (zcv b0 sA vF))) := by
  obtain ⟨hx, hb, hml, hown, hts, hTs, hst, hb0, hmn, hfr, hlo⟩ := F
  have hcat := zcv_cat (b0 := b0) (sA := sA) hst.2.2.2.2.2.2.2.2.1
  simp only [zokE, zdc, znx, Bool.and_eq_true, Bool.or_eq_true, decide_eq_true_eq] at hok
  simp only [zstp, zgo] at hs
  obtain ⟨⟨h0, h2⟩, h5⟩ := hok
  split at hs
  · rename_i i r st1
    cases hg : zga K M a.toNat r i with
    | none => simp [zgq, hg] at hs
    | some v =>
      simp only [zgq, hg] at hs
      split at hs
      · rename_i hv
        simp only [Option.bind_some] at hs
        obtain ⟨j, N, rfl, hj, h3, h4, rfl⟩ := zga_at hg
        simp only [Option.some.injEq, Sum.inl.injEq, Prod.mk.injEq] at hs
        obtain ⟨rfl, rfl, rfl, rfl, rfl⟩ := hs
        have k1 := kk H locs lsA (pc + 1) cells slots h0 hl hr hS (by simp) (by simp)
        rw [List.map_cons, zcv_r hv] at k1
        rw [List.map_cons, List.map_cons, zcv_j]
        have kv : va_rf (zrf b0 (M ((j : Int) + 1) (zw i))) = .ref (b0 + (M ((j : Int) + 1) (zw i) - 1).toNat) := by rw [zrf, if_pos hv]; rfl
        rcases h5 with rfl | rfl
        · refine va_aldq hx hb hst.1 hr j 3 (zws_at hj) rfl (i := Int32.ofInt i) ((z32_in i N).mpr ⟨h3, h4⟩) h2 ?_
          rw [z32_cl, Int.toNat_of_nonneg h3, kv]
          exact k1
        · refine va_aldq hx hb hst.1 hr j 4 (zws_at hj) rfl (i := Int32.ofInt i) ((z32_in i N).mpr ⟨h3, h4⟩) h2 ?_
          rw [z32_cl, Int.toNat_of_nonneg h3, kv]
          exact k1
      · cases hs
  · cases hs
theorem zs_28 (F : zFr p R s m args meth c X b0 D cA sA vF Ts y cc nL fr lo) (hok : zokE y cc nL ret fr lo T (28, pc, nx, a, b, li) h = true) (hs : zstp X (28, pc, nx, a, b, li) ls st M K = some (.inl (nd', ls', st', M', K'))) (hl : lv_has lsA nL (zlv (zcv b0 sA vF) ls)) (hr : zrel b0 D cA M K H) (hS : va_S (zA0 b0) s.heap H locs) (hz : s.heap.size + cells = b0 + K.length) (hrm : cells + (K'.length - K.length) ≤ R.cells ∧ slots + (zsl K' - zsl K) ≤ R.slots) (kk : zKo p l e R s m args below meth c cells slots Q b0 D cA sA vF nL T K nd' ls' st' M' K') : W p l e R s m args below meth c H locs cells slots Q (F0 m pc lsA (st.map (zcv b0 sA vF))) := by
  obtain ⟨hx, hb, hml, hown, hts, hTs, hst, hb0, hmn, hfr, hlo⟩ := F
  have hcat := zcv_cat (b0 := b0) (sA := sA) hst.2.2.2.2.2.2.2.2.1
  simp only [zokE, zdc, znx, Bool.and_eq_true, Bool.or_eq_true, decide_eq_true_eq] at hok
  simp only [zstp, zgo] at hs
  split at hs
  · rename_i v i r st1
    cases hg : zpa K M 100 r i v with
    | none => rw [hg] at hs; cases hs
    | some M1 =>
      rw [hg] at hs
      simp only [Option.bind_some] at hs
      obtain ⟨j, N, rfl, hj, h3, h4, rfl⟩ := zpa_at hg
      simp only [Option.some.injEq, Sum.inl.injEq, Prod.mk.injEq] at hs
      obtain ⟨rfl, rfl, rfl, rfl, rfl⟩ := hs
      rw [List.map_cons, List.map_cons, List.map_cons, zcv_j]
      refine va_iast hx hb hst.1 hr zws_D hS j 0 (zws_at hj) rfl (i := Int32.ofInt i) ((z32_in i N).mpr ⟨h3, h4⟩) hok.2 (fun H1 locs1 hP1 hD1 hS1 => ?_)
      refine kk H1 locs1 lsA (pc + 1) cells slots hok.1 hl ?_ hS1 (by simp) (by simp)
      rw [zws_set hj (M' := zu M ((j : Int) + 1) (zw i) v) ?_ (fun i hi k => zu_o hi)] at hP1
      · exact hP1
      · rw [zcell_100]
        refine congrArg Sum.inl (congrArg (Prod.mk _) (congrArg (Prod.mk _) ?_))
        refine congrArg Sum.inl ?_
        funext q
        rw [z32_cl]
        by_cases hq : q = (zw i).toNat
        · subst hq
          simp only [upd, if_pos, Int.toNat_of_nonneg h3, zu_s]
        · rw [zu_k (by omega)]
          simp only [upd, if_neg hq]
  · cases hs
theorem zs_29 (F : zFr p R s m args meth c X b0 D cA sA vF Ts y cc nL fr lo) (hok : zokE y cc nL ret fr lo T (29, pc, nx, a, b, li) h = true) (hs : zstp X (29, pc, nx, a, b, li) ls st M K = some (.inl (nd', ls', st', M', K'))) (hl : lv_has lsA nL (zlv (zcv b0 sA vF) ls)) (hr : zrel b0 D cA M K H) (hS : va_S (zA0 b0) s.heap H locs) (hz : s.heap.size + cells = b0 + K.length) (hrm : cells + (K'.length - K.length) ≤ R.cells ∧ slots + (zsl K' - zsl K) ≤ R.slots) (kk : zKo p l e R s m args below meth c cells slots Q b0 D cA sA vF nL T K nd' ls' st' M' K') : W p l e R s m args below meth c H locs cells slots Q (F0 m pc lsA (st.map (zcv b0 sA vF))) := by
  obtain ⟨hx, hb, hml, hown, hts, hTs, hst, hb0, hmn, hfr, hlo⟩ := F
  have hcat := zcv_cat (b0 := b0) (sA := sA) hst.2.2.2.2.2.2.2.2.1
  simp only [zokE, zdc, znx, Bool.and_eq_true, Bool.or_eq_true, decide_eq_true_eq] at hok
  simp only [zstp, zgo] at hs
  split at hs
  · rename_i v i r st1
    cases hg : zpa K M 101 r i (zb8 v) with
    | none => rw [hg] at hs; cases hs
    | some M1 =>
      rw [hg] at hs
      simp only [Option.bind_some] at hs
      obtain ⟨j, N, rfl, hj, h3, h4, rfl⟩ := zpa_at hg
      simp only [Option.some.injEq, Sum.inl.injEq, Prod.mk.injEq] at hs
      obtain ⟨rfl, rfl, rfl, rfl, rfl⟩ := hs
      rw [List.map_cons, List.map_cons, List.map_cons, zcv_j]
      refine va_bast hx hb hst.1 hr zws_D hS j 1 (zws_at hj) rfl (i := Int32.ofInt i) ((z32_in i N).mpr ⟨h3, h4⟩) hok.2 (fun H1 locs1 hP1 hD1 hS1 => ?_)
      refine kk H1 locs1 lsA (pc + 1) cells slots hok.1 hl ?_ hS1 (by simp) (by simp)
      rw [zws_set hj (M' := zu M ((j : Int) + 1) (zw i) (zb8 v)) ?_ (fun i hi k => zu_o hi)] at hP1
      · exact hP1
      · rw [zcell_101]
        refine congrArg Sum.inl (congrArg (Prod.mk _) (congrArg (Prod.mk _) ?_))
        refine congrArg Sum.inl ?_
        funext q
        rw [z32_cl]
        by_cases hq : q = (zw i).toNat
        · subst hq
          simp only [upd, if_pos, Int.toNat_of_nonneg h3, zu_s, vp_nar_byte, z_i2b]
        · rw [zu_k (by omega)]
          simp only [upd, if_neg hq]
  · cases hs
theorem zs_30 (F : zFr p R s m args meth c X b0 D cA sA vF Ts y cc nL fr lo) (hok : zokE y cc nL ret fr lo T (30, pc, nx, a, b, li) h = true) (hs : zstp X (30, pc, nx, a, b, li) ls st M K = some (.inl (nd', ls', st', M', K'))) (hl : lv_has lsA nL (zlv (zcv b0 sA vF) ls)) (hr : zrel b0 D cA M K H) (hS : va_S (zA0 b0) s.heap H locs) (hz : s.heap.size + cells = b0 + K.length) (hrm : cells + (K'.length - K.length) ≤ R.cells ∧ slots + (zsl K' - zsl K) ≤ R.slots) (kk : zKo p l e R s m args below meth c cells slots Q b0 D cA sA vF nL T K nd' ls' st' M' K') : W p l e R s m args below meth c H locs cells slots Q (F0 m pc lsA (st.map (zcv b0 sA vF))) := by
  obtain ⟨hx, hb, hml, hown, hts, hTs, hst, hb0, hmn, hfr, hlo⟩ := F
  have hcat := zcv_cat (b0 := b0) (sA := sA) hst.2.2.2.2.2.2.2.2.1
  simp only [zokE, zdc, znx, Bool.and_eq_true, Bool.or_eq_true, decide_eq_true_eq] at hok
  simp only [zstp, zgo] at hs
  split at hs
  · rename_i v i r st1
    cases hg : zpa K M 102 r i v with
    | none => rw [hg] at hs; cases hs
    | some M1 =>
      rw [hg] at hs
      simp only [Option.bind_some] at hs
      obtain ⟨j, N, rfl, hj, h3, h4, rfl⟩ := zpa_at hg
      simp only [Option.some.injEq, Sum.inl.injEq, Prod.mk.injEq] at hs
      obtain ⟨rfl, rfl, rfl, rfl, rfl⟩ := hs
      rw [List.map_cons, List.map_cons, List.map_cons, zcv_j]
      refine va_last hx hb hst.1 hr zws_D hS j 2 (zws_at hj) rfl (i := Int32.ofInt i) ((z32_in i N).mpr ⟨h3, h4⟩) hok.2 (fun H1 locs1 hP1 hD1 hS1 => ?_)
      refine kk H1 locs1 lsA (pc + 1) cells slots hok.1 hl ?_ hS1 (by simp) (by simp)
      rw [zws_set hj (M' := zu M ((j : Int) + 1) (zw i) v) ?_ (fun i hi k => zu_o hi)] at hP1
      · exact hP1
      · rw [zcell_102]
        refine congrArg Sum.inl (congrArg (Prod.mk _) (congrArg (Prod.mk _) ?_))
        refine congrArg Sum.inr (congrArg Sum.inl ?_)
        funext q
        rw [z32_cl]
        by_cases hq : q = (zw i).toNat
        · subst hq
          simp only [vp_updL, if_pos, Int.toNat_of_nonneg h3, zu_s]
        · rw [zu_k (by omega)]
          simp only [vp_updL, if_neg hq]
  · cases hs
theorem zs_31 (F : zFr p R s m args meth c X b0 D cA sA vF Ts y cc nL fr lo) (hok : zokE y cc nL ret fr lo T (31, pc, nx, a, b, li) h = true) (hs : zstp X (31, pc, nx, a, b, li) ls st M K = some (.inl (nd', ls', st', M', K'))) (hl : lv_has lsA nL (zlv (zcv b0 sA vF) ls)) (hr : zrel b0 D cA M K H) (hS : va_S (zA0 b0) s.heap H locs) (hz : s.heap.size + cells = b0 + K.length) (hrm : cells + (K'.length - K.length) ≤ R.cells ∧ slots + (zsl K' - zsl K) ≤ R.slots) (kk : zKo p l e R s m args below meth c cells slots Q b0 D cA sA vF nL T K nd' ls' st' M' K') : W p l e R s m args below meth c H locs cells slots Q (F0 m pc lsA (st.map (zcv b0 sA vF))) := by
  obtain ⟨hx, hb, hml, hown, hts, hTs, hst, hb0, hmn, hfr, hlo⟩ := F
  have hcat := zcv_cat (b0 := b0) (sA := sA) hst.2.2.2.2.2.2.2.2.1
  simp only [zokE, zdc, znx, Bool.and_eq_true, Bool.or_eq_true, decide_eq_true_eq] at hok
  simp only [zstp, zgo] at hs
  obtain ⟨⟨h0, h2⟩, h5, h6, h7⟩ := hok
  split at hs
  · rename_i v i r st1
    split at hs
    · rename_i hkv
      cases hg : zpa K M a.toNat r i v with
      | none => rw [hg] at hs; cases hs
      | some M1 =>
        rw [hg] at hs
        simp only [Option.bind_some] at hs
        obtain ⟨j, N, rfl, hj, h3, h4, rfl⟩ := zpa_at hg
        obtain ⟨jv, rfl, hjv⟩ := zkd_at hkv
        simp only [Option.some.injEq, Sum.inl.injEq, Prod.mk.injEq] at hs
        obtain ⟨rfl, rfl, rfl, rfl, rfl⟩ := hs
        rw [List.map_cons, List.map_cons, List.map_cons, zcv_j, zcv_j]
        rcases h5 with rfl | rfl
        · rw [h6, h7] at hjv
          refine va_astq hx hb hst.1 hr zws_D hS j 3 jv 6 (r := (zCn.getD 6 "", zFT 6, zN 6)) (zws_at hj) rfl (zobj_at hjv (by decide)) (zCl_at 6 (by decide)) (i := Int32.ofInt i) ((z32_in i N).mpr ⟨h3, h4⟩) h2 (fun H1 locs1 hP1 hD1 hS1 => ?_)
          refine kk H1 locs1 lsA (pc + 1) cells slots h0 hl ?_ hS1 (by simp) (by simp)
          rw [zws_set hj (M' := zu M ((j : Int) + 1) (zw i) ((jv : Int) + 1)) ?_ (fun i hi k => zu_o hi)] at hP1
          · exact hP1
          · rw [zcell_6]
            refine congrArg Sum.inl (congrArg (Prod.mk _) (congrArg (Prod.mk _) ?_))
            refine congrArg Sum.inr (congrArg Sum.inr (congrArg Sum.inr (congrArg Sum.inr ?_)))
            funext q
            rw [z32_cl]
            by_cases hq : q = (zw i).toNat
            · subst hq
              simp only [va_up, if_pos, Int.toNat_of_nonneg h3, zu_s, zrf]
              rw [if_pos (by omega), show ((jv : Int) + 1 - 1).toNat = jv by omega]
            · rw [zu_k (by omega)]
              simp only [va_up, if_neg hq]
        · rw [h6, h7] at hjv
          refine va_astq hx hb hst.1 hr zws_D hS j 4 jv 7 (r := (zCn.getD 7 "", zFT 7, zN 7)) (zws_at hj) rfl (zobj_at hjv (by decide)) (zCl_at 7 (by decide)) (i := Int32.ofInt i) ((z32_in i N).mpr ⟨h3, h4⟩) h2 (fun H1 locs1 hP1 hD1 hS1 => ?_)
          refine kk H1 locs1 lsA (pc + 1) cells slots h0 hl ?_ hS1 (by simp) (by simp)
          rw [zws_set hj (M' := zu M ((j : Int) + 1) (zw i) ((jv : Int) + 1)) ?_ (fun i hi k => zu_o hi)] at hP1
          · exact hP1
          · rw [zcell_7]
            refine congrArg Sum.inl (congrArg (Prod.mk _) (congrArg (Prod.mk _) ?_))
            refine congrArg Sum.inr (congrArg Sum.inr (congrArg Sum.inr (congrArg Sum.inr ?_)))
            funext q
            rw [z32_cl]
            by_cases hq : q = (zw i).toNat
            · subst hq
              simp only [va_up, if_pos, Int.toNat_of_nonneg h3, zu_s, zrf]
              rw [if_pos (by omega), show ((jv : Int) + 1 - 1).toNat = jv by omega]
            · rw [zu_k (by omega)]
              simp only [va_up, if_neg hq]
    · cases hs
  · cases hs
theorem zs_32 (F : zFr p R s m args meth c X b0 D cA sA vF Ts y cc nL fr lo) (hok : zokE y cc nL ret fr lo T (32, pc, nx, a, b, li) h = true) (hs : zstp X (32, pc, nx, a, b, li) ls st M K = some (.inl (nd', ls', st', M', K'))) (hl : lv_has lsA nL (zlv (zcv b0 sA vF) ls)) (hr : zrel b0 D cA M K H) (hS : va_S (zA0 b0) s.heap H locs) (hz : s.heap.size + cells = b0 + K.length) (hrm : cells + (K'.length - K.length) ≤ R.cells ∧ slots + (zsl K' - zsl K) ≤ R.slots) (kk : zKo p l e R s m args below meth c cells slots Q b0 D cA sA vF nL T K nd' ls' st' M' K') : W p l e R s m args below meth c H locs cells slots Q (F0 m pc lsA (st.map (zcv b0 sA vF))) := by
  obtain ⟨hx, hb, hml, hown, hts, hTs, hst, hb0, hmn, hfr, hlo⟩ := F
  have hcat := zcv_cat (b0 := b0) (sA := sA) hst.2.2.2.2.2.2.2.2.1
  simp only [zokE, zdc, znx, Bool.and_eq_true, Bool.or_eq_true, decide_eq_true_eq] at hok
  simp only [zstp, zgo] at hs
  obtain ⟨⟨h0, h2⟩, h5⟩ := hok
  split at hs
  · rename_i r st1
    cases hg : zln K a.toNat r with
    | none => rw [hg] at hs; cases hs
    | some n =>
      rw [hg] at hs
      simp only [Option.bind_some] at hs
      obtain ⟨j, N, rfl, rfl, hj⟩ := zln_at hg
      simp only [Option.some.injEq, Sum.inl.injEq, Prod.mk.injEq] at hs
      obtain ⟨rfl, rfl, rfl, rfl, rfl⟩ := hs
      have k1 := kk H locs lsA (pc + 1) cells slots h0 hl hr hS (by simp) (by simp)
      rw [List.map_cons, zcv_j]
      have e1 : Int32.ofNat N = Int32.ofInt (N : Int) := by rw [Int32.ofInt_eq_ofNat]
      rcases h5 with rfl | rfl | rfl
      · exact va_alen hx hb hst.1 hr j 0 (zws_at hj) rfl e1 h2 k1
      · exact va_alen hx hb hst.1 hr j 1 (zws_at hj) rfl e1 h2 k1
      · exact va_alen hx hb hst.1 hr j 2 (zws_at hj) rfl e1 h2 k1
  · cases hs
end
