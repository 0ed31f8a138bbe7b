theorem zclr_o {M : zM} {i n : Nat} {k : Int} (h : i < n) : zclr M ((n : Int) + 1) ((i : Int) + 1) k = M ((i : Int) + 1) k := by
  unfold zclr
  rw [if_neg (by omega)]
theorem zclr_s {M : zM} {r k : Int} : zclr M r r k = 0 := by
  unfold zclr
  rw [if_pos rfl]
theorem znc_100 {b0 n N : Nat} {cA : Nat → ClassId} {M : zM} : zcell b0 cA (zclr M ((n : Int) + 1)) n (Int.toNat 100, N) = .inl (cA 100, N, .inl (fun _ => 0)) := by
  show Sum.inl (cA 100, N, Sum.inl fun (i : Nat) => Int32.ofInt (zclr M ((n : Int) + 1) ((n : Int) + 1) (i : Int))) = _
  simp only [zclr_s]
  rfl
theorem znc_101 {b0 n N : Nat} {cA : Nat → ClassId} {M : zM} : zcell b0 cA (zclr M ((n : Int) + 1)) n (Int.toNat 101, N) = .inl (cA 101, N, .inl (fun _ => 0)) := by
  show Sum.inl (cA 101, N, Sum.inl fun (i : Nat) => Int32.ofInt (zclr M ((n : Int) + 1) ((n : Int) + 1) (i : Int))) = _
  simp only [zclr_s]
  rfl
theorem znc_102 {b0 n N : Nat} {cA : Nat → ClassId} {M : zM} : zcell b0 cA (zclr M ((n : Int) + 1)) n (Int.toNat 102, N) = .inl (cA 102, N, .inr (.inl (fun _ => 0))) := by
  show Sum.inl (cA 102, N, Sum.inr (Sum.inl fun (i : Nat) => Int64.ofInt (zclr M ((n : Int) + 1) ((n : Int) + 1) (i : Int)))) = _
  simp only [zclr_s]
  rfl
theorem znc_103 {b0 n N : Nat} {cA : Nat → ClassId} {M : zM} : zcell b0 cA (zclr M ((n : Int) + 1)) n (Int.toNat 103, N) = .inl (cA 103, N, .inr (.inr (.inr (.inr (fun _ => none))))) := by
  show Sum.inl (cA 103, N, Sum.inr (Sum.inr (Sum.inr (Sum.inr fun (i : Nat) => zrf b0 (zclr M ((n : Int) + 1) ((n : Int) + 1) (i : Int)))))) = _
  simp only [zclr_s]
  rfl
theorem znc_104 {b0 n N : Nat} {cA : Nat → ClassId} {M : zM} : zcell b0 cA (zclr M ((n : Int) + 1)) n (Int.toNat 104, N) = .inl (cA 104, N, .inr (.inr (.inr (.inr (fun _ => none))))) := by
  show Sum.inl (cA 104, N, Sum.inr (Sum.inr (Sum.inr (Sum.inr fun (i : Nat) => zrf b0 (zclr M ((n : Int) + 1) ((n : Int) + 1) (i : Int)))))) = _
  simp only [zclr_s]
  rfl
/-- the cell that is new lies behind all others -/
theorem znew_ad {b0 : Nat} {D : va_G} {cA : Nat → ClassId} {M : zM} {K : zK} {q z : Nat} {E : va_E} {H1 : Heap} (hP : va_P D zCl (zws b0 cA M K ++ [(q, E)]) H1) (hD : va_D (zA0 b0) (zws b0 cA M K ++ [(q, E)])) (hz : H1.size ≤ z) (he : z = b0 + K.length + 1) : q = b0 + K.length := by
  have hq : (zws b0 cA M K ++ [(q, E)])[K.length]? = some (q, E) := by
    rw [List.getElem?_append_right (by rw [zws_len]; omega), zws_len]
    simp
  have q1 : q < H1.size := (hP K.length _ hq).lt
  have q2 : b0 ≤ q := hD.2 K.length _ hq
  by_cases hlt : q < b0 + K.length
  · obtain ⟨qi, hqi⟩ : ∃ qi, K[q - b0]? = some qi := ⟨K[q - b0], List.getElem?_eq_getElem (by omega)⟩
    have h1 : (zws b0 cA M K ++ [(q, E)])[q - b0]? = some (b0 + (q - b0), zcell b0 cA M (q - b0) qi) := by
      rw [List.getElem?_append_left (by rw [zws_len]; omega), zws_at hqi]
    have := hD.1 (q - b0) K.length _ _ h1 hq (by show b0 + (q - b0) = q; omega)
    omega
  · omega
theorem zS_all : ∀ i, i < 4 → ((zSb.getD i []).length = zlen.getD i 0 ∧ zlen.getD i 0 ≤ 5 ∧ ∀ j, j < 6 → (zbyt.getD i []).getD j 0 = Int32.ofInt ((zSb.getD i []).getD j 0)) := by decide +kernel
theorem zcv_s {b0 : Nat} {sA : Int → Nat} {vF : Value} {x : Int} (h : x < 1) (h2 : x ≠ -20) : zcv b0 sA vF (Sum.inr (Sum.inr x)) = .ref (sA x) := by
  simp only [zcv, zad]
  rw [if_neg h2, if_neg (by omega)]
section
variable {p : Program} {l : Launch} {e : Env} {R : Room} {s : State} {m : MethodId} {args : Array Value} {below : List Frame} {meth : Method} {c : Code} {H : Heap} {locs : List Loc} {cells slots : Nat} {Q : State → Prop}
variable {X : Int × (Int → Int)} {b0 : Nat} {D : va_G} {cA : Nat → ClassId} {sA : Int → Nat} {vF : Value} {Ts : List Jvm.Cond} {y : MethodName} {cc : ByteArray} {nL : Nat} {ret : Option FieldType} {fr lo : Nat} {T : List zE} {pc nx : Nat} {a b : Int} {li : List Int} {h : List Nat} {ls st ls' st' : List zV} {M M' : zM} {K K' : zK} {nd' : Nat} {lsA : Array Slot}
theorem zs_33 (F : zFr p R s m args meth c X b0 D cA sA vF Ts y cc nL fr lo) (hok : zokE y cc nL ret fr lo T (33, pc, nx, a, b, li) h = true) (hs : zstp X (33, pc, nx, a, b, li) ls st M K = some (.inl (nd', ls', st', M', K'))) (hl : lv_has lsA nL (zlv (zcv b0 sA vF) ls)) (hr : zrel b0 D cA M K H) (hS : va_S (zA0 b0) s.heap H locs) (hz : s.heap.size + cells = b0 + K.length) (hrm : cells + (K'.length - K.length) ≤ R.cells ∧ slots + (zsl K' - zsl K) ≤ R.slots) (kk : zKo p l e R s m args below meth c cells slots Q b0 D cA sA vF nL T K nd' ls' st' M' K') : W p l e R s m args below meth c H locs cells slots Q (F0 m pc lsA (st.map (zcv b0 sA vF))) := by
  obtain ⟨hx, hb, hml, hown, hts, hTs, hst, hb0, hmn, hfr, hlo⟩ := F
  have hcat := zcv_cat (b0 := b0) (sA := sA) hst.2.2.2.2.2.2.2.2.1
  simp only [zokE, zdc, znx, Bool.and_eq_true, Bool.or_eq_true, decide_eq_true_eq] at hok
  simp only [zstp, zgo] at hs
  simp only [Option.some.injEq, Sum.inl.injEq, Prod.mk.injEq] at hs
  obtain ⟨rfl, rfl, rfl, rfl, rfl⟩ := hs
  obtain ⟨⟨⟨⟨⟨h0, h2⟩, h3⟩, h4⟩, h5⟩, h6⟩ := hok
  obtain ⟨g1, g2, g3⟩ := h3
  rw [g3] at kk hrm
  rw [List.length_append, zsl_push] at hrm
  simp only [List.length_cons, List.length_nil] at hrm
  refine va_new hx hb hts (zlay_in hTs g2) (zfty a.toNat) (zfty_ok _ g2) hown (zin_b h4 hts hTs) (zin_b h5 hts hTs) (zin_b h6 hts hTs) hst.1 hr zws_D hS (fun q hq => Nat.le_trans hb0 hq) (zCl_at _ g2) (fs := (List.range (zN a.toNat)).map fun (k : Nat) => zfv b0 (zFI a.toNat k) 0) (fun j hj => ?_) (by omega) (by omega) h2 (fun q H1 hP1 hD1 hS1 => zW_size fun hsz => ?_)
  · rw [vp_V, List.getD_eq_getElem?_getD, List.getElem?_map, List.getElem?_range hj]
    show defaultValue (zfty a.toNat j) = zfv b0 (zFI a.toNat j) 0
    cases hI : zFI a.toNat j with
    | true => rw [zfty_int _ g2 _ hj hI]; rfl
    | false => rw [(zref_nar (zfty_ref _ g2 _ hj hI) 0).2.2]; rfl
  · obtain rfl := znew_ad hP1 hD1 hsz (by omega)
    have k1 := kk H1 locs lsA (pc + 3) (cells + 1) (slots + zN a.toNat) h0 hl ?_ hS1 (by simp) (by rw [zsl_push]; simp)
    · rw [List.map_cons, zcv_j] at k1
      exact k1
    · show va_P D zCl (zws b0 cA _ _) H1
      rw [zws_push (M := M) (fun i hi k => zclr_o hi), zcell, if_pos g2]
      simp only [zclr_s]
      exact hP1
theorem zs_34 (F : zFr p R s m args meth c X b0 D cA sA vF Ts y cc nL fr lo) (hok : zokE y cc nL ret fr lo T (34, pc, nx, a, b, li) h = true) (hs : zstp X (34, pc, nx, a, b, li) ls st M K = some (.inl (nd', ls', st', M', K'))) (hl : lv_has lsA nL (zlv (zcv b0 sA vF) ls)) (hr : zrel b0 D cA M K H) (hS : va_S (zA0 b0) s.heap H locs) (hz : s.heap.size + cells = b0 + K.length) (hrm : cells + (K'.length - K.length) ≤ R.cells ∧ slots + (zsl K' - zsl K) ≤ R.slots) (kk : zKo p l e R s m args below meth c cells slots Q b0 D cA sA vF nL T K nd' ls' st' M' K') : W p l e R s m args below meth c H locs cells slots Q (F0 m pc lsA (st.map (zcv b0 sA vF))) := by
  obtain ⟨hx, hb, hml, hown, hts, hTs, hst, hb0, hmn, hfr, hlo⟩ := F
  have hcat := zcv_cat (b0 := b0) (sA := sA) hst.2.2.2.2.2.2.2.2.1
  simp only [zokE, zdc, znx, Bool.and_eq_true, Bool.or_eq_true, decide_eq_true_eq] at hok
  simp only [zstp, zgo] at hs
  obtain ⟨⟨⟨h0, h2⟩, h3⟩, h4⟩ := hok
  split at hs
  · rename_i x1 st1
    split at hs
    · rename_i hxx
      simp only [Option.some.injEq, Sum.inl.injEq, Prod.mk.injEq] at hs
      obtain ⟨rfl, rfl, rfl, rfl, rfl⟩ := hs
      obtain ⟨N, hN⟩ : ∃ N : Nat, (zw x1).toNat = N := ⟨_, rfl⟩
      rw [hN] at kk hrm
      rw [List.length_append, zsl_push] at hrm
      simp only [List.length_cons, List.length_nil] at hrm
      rcases h3 with rfl | rfl | rfl
      · refine va_newa hx hb (zin_b h4 hts hTs) rfl hst.1 hr zws_D hS (fun q hq => Nat.le_trans hb0 hq) (a0 := (N, .inl (fun _ => 0))) (fun cA => rfl) (fun q => by have := (z32_lt0 x1).mp q; omega) (N' := N) (by rw [z32_cl]; omega) (by show N * 4 ≤ 536870912; omega) (by omega) (by omega) h2 (fun q cA1 H1 hK1 hP1 hD1 hS1 => zW_size fun hsz => ?_)
        obtain rfl := znew_ad hP1 hD1 hsz (by omega)
        have e1 : cA1 = cA 100 := Option.some.inj (((hK1.2 5 (cA1, .int) rfl).2 : s.vm.findClass _ = some cA1).symm.trans ((hst.1.2 0 (cA 100, .int) rfl).2 : s.vm.findClass _ = some (cA 100)))
        subst e1
        have k1 := kk H1 locs lsA (pc + 2) (cells + 1) (slots + N) h0 hl ?_ hS1 (by simp) (by rw [zsl_push]; simp)
        · rw [List.map_cons, zcv_j] at k1
          exact k1
        · show va_P D zCl (zws b0 cA _ _) H1
          rw [zws_push (M := M) (fun i hi k => zclr_o hi)]
          rw [znc_100]
          exact hP1
      · refine va_newa hx hb (zin_b h4 hts hTs) rfl hst.1 hr zws_D hS (fun q hq => Nat.le_trans hb0 hq) (a0 := (N, .inl (fun _ => 0))) (fun cA => rfl) (fun q => by have := (z32_lt0 x1).mp q; omega) (N' := N) (by rw [z32_cl]; omega) (by show N * 1 ≤ 536870912; omega) (by omega) (by omega) h2 (fun q cA1 H1 hK1 hP1 hD1 hS1 => zW_size fun hsz => ?_)
        obtain rfl := znew_ad hP1 hD1 hsz (by omega)
        have e1 : cA1 = cA 101 := Option.some.inj (((hK1.2 5 (cA1, .byte) rfl).2 : s.vm.findClass _ = some cA1).symm.trans ((hst.1.2 1 (cA 101, .byte) rfl).2 : s.vm.findClass _ = some (cA 101)))
        subst e1
        have k1 := kk H1 locs lsA (pc + 2) (cells + 1) (slots + N) h0 hl ?_ hS1 (by simp) (by rw [zsl_push]; simp)
        · rw [List.map_cons, zcv_j] at k1
          exact k1
        · show va_P D zCl (zws b0 cA _ _) H1
          rw [zws_push (M := M) (fun i hi k => zclr_o hi)]
          rw [znc_101]
          exact hP1
      · refine va_newa hx hb (zin_b h4 hts hTs) rfl hst.1 hr zws_D hS (fun q hq => Nat.le_trans hb0 hq) (a0 := (N, .inr (.inl (fun _ => 0)))) (fun cA => rfl) (fun q => by have := (z32_lt0 x1).mp q; omega) (N' := N) (by rw [z32_cl]; omega) (by show N * 8 ≤ 536870912; omega) (by omega) (by omega) h2 (fun q cA1 H1 hK1 hP1 hD1 hS1 => zW_size fun hsz => ?_)
        obtain rfl := znew_ad hP1 hD1 hsz (by omega)
        have e1 : cA1 = cA 102 := Option.some.inj (((hK1.2 5 (cA1, .long) rfl).2 : s.vm.findClass _ = some cA1).symm.trans ((hst.1.2 2 (cA 102, .long) rfl).2 : s.vm.findClass _ = some (cA 102)))
        subst e1
        have k1 := kk H1 locs lsA (pc + 2) (cells + 1) (slots + N) h0 hl ?_ hS1 (by simp) (by rw [zsl_push]; simp)
        · rw [List.map_cons, zcv_j] at k1
          exact k1
        · show va_P D zCl (zws b0 cA _ _) H1
          rw [zws_push (M := M) (fun i hi k => zclr_o hi)]
          rw [znc_102]
          exact hP1
    · cases hs
  · cases hs
theorem zs_35 (F : zFr p R s m args meth c X b0 D cA sA vF Ts y cc nL fr lo) (hok : zokE y cc nL ret fr lo T (35, pc, nx, a, b, li) h = true) (hs : zstp X (35, pc, nx, a, b, li) ls st M K = some (.inl (nd', ls', st', M', K'))) (hl : lv_has lsA nL (zlv (zcv b0 sA vF) ls)) (hr : zrel b0 D cA M K H) (hS : va_S (zA0 b0) s.heap H locs) (hz : s.heap.size + cells = b0 + K.length) (hrm : cells + (K'.length - K.length) ≤ R.cells ∧ slots + (zsl K' - zsl K) ≤ R.slots) (kk : zKo p l e R s m args below meth c cells slots Q b0 D cA sA vF nL T K nd' ls' st' M' K') : W p l e R s m args below meth c H locs cells slots Q (F0 m pc lsA (st.map (zcv b0 sA vF))) := by
  obtain ⟨hx, hb, hml, hown, hts, hTs, hst, hb0, hmn, hfr, hlo⟩ := F
  have hcat := zcv_cat (b0 := b0) (sA := sA) hst.2.2.2.2.2.2.2.2.1
  simp only [zokE, zdc, znx, Bool.and_eq_true, Bool.or_eq_true, decide_eq_true_eq] at hok
  simp only [zstp, zgo] at hs
  obtain ⟨⟨⟨h0, h2⟩, h3⟩, h4⟩ := hok
  split at hs
  · rename_i x1 st1
    split at hs
    · rename_i hxx
      simp only [Option.some.injEq, Sum.inl.injEq, Prod.mk.injEq] at hs
      obtain ⟨rfl, rfl, rfl, rfl, rfl⟩ := hs
      obtain ⟨N, hN⟩ : ∃ N : Nat, (zw x1).toNat = N := ⟨_, rfl⟩
      rw [hN] at kk hrm
      rw [List.length_append, zsl_push] at hrm
      simp only [List.length_cons, List.length_nil] at hrm
      rcases h3 with rfl | rfl
      · refine va_newq hx hb hown (zin_b h4 hts hTs) hst.2.2.1 hst.1 hr zws_D hS (fun q hq => Nat.le_trans hb0 hq) (fun q => by have := (z32_lt0 x1).mp q; omega) (N' := N) (by rw [z32_cl]; omega) (by omega) (by omega) (by omega) h2 (fun q cA1 H1 hK1 hP1 hD1 hS1 => zW_size fun hsz => ?_)
        obtain rfl := znew_ad hP1 hD1 hsz (by omega)
        have e1 : cA1 = cA 103 := by
          obtain ⟨_, _, -, -, -, u1⟩ := (hK1.2 5 (cA1, .object "BankStore$Shape") rfl).2
          obtain ⟨_, _, -, -, -, u2⟩ := (hst.1.2 3 (cA 103, .object "BankStore$Shape") rfl).2
          exact Option.some.inj (u1.symm.trans u2)
        subst e1
        have k1 := kk H1 locs lsA (pc + 3) (cells + 1) (slots + N) h0 hl ?_ hS1 (by simp) (by rw [zsl_push]; simp)
        · rw [List.map_cons, zcv_j] at k1
          exact k1
        · show va_P D zCl (zws b0 cA _ _) H1
          rw [zws_push (M := M) (fun i hi k => zclr_o hi)]
          rw [znc_103]
          exact hP1
      · refine va_newq hx hb hown (zin_b h4 hts hTs) hst.2.2.2.1 hst.1 hr zws_D hS (fun q hq => Nat.le_trans hb0 hq) (fun q => by have := (z32_lt0 x1).mp q; omega) (N' := N) (by rw [z32_cl]; omega) (by omega) (by omega) (by omega) h2 (fun q cA1 H1 hK1 hP1 hD1 hS1 => zW_size fun hsz => ?_)
        obtain rfl := znew_ad hP1 hD1 hsz (by omega)
        have e1 : cA1 = cA 104 := by
          obtain ⟨_, _, -, -, -, u1⟩ := (hK1.2 5 (cA1, .object "BankStore$Sheet") rfl).2
          obtain ⟨_, _, -, -, -, u2⟩ := (hst.1.2 4 (cA 104, .object "BankStore$Sheet") rfl).2
          exact Option.some.inj (u1.symm.trans u2)
        subst e1
        have k1 := kk H1 locs lsA (pc + 3) (cells + 1) (slots + N) h0 hl ?_ hS1 (by simp) (by rw [zsl_push]; simp)
        · rw [List.map_cons, zcv_j] at k1
          exact k1
        · show va_P D zCl (zws b0 cA _ _) H1
          rw [zws_push (M := M) (fun i hi k => zclr_o hi)]
          rw [znc_104]
          exact hP1
    · cases hs
  · cases hs
theorem zs_39 (F : zFr p R s m args meth c X b0 D cA sA vF Ts y cc nL fr lo) (hok : zokE y cc nL ret fr lo T (39, pc, nx, a, b, li) h = true) (hs : zstp X (39, pc, nx, a, b, li) ls st M K = some (.inl (nd', ls', st', M', K'))) (hl : lv_has lsA nL (zlv (zcv b0 sA vF) ls)) (hr : zrel b0 D cA M K H) (hS : va_S (zA0 b0) s.heap H locs) (hz : s.heap.size + cells = b0 + K.length) (hrm : cells + (K'.length - K.length) ≤ R.cells ∧ slots + (zsl K' - zsl K) ≤ R.slots) (kk : zKo p l e R s m args below meth c cells slots Q b0 D cA sA vF nL T K nd' ls' st' M' K') : W p l e R s m args below meth c H locs cells slots Q (F0 m pc lsA (st.map (zcv b0 sA vF))) := by
  obtain ⟨hx, hb, hml, hown, hts, hTs, hst, hb0, hmn, hfr, hlo⟩ := F
  have hcat := zcv_cat (b0 := b0) (sA := sA) hst.2.2.2.2.2.2.2.2.1
  simp only [zokE, zdc, znx, Bool.and_eq_true, Bool.or_eq_true, decide_eq_true_eq] at hok
  simp only [zstp, zgo] at hs
  obtain ⟨⟨⟨⟨⟨h0, h2⟩, h3⟩, h4⟩, h5⟩, h6, h7⟩ := hok
  split at hs
  · rename_i r st1
    split at hs
    · rename_i hrr
      obtain ⟨hrr, hrr2⟩ := hrr
      simp only [Option.some.injEq, Sum.inl.injEq, Prod.mk.injEq] at hs
      obtain ⟨rfl, rfl, rfl, rfl, rfl⟩ := hs
      have k1 := kk H locs lsA (pc + 3) cells slots h0 hl hr hS (by simp) (by simp)
      have hsum : ((st1.map (zcv b0 sA vF)).map fun v => v.category).sum ≤ 8 := by
        rw [List.map_map, show ((fun v : Value => v.category) ∘ zcv b0 sA vF) = zcat from funext hcat]
        simpa [zroom] using hrr
      have h20 : ¬ r = -20 := by omega
      rw [List.map_cons, show zcv b0 sA vF (Sum.inr (Sum.inr r)) = .ref (zad b0 sA r) by simp only [zcv]; rw [if_neg h20]]
      exact W.objInit hx hb hown (zin_b h3 hts hTs) (zin_b h4 hts hTs) (zin_b h5 hts hTs) (g := F0 m pc lsA (.ref (zad b0 sA r) :: st1.map (zcv b0 sA vF))) rfl (hl.1.trans hml.symm) rfl h2 (by omega) (by have := lv_room (m := m) (pc := pc) (ls := lsA) (rest := .ref (zad b0 sA r) :: st1.map (zcv b0 sA vF)) hsum; omega) k1
    · cases hs
  · cases hs
theorem zs_43 (F : zFr p R s m args meth c X b0 D cA sA vF Ts y cc nL fr lo) (hok : zokE y cc nL ret fr lo T (43, pc, nx, a, b, li) h = true) (hs : zstp X (43, pc, nx, a, b, li) ls st M K = some (.inl (nd', ls', st', M', K'))) (hl : lv_has lsA nL (zlv (zcv b0 sA vF) ls)) (hr : zrel b0 D cA M K H) (hS : va_S (zA0 b0) s.heap H locs) (hz : s.heap.size + cells = b0 + K.length) (hrm : cells + (K'.length - K.length) ≤ R.cells ∧ slots + (zsl K' - zsl K) ≤ R.slots) (kk : zKo p l e R s m args below meth c cells slots Q b0 D cA sA vF nL T K nd' ls' st' M' K') : W p l e R s m args below meth c H locs cells slots Q (F0 m pc lsA (st.map (zcv b0 sA vF))) := by
  obtain ⟨hx, hb, hml, hown, hts, hTs, hst, hb0, hmn, hfr, hlo⟩ := F
  have hcat := zcv_cat (b0 := b0) (sA := sA) hst.2.2.2.2.2.2.2.2.1
  simp only [zokE, zdc, znx, Bool.and_eq_true, Bool.or_eq_true, decide_eq_true_eq] at hok
  simp only [zstp, zgo] at hs
  simp only [Option.some.injEq, Sum.inl.injEq, Prod.mk.injEq] at hs
  obtain ⟨rfl, rfl, rfl, rfl, rfl⟩ := hs
  obtain ⟨⟨⟨⟨h0, h2⟩, h3⟩, h4⟩, h5, h6⟩ := hok
  obtain ⟨i, hi, rfl⟩ : ∃ i : Nat, i < 4 ∧ a = -2 - (i : Int) := ⟨(-2 - a).toNat, by omega, by omega⟩
  have k1 := kk H locs lsA (pc + 2) cells slots h0 hl hr hS (by simp) (by simp)
  have hR := hst.2.2.2.2.1 i hi
  rw [h5] at hown
  rw [show (-2 - (-2 - (i : Int))).toNat = i by omega] at h6
  rw [h6] at h2
  rw [List.map_cons, zcv_s (by omega) (by omega)] at k1
  exact va_ldcS hx hb hown hR h2 k1
end
