def zgood : List Jvm.Cond := lw_tbl.filter goodWord
def zPc (X : Int × (Int → Int)) (b0 : Nat) (D : va_G) (cA : Nat → ClassId) (sA : Int → Nat) (vF : Value) (M : zM) (K : zK) (as : List zV) : Array Value → State → Prop := va_Pc (as.map (zcv b0 sA vF)) (fun U => zstat X b0 D cA sA vF U U.heap ∧ zrel b0 D cA M K U.heap ∧ U.heap.size = b0 + K.length)
def zQc (b0 : Nat) (D : va_G) (cA : Nat → ClassId) (v : Option zV) (M : zM) (K : zK) : Array Value → State → Outcome → State → Prop := match v with
  | none => va_Qv (fun _ : Unit => True) (fun _ t => zrel b0 D cA M K t.heap) (zA0 b0)
  | some (.inl x) => va_Qi (fun r (_ : Unit) => r = Int32.ofInt x) (fun _ t => zrel b0 D cA M K t.heap) (zA0 b0)
  | _ => fun _ _ _ _ => False
theorem zblind {X : Int × (Int → Int)} {b0 : Nat} {D : va_G} {cA : Nat → ClassId} {sA : Int → Nat} {vF : Value} {M : zM} {K : zK} {as : List zV} : FrameBlind (zPc X b0 D cA sA vF M K as) := by
  intro a U g mk q
  obtain ⟨q1, q2, q3, q4⟩ := q
  exact ⟨q1, zstat.same (u := U) (U := U.calling g mk a) rfl q2, q3, q4⟩
theorem zcall_w {lo fr : Nat} {a na : Int} {hc hi : Nat} {st : Bool} {p : MethodName → Bool} (h : zcall lo fr a na hc hi st p = true) : ∃ y cc nL ret fr' lo', zMs[a.toNat]? = some (y, cc, nL, ret, fr', lo') ∧ p y = true ∧ zin hc (.code y cc nL ret) = true ∧ zin hi (.initialized y.cls) = true ∧ fr' + 1 ≤ fr ∧ 8 + (nL + 11) + lo' ≤ lo ∧ (y.cls ≠ "java/lang/invoke/MethodHandle" ∧ y.cls ≠ "java/lang/invoke/VarHandle") ∧ (parseMethodDescriptor y.desc).map (fun d => d.parameters.length) = some (if st then na.toNat else na.toNat - 1) ∧ (1 ≤ na ∨ st = true) := by
  unfold zcall at h
  split at h
  · cases h
  · rename_i y cc nL ret fr' lo' hm
    simp only [Bool.and_eq_true, decide_eq_true_eq] at h
    obtain ⟨⟨⟨⟨⟨⟨⟨⟨⟨h1, h2⟩, h3⟩, h4⟩, h5⟩, h6⟩, h7⟩, h8⟩, h9⟩, h10⟩ := h
    exact ⟨y, cc, nL, ret, fr', lo', hm, h1, h2, h3, h4, h5, ⟨h6, h7⟩, h8, h9⟩
section
variable {p : Program} {l : Launch} {e : Env} {R : Room} {s : State} {m : MethodId} {args : Array Value} {below : List Frame} {meth : Method} {c : Code} {H : Heap} {locs : List Loc} {cells slots : Nat} {Q : State → Prop}
variable {X : Int × (Int → Int)} {b0 : Nat} {D : va_G} {cA : Nat → ClassId} {sA : Int → Nat} {vF : Value} {Ts : List Jvm.Cond} {y : MethodName} {cc : ByteArray} {nL : Nat} {ret : Option FieldType} {fr lo : Nat} {T : List zE} {pc nx : Nat} {a b : Int} {li : List Int} {h : List Nat} {ls st ls' st' : List zV} {M M1 : zM} {K K1 : zK} {nd' : Nat} {lsA : Array Slot}
/-- behind a call: the answer on the stack, the memory as the callee left it -/
theorem zafter {mc ms : Nat} {rest : List zV} {st0 : List Value} {A : Array Value} {v1 : Option zV} (hr : va_Run p l e R s m args below meth c H locs cells slots mc ms (F0 m pc lsA st0) (rest.map (zcv b0 sA vF)) (zQc b0 D cA v1 M1 K1 A) (zA0 b0)) (hS : va_S (zA0 b0) s.heap H locs)
    (kk : ∀ (H1 : Heap) (locs1 : List Loc), zrel b0 D cA M1 K1 H1 → va_S (zA0 b0) s.heap H1 locs1 → W p l e R s m args below meth c H1 locs1 (cells + mc) (slots + ms) Q (F0 m (pc + 3) lsA ((zpush v1 rest).map (zcv b0 sA vF)))) : W p l e R s m args below meth c H locs cells slots Q (F0 m pc lsA st0) := by
  match v1, hr, kk with
  | none, hr, kk =>
    refine va_callv (a := A) hr hS (fun q _ h => h) (fun q h => h) (fun u t H1 locs1 ht hvm hp hB hz1 hk1 hS1 => ?_)
    rw [ht] at hB
    exact kk H1 locs1 hB hS1
  | some (.inl x), hr, kk =>
    refine va_calli (a := A) hr hS (fun q _ h => h) (fun q h => h) (fun r u t H1 locs1 ht hvm hp hB hz1 hk1 hS1 => ?_)
    rw [ht] at hB
    have k1 := kk H1 locs1 hB hS1
    subst hp
    exact k1
  | some (.inr x), hr, kk =>
    intro T hT Z
    obtain ⟨_, _, _, _, _, -, -, -, -, -, hq, -⟩ := hr T hT Z
    exact hq.elim
theorem zword {W' : List Jvm.Cond} {y' : MethodName} {cc' : ByteArray} {nL' : Nat} {ret' : Option FieldType} {hc : Nat} (hts : ∀ w ∈ Ts, w.before args s = true) (hTs : ∀ w, w ∈ lw_tbl → goodWord w = true → w ∈ Ts) (h1 : zin hc (.code y' cc' nL' ret') = true) : ∀ w ∈ (Jvm.Cond.code y' cc' nL' ret' :: zgood), ∀ (a' : Array Value) (U : State), s.WarmedH U.vm → w.before a' U = true := by
  intro w hw a' U hW
  have hg : w ∈ lw_tbl ∧ goodWord w = true := by
    rcases List.mem_cons.mp hw with rfl | hw
    · exact zin_w h1
    · exact List.mem_filter.mp hw
  exact word_at hW (good_of_word hg.2) (hts w (hTs w hg.1 hg.2))
theorem zcall_ok (F : zFr p R s m args meth c X b0 D cA sA vF Ts y cc nL fr lo) {op : Nat} (hok : zokE y cc nL ret fr lo T (op, pc, nx, a, b, li) h = true) {k' nx' : Nat} {as : List zV} (hs : zstp X (op, pc, nx, a, b, li) ls st M K = some (.inr (.inl (k', as, nx', ls', st')))) (hl : lv_has lsA nL (zlv (zcv b0 sA vF) ls)) (hr : zrel b0 D cA M K H) (hS : va_S (zA0 b0) s.heap H locs) (hsz : H.size = b0 + K.length) {mc ms : Nat} {v1 : Option zV}
    (hmet : ∀ y' cc' nL' ret' fr' lo', zMs[k']? = some (y', cc', nL', ret', fr', lo') → Met l y' (.code y' cc' nL' ret' :: zgood) { frames := fr', cells := mc, slots := ms, locals := lo' } (zPc X b0 D cA sA vF M K as) (zQc b0 D cA v1 M1 K1) mc ms (zA0 b0))
    (hrm : cells + mc ≤ R.cells ∧ slots + ms ≤ R.slots)
    (kk : ∀ (H1 : Heap) (locs1 : List Loc), (T[nx']?).map (fun e => e.2.1) = some (pc + 3) → zrel b0 D cA M1 K1 H1 → va_S (zA0 b0) s.heap H1 locs1 → W p l e R s m args below meth c H1 locs1 (cells + mc) (slots + ms) Q (F0 m (pc + 3) lsA ((zpush v1 st').map (zcv b0 sA vF)))) : ls' = ls ∧ W p l e R s m args below meth c H locs cells slots Q (F0 m pc lsA (st.map (zcv b0 sA vF))) := by
  obtain ⟨hx, hb, hml, hown, hts, hTs, hst, hb0, hmn, hfr, hlo⟩ := F
  have hcat := zcv_cat (b0 := b0) (sA := sA) hst.2.2.2.2.2.2.2.2.1
  have hroom : ∀ {t : List zV}, zroom t = true → ((t.map (zcv b0 sA vF)).map fun v => v.category).sum ≤ 8 := by
    intro t ht
    rw [List.map_map, show ((fun v : Value => v.category) ∘ zcv b0 sA vF) = zcat from funext hcat]
    simpa [zroom] using ht
  have hpre : ∀ U : State, U.heap = H → s.WarmedH U.vm → zPc X b0 D cA sA vF M K as (as.map (zcv b0 sA vF)).toArray U := by
    intro U hU hW
    refine ⟨rfl, zstat.warm hW (by rw [hU]; exact hS.2.1) hb0 hst, by rw [hU]; exact hr, by rw [hU]; exact hsz⟩
  match op, hok, hs with
  | 36, hok, hs =>
    simp only [zokE, zdc, znx, Bool.and_eq_true, Bool.or_eq_true, decide_eq_true_eq] at hok
    obtain ⟨⟨h0, h2⟩, h3⟩ := hok
    obtain ⟨y', cc', nL', ret', fr', lo', g1, g2, g3, g4, g5, g6, g7, g8, g9⟩ := zcall_w h3
    simp only [zstp] at hs
    split at hs
    · rename_i hc
      simp only [Option.some.injEq, Sum.inr.injEq, Sum.inl.injEq, Prod.mk.injEq] at hs
      obtain ⟨rfl, rfl, rfl, rfl, rfl⟩ := hs
      refine ⟨rfl, ?_⟩
      simp only [Bool.and_eq_true] at g2
      rw [if_pos rfl] at g8
      have hn : ((List.map (zcv b0 sA vF) (st.take (li.getD 1 0).toNat).reverse)).length = (li.getD 1 0).toNat := by
        simp only [List.length_map, List.length_reverse, List.length_take]
        omega
      have hsk : st.map (zcv b0 sA vF) = (List.map (zcv b0 sA vF) (st.take (li.getD 1 0).toNat).reverse).reverse ++ (st.drop (li.getD 1 0).toNat).map (zcv b0 sA vF) := by
        rw [← List.map_reverse, List.reverse_reverse, ← List.map_append, List.take_append_drop]
      have hlen : ∀ sig, parseMethodDescriptor y'.desc = some sig → (li.getD 1 0).toNat = sig.parameters.length := by
        intro sig hsig
        rw [hsig] at g8
        exact (Option.some.inj g8).symm
      have g2l := g2.1
      unfold zlk at g2l
      split at g2l
      · refine zafter (va_runS (As := List.map (zcv b0 sA vF) (st.take (li.getD 1 0).toNat).reverse) ⟨hx, hb, hml, hown, hts⟩ (hmet _ _ _ _ _ _ g1) ⟨⟨rfl, rfl, by show fr' + 1 ≤ R.frames; omega, by show 8 + (nL' + 11) + lo' ≤ R.locals; omega, zword (W' := []) hts hTs g3, List.mem_cons_self, zin_b g3 hts hTs, zin_b g4 hts hTs, g7, hlen, zin_b g2l hts hTs⟩, zin_b g2.2 hts hTs⟩ ⟨zblind, hpre⟩ rfl hn hl.1 hsk (lv_room (hroom hc.1)) h2 hrm) hS (fun H1 locs1 hz1 hS1 => kk H1 locs1 h0 hz1 hS1)
      · simp only [decide_eq_true_eq] at g2l
        have hN := va_Nw.use (A := args) rfl (hst.2.1 _ (List.mem_of_getElem? g2l) rfl)
        refine zafter (va_runSN (As := List.map (zcv b0 sA vF) (st.take (li.getD 1 0).toNat).reverse) ⟨hx, hb, hml, hown, hts⟩ (hmet _ _ _ _ _ _ g1) ⟨⟨⟨rfl, rfl, by show fr' + 1 ≤ R.frames; omega, by show 8 + (nL' + 11) + lo' ≤ R.locals; omega, zword (W' := []) hts hTs g3, List.mem_cons_self⟩, zin_b g3 hts hTs, zin_b g4 hts hTs, g7, hlen, hN⟩, zin_b g2.2 hts hTs, trivial⟩ ⟨zblind, hpre⟩ rfl hn hl.1 hsk (lv_room (hroom hc.1)) h2 hrm) hS (fun H1 locs1 hz1 hS1 => kk H1 locs1 h0 hz1 hS1)
    · cases hs
  | 37, hok, hs =>
    simp only [zokE, zdc, znx, Bool.and_eq_true, Bool.or_eq_true, decide_eq_true_eq] at hok
    obtain ⟨⟨⟨h0, h2⟩, h4⟩, h3⟩ := hok
    obtain ⟨y', cc', nL', ret', fr', lo', g1, g2, g3, g4, g5, g6, g7, g8, g9⟩ := zcall_w h3
    simp only [zstp] at hs
    split at hs
    · rename_i hc
      split at hs
      · rename_i r as1 has
        split at hs
        · rename_i hkd
          simp only [Option.some.injEq, Sum.inr.injEq, Sum.inl.injEq, Prod.mk.injEq] at hs
          obtain ⟨rfl, rfl, rfl, rfl, rfl⟩ := hs
          refine ⟨rfl, ?_⟩
          simp only [Bool.and_eq_true, decide_eq_true_eq] at g2
          obtain ⟨⟨⟨f1, f2⟩, f3⟩, f4⟩ := g2
          rw [if_neg (by decide)] at g8
          have hlas : as1.length + 1 = (li.getD 1 0).toNat := by
            have := congrArg List.length has
            simp only [List.length_reverse, List.length_take, List.length_cons] at this
            omega
          have hsk : st.map (zcv b0 sA vF) = (as1.map (zcv b0 sA vF)).reverse ++ zcv b0 sA vF (zr r) :: (st.drop (li.getD 1 0).toNat).map (zcv b0 sA vF) := by
            have e1 : st.take (li.getD 1 0).toNat = as1.reverse ++ [zr r] := by
              rw [← List.reverse_reverse (st.take _), has]
              simp
            rw [← List.map_reverse, ← List.map_cons, ← List.map_append]
            conv => lhs; rw [← List.take_append_drop (li.getD 1 0).toNat st, e1]
            simp
          have hlen : ∀ sig, parseMethodDescriptor y'.desc = some sig → as1.length = sig.parameters.length := by
            intro sig hsig
            rw [hsig] at g8
            have e2 : sig.parameters.length = (li.getD 1 0).toNat - 1 := Option.some.inj g8
            omega
          obtain ⟨j, rfl, hj⟩ := zkd_at hkd
          rw [zcv_j] at hsk
          rw [h4.2.2] at hj
          have hrecv := va_recv hst.1 hr (zCl_at _ h4.2.1) (zobj_at hj h4.2.1)
          rw [← f4] at hrecv
          simp only [List.map_cons, zcv_j] at hpre
          unfold zlk at f1
          rw [if_pos rfl] at f1
          exact zafter (va_runV (As := as1.map (zcv b0 sA vF)) ⟨hx, hb, hml, hown, hts⟩ (hmet _ _ _ _ _ _ g1) ⟨⟨rfl, rfl, by show fr' + 1 ≤ R.frames; omega, by show 8 + (nL' + 11) + lo' ≤ R.locals; omega, zword (W' := []) hts hTs g3, List.mem_cons_self, zin_b g3 hts hTs, zin_b g4 hts hTs, g7, hlen, zin_b f1 hts hTs⟩, zin_b f2 hts hTs, zin_b f3 hts hTs⟩ ⟨zblind, hrecv, hpre⟩ rfl (by simp) hl.1 hsk (lv_room (hroom hc.1)) h2 hrm) hS (fun H1 locs1 hz1 hS1 => kk H1 locs1 h0 hz1 hS1)
        · cases hs
      · cases hs
    · cases hs
  | 38, hok, hs =>
    simp only [zokE, zdc, znx, Bool.and_eq_true, Bool.or_eq_true, decide_eq_true_eq] at hok
    obtain ⟨⟨⟨h0, h2⟩, h3⟩, h4⟩ := hok
    obtain ⟨y', cc', nL', ret', fr', lo', g1, g2, g3, g4, g5, g6, g7, g8, g9⟩ := zcall_w h3
    simp only [zstp] at hs
    split at hs
    · rename_i hc
      split at hs
      · rename_i r as1 has
        split at hs
        · rename_i hge
          simp only [Option.some.injEq, Sum.inr.injEq, Sum.inl.injEq, Prod.mk.injEq] at hs
          obtain ⟨rfl, rfl, rfl, rfl, rfl⟩ := hs
          refine ⟨rfl, ?_⟩
          simp only [Bool.and_eq_true, decide_eq_true_eq] at g2
          obtain ⟨⟨f1, f2⟩, f3⟩ := g2
          rw [if_neg (by decide)] at g8
          have hret : ret' = none := by
            rw [g1] at h4
            exact Option.some.inj h4
          subst hret
          have hlas : as1.length + 1 = (li.getD 1 0).toNat := by
            have := congrArg List.length has
            simp only [List.length_reverse, List.length_take, List.length_cons] at this
            omega
          have hsk : st.map (zcv b0 sA vF) = (as1.map (zcv b0 sA vF)).reverse ++ zcv b0 sA vF (zr r) :: (st.drop (li.getD 1 0).toNat).map (zcv b0 sA vF) := by
            have e1 : st.take (li.getD 1 0).toNat = as1.reverse ++ [zr r] := by
              rw [← List.reverse_reverse (st.take _), has]
              simp
            rw [← List.map_reverse, ← List.map_cons, ← List.map_append]
            conv => lhs; rw [← List.take_append_drop (li.getD 1 0).toNat st, e1]
            simp
          have hlen : ∀ sig, parseMethodDescriptor y'.desc = some sig → as1.length = sig.parameters.length := by
            intro sig hsig
            rw [hsig] at g8
            have e2 : sig.parameters.length = (li.getD 1 0).toNat - 1 := Option.some.inj g8
            omega
          rw [zcv_r hge] at hsk
          simp only [List.map_cons, zcv_r hge] at hpre
          unfold zlk at f1
          split at f1
          · exact zafter (va_runI (As := as1.map (zcv b0 sA vF)) ⟨hx, hb, hml, hown, hts⟩ (hmet _ _ _ _ _ _ g1) ⟨⟨rfl, rfl, by show fr' + 1 ≤ R.frames; omega, by show 8 + (nL' + 11) + lo' ≤ R.locals; omega, zword (W' := []) hts hTs g3, List.mem_cons_self, zin_b g3 hts hTs, zin_b g4 hts hTs, g7, hlen, zin_b f1 hts hTs⟩, f3, zin_b f2 hts hTs⟩ ⟨zblind, hpre⟩ rfl (by simp) hl.1 hsk (lv_room (hroom hc.1)) h2 hrm) hS (fun H1 locs1 hz1 hS1 => kk H1 locs1 h0 hz1 hS1)
          · simp only [decide_eq_true_eq] at f1
            have hN := va_Nw.use (A := args) rfl (hst.2.1 _ (List.mem_of_getElem? f1) rfl)
            exact zafter (va_runIN (As := as1.map (zcv b0 sA vF)) ⟨hx, hb, hml, hown, hts⟩ (hmet _ _ _ _ _ _ g1) ⟨⟨⟨rfl, rfl, by show fr' + 1 ≤ R.frames; omega, by show 8 + (nL' + 11) + lo' ≤ R.locals; omega, zword (W' := []) hts hTs g3, List.mem_cons_self⟩, zin_b g3 hts hTs, zin_b g4 hts hTs, g7, hlen, hN⟩, f3, zin_b f2 hts hTs⟩ ⟨zblind, hpre⟩ rfl (by simp) hl.1 hsk (lv_room (hroom hc.1)) h2 hrm) hS (fun H1 locs1 hz1 hS1 => kk H1 locs1 h0 hz1 hS1)
        · cases hs
      · cases hs
    · cases hs
  | 53, hok, hs =>
    simp only [zokE, zdc, znx, Bool.and_eq_true, Bool.or_eq_true, decide_eq_true_eq] at hok
    obtain ⟨⟨h0, h2⟩, h3⟩ := hok
    obtain ⟨y', cc', nL', ret', fr', lo', g1, g2, g3, g4, g5, g6, g7, g8, g9⟩ := zcall_w h3
    simp only [zstp] at hs
    split at hs
    · rename_i hc
      split at hs
      · rename_i r as1 has
        split at hs
        · rename_i hkd
          simp only [Option.some.injEq, Sum.inr.injEq, Sum.inl.injEq, Prod.mk.injEq] at hs
          obtain ⟨rfl, rfl, rfl, rfl, rfl⟩ := hs
          refine ⟨rfl, ?_⟩
          simp only [Bool.and_eq_true, decide_eq_true_eq] at g2
          obtain ⟨⟨⟨f1, f2⟩, f3⟩, f4⟩ := g2
          rw [if_neg (by decide)] at g8
          have hlas : as1.length + 1 = (li.getD 1 0).toNat := by
            have := congrArg List.length has
            simp only [List.length_reverse, List.length_take, List.length_cons] at this
            omega
          have hsk : st.map (zcv b0 sA vF) = (as1.map (zcv b0 sA vF)).reverse ++ zcv b0 sA vF (zr r) :: (st.drop (li.getD 1 0).toNat).map (zcv b0 sA vF) := by
            have e1 : st.take (li.getD 1 0).toNat = as1.reverse ++ [zr r] := by
              rw [← List.reverse_reverse (st.take _), has]
              simp
            rw [← List.map_reverse, ← List.map_cons, ← List.map_append]
            conv => lhs; rw [← List.take_append_drop (li.getD 1 0).toNat st, e1]
            simp
          have hlen : ∀ sig, parseMethodDescriptor y'.desc = some sig → as1.length = sig.parameters.length := by
            intro sig hsig
            rw [hsig] at g8
            have e2 : sig.parameters.length = (li.getD 1 0).toNat - 1 := Option.some.inj g8
            omega
          obtain ⟨i, hi, rfl⟩ : ∃ i : Nat, i < 4 ∧ r = -2 - (i : Int) := ⟨(-2 - r).toNat, by omega, by omega⟩
          rw [zcv_s (by omega) (by omega)] at hsk
          have hrecv := vk_recv hst.2.2.2.2.2.1 hi hS
          rw [← f4] at hrecv
          simp only [List.map_cons, zcv_s (show -2 - (i : Int) < 1 by omega) (show -2 - (i : Int) ≠ -20 by omega)] at hpre
          unfold zlk at f1
          rw [if_pos rfl] at f1
          exact zafter (va_runV (As := as1.map (zcv b0 sA vF)) ⟨hx, hb, hml, hown, hts⟩ (hmet _ _ _ _ _ _ g1) ⟨⟨rfl, rfl, by show fr' + 1 ≤ R.frames; omega, by show 8 + (nL' + 11) + lo' ≤ R.locals; omega, zword (W' := []) hts hTs g3, List.mem_cons_self, zin_b g3 hts hTs, zin_b g4 hts hTs, g7, hlen, zin_b f1 hts hTs⟩, zin_b f2 hts hTs, zin_b f3 hts hTs⟩ ⟨zblind, hrecv, hpre⟩ rfl (by simp) hl.1 hsk (lv_room (hroom hc.1)) h2 hrm) hS (fun H1 locs1 hz1 hS1 => kk H1 locs1 h0 hz1 hS1)
        · cases hs
      · cases hs
    · cases hs
  | 0, _, hs | 1, _, hs | 2, _, hs | 3, _, hs | 4, _, hs | 5, _, hs | 6, _, hs | 7, _, hs | 8, _, hs | 9, _, hs | 10, _, hs | 11, _, hs | 12, _, hs | 13, _, hs | 14, _, hs | 15, _, hs | 16, _, hs | 17, _, hs | 18, _, hs | 19, _, hs | 20, _, hs | 21, _, hs | 22, _, hs | 23, _, hs | 24, _, hs | 25, _, hs | 26, _, hs | 27, _, hs | 28, _, hs | 29, _, hs | 30, _, hs | 31, _, hs | 32, _, hs | 33, _, hs | 34, _, hs | 35, _, hs | 39, _, hs | 40, _, hs | 41, _, hs | 42, _, hs | 43, _, hs | 44, _, hs | 45, _, hs | 46, _, hs | 47, _, hs | 48, _, hs | 49, _, hs | 50, _, hs | 51, _, hs | 52, _, hs | 54, _, hs =>
    exfalso
    simp only [zstp, zgo] at hs
    repeat' (split at hs)
    all_goals first
      | (cases hs; done)
      | (obtain ⟨v, -, hs⟩ := Option.bind_eq_some_iff.mp hs; cases hs; done)
  | n + 55, hok, hs => exact absurd hok (by simp [zokE])
end
