theorem zcall_ls {X : Int × (Int → Int)} {en : zE} {ls st : List zV} {M : zM} {K : zK} {k' nx' : Nat} {as ls' st' : List zV} (h : zstp X en ls st M K = some (.inr (.inl (k', as, nx', ls', st')))) : ls' = ls := by
  obtain ⟨op, pc, nx, a, b, l⟩ := en
  simp only [zstp, zgo] at h
  split at h
  all_goals (repeat' (split at h))
  all_goals first
    | (cases h; done)
    | (cases h; rfl)
    | (obtain ⟨v, -, h⟩ := Option.bind_eq_some_iff.mp h; cases h; done)
theorem zargs_in {f : zV → Value} (hc : ∀ w, (f w).category = zcat w) : ∀ (as : List zV) (i j : Nat) (w : zV), (zargs as)[j]? = some w → w ≠ zU → (i + j, f w) ∈ lv_args i (as.map f) := by
  intro as
  induction as with
  | nil => intro i j w h; simp [zargs] at h
  | cons v t ih =>
    intro i j w h hw
    match v, h with
    | .inr (.inl x), h =>
      rw [zargs] at h
      rw [List.map_cons, lv_args, hc]
      match j, h with
      | 0, h => cases h; exact List.mem_cons_self
      | 1, h => cases h; exact absurd rfl hw
      | j + 2, h =>
        refine List.mem_cons_of_mem _ ?_
        have := ih (i + 2) j w (by simpa using h) hw
        rw [show i + (j + 2) = i + 2 + j by omega]
        exact this
    | .inl x, h =>
      rw [zargs] at h
      · rw [List.map_cons, lv_args, hc]
        match j, h with
        | 0, h => cases h; exact List.mem_cons_self
        | j + 1, h =>
          refine List.mem_cons_of_mem _ ?_
          have := ih (i + 1) j w (by simpa using h) hw
          rw [show i + (j + 1) = i + 1 + j by omega]
          exact this
      · intro x h; cases h
    | .inr (.inr x), h =>
      rw [zargs] at h
      · rw [List.map_cons, lv_args, hc]
        match j, h with
        | 0, h => cases h; exact List.mem_cons_self
        | j + 1, h =>
          refine List.mem_cons_of_mem _ ?_
          have := ih (i + 1) j w (by simpa using h) hw
          rw [show i + (j + 1) = i + 1 + j by omega]
          exact this
      · intro x h; cases h
theorem zargs_len {f : zV → Value} (hc : ∀ w, (f w).category = zcat w) : ∀ (as : List zV), (lg_sl (as.map f)).length = (zargs as).length := by
  intro as
  induction as with
  | nil => rfl
  | cons v t ih =>
    unfold lg_sl at ih ⊢
    rw [List.map_cons, List.flatMap_cons, List.length_append, ih, hc]
    match v with
    | .inr (.inl x) => rw [zargs]; simp [zcat]; omega
    | .inl x =>
      rw [zargs]
      · simp [zcat]; omega
      · intro x h; cases h
    | .inr (.inr x) =>
      rw [zargs]
      · simp [zcat]; omega
      · intro x h; cases h
theorem zent_in {f : zV → Value} (hc : ∀ w, (f w).category = zcat w) {n : Nat} {as : List zV} {lsA : Array Slot} (h : lv_has lsA n (lv_args 0 (as.map f))) : lv_has lsA n (zlv f (zent n as)) := by
  refine zlv_sub h (fun q hq => ?_)
  obtain ⟨w, h1, h2, h3⟩ := zlv_mem.mp hq
  obtain ⟨j, u⟩ := q
  dsimp only at h1 h3
  subst h3
  unfold zent at h1
  by_cases hj : j < (zargs as).length
  · rw [List.getElem?_append_left hj] at h1
    have := zargs_in hc as 0 j w h1 h2
    rwa [Nat.zero_add] at this
  · rw [List.getElem?_append_right (by omega)] at h1
    have := List.mem_of_getElem? h1
    rw [List.mem_replicate] at this
    exact absurd this.2 h2
def zOKp (k : Nat) (y : MethodName) (cc : ByteArray) (nL : Nat) (ret : Option FieldType) (fr lo : Nat) : Prop := plainName y.cls = true ∧ (∀ (nd : Nat) (en : zE), (zT k)[nd]? = some en → ∃ h, zokE y cc nL ret fr lo (zT k) en h = true) ∧ ((zT k)[0]?).map (fun e => e.2.1) = some 0
/-- what the run of a method means in the machine -/
def zSnd (l : Launch) (X : Int × (Int → Int)) (b0 : Nat) (D : va_G) (cA : Nat → ClassId) (sA : Int → Nat) (vF : Value) (n : Nat) : Prop :=
  ∀ (k nd : Nat) (ls st : List zV) (M : zM) (K : zK) (v : Option zV) (M' : zM) (K' : zK), zrun X zT znl n k (nd, ls, st, M, K) = some (v, M', K') → ∀ (y : MethodName) (cc : ByteArray) (nL : Nat) (ret : Option FieldType) (fr lo : Nat), zMs[k]? = some (y, cc, nL, ret, fr, lo) →
  ∀ (p : Program) (e : Env) (R : Room) (s : State) (m : MethodId) (args : Array Value) (below : List Frame) (meth : Method) (c : Code) (H : Heap) (locs : List Loc) (cells slots : Nat) (Q : State → Prop) (Ts : List Jvm.Cond) (lsA : Array Slot) (pc : Nat),
  zFr p R s m args meth c X b0 D cA sA vF Ts y cc nL fr lo → lv_has lsA nL (zlv (zcv b0 sA vF) ls) → ((zT k)[nd]?).map (fun e => e.2.1) = some pc → zrel b0 D cA M K H → va_S (zA0 b0) s.heap H locs → s.heap.size + cells = b0 + K.length → (cells + (K'.length - K.length) ≤ R.cells ∧ slots + (zsl K' - zsl K) ≤ R.slots) →
  (∀ (H' : Heap) (locs' : List Loc) (lsA' : Array Slot) (pc' cells' slots' : Nat), zrel b0 D cA M' K' H' → va_S (zA0 b0) s.heap H' locs' → cells' = cells + (K'.length - K.length) → slots' = slots + (zsl K' - zsl K) → zend cc ret pc' v → W p l e R s m args below meth c H' locs' cells' slots' Q (F0 m pc' lsA' ((zpush v []).map (zcv b0 sA vF)))) →
  W p l e R s m args below meth c H locs cells slots Q (F0 m pc lsA (st.map (zcv b0 sA vF)))
theorem zmet {l : Launch} {X : Int × (Int → Int)} {b0 : Nat} {D : va_G} {cA : Nat → ClassId} {sA : Int → Nat} {vF : Value} {n : Nat} (hvF : vF = .null ∨ ∃ a, vF = .ref a) (hall : ∀ k y cc nL ret fr lo, zMs[k]? = some (y, cc, nL, ret, fr, lo) → zOKp k y cc nL ret fr lo) (ih : zSnd l X b0 D cA sA vF n) {k : Nat} {as : List zV} {M M' : zM} {K K' : zK} {v : Option zV} (hrun : zrun X zT znl n k (0, zent (znl k) as, [], M, K) = some (v, M', K')) (hlen : (zargs as).length ≤ znl k) {y : MethodName} {cc : ByteArray} {nL : Nat} {ret : Option FieldType} {fr lo : Nat} (hk : zMs[k]? = some (y, cc, nL, ret, fr, lo)) :
    Met l y (.code y cc nL ret :: zgood) { frames := fr, cells := K'.length - K.length, slots := zsl K' - zsl K, locals := lo } (zPc X b0 D cA sA vF M K as) (zQc b0 D cA v M' K') (K'.length - K.length) (zsl K' - zsl K) (zA0 b0) := by
  obtain ⟨o1, o2, o3⟩ := hall k y cc nL ret fr lo hk
  have hnl : znl k = nL := by rw [znl, hk]
  rw [hnl] at hrun hlen
  have hcat := zcv_cat (b0 := b0) (sA := sA) hvF
  refine Met.ofW (cc := cc) (maxL := nL) (ret := ret) o1 rfl ?_
  intro p e s m args below meth c s₁ B hml hv
  obtain ⟨rfl, hst, hrel, hsz⟩ := hv
  have hts := atoms_spec (ws := (.code y cc nL ret :: zgood)) B.pre
  have hown : s.vm.findClass y.cls = some m.cls := findClass_of_methodNamed B.named
  have hlocks := B.notSynchronized
  have hin : meth.name = y.name := (name_of_methodNamed B.named B.method).1
  have hlv := lv_entry (as.map (zcv b0 sA vF)) (n := nL) (by rw [zargs_len hcat]; exact hlen)
  rw [lg_entry_eq]
  refine ih k 0 _ [] M K v M' K' hrun y cc nL ret fr lo hk p e _ s m _ below meth c s.heap [] 0 0 _ (.code y cc nL ret :: zgood) _ 0 ⟨B.exec, B.bytes, hml, hown, hts, fun w h1 h2 => List.mem_cons_of_mem _ (List.mem_filter.mpr ⟨h1, h2⟩), hst, by omega, fun q => hin.trans q, Nat.le_refl _, Nat.le_refl _⟩ (zent_in hcat hlv) o3 hrel va_S.rf (by omega) ⟨by simp [headSpec], by simp [headSpec]⟩ ?_
  intro H' locs' lsA' pc' cells' slots' z1 z2 z3 z4 z5
  rw [Nat.zero_add] at z3 z4
  subst z3
  subst z4
  match v, z5 with
  | none, z5 =>
    exact W.vret B.exec B.bytes (B.returns.trans z5.1) (fun t ht hW => ⟨⟨(), rfl, trivial, by show zrel b0 D cA M' K' t.heap; rw [ht]; exact z1⟩, z2.F ht⟩) z2.2.2 z5.2 hlocks
  | some (.inl x), z5 =>
    obtain ⟨g1, ty, g2, g3⟩ := z5
    exact W.zret B.exec B.bytes (B.returns.trans g2) g3 (fun t ht hW => ⟨⟨Int32.ofInt x, (), rfl, rfl, by show zrel b0 D cA M' K' t.heap; rw [ht]; exact z1⟩, z2.F ht⟩) z2.2.2 g1 hlocks
  | some (.inr x), z5 => exact z5.elim
theorem zsound {l : Launch} {X : Int × (Int → Int)} {b0 : Nat} {D : va_G} {cA : Nat → ClassId} {sA : Int → Nat} {vF : Value} (hall : ∀ k y cc nL ret fr lo, zMs[k]? = some (y, cc, nL, ret, fr, lo) → zOKp k y cc nL ret fr lo) : ∀ n, zSnd l X b0 D cA sA vF n := by
  intro n
  induction n with
  | zero => intro k nd ls st M K v M' K' h; cases h
  | succ n ih =>
    intro k nd ls st M K v M' K' hrun y cc nL ret fr lo hk p e R s m args below meth c H locs cells slots Q Ts lsA pc F hl hpc hr hS hz hrm fin
    obtain ⟨o1, o2, o3⟩ := hall k y cc nL ret fr lo hk
    have hvF := F.2.2.2.2.2.2.1.2.2.2.2.2.2.2.2.1
    rw [zrun] at hrun
    split at hrun
    · cases hrun
    · rename_i en hen
      obtain ⟨hh, hok⟩ := o2 nd en hen
      obtain ⟨op, pc0, nx, a, b, li⟩ := en
      rw [hen] at hpc
      cases hpc
      split at hrun
      · cases hrun
      · rename_i cf hs
        obtain ⟨nd1, ls1, st1, M1, K1⟩ := cf
        have hm1 := zmono1 hs
        have hm2 := zmono _ _ _ _ _ _ _ _ _ _ hrun
        refine zstep_ok F hok hs hl hr hS hz ⟨by omega, by omega⟩ ?_
        intro H' locs' lsA' pc' cells' slots' e1 e2 e3 e4 e5 e6
        refine ih k nd1 ls1 st1 M1 K1 v M' K' hrun y cc nL ret fr lo hk p e R s m args below meth c H' locs' cells' slots' Q Ts lsA' pc' F e2 e1 e3 e4 (by omega) ⟨by omega, by omega⟩ ?_
        intro H2 locs2 lsA2 pc2 cells2 slots2 f1 f2 f3 f4 f5
        exact fin H2 locs2 lsA2 pc2 cells2 slots2 f1 f2 (by omega) (by omega) f5
      · rename_i v1 hs
        cases hrun
        obtain ⟨e1, e2⟩ := zret_ok hok hs
        rw [e1]
        exact fin H locs lsA pc0 cells slots hr hS (by simp) (by simp) e2
      · rename_i k' as nx' ls1 st1 hs
        split at hrun
        · rename_i hlen
          split at hrun
          · cases hrun
          · rename_i v1 M1 K1 hrun1
            have hm1 := zmono _ _ _ _ _ _ _ _ _ _ hrun1
            have hm2 := zmono _ _ _ _ _ _ _ _ _ _ hrun
            have hls := zcall_ls hs
            subst hls
            refine zW_size (fun hsz => ?_)
            have hsz2 : H.size = b0 + K.length := by
              have hb0 := F.2.2.2.2.2.2.2.1
              have h1 := hS.1
              by_cases hK : K.length = 0
              · omega
              · obtain ⟨qi, hqi⟩ : ∃ qi, K[K.length - 1]? = some qi := ⟨K[K.length - 1], List.getElem?_eq_getElem (by omega)⟩
                have := (hr (K.length - 1) _ (zws_at hqi)).lt
                dsimp only at this
                omega
            refine (zcall_ok F hok hs hl hr hS hsz2 (fun y' cc' nL' ret' fr' lo' hk' => zmet hvF hall ih hrun1 hlen hk') ⟨by omega, by omega⟩ ?_).2
            intro H1 locs1 e1 e2 e3
            refine ih k nx' ls1 (zpush v1 st1) M1 K1 v M' K' hrun y cc nL ret fr lo hk p e R s m args below meth c H1 locs1 _ _ Q Ts lsA (pc0 + 3) F hl e1 e2 e3 (by omega) ⟨by omega, by omega⟩ ?_
            intro H2 locs2 lsA2 pc2 cells2 slots2 f1 f2 f3 f4 f5
            exact fin H2 locs2 lsA2 pc2 cells2 slots2 f1 f2 (by omega) (by omega) f5
        · cases hrun
