/-! the small machine's memory in the machine's heap -/
def zad (b0 : Nat) (sA : Int → Nat) (x : Int) : Nat := if 1 ≤ x then b0 + (x - 1).toNat else sA x
def zcv (b0 : Nat) (sA : Int → Nat) (vF : Value) : zV → Value
  | .inl x => .int (Int32.ofInt x)
  | .inr (.inl x) => .long (Int64.ofInt x)
  | .inr (.inr x) => if x = -20 then vF else .ref (zad b0 sA x)
def zrf (b0 : Nat) (x : Int) : Option Nat := if 1 ≤ x then some (b0 + (x - 1).toNat) else none
def zfv (b0 : Nat) (isI : Bool) (x : Int) : Value := if isI = true then .int (Int32.ofInt x) else va_rf (zrf b0 x)
def zcell (b0 : Nat) (cA : Nat → ClassId) (M : zM) (j : Nat) (q : Nat × Nat) : va_E :=
  if q.1 < 13 then .inr (q.1, (List.range q.2).map fun (k : Nat) => zfv b0 (zFI q.1 k) (M ((j : Int) + 1) (k : Int)))
  else .inl (cA q.1, q.2, if q.1 = 102 then .inr (.inl fun (i : Nat) => Int64.ofInt (M ((j : Int) + 1) (i : Int))) else if q.1 = 103 ∨ q.1 = 104 then .inr (.inr (.inr (.inr fun (i : Nat) => zrf b0 (M ((j : Int) + 1) (i : Int))))) else .inl fun (i : Nat) => Int32.ofInt (M ((j : Int) + 1) (i : Int)))
def zws (b0 : Nat) (cA : Nat → ClassId) (M : zM) (K : zK) : va_W := (List.range K.length).map fun j => (b0 + j, zcell b0 cA M j (K.getD j (0, 0)))
theorem zws_len (b0 : Nat) (cA : Nat → ClassId) (M : zM) (K : zK) : (zws b0 cA M K).length = K.length := by simp [zws]
theorem zws_at {b0 : Nat} {cA : Nat → ClassId} {M : zM} {K : zK} {j : Nat} {q : Nat × Nat} (h : K[j]? = some q) : (zws b0 cA M K)[j]? = some (b0 + j, zcell b0 cA M j q) := by
  have hl : j < K.length := (List.getElem?_eq_some_iff.mp h).1
  simp [zws, List.getElem?_map, List.getElem?_range hl, List.getD_eq_getElem?_getD, h]
theorem zws_ad {b0 : Nat} {cA : Nat → ClassId} {M : zM} {K : zK} {j : Nat} {x : Nat × va_E} (h : (zws b0 cA M K)[j]? = some x) : j < K.length ∧ x.1 = b0 + j := by
  have hl : j < (zws b0 cA M K).length := (List.getElem?_eq_some_iff.mp h).1
  rw [zws_len] at hl
  simp [zws, List.getElem?_map, List.getElem?_range hl] at h
  exact ⟨hl, by rw [← h]⟩
theorem zws_D {b0 : Nat} {cA : Nat → ClassId} {M : zM} {K : zK} : va_D (fun q => b0 ≤ q) (zws b0 cA M K) := by
  refine ⟨fun i j p q hi hj e => ?_, fun k q hk => ?_⟩
  · have h1 := zws_ad hi
    have h2 := zws_ad hj
    omega
  · have h1 := zws_ad hk
    show b0 ≤ q.1
    omega
theorem zws_set {b0 : Nat} {cA : Nat → ClassId} {M M' : zM} {K : zK} {j : Nat} {q : Nat × Nat} {e : va_E} (h : K[j]? = some q) (he : e = zcell b0 cA M' j q) (ho : ∀ i : Nat, i ≠ j → ∀ k, M' ((i : Int) + 1) k = M ((i : Int) + 1) k) : (zws b0 cA M K).set j (b0 + j, e) = zws b0 cA M' K := by
  apply List.ext_getElem?
  intro i
  by_cases hi : i < K.length
  · obtain ⟨qi, hqi⟩ : ∃ qi, K[i]? = some qi := ⟨K[i], List.getElem?_eq_getElem hi⟩
    rw [zws_at hqi]
    by_cases hij : i = j
    · subst hij
      rw [List.getElem?_set_self (by rw [zws_len]; exact hi), he]
      rw [h] at hqi
      cases hqi
      rfl
    · rw [List.getElem?_set_ne (Ne.symm hij), zws_at hqi]
      simp only [zcell, ho i hij]
  · rw [List.getElem?_eq_none (by rw [List.length_set, zws_len]; omega), List.getElem?_eq_none (by rw [zws_len]; omega)]
theorem zws_push {b0 : Nat} {cA : Nat → ClassId} {M M' : zM} {K : zK} {q : Nat × Nat} (ho : ∀ i : Nat, i < K.length → ∀ k, M' ((i : Int) + 1) k = M ((i : Int) + 1) k) : zws b0 cA M' (K ++ [q]) = zws b0 cA M K ++ [(b0 + K.length, zcell b0 cA M' K.length q)] := by
  apply List.ext_getElem?
  intro i
  by_cases hi : i < K.length
  · obtain ⟨qi, hqi⟩ : ∃ qi, K[i]? = some qi := ⟨K[i], List.getElem?_eq_getElem hi⟩
    rw [List.getElem?_append_left (by rw [zws_len]; exact hi), zws_at hqi, zws_at (q := qi) (by rw [List.getElem?_append_left hi]; exact hqi)]
    simp only [zcell, ho i hi]
  · by_cases hk : i = K.length
    · subst hk
      rw [zws_at (q := q) (by simp), List.getElem?_append_right (by rw [zws_len]; omega), zws_len]
      simp
    · rw [List.getElem?_eq_none (by rw [zws_len]; simp; omega), List.getElem?_eq_none (by simp [zws_len]; omega)]
def ztys (cA : Nat → ClassId) : List (ClassId × FieldType) := [(cA 100, .int), (cA 101, .byte), (cA 102, .long), (cA 103, .object "BankStore$Shape"), (cA 104, .object "BankStore$Sheet")]
def zrel (b0 : Nat) (D : va_G) (cA : Nat → ClassId) (M : zM) (K : zK) (H : Heap) : Prop := va_P D zCl (zws b0 cA M K) H
def zisN : Jvm.Cond → Bool
  | .methodLinkNest _ _ _ _ => true
  | _ => false
def zA0 (b0 : Nat) : Nat → Prop := fun q => b0 ≤ q
def zlen : List Nat := [4, 5, 3, 3]
def zbyt : List (List Int32) := [[108, 111, 97, 100], [115, 116, 111, 114, 101], [97, 100, 100], [109, 117, 108]]
/-- what holds of the tables, of the script and of the literals, in a state U with a heap H -/
def zstat (X : Int × (Int → Int)) (b0 : Nat) (D : va_G) (cA : Nat → ClassId) (sA : Int → Nat) (vF : Value) (U : State) (H : Heap) : Prop :=
  va_K D zCl (ztys cA) U ∧ (∀ w ∈ lw_tbl, zisN w = true → va_Nw w U) ∧ va_AO "BankStore$Shape" U ∧ va_AO "BankStore$Sheet" U ∧
  (∀ i : Nat, i < 4 → vk_R "BankStore$Reader" (zSi.getD i 0) (zSt.getD i "") (sA (-2 - (i : Int))) U) ∧
  vk_S 4 zlen zbyt (fun i => sA (-2 - (i : Int))) (fun i => sA (-10 - (i : Int))) (zA0 b0) U H ∧
  va_Z "java/lang/String" "COMPACT_STRINGS" "Z" (.int 1) (zA0 b0) U H ∧
  va_Z "jdk/internal/util/Preconditions" "SIOOBE_FORMATTER" "Ljava/util/function/BiFunction;" vF (zA0 b0) U H ∧ (vF = .null ∨ ∃ a, vF = .ref a) ∧
  (∃ (L : Nat) (xs : Nat → Int32), va_X (sA (-1)) L xs U H ∧ X.1 = (L : Int) ∧ (∀ i : Nat, i < L → X.2 (i : Int) = (xs i).toInt) ∧ L ≤ 3072) ∧ sA (-1) < b0
theorem zstat.same {X : Int × (Int → Int)} {b0 : Nat} {D : va_G} {cA : Nat → ClassId} {sA : Int → Nat} {vF : Value} {u U : State} {H : Heap} (hv : u.vm = U.vm) (h : zstat X b0 D cA sA vF u H) : zstat X b0 D cA sA vF U H := by
  obtain ⟨h1, h2, h3, h4, h5, h6, h7, h8, h9, ⟨L, xs, hx1, hx2⟩, h11⟩ := h
  have ha : u.vm.Alike U.vm := by rw [hv]; exact Vm.Alike.refl _
  exact ⟨h1.moved ha, fun w hw hn => va_Nw.same (by cases w <;> first | rfl | (simp [zisN] at hn)) hv (h2 w hw hn), h3.moved ha, h4.moved ha, fun i hi => vk_R.same hv.symm (h5 i hi), h6.moved ha, h7.moved ha, h8.moved ha, h9, ⟨L, xs, hx1.moved ha, hx2⟩, h11⟩
theorem zstat.warm {X : Int × (Int → Int)} {b0 : Nat} {D : va_G} {cA : Nat → ClassId} {sA : Int → Nat} {vF : Value} {s U : State} {H0 H : Heap} (hW : s.WarmedH U.vm) (hq : ∀ a : Nat, a < H0.size → ¬ zA0 b0 a → H[a]? = H0[a]?) (hb : b0 ≤ H0.size) (h : zstat X b0 D cA sA vF s H0) : zstat X b0 D cA sA vF U H := by
  obtain ⟨h1, h2, h3, h4, h5, h6, h7, h8, h9, ⟨L, xs, hx1, hx2⟩, h11⟩ := h
  have ha : s.vm.Alike U.vm := hW.alike
  refine ⟨h1.moved ha, fun w hw hn => ?_, h3.moved ha, h4.moved ha, fun i hi => (h5 i hi).warm hW, (h6.moved ha).kept hq, (h7.moved ha).kept hq, (h8.moved ha).kept hq, h9, ⟨L, xs, (hx1.moved ha).kept (hq _ (by omega) (by simp only [zA0]; omega)), hx2⟩, h11⟩
  cases w <;> first | exact va_Nw.warmM hW (h2 _ hw hn) | (simp [zisN] at hn)
/-- the variables, those that are set -/
def zlv (f : zV → Value) (ls : List zV) : List (Nat × Value) := (List.range ls.length).filterMap fun i => match ls[i]? with
  | some v => if v = zU then none else some (i, f v)
  | none => none
theorem zlv_mem {f : zV → Value} {ls : List zV} {q : Nat × Value} : q ∈ zlv f ls ↔ ∃ v, ls[q.1]? = some v ∧ v ≠ zU ∧ q.2 = f v := by
  obtain ⟨i, w⟩ := q
  simp only [zlv, List.mem_filterMap, List.mem_range]
  constructor
  · rintro ⟨j, hj, h⟩
    rw [List.getElem?_eq_getElem hj] at h
    by_cases hz : ls[j] = zU
    · simp [hz] at h
    · simp only [if_neg hz, Option.some.injEq, Prod.mk.injEq] at h
      obtain ⟨rfl, rfl⟩ := h
      exact ⟨ls[j], List.getElem?_eq_getElem hj, hz, rfl⟩
  · rintro ⟨v, h1, h2, h3⟩
    have hj := (List.getElem?_eq_some_iff.mp h1).1
    refine ⟨i, hj, ?_⟩
    rw [h1]
    simp only [if_neg h2]
    exact congrArg some (Prod.ext rfl h3.symm)
theorem zlv_at {f : zV → Value} {ls : List zV} {lsA : Array Slot} {nL i : Nat} {v : zV} (h : lv_has lsA nL (zlv f ls)) (hv : ls[i]? = some v) (hn : v ≠ zU) : lsA[i]? = some (.val (f v)) := h.2.2 (i, f v) (zlv_mem.mpr ⟨v, hv, hn, rfl⟩)
theorem zlv_sub {f : zV → Value} {lsA : Array Slot} {nL : Nat} {l : List (Nat × Value)} {ls' : List zV} (h : lv_has lsA nL l) (hs : ∀ q ∈ zlv f ls', q ∈ l) : lv_has lsA nL (zlv f ls') := ⟨h.1, h.2.1, fun q hq => h.2.2 q (hs q hq)⟩
