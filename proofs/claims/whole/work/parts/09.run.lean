theorem zmono1 {X : Int × (Int → Int)} {en : zE} {ls st : List zV} {M : zM} {K : zK} {nd' : Nat} {ls' st' : List zV} {M' : zM} {K' : zK} (h : zstp X en ls st M K = some (.inl (nd', ls', st', M', K'))) : K.length ≤ K'.length ∧ zsl K ≤ zsl K' := by
  obtain ⟨op, pc, nx, a, b, l⟩ := en
  simp only [zstp, zgo] at h
  split at h
  all_goals (repeat' (split at h))
  all_goals first
    | (cases h; done)
    | (simp only [Option.some.injEq, Sum.inl.injEq, Prod.mk.injEq] at h; obtain ⟨-, -, -, -, rfl⟩ := h; exact ⟨Nat.le_refl _, Nat.le_refl _⟩)
    | (simp only [Option.some.injEq, Sum.inl.injEq, Prod.mk.injEq] at h; obtain ⟨-, -, -, -, rfl⟩ := h; rw [zsl_push]; exact ⟨by simp, by omega⟩)
    | (obtain ⟨v, -, h⟩ := Option.bind_eq_some_iff.mp h; simp only [Option.some.injEq, Sum.inl.injEq, Prod.mk.injEq] at h; obtain ⟨-, -, -, -, rfl⟩ := h; exact ⟨Nat.le_refl _, Nat.le_refl _⟩)
theorem zmono {X : Int × (Int → Int)} {T : Nat → List zE} {nl : Nat → Nat} : ∀ (n k nd : Nat) (ls st : List zV) (M : zM) (K : zK) (v : Option zV) (M' : zM) (K' : zK), zrun X T nl n k (nd, ls, st, M, K) = some (v, M', K') → K.length ≤ K'.length ∧ zsl K ≤ zsl K' := by
  intro n
  induction n with
  | zero => intro k nd ls st M K v M' K' h; cases h
  | succ n ih =>
    intro k nd ls st M K v M' K' h
    rw [zrun] at h
    split at h
    · cases h
    · split at h
      · cases h
      · rename_i hs
        obtain ⟨nd1, ls1, st1, M1, K1⟩ := ‹zC›
        have h1 := zmono1 hs
        have h2 := ih _ _ _ _ _ _ _ _ _ h
        omega
      · cases h
        exact ⟨Nat.le_refl _, Nat.le_refl _⟩
      · split at h
        · split at h
          · cases h
          · rename_i v1 M1 K1 h1
            have h2 := ih _ _ _ _ _ _ _ _ _ h1
            have h3 := ih _ _ _ _ _ _ _ _ _ h
            omega
        · cases h
def zend (cc : ByteArray) (ret : Option FieldType) (pc : Nat) (v : Option zV) : Prop := match v with
  | none => ret = none ∧ decode cc pc = .ok (.return_, 1)
  | some (.inl x) => decode cc pc = .ok (.ireturn, 1) ∧ ∃ ty, ret = some ty ∧ narrow ty (.int (Int32.ofInt x)) = .int (Int32.ofInt x)
  | _ => False
theorem znar_s {x : Int} (h : 0 ≤ x ∧ x < 128) : narrow .char (.int (Int32.ofInt x)) = .int (Int32.ofInt x) ∧ narrow .byte (.int (Int32.ofInt x)) = .int (Int32.ofInt x) := by
  obtain ⟨n, rfl⟩ : ∃ n : Nat, x = (n : Int) := ⟨x.toNat, by omega⟩
  refine ⟨?_, ?_⟩
  · rw [Int32.ofInt_eq_ofNat]
    exact (pk_charN (q := n) (by omega)).1
  · show Value.int (Int32.ofInt (n : Int)).toInt8.toInt32 = _
    rw [z_i2b, zb8, Int.bmod_eq_of_le (by omega) (by omega)]
theorem zret_ok {X : Int × (Int → Int)} {y : MethodName} {cc : ByteArray} {nL : Nat} {ret : Option FieldType} {fr lo : Nat} {T : List zE} {op pc nx : Nat} {a b : Int} {l : List Int} {h : List Nat} {ls st : List zV} {M : zM} {K : zK} {v : Option zV} (hok : zokE y cc nL ret fr lo T (op, pc, nx, a, b, l) h = true) (hs : zstp X (op, pc, nx, a, b, l) ls st M K = some (.inr (.inr v))) : st = zpush v [] ∧ zend cc ret pc v := by
  match op, hok, hs with
  | 40, hok, hs =>
    simp only [zokE, zdc, Bool.and_eq_true, decide_eq_true_eq] at hok
    simp only [zstp] at hs
    split at hs
    · simp only [Option.some.injEq, Sum.inr.injEq] at hs
      subst hs
      exact ⟨rfl, hok.1, .int, hok.2, rfl⟩
    · cases hs
  | 41, hok, hs =>
    simp only [zokE, zdc, Bool.and_eq_true, decide_eq_true_eq] at hok
    simp only [zstp] at hs
    split at hs
    · simp only [Option.some.injEq, Sum.inr.injEq] at hs
      subst hs
      exact ⟨rfl, hok.2, hok.1⟩
    · cases hs
  | 42, hok, hs =>
    simp only [zokE, zdc, Bool.and_eq_true, decide_eq_true_eq] at hok
    simp only [zstp] at hs
    split at hs
    · split at hs
      · rename_i hv
        simp only [Option.some.injEq, Sum.inr.injEq] at hs
        subst hs
        refine ⟨rfl, hok.1, .boolean, hok.2, ?_⟩
        rcases hv with rfl | rfl <;> rfl
      · cases hs
    · cases hs
  | 52, hok, hs =>
    simp only [zokE, zdc, Bool.and_eq_true, decide_eq_true_eq] at hok
    simp only [zstp] at hs
    split at hs
    · split at hs
      · rename_i hv
        simp only [Option.some.injEq, Sum.inr.injEq] at hs
        subst hs
        rcases hok.2 with hr | hr
        · exact ⟨rfl, hok.1, .char, hr, (znar_s hv).1⟩
        · exact ⟨rfl, hok.1, .byte, hr, (znar_s hv).2⟩
      · cases hs
    · cases hs
  | 0, _, hs | 1, _, hs | 2, _, hs | 3, _, hs | 4, _, hs | 5, _, hs | 6, _, hs | 7, _, hs | 8, _, hs | 9, _, hs | 10, _, hs | 11, _, hs | 12, _, hs | 13, _, hs | 14, _, hs | 15, _, hs | 16, _, hs | 17, _, hs | 18, _, hs | 19, _, hs | 20, _, hs | 21, _, hs | 22, _, hs | 23, _, hs | 24, _, hs | 25, _, hs | 26, _, hs | 27, _, hs | 28, _, hs | 29, _, hs | 30, _, hs | 31, _, hs | 32, _, hs | 33, _, hs | 34, _, hs | 35, _, hs | 36, _, hs | 37, _, hs | 38, _, hs | 39, _, hs | 43, _, hs | 44, _, hs | 45, _, hs | 46, _, hs | 47, _, hs | 48, _, hs | 49, _, hs | 50, _, hs | 51, _, hs | 53, _, hs | 54, _, hs =>
    exfalso
    simp only [zstp, zgo] at hs
    repeat' (split at hs)
    all_goals first
      | (cases hs; done)
      | (obtain ⟨v, -, hs⟩ := Option.bind_eq_some_iff.mp hs; cases hs; done)
  | n + 55, hok, hs => exact absurd hok (by simp [zokE])
section
variable {p : Program} {l : Launch} {e : Env} {R : Room} {s : State} {m : MethodId} {args : Array Value} {below : List Frame} {meth : Method} {c : Code} {H : Heap} {locs : List Loc} {cells slots : Nat} {Q : State → Prop}
variable {X : Int × (Int → Int)} {b0 : Nat} {D : va_G} {cA : Nat → ClassId} {sA : Int → Nat} {vF : Value} {Ts : List Jvm.Cond} {y : MethodName} {cc : ByteArray} {nL : Nat} {ret : Option FieldType} {fr lo : Nat} {T : List zE} {pc nx : Nat} {a b : Int} {li : List Int} {h : List Nat} {ls st ls' st' : List zV} {M M' : zM} {K K' : zK} {nd' : Nat} {lsA : Array Slot}
theorem zstep_ok (F : zFr p R s m args meth c X b0 D cA sA vF Ts y cc nL fr lo) {op : Nat} (hok : zokE y cc nL ret fr lo T (op, pc, nx, a, b, li) h = true) (hs : zstp X (op, pc, nx, a, b, li) ls st M K = some (.inl (nd', ls', st', M', K'))) (hl : lv_has lsA nL (zlv (zcv b0 sA vF) ls)) (hr : zrel b0 D cA M K H) (hS : va_S (zA0 b0) s.heap H locs) (hz : s.heap.size + cells = b0 + K.length) (hrm : cells + (K'.length - K.length) ≤ R.cells ∧ slots + (zsl K' - zsl K) ≤ R.slots) (kk : zKo p l e R s m args below meth c cells slots Q b0 D cA sA vF nL T K nd' ls' st' M' K') : W p l e R s m args below meth c H locs cells slots Q (F0 m pc lsA (st.map (zcv b0 sA vF))) := by
  match op, hok, hs with
  | 1, hok, hs => exact zs_1 F hok hs hl hr hS hz hrm kk
  | 2, hok, hs => exact zs_2 F hok hs hl hr hS hz hrm kk
  | 3, hok, hs => exact zs_3 F hok hs hl hr hS hz hrm kk
  | 4, hok, hs => exact zs_4 F hok hs hl hr hS hz hrm kk
  | 5, hok, hs => exact zs_5 F hok hs hl hr hS hz hrm kk
  | 6, hok, hs => exact zs_6 F hok hs hl hr hS hz hrm kk
  | 7, hok, hs => exact zs_7 F hok hs hl hr hS hz hrm kk
  | 8, hok, hs => exact zs_8 F hok hs hl hr hS hz hrm kk
  | 9, hok, hs => exact zs_9 F hok hs hl hr hS hz hrm kk
  | 10, hok, hs => exact zs_10 F hok hs hl hr hS hz hrm kk
  | 11, hok, hs => exact zs_11 F hok hs hl hr hS hz hrm kk
  | 12, hok, hs => exact zs_12 F hok hs hl hr hS hz hrm kk
  | 13, hok, hs => exact zs_13 F hok hs hl hr hS hz hrm kk
  | 14, hok, hs => exact zs_14 F hok hs hl hr hS hz hrm kk
  | 15, hok, hs => exact zs_15 F hok hs hl hr hS hz hrm kk
  | 16, hok, hs => exact zs_16 F hok hs hl hr hS hz hrm kk
  | 17, hok, hs => exact zs_17 F hok hs hl hr hS hz hrm kk
  | 18, hok, hs => exact zs_18 F hok hs hl hr hS hz hrm kk
  | 19, hok, hs => exact zs_19 F hok hs hl hr hS hz hrm kk
  | 20, hok, hs => exact zs_20 F hok hs hl hr hS hz hrm kk
  | 21, hok, hs => exact zs_21 F hok hs hl hr hS hz hrm kk
  | 22, hok, hs => exact zs_22 F hok hs hl hr hS hz hrm kk
  | 23, hok, hs => exact zs_23 F hok hs hl hr hS hz hrm kk
  | 24, hok, hs => exact zs_24 F hok hs hl hr hS hz hrm kk
  | 25, hok, hs => exact zs_25 F hok hs hl hr hS hz hrm kk
  | 26, hok, hs => exact zs_26 F hok hs hl hr hS hz hrm kk
  | 27, hok, hs => exact zs_27 F hok hs hl hr hS hz hrm kk
  | 28, hok, hs => exact zs_28 F hok hs hl hr hS hz hrm kk
  | 29, hok, hs => exact zs_29 F hok hs hl hr hS hz hrm kk
  | 30, hok, hs => exact zs_30 F hok hs hl hr hS hz hrm kk
  | 31, hok, hs => exact zs_31 F hok hs hl hr hS hz hrm kk
  | 32, hok, hs => exact zs_32 F hok hs hl hr hS hz hrm kk
  | 33, hok, hs => exact zs_33 F hok hs hl hr hS hz hrm kk
  | 34, hok, hs => exact zs_34 F hok hs hl hr hS hz hrm kk
  | 35, hok, hs => exact zs_35 F hok hs hl hr hS hz hrm kk
  | 39, hok, hs => exact zs_39 F hok hs hl hr hS hz hrm kk
  | 43, hok, hs => exact zs_43 F hok hs hl hr hS hz hrm kk
  | 44, hok, hs => exact zs_44 F hok hs hl hr hS hz hrm kk
  | 45, hok, hs => exact zs_45 F hok hs hl hr hS hz hrm kk
  | 46, hok, hs => exact zs_46 F hok hs hl hr hS hz hrm kk
  | 47, hok, hs => exact zs_47 F hok hs hl hr hS hz hrm kk
  | 48, hok, hs => exact zs_48 F hok hs hl hr hS hz hrm kk
  | 49, hok, hs => exact zs_49 F hok hs hl hr hS hz hrm kk
  | 50, hok, hs => exact zs_50 F hok hs hl hr hS hz hrm kk
  | 51, hok, hs => exact zs_51 F hok hs hl hr hS hz hrm kk
  | 54, hok, hs => exact zs_54 F hok hs hl hr hS hz hrm kk
  | 0, _, hs | 36, _, hs | 37, _, hs | 38, _, hs | 40, _, hs | 41, _, hs | 42, _, hs | 52, _, hs | 53, _, hs =>
    exfalso
    simp only [zstp, zgo] at hs
    repeat' (split at hs)
    all_goals (cases hs; done)
  | n + 55, hok, hs => exact absurd hok (by simp [zokE])
end
