theorem zshl_b {v : Int} (h0 : 0 ≤ v) (h1 : v < 17) : (Int32.ofInt (zshl 1 v)).toBitVec = BitVec.twoPow 32 v.toNat := by
  unfold zshl
  rw [Int32.ofInt_toInt]
  rcases (show v = 0 ∨ v = 1 ∨ v = 2 ∨ v = 3 ∨ v = 4 ∨ v = 5 ∨ v = 6 ∨ v = 7 ∨ v = 8 ∨ v = 9 ∨ v = 10 ∨ v = 11 ∨ v = 12 ∨ v = 13 ∨ v = 14 ∨ v = 15 ∨ v = 16 by omega) with rfl | rfl | rfl | rfl | rfl | rfl | rfl | rfl | rfl | rfl | rfl | rfl | rfl | rfl | rfl | rfl | rfl <;> decide
theorem zand_0 (x y : Int) : zw (zand x y) = 0 ↔ (Int32.ofInt x).toBitVec &&& (Int32.ofInt y).toBitVec = 0#32 := by
  have e : zand x y = ((Int32.ofInt x).toBitVec &&& (Int32.ofInt y).toBitVec).toInt := rfl
  have r1 := BitVec.toInt_lt (x := (Int32.ofInt x).toBitVec &&& (Int32.ofInt y).toBitVec)
  have r2 := BitVec.le_toInt (x := (Int32.ofInt x).toBitVec &&& (Int32.ofInt y).toBitVec)
  rw [e, zw_id (by omega) (by omega)]
  constructor
  · intro h
    apply BitVec.eq_of_toInt_eq
    rw [h]
    rfl
  · intro h
    rw [h]
    rfl
theorem zms_b {f : Int → Int} {t : Nat} (hf : ∀ u : Nat, u < t → 0 ≤ f u ∧ f u < 17) (b : Nat) (hb : b < 17) : (Int32.ofInt (zms f t)).toBitVec.getLsbD b = decide (∃ u : Nat, u < t ∧ f u = b) := by
  induction t with
  | zero =>
    have : (Int32.ofInt (zms f 0)).toBitVec = 0#32 := rfl
    rw [this]
    simp
  | succ t ih =>
    have ih := ih (fun u hu => hf u (by omega))
    have h := hf t (by omega)
    have e : (Int32.ofInt (zms f (t + 1))).toBitVec = (Int32.ofInt (zms f t)).toBitVec ||| (Int32.ofInt (zshl 1 (f t))).toBitVec := by
      rw [zms, zor, Int32.ofInt_toInt]
      rfl
    rw [e, BitVec.getLsbD_or, ih, zshl_b h.1 h.2, BitVec.getLsbD_twoPow]
    rw [Bool.eq_iff_iff]
    simp only [Bool.or_eq_true, Bool.and_eq_true, decide_eq_true_eq]
    constructor
    · rintro (⟨u, h1, h2⟩ | ⟨h1, h2⟩)
      · exact ⟨u, by omega, h2⟩
      · exact ⟨t, by omega, by omega⟩
    · rintro ⟨u, h1, h2⟩
      by_cases q : u = t
      · right
        subst q
        omega
      · left
        exact ⟨u, by omega, h2⟩
theorem zok_iff {f : Int → Int} {t : Nat} (hf : ∀ u : Nat, u < t → 0 ≤ f u ∧ f u < 17) : zok f t = true ↔ ∀ u v : Nat, u < v → v < t → f u ≠ f v := by
  induction t with
  | zero =>
    constructor
    · intro _ u v _ h
      omega
    · intro _
      rfl
  | succ t ih =>
    have ih := ih (fun u hu => hf u (by omega))
    have h := hf t (by omega)
    have hb := zms_b (t := t) (fun u hu => hf u (by omega)) (f t).toNat (by omega)
    rw [zok, Bool.and_eq_true, ih, decide_eq_true_eq, zand_0, zshl_b h.1 h.2, BitVec.and_twoPow, hb]
    have key : (if decide (∃ u : Nat, u < t ∧ f u = (f t).toNat) = true then BitVec.twoPow 32 (f t).toNat else 0#32) = 0#32 ↔ ¬ ∃ u : Nat, u < t ∧ f u = (f t).toNat := by
      constructor
      · intro q ⟨u, h1, h2⟩
        rw [if_pos (decide_eq_true (p := ∃ u : Nat, u < t ∧ f u = (f t).toNat) ⟨u, h1, h2⟩)] at q
        have := congrArg (fun x => BitVec.getLsbD x (f t).toNat) q
        simp [BitVec.getLsbD_twoPow] at this
        omega
      · intro q
        rw [if_neg (fun e => q (of_decide_eq_true e))]
    rw [key]
    constructor
    · rintro ⟨h1, h2⟩ u v huv hv
      by_cases q : v = t
      · subst q
        intro e
        exact h2 ⟨u, huv, by omega⟩
      · exact h1 u v huv (by omega)
    · intro q
      refine ⟨fun u v huv hv => q u v huv (by omega), ?_⟩
      rintro ⟨u, h1, h2⟩
      exact q u t h1 (by omega) (by omega)
theorem zshift {a b N i j x y r s : Int} : ((a * (i + x) + b * (j + y)) % N = (a * (i + r) + b * (j + s)) % N) ↔ ((a * x + b * y) - (a * r + b * s)) % N = 0 := by
  rw [Int.emod_eq_emod_iff_emod_sub_eq_zero]
  rw [show a * (i + x) + b * (j + y) - (a * (i + r) + b * (j + s)) = a * x + b * y - (a * r + b * s) by rw [Int.mul_add, Int.mul_add, Int.mul_add, Int.mul_add]; omega]
theorem zok_sh {a b N k d i j i' j' : Int} {t : Nat} {tb : Int → Int} (hN : 1 ≤ N) (hN2 : N ≤ 17) (h : zok (fun u => zBv 0 a b N tb (i + zrd k d u) (j + zcx k d u)) t = true) : zok (fun u => zBv 0 a b N tb (i' + zrd k d u) (j' + zcx k d u)) t = true := by
  have hr : ∀ p q : Int, 0 ≤ zBv 0 a b N tb p q ∧ zBv 0 a b N tb p q < 17 := by
    intro p q
    unfold zBv
    rw [if_pos rfl]
    have h1 := Int.emod_nonneg (a * p + b * q) (show N ≠ 0 by omega)
    have h2 := Int.emod_lt_of_pos (a * p + b * q) (show 0 < N by omega)
    omega
  have h' := (zok_iff (f := fun u => zBv 0 a b N tb (i + zrd k d u) (j + zcx k d u)) (t := t) (fun u _ => hr _ _)).1 h
  refine (zok_iff (f := fun u => zBv 0 a b N tb (i' + zrd k d u) (j' + zcx k d u)) (t := t) (fun u _ => hr _ _)).2 ?_
  intro u v huv hv
  have := h' u v huv hv
  unfold zBv at this ⊢
  rw [if_pos rfl, if_pos rfl] at this
  rw [if_pos rfl, if_pos rfl]
  intro e
  exact this (zshift.2 (zshift.1 e))
def zal (G : Int → Bool) : Nat → Bool
  | 0 => true
  | m + 1 => zal G m && G m
theorem zal_s {G : Int → Bool} {p : Int} (h : 0 ≤ p) : zal G (p + 1).toNat = (zal G p.toNat && G p) := by
  rw [show (p + 1).toNat = p.toNat + 1 by omega, zal, show ((p.toNat : Nat) : Int) = p by omega]
theorem zal_dn {G : Int → Bool} {s t : Nat} (h : s ≤ t) (hs : zal G s = false) : zal G t = false := by
  induction t with
  | zero => rw [show s = 0 by omega] at hs; exact hs
  | succ t ih =>
    by_cases e : s = t + 1
    · rw [← e]; exact hs
    · rw [zal, ih (by omega)]
      rfl
theorem zal_of {G : Int → Bool} {t : Nat} (h : ∀ p : Int, 0 ≤ p → p < t → G p = true) : zal G t = true := by
  induction t with
  | zero => rfl
  | succ t ih => rw [zal, ih (fun p h0 h1 => h p h0 (by omega)), h t (by omega) (by omega)]; rfl
