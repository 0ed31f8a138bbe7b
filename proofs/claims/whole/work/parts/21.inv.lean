/-- a place that calls leave to the next one -/
def zste (c i : Int) : Bool :=
  if c ∈ [5, 6, 15, 17, 18, 19, 20, 22, 23, 25, 26, 27, 28, 31, 33, 34, 35, 36, 62, 63, 67, 68, 69, 70, 71, 72, 77, 78, 79, 80, 82, 83, 84] then false
  else if c = 4 then decide (i = 6) else if c = 16 then decide (i ≠ 4) else if c = 21 then decide (¬ (2 ≤ i ∧ i ≤ 4)) else if c = 24 then decide (¬ (4 ≤ i ∧ i ≤ 6))
  else if c = 29 then decide (¬ (4 ≤ i ∧ i ≤ 8)) else if c = 32 then decide (i ≠ 4)
  else if c = 60 then decide (¬ (i = 15 ∨ (21 ≤ i ∧ i ≤ 23) ∨ i = 29 ∨ i = 34 ∨ (37 ≤ i ∧ i ≤ 40) ∨ i = 42)) else true
def zsa (M M' : zM) : Prop := ∀ c i, zste c i = true → M' c i = M c i
theorem zsa.rf (M : zM) : zsa M M := fun _ _ _ => rfl
theorem zsa.tr {M M1 M2 : zM} (h1 : zsa M M1) (h2 : zsa M1 M2) : zsa M M2 := fun c i h => (h2 c i h).trans (h1 c i h)
theorem zsa.up {M M1 : zM} {r k v : Int} (h : zsa M M1) (hs : zste r k = false) : zsa M (zu M1 r k v) := by
  intro c i hc
  rw [zu_at, if_neg (fun q => by rw [q.1, q.2, hs] at hc; cases hc)]
  exact h c i hc
theorem zsa.fl {M M1 : zM} {r N v : Int} (h : zsa M M1) (hs : ∀ i, zste r i = false) : zsa M (zfl M1 r N v) := by
  intro c i hc
  unfold zfl
  rw [if_neg (fun q => by rw [q.1, hs] at hc; cases hc)]
  exact h c i hc
def zkp (P : Int → Int → Bool) (M M' : zM) : Prop := ∀ c i, P c i = true → M' c i = M c i
theorem zkp.rf (P : Int → Int → Bool) (M : zM) : zkp P M M := fun _ _ _ => rfl
theorem zkp.tr {P : Int → Int → Bool} {M M1 M2 : zM} (h1 : zkp P M M1) (h2 : zkp P M1 M2) : zkp P M M2 := fun c i h => (h2 c i h).trans (h1 c i h)
theorem zkp.up {P : Int → Int → Bool} {M M1 : zM} {r k v : Int} (h : zkp P M M1) (hs : P r k = false) : zkp P M (zu M1 r k v) := by
  intro c i hc
  rw [zu_at, if_neg (fun q => by rw [q.1, q.2, hs] at hc; cases hc)]
  exact h c i hc
theorem zkp.fl {P : Int → Int → Bool} {M M1 : zM} {r N v : Int} (h : zkp P M M1) (hs : ∀ i, P r i = false) : zkp P M (zfl M1 r N v) := by
  intro c i hc
  unfold zfl
  rw [if_neg (fun q => by rw [q.1, hs] at hc; cases hc)]
  exact h c i hc
def zpZ (c i : Int) : Bool := decide ((c = 1 ∧ i ≠ 12 ∧ i ≠ 13 ∧ i ≠ 14) ∨ (c = 2 ∧ i = 6) ∨ (c = 4 ∧ i = 6) ∨ (c = 7 ∧ i = 0) ∨ c = 8 ∨ (c = 16 ∧ i ≠ 4) ∨ (c = 21 ∧ i < 2) ∨ (c = 24 ∧ i < 4) ∨ (c = 29 ∧ i < 2) ∨ (c = 32 ∧ i < 4) ∨ c = 37 ∨ (c = 38 ∧ i = 0) ∨ (c = 40 ∧ i = 0) ∨ (c = 42 ∧ i = 0) ∨ (c = 44 ∧ i = 0) ∨ (c = 46 ∧ i < 6) ∨ (c = 53 ∧ i < 6) ∨ (c = 60 ∧ (i = 6 ∨ i = 7 ∨ i = 8 ∨ i = 10 ∨ i = 11 ∨ i = 12 ∨ i = 13 ∨ i = 14 ∨ i = 17 ∨ i = 18 ∨ i = 19 ∨ i = 20 ∨ i = 25 ∨ i = 26 ∨ i = 27 ∨ i = 28 ∨ i = 30 ∨ i = 31 ∨ i = 32 ∨ i = 33 ∨ i = 35 ∨ i = 43 ∨ i = 44 ∨ i = 45 ∨ i = 46 ∨ i = 47 ∨ i = 48)))
def zpT (c i : Int) : Bool := decide ((c = 2 ∧ i ≤ 5) ∨ c = 3 ∨ c = 61 ∨ (c = 60 ∧ i ≤ 5))
def zpR (c i : Int) : Bool := decide ((c = 1 ∧ i = 14) ∨ (c = 60 ∧ i = 16))
def zpW (c i : Int) : Bool := decide ((c = 7 ∧ i = 1) ∨ (c = 60 ∧ i = 9) ∨ c = 9 ∨ c = 10 ∨ c = 11 ∨ c = 12 ∨ c = 13 ∨ c = 14 ∨ c = 64 ∨ c = 65 ∨ c = 66)
def zpP (c i : Int) : Bool := decide ((c = 29 ∧ (i = 2 ∨ i = 3)) ∨ (c = 60 ∧ (i = 36 ∨ i = 41)) ∨ c = 30 ∨ c = 81)
def zpL (c i : Int) : Bool := decide ((c = 1 ∧ (i = 12 ∨ i = 13)) ∨ (c = 60 ∧ i = 24) ∨ (46 ≤ c ∧ c ≤ 59) ∨ c = 73 ∨ c = 74 ∨ c = 75 ∨ c = 76)
def zpS (c i : Int) : Bool := decide ((38 ≤ c ∧ c ≤ 45) ∨ c = 85 ∨ c = 86 ∨ c = 87)
def IvT (M : zM) : Prop := 1 ≤ M 2 0 ∧ M 2 0 ≤ 16 ∧ 1 ≤ M 2 1 ∧ M 2 1 ≤ 16 ∧ 1 ≤ M 2 2 ∧ M 2 2 ≤ 17 ∧ 0 ≤ M 2 3 ∧ M 2 3 ≤ 2 ∧ 0 ≤ M 2 4 ∧ M 2 4 ≤ 16 ∧ 0 ≤ M 2 5 ∧ M 2 5 ≤ 16 ∧
  M 60 0 = M 2 0 ∧ M 60 1 = M 2 1 ∧ M 60 2 = M 2 2 ∧ M 60 3 = M 2 3 ∧ M 60 4 = M 2 4 ∧ M 60 5 = M 2 5 ∧ ∀ i, 0 ≤ i → i < 256 → M 61 i = M 3 i ∧ 0 ≤ M 3 i ∧ M 3 i < M 2 2
def IvR (M : zM) : Prop := 1 ≤ M 1 14 ∧ M 1 14 ≤ 12 ∧ M 60 16 = M 1 14
def IvW (M : zM) : Prop := 0 ≤ M 7 1 ∧ M 7 1 ≤ 6 ∧ M 60 9 = M 7 1 ∧ ∀ k, 0 ≤ k → k < M 7 1 → M 64 k = M (9 + k) 0 ∧ M 65 k = M (9 + k) 1 ∧ M 66 k = M (9 + k) 2 ∧ 0 ≤ M (9 + k) 0 ∧ M (9 + k) 0 ≤ 4 ∧ 1 ≤ M (9 + k) 1 ∧ M (9 + k) 1 ≤ 16 ∧ 1 ≤ M (9 + k) 2 ∧ M (9 + k) 2 ≤ 8
def IvP (M : zM) : Prop := 0 ≤ M 29 2 ∧ M 29 2 ≤ 240 ∧ M 60 36 = M 29 2 ∧ (∀ i, 0 ≤ i → i < M 29 2 → 0 ≤ M 81 i ∧ M 81 i ≤ 255 ∧ M 30 i = zb8 (M 81 i)) ∧ M 60 41 = M 29 3 ∧ 0 ≤ M 29 3 ∧ M 29 3 ≤ 5
/-- line j makes row r, and none behind it up to k does -/
def zmk (M : zM) (p : Int) (k r j : Int) : Prop := 0 ≤ j ∧ j < k ∧ M (p + 1) j ≠ 1 ∧ M (p + 2) j = r ∧ ∀ i, j < i → i < k → M (p + 1) i = 1 ∨ M (p + 2) i ≠ r
/-- a line of a program as it may be -/
def zli (M : zM) (p k : Int) : Prop := 0 ≤ M (p + 1) k ∧ M (p + 1) k ≤ 3 ∧ 0 ≤ M (p + 2) k ∧ M (p + 2) k ≤ 7 ∧
  (M (p + 1) k ≤ 1 → 0 ≤ M (p + 3) k ∧ M (p + 3) k ≤ 999 ∧ 1 ≤ M (p + 4) k ∧ M (p + 4) k ≤ 99 ∧ M (p + 6) k = -1) ∧ (M (p + 1) k = 0 → M (p + 5) k = -1) ∧
  (M (p + 1) k = 1 → zmk M p k (M (p + 2) k) (M (p + 5) k)) ∧
  (2 ≤ M (p + 1) k → 0 ≤ M (p + 3) k ∧ M (p + 3) k ≤ 7 ∧ 0 ≤ M (p + 4) k ∧ M (p + 4) k ≤ 7 ∧ zmk M p k (M (p + 3) k) (M (p + 5) k) ∧ zmk M p k (M (p + 4) k) (M (p + 6) k))
def IvL (M : zM) : Prop := ((M 1 12 = 46 ∧ M 1 13 = 53) ∨ (M 1 12 = 53 ∧ M 1 13 = 46)) ∧ 0 ≤ M (M 1 12) 6 ∧ M (M 1 12) 6 ≤ 16 ∧ M 60 24 = M (M 1 12) 6 ∧
  ∀ k, 0 ≤ k → k < M (M 1 12) 6 → zli M (M 1 12) k ∧ M 73 k = M (M 1 12 + 1) k ∧ M 74 k = M (M 1 12 + 2) k ∧ M 75 k = M (M 1 12 + 3) k ∧ M 76 k = M (M 1 12 + 4) k
def IvS (M : zM) : Prop := ∀ k, 0 ≤ k → k < 4 → (M (38 + 2 * k) 1 = -1 ∧ M 85 k = -4) ∨ (0 ≤ M (38 + 2 * k) 1 ∧ M (38 + 2 * k) 1 ≤ 256 ∧ M 86 k = M (38 + 2 * k) 1 ∧ 0 ≤ M (38 + 2 * k) 2 ∧ M (38 + 2 * k) 2 ≤ 2 ∧ M 85 k = M (38 + 2 * k) 2 ∧ ∀ i, 0 ≤ i → i < 256 → M 87 (256 * k + i) = M (39 + 2 * k) i ∧ -2147483648 ≤ M (39 + 2 * k) i ∧ M (39 + 2 * k) i < 2147483648)
def Iv (M : zM) : Prop := zSR M ∧ IvT M ∧ IvR M ∧ IvW M ∧ IvP M ∧ IvL M ∧ IvS M

theorem zSR.keep {M M' : zM} (hs : zkp zpZ M M') (h : zSR M) : zSR M' := by
  obtain ⟨e0, e1, e2, e3, e4, e5, e6, e7, e8, e9, e10, e11, e12, e13, e14, e15, e16, e17, e18, e19, e20, e21, e22, e23, e24, e25, e26, e27, e28, e29, e30, e31, e32, e33, e34, e35, e36, e37, e38, e39, e40, e41, e42, e43, e44, e45, e46, e47, e48, e49, e50, e51, e52, e53, e54, e55, e56, e57, e58, e59, e60, e61, e62, e63, e64, e65, e66, e67, e68, e69, e70, e71, e72, e73, e74, e75, e76, e77, e78, e79, e80, e81, e82, e83⟩ := h
  exact ⟨(hs 1 0 rfl).trans e0, (hs 1 1 rfl).trans e1, (hs 1 2 rfl).trans e2, (hs 1 3 rfl).trans e3, (hs 1 4 rfl).trans e4, (hs 1 5 rfl).trans e5, (hs 1 6 rfl).trans e6, (hs 1 7 rfl).trans e7, (hs 1 8 rfl).trans e8, (hs 1 9 rfl).trans e9, (hs 1 10 rfl).trans e10, (hs 1 11 rfl).trans e11, (hs 2 6 rfl).trans e12, (hs 4 6 rfl).trans e13, (hs 7 0 rfl).trans e14, (hs 8 0 rfl).trans e15, (hs 8 1 rfl).trans e16, (hs 8 2 rfl).trans e17, (hs 8 3 rfl).trans e18, (hs 8 4 rfl).trans e19, (hs 8 5 rfl).trans e20, (hs 16 0 rfl).trans e21, (hs 16 1 rfl).trans e22, (hs 16 2 rfl).trans e23, (hs 16 3 rfl).trans e24, (hs 21 0 rfl).trans e25, (hs 21 1 rfl).trans e26, (hs 24 0 rfl).trans e27, (hs 24 1 rfl).trans e28, (hs 24 2 rfl).trans e29, (hs 24 3 rfl).trans e30, (hs 29 0 rfl).trans e31, (hs 29 1 rfl).trans e32, (hs 32 0 rfl).trans e33, (hs 32 1 rfl).trans e34, (hs 32 2 rfl).trans e35, (hs 32 3 rfl).trans e36, (hs 37 0 rfl).trans e37, (hs 37 1 rfl).trans e38, (hs 37 2 rfl).trans e39, (hs 37 3 rfl).trans e40, (hs 38 0 rfl).trans e41, (hs 40 0 rfl).trans e42, (hs 42 0 rfl).trans e43, (hs 44 0 rfl).trans e44, (hs 46 0 rfl).trans e45, (hs 46 1 rfl).trans e46, (hs 46 2 rfl).trans e47, (hs 46 3 rfl).trans e48, (hs 46 4 rfl).trans e49, (hs 46 5 rfl).trans e50, (hs 53 0 rfl).trans e51, (hs 53 1 rfl).trans e52, (hs 53 2 rfl).trans e53, (hs 53 3 rfl).trans e54, (hs 53 4 rfl).trans e55, (hs 53 5 rfl).trans e56, (hs 60 6 rfl).trans e57, (hs 60 7 rfl).trans e58, (hs 60 8 rfl).trans e59, (hs 60 10 rfl).trans e60, (hs 60 11 rfl).trans e61, (hs 60 12 rfl).trans e62, (hs 60 13 rfl).trans e63, (hs 60 14 rfl).trans e64, (hs 60 17 rfl).trans e65, (hs 60 18 rfl).trans e66, (hs 60 19 rfl).trans e67, (hs 60 20 rfl).trans e68, (hs 60 25 rfl).trans e69, (hs 60 26 rfl).trans e70, (hs 60 27 rfl).trans e71, (hs 60 28 rfl).trans e72, (hs 60 30 rfl).trans e73, (hs 60 31 rfl).trans e74, (hs 60 32 rfl).trans e75, (hs 60 33 rfl).trans e76, (hs 60 35 rfl).trans e77, (hs 60 43 rfl).trans e78, (hs 60 44 rfl).trans e79, (hs 60 45 rfl).trans e80, (hs 60 46 rfl).trans e81, (hs 60 47 rfl).trans e82, (hs 60 48 rfl).trans e83⟩
theorem zste_w {k i : Int} (h0 : 0 ≤ k) (h1 : k < 6) : zpW (9 + k) i = true := by
  rcases (show k = 0 ∨ k = 1 ∨ k = 2 ∨ k = 3 ∨ k = 4 ∨ k = 5 by omega) with rfl | rfl | rfl | rfl | rfl | rfl <;> rfl
theorem zste_s {k i : Int} (h0 : 0 ≤ k) (h1 : k < 4) : zpS (38 + 2 * k) i = true ∧ zpS (39 + 2 * k) i = true := by
  rcases (show k = 0 ∨ k = 1 ∨ k = 2 ∨ k = 3 by omega) with rfl | rfl | rfl | rfl <;> exact ⟨rfl, rfl⟩
theorem IvT.keep {M M' : zM} (hs : zkp zpT M M') (h : IvT M) : IvT M' := by
  unfold IvT at *
  rw [hs 2 0 rfl, hs 2 1 rfl, hs 2 2 rfl, hs 2 3 rfl, hs 2 4 rfl, hs 2 5 rfl, hs 60 0 rfl, hs 60 1 rfl, hs 60 2 rfl, hs 60 3 rfl, hs 60 4 rfl, hs 60 5 rfl]
  obtain ⟨a1, a2, a3, a4, a5, a6, a7, a8, a9, a10, a11, a12, a13, a14, a15, a16, a17, a18, a19⟩ := h
  refine ⟨a1, a2, a3, a4, a5, a6, a7, a8, a9, a10, a11, a12, a13, a14, a15, a16, a17, a18, fun i h0 h1 => ?_⟩
  rw [hs 61 i rfl, hs 3 i rfl]
  exact a19 i h0 h1
theorem IvR.keep {M M' : zM} (hs : zkp zpR M M') (h : IvR M) : IvR M' := by
  unfold IvR at *
  rw [hs 1 14 rfl, hs 60 16 rfl]
  exact h
theorem IvW.keep {M M' : zM} (hs : zkp zpW M M') (h : IvW M) : IvW M' := by
  unfold IvW at *
  rw [hs 7 1 rfl, hs 60 9 rfl]
  obtain ⟨a1, a2, a3, a4⟩ := h
  refine ⟨a1, a2, a3, fun k h0 h1 => ?_⟩
  rw [hs (9 + k) 0 (zste_w h0 (by omega)), hs (9 + k) 1 (zste_w h0 (by omega)), hs (9 + k) 2 (zste_w h0 (by omega)), hs 64 k rfl, hs 65 k rfl, hs 66 k rfl]
  exact a4 k h0 h1
theorem IvP.keep {M M' : zM} (hs : zkp zpP M M') (h : IvP M) : IvP M' := by
  unfold IvP at *
  rw [hs 29 2 rfl, hs 60 36 rfl, hs 60 41 rfl, hs 29 3 rfl]
  obtain ⟨a1, a2, a3, a4, a5⟩ := h
  refine ⟨a1, a2, a3, fun i h0 h1 => ?_, a5⟩
  rw [hs 81 i rfl, hs 30 i rfl]
  exact a4 i h0 h1
theorem zli.cong {M M' : zM} {p k : Int} (hs : ∀ q i, 1 ≤ q → q ≤ 6 → 0 ≤ i → i ≤ k → M' (p + q) i = M (p + q) i) (h0 : 0 ≤ k) (h : zli M p k) : zli M' p k := by
  have hm : ∀ r j, zmk M p k r j → zmk M' p k r j := by
    intro r j ⟨b1, b2, b3, b4, b5⟩
    refine ⟨b1, b2, ?_, ?_, fun i c1 c2 => ?_⟩
    · rw [hs 1 j (by omega) (by omega) b1 (by omega)]; exact b3
    · rw [hs 2 j (by omega) (by omega) b1 (by omega)]; exact b4
    · rw [hs 1 i (by omega) (by omega) (by omega) (by omega), hs 2 i (by omega) (by omega) (by omega) (by omega)]
      exact b5 i c1 c2
  unfold zli at *
  rw [hs 1 k (by omega) (by omega) h0 (by omega), hs 2 k (by omega) (by omega) h0 (by omega), hs 3 k (by omega) (by omega) h0 (by omega), hs 4 k (by omega) (by omega) h0 (by omega), hs 5 k (by omega) (by omega) h0 (by omega), hs 6 k (by omega) (by omega) h0 (by omega)]
  obtain ⟨a1, a2, a3, a4, a5, a6, a7, a8⟩ := h
  exact ⟨a1, a2, a3, a4, a5, a6, fun q => hm _ _ (a7 q), fun q => ⟨(a8 q).1, (a8 q).2.1, (a8 q).2.2.1, (a8 q).2.2.2.1, hm _ _ (a8 q).2.2.2.2.1, hm _ _ (a8 q).2.2.2.2.2⟩⟩
theorem IvL.keep {M M' : zM} (hs : zkp zpL M M') (h : IvL M) : IvL M' := by
  obtain ⟨a1, a2, a3, a4, a5⟩ := h
  have e1 := hs 1 12 rfl
  have e2 := hs 1 13 rfl
  have e3 := hs 60 24 rfl
  unfold IvL
  rw [e1, e2, e3]
  rcases a1 with ⟨p1, p2⟩ | ⟨p1, p2⟩
  · rw [p1] at a2 a3 a4 a5 ⊢
    have e4 := hs 46 6 rfl
    rw [e4]
    refine ⟨Or.inl ⟨rfl, p2⟩, a2, a3, a4, fun k h0 h1 => ?_⟩
    obtain ⟨b1, b2, b3, b4, b5⟩ := a5 k h0 h1
    refine ⟨zli.cong (fun q i q1 q2 _ _ => ?_) h0 b1, ?_⟩
    · rcases (show q = 1 ∨ q = 2 ∨ q = 3 ∨ q = 4 ∨ q = 5 ∨ q = 6 by omega) with rfl | rfl | rfl | rfl | rfl | rfl <;> exact hs _ i rfl
    · rw [hs 73 k rfl, hs 74 k rfl, hs 75 k rfl, hs 76 k rfl, hs (46 + 1) k rfl, hs (46 + 2) k rfl, hs (46 + 3) k rfl, hs (46 + 4) k rfl]
      exact ⟨b2, b3, b4, b5⟩
  · rw [p1] at a2 a3 a4 a5 ⊢
    have e4 := hs 53 6 rfl
    rw [e4]
    refine ⟨Or.inr ⟨rfl, p2⟩, a2, a3, a4, fun k h0 h1 => ?_⟩
    obtain ⟨b1, b2, b3, b4, b5⟩ := a5 k h0 h1
    refine ⟨zli.cong (fun q i q1 q2 _ _ => ?_) h0 b1, ?_⟩
    · rcases (show q = 1 ∨ q = 2 ∨ q = 3 ∨ q = 4 ∨ q = 5 ∨ q = 6 by omega) with rfl | rfl | rfl | rfl | rfl | rfl <;> exact hs _ i rfl
    · rw [hs 73 k rfl, hs 74 k rfl, hs 75 k rfl, hs 76 k rfl, hs (53 + 1) k rfl, hs (53 + 2) k rfl, hs (53 + 3) k rfl, hs (53 + 4) k rfl]
      exact ⟨b2, b3, b4, b5⟩
theorem IvS.keep {M M' : zM} (hs : zkp zpS M M') (h : IvS M) : IvS M' := by
  intro k h0 h1
  rw [hs (38 + 2 * k) 1 (zste_s h0 h1).1, hs (38 + 2 * k) 2 (zste_s h0 h1).1, hs 85 k rfl, hs 86 k rfl]
  rcases h k h0 h1 with a | ⟨a1, a2, a3, a4, a5, a6, a7⟩
  · exact Or.inl a
  · refine Or.inr ⟨a1, a2, a3, a4, a5, a6, fun i b0 b1 => ?_⟩
    rw [hs 87 _ rfl, hs (39 + 2 * k) i (zste_s h0 h1).2]
    exact a7 i b0 b1
theorem zsa.Z {M M' : zM} (h : zsa M M') : zkp zpZ M M' := fun c i q => h c i (by
  simp only [zpZ, decide_eq_true_eq] at q
  rcases q with ⟨rfl, q⟩ | ⟨rfl, rfl⟩ | ⟨rfl, rfl⟩ | ⟨rfl, rfl⟩ | rfl | ⟨rfl, q⟩ | ⟨rfl, q⟩ | ⟨rfl, q⟩ | ⟨rfl, q⟩ | ⟨rfl, q⟩ | rfl | ⟨rfl, rfl⟩ | ⟨rfl, rfl⟩ | ⟨rfl, rfl⟩ | ⟨rfl, rfl⟩ | ⟨rfl, q⟩ | ⟨rfl, q⟩ | ⟨rfl, q⟩ <;> first | rfl | (simp [zste]; omega))
theorem zsa.T {M M' : zM} (h : zsa M M') : zkp zpT M M' := fun c i q => h c i (by
  simp only [zpT, decide_eq_true_eq] at q
  rcases q with ⟨rfl, q⟩ | rfl | rfl | ⟨rfl, q⟩ <;> first | rfl | (simp [zste]; omega))
theorem zsa.R {M M' : zM} (h : zsa M M') : zkp zpR M M' := fun c i q => h c i (by
  simp only [zpR, decide_eq_true_eq] at q
  rcases q with ⟨rfl, rfl⟩ | ⟨rfl, rfl⟩ <;> rfl)
theorem zsa.W {M M' : zM} (h : zsa M M') : zkp zpW M M' := fun c i q => h c i (by
  simp only [zpW, decide_eq_true_eq] at q
  rcases q with ⟨rfl, rfl⟩ | ⟨rfl, rfl⟩ | rfl | rfl | rfl | rfl | rfl | rfl | rfl | rfl | rfl <;> rfl)
theorem zsa.P {M M' : zM} (h : zsa M M') : zkp zpP M M' := fun c i q => h c i (by
  simp only [zpP, decide_eq_true_eq] at q
  rcases q with ⟨rfl, rfl | rfl⟩ | ⟨rfl, rfl | rfl⟩ | rfl | rfl <;> rfl)
theorem zsa.L {M M' : zM} (h : zsa M M') : zkp zpL M M' := fun c i q => h c i (by
  simp only [zpL, decide_eq_true_eq] at q
  rcases q with ⟨rfl, rfl | rfl⟩ | ⟨rfl, rfl⟩ | ⟨q1, q2⟩ | rfl | rfl | rfl | rfl
  · rfl
  · rfl
  · rfl
  · rcases (show c = 46 ∨ c = 47 ∨ c = 48 ∨ c = 49 ∨ c = 50 ∨ c = 51 ∨ c = 52 ∨ c = 53 ∨ c = 54 ∨ c = 55 ∨ c = 56 ∨ c = 57 ∨ c = 58 ∨ c = 59 by omega) with rfl | rfl | rfl | rfl | rfl | rfl | rfl | rfl | rfl | rfl | rfl | rfl | rfl | rfl <;> rfl
  all_goals rfl)
theorem zsa.S {M M' : zM} (h : zsa M M') : zkp zpS M M' := fun c i q => h c i (by
  simp only [zpS, decide_eq_true_eq] at q
  rcases q with ⟨q1, q2⟩ | rfl | rfl | rfl
  · rcases (show c = 38 ∨ c = 39 ∨ c = 40 ∨ c = 41 ∨ c = 42 ∨ c = 43 ∨ c = 44 ∨ c = 45 by omega) with rfl | rfl | rfl | rfl | rfl | rfl | rfl | rfl <;> rfl
  all_goals rfl)
theorem Iv.keep {M M' : zM} (hs : zsa M M') (h : Iv M) : Iv M' := ⟨h.1.keep hs.Z, h.2.1.keep hs.T, h.2.2.1.keep hs.R, h.2.2.2.1.keep hs.W, h.2.2.2.2.1.keep hs.P, h.2.2.2.2.2.1.keep hs.L, h.2.2.2.2.2.2.keep hs.S⟩
/-- at first -/
theorem Iv.first {M : zM} (h : zchk M = true) : Iv M := by
  simp only [zchk, Bool.and_eq_true, List.all_eq_true, decide_eq_true_eq, List.mem_range] at h
  obtain ⟨h1, h2⟩ := h
  have f : ∀ c i v, (c, i, v) ∈ zI0 → M c i = v := fun c i v hm => h1 (c, i, v) hm
  have t : ∀ i : Int, 0 ≤ i → i < 256 → M 3 i = 0 ∧ M 61 i = 0 := by
    intro i a b
    have := h2 i.toNat (by omega)
    rwa [Int.toNat_of_nonneg a] at this
  refine ⟨?_, ?_, ?_, ?_, ?_, ?_, ?_⟩

  · exact ⟨f 1 0 2 (by decide +kernel), f 1 1 4 (by decide +kernel), f 1 2 5 (by decide +kernel), f 1 3 6 (by decide +kernel), f 1 4 7 (by decide +kernel), f 1 5 15 (by decide +kernel), f 1 6 16 (by decide +kernel), f 1 7 21 (by decide +kernel), f 1 8 24 (by decide +kernel), f 1 9 29 (by decide +kernel), f 1 10 32 (by decide +kernel), f 1 11 37 (by decide +kernel), f 2 6 3 (by decide +kernel), f 4 6 3 (by decide +kernel), f 7 0 8 (by decide +kernel), f 8 0 9 (by decide +kernel), f 8 1 10 (by decide +kernel), f 8 2 11 (by decide +kernel), f 8 3 12 (by decide +kernel), f 8 4 13 (by decide +kernel), f 8 5 14 (by decide +kernel), f 16 0 17 (by decide +kernel), f 16 1 18 (by decide +kernel), f 16 2 19 (by decide +kernel), f 16 3 20 (by decide +kernel), f 21 0 22 (by decide +kernel), f 21 1 23 (by decide +kernel), f 24 0 25 (by decide +kernel), f 24 1 26 (by decide +kernel), f 24 2 27 (by decide +kernel), f 24 3 28 (by decide +kernel), f 29 0 30 (by decide +kernel), f 29 1 31 (by decide +kernel), f 32 0 33 (by decide +kernel), f 32 1 34 (by decide +kernel), f 32 2 35 (by decide +kernel), f 32 3 36 (by decide +kernel), f 37 0 38 (by decide +kernel), f 37 1 40 (by decide +kernel), f 37 2 42 (by decide +kernel), f 37 3 44 (by decide +kernel), f 38 0 39 (by decide +kernel), f 40 0 41 (by decide +kernel), f 42 0 43 (by decide +kernel), f 44 0 45 (by decide +kernel), f 46 0 47 (by decide +kernel), f 46 1 48 (by decide +kernel), f 46 2 49 (by decide +kernel), f 46 3 50 (by decide +kernel), f 46 4 51 (by decide +kernel), f 46 5 52 (by decide +kernel), f 53 0 54 (by decide +kernel), f 53 1 55 (by decide +kernel), f 53 2 56 (by decide +kernel), f 53 3 57 (by decide +kernel), f 53 4 58 (by decide +kernel), f 53 5 59 (by decide +kernel), f 60 6 61 (by decide +kernel), f 60 7 62 (by decide +kernel), f 60 8 63 (by decide +kernel), f 60 10 64 (by decide +kernel), f 60 11 65 (by decide +kernel), f 60 12 66 (by decide +kernel), f 60 13 67 (by decide +kernel), f 60 14 68 (by decide +kernel), f 60 17 69 (by decide +kernel), f 60 18 70 (by decide +kernel), f 60 19 71 (by decide +kernel), f 60 20 72 (by decide +kernel), f 60 25 73 (by decide +kernel), f 60 26 74 (by decide +kernel), f 60 27 75 (by decide +kernel), f 60 28 76 (by decide +kernel), f 60 30 77 (by decide +kernel), f 60 31 78 (by decide +kernel), f 60 32 79 (by decide +kernel), f 60 33 80 (by decide +kernel), f 60 35 81 (by decide +kernel), f 60 43 82 (by decide +kernel), f 60 44 83 (by decide +kernel), f 60 45 84 (by decide +kernel), f 60 46 85 (by decide +kernel), f 60 47 86 (by decide +kernel), f 60 48 87 (by decide +kernel)⟩
  · have a0 := f 2 0 8 (by decide +kernel); have a1 := f 2 1 8 (by decide +kernel); have a2 := f 2 2 8 (by decide +kernel); have a3 := f 2 3 0 (by decide +kernel); have a4 := f 2 4 0 (by decide +kernel); have a5 := f 2 5 1 (by decide +kernel)
    have b0 := f 60 0 8 (by decide +kernel); have b1 := f 60 1 8 (by decide +kernel); have b2 := f 60 2 8 (by decide +kernel); have b3 := f 60 3 0 (by decide +kernel); have b4 := f 60 4 0 (by decide +kernel); have b5 := f 60 5 1 (by decide +kernel)
    refine ⟨by omega, by omega, by omega, by omega, by omega, by omega, by omega, by omega, by omega, by omega, by omega, by omega, by omega, by omega, by omega, by omega, by omega, by omega, fun i c0 c1 => ?_⟩
    have := t i c0 c1
    omega
  · have a0 := f 1 14 4 (by decide +kernel); have b0 := f 60 16 4 (by decide +kernel)
    exact ⟨by omega, by omega, by omega⟩
  · have a0 := f 7 1 0 (by decide +kernel); have b0 := f 60 9 0 (by decide +kernel)
    exact ⟨by omega, by omega, by omega, fun k c0 c1 => by omega⟩
  · have a0 := f 29 2 0 (by decide +kernel); have b0 := f 60 36 0 (by decide +kernel); have a1 := f 29 3 0 (by decide +kernel); have b1 := f 60 41 0 (by decide +kernel)
    exact ⟨by omega, by omega, by omega, fun k c0 c1 => by omega, by omega, by omega, by omega⟩
  · have a0 := f 1 12 46 (by decide +kernel); have a1 := f 1 13 53 (by decide +kernel); have a2 := f 46 6 0 (by decide +kernel); have a3 := f 60 24 0 (by decide +kernel)
    unfold IvL
    rw [a0]
    exact ⟨Or.inl ⟨rfl, a1⟩, by omega, by omega, by omega, fun k c0 c1 => by omega⟩
  · intro k c0 c1
    left
    rcases (show k = 0 ∨ k = 1 ∨ k = 2 ∨ k = 3 by omega) with rfl | rfl | rfl | rfl
    · exact ⟨f 38 1 (-1) (by decide +kernel), f 85 0 (-4) (by decide +kernel)⟩
    · exact ⟨f 40 1 (-1) (by decide +kernel), f 85 1 (-4) (by decide +kernel)⟩
    · exact ⟨f 42 1 (-1) (by decide +kernel), f 85 2 (-4) (by decide +kernel)⟩
    · exact ⟨f 44 1 (-1) (by decide +kernel), f 85 3 (-4) (by decide +kernel)⟩

