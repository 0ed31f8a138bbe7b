/-- a token that is a word -/
def zwd (w : List Int) (t : Int → Int) (len s : Int) : Bool := decide (zxK t len s = 1 ∧ zxE t len s - zxS t len s = w.length) && zal (fun k => decide (t (zxS t len s + k) = w.getD k.toNat 0)) w.length
def zkn (t : Int → Int) (len s : Int) : Int := if zwd [108, 111, 97, 100] t len s then 0 else if zwd [115, 116, 111, 114, 101] t len s then 1 else if zwd [97, 100, 100] t len s then 2 else if zwd [109, 117, 108] t len s then 3 else -1
theorem c_named {P : zM} {n : Nat} {t : Int → Int} {len s a : Int} {w : List Int} (hn : 1000000 ≤ n) (ht : ∀ i, 0 ≤ i → i < len → 0 ≤ t i ∧ t i ≤ 255) (l0 : 0 ≤ len) (l1 : len ≤ 240) (hT : zTP t len P) (s0 : 0 ≤ s) (s1 : s ≤ len) (h5 : P 29 5 = zxE t len s) (h7 : P 29 7 = zxS t len s) (h6 : P 29 6 = zxK t len s) (hw : w.length ≤ 5) (hl : qsg_length zK0 P a = some (w.length : Int)) (hc : ∀ k : Int, 0 ≤ k → k < w.length → qsg_charAt zK0 P a k = some (w.getD k.toNat 0) ∧ 0 ≤ w.getD k.toNat 0 ∧ w.getD k.toNat 0 < 128) : qrd_isNamed n zK0 P 29 a = some (if zwd w t len s then 1 else 0) := by
  obtain ⟨q1, q2, q3, q4, q5, q6, q7⟩ := zxSE (t := t) s0 s1
  unfold qrd_isNamed zwd
  rw [zgf_ok rfl, Option.bind_some, h6, zw_id (x := zxK t len s) (by omega) (by omega), zw_id (x := 1) (by decide) (by decide)]
  by_cases c1 : zxK t len s = 1
  rotate_left
  · rw [if_neg c1, decide_eq_false (fun q => c1 q.1)]
    rfl
  rw [if_pos c1, zgf_ok rfl, Option.bind_some, zgf_ok rfl, Option.bind_some, h5, h7, hl, Option.bind_some, zw_id (x := zxE t len s - zxS t len s) (by omega) (by omega), zw_id (x := (w.length : Int)) (by omega) (by omega)]
  by_cases c2 : zxE t len s - zxS t len s = w.length
  rotate_left
  · rw [if_neg c2, decide_eq_false (fun q => c2 q.2)]
    rfl
  rw [if_pos c2, decide_eq_true ⟨c1, c2⟩, Bool.true_and]
  obtain ⟨G, hG⟩ : ∃ G : Int → Bool, (fun k : Int => decide (t (zxS t len s + k) = w.getD k.toNat 0)) = G := ⟨_, rfl⟩
  have hGe : ∀ k : Int, decide (t (zxS t len s + k) = w.getD k.toNat 0) = G k := fun k => by rw [← hG]
  rw [hG]
  refine zwh_eq (fun k : Int => 0 ≤ k ∧ k ≤ w.length ∧ zal G k.toNat = true) (fun k : Int => ((w.length : Int) - k).toNat) ?_ n _ ⟨by omega, by omega, rfl⟩ (by omega)
  rintro k ⟨k0, k1, hk⟩
  rw [Option.bind_some, zw_id (x := (w.length : Int)) (by omega) (by omega), zw_id (x := k) (by omega) (by omega)]
  by_cases c : (w.length : Int) ≤ k
  · right
    have : k = w.length := by omega
    rw [this, Int.toNat_natCast] at hk
    rw [if_pos c, hk]
    rfl
  · obtain ⟨u1, u2, u3⟩ := hc k k0 (by omega)
    have hb := ht (zxS t len s + k) (by omega) (by omega)
    have hs := zal_s (G := G) k0
    rw [hk, Bool.true_and, ← hGe] at hs
    rw [if_neg c, hT.g, Option.bind_some, Option.bind_some, zga_ok (N := 240) rfl (by decide) (by omega) (by omega), Option.bind_some, hT.2.2.2 _ (by omega) (by omega), u1, Option.bind_some]
    by_cases d : t (zxS t len s + k) = w.getD k.toNat 0
    · left
      rw [if_pos ((zeq8 hb.1 hb.2 u2 u3).2 d)]
      rw [decide_eq_true d] at hs
      exact ⟨_, rfl, ⟨by omega, by omega, hs⟩, by omega⟩
    · right
      rw [if_neg (fun q => d ((zeq8 hb.1 hb.2 u2 u3).1 q))]
      rw [decide_eq_false d] at hs
      rw [zal_dn (s := (k + 1).toNat) (by omega) hs]
      rfl
theorem c_kind {P : zM} {n : Nat} {t : Int → Int} {len s : Int} (hn : 1000000 ≤ n) (ht : ∀ i, 0 ≤ i → i < len → 0 ≤ t i ∧ t i ≤ 255) (l0 : 0 ≤ len) (l1 : len ≤ 240) (hT : zTP t len P) (s0 : 0 ≤ s) (s1 : s ≤ len) (h5 : P 29 5 = zxE t len s) (h7 : P 29 7 = zxS t len s) (h6 : P 29 6 = zxK t len s) : qrd_kindNamed n zK0 P 29 = some (zkn t len s) := by
  have a1 := c_named (a := -2) (w := [108, 111, 97, 100]) hn ht l0 l1 hT s0 s1 h5 h7 h6 (by decide) rfl (fun k k0 k1 => by
    rcases (show k = 0 ∨ k = 1 ∨ k = 2 ∨ k = 3 by simp at k1; omega) with rfl | rfl | rfl | rfl <;> exact ⟨rfl, by decide, by decide⟩)
  have a2 := c_named (a := -3) (w := [115, 116, 111, 114, 101]) hn ht l0 l1 hT s0 s1 h5 h7 h6 (by decide) rfl (fun k k0 k1 => by
    rcases (show k = 0 ∨ k = 1 ∨ k = 2 ∨ k = 3 ∨ k = 4 by simp at k1; omega) with rfl | rfl | rfl | rfl | rfl <;> exact ⟨rfl, by decide, by decide⟩)
  have a3 := c_named (a := -4) (w := [97, 100, 100]) hn ht l0 l1 hT s0 s1 h5 h7 h6 (by decide) rfl (fun k k0 k1 => by
    rcases (show k = 0 ∨ k = 1 ∨ k = 2 by simp at k1; omega) with rfl | rfl | rfl <;> exact ⟨rfl, by decide, by decide⟩)
  have a4 := c_named (a := -5) (w := [109, 117, 108]) hn ht l0 l1 hT s0 s1 h5 h7 h6 (by decide) rfl (fun k k0 k1 => by
    rcases (show k = 0 ∨ k = 1 ∨ k = 2 by simp at k1; omega) with rfl | rfl | rfl <;> exact ⟨rfl, by decide, by decide⟩)
  unfold qrd_kindNamed zkn
  rw [zgk_ok rfl, Option.bind_some, a1, Option.bind_some]
  cases zwd [108, 111, 97, 100] t len s with
  | true => rfl
  | false =>
    rw [if_pos (by decide), Option.bind_some, a2, Option.bind_some]
    cases zwd [115, 116, 111, 114, 101] t len s with
    | true => rfl
    | false =>
      rw [if_pos (by decide), Option.bind_some, a3, Option.bind_some]
      cases zwd [97, 100, 100] t len s with
      | true => rfl
      | false =>
        rw [if_pos (by decide), Option.bind_some, a4, Option.bind_some]
        cases zwd [109, 117, 108] t len s with
        | true => rfl
        | false => rfl
theorem m_is {Q : zM} {t : Int → Int} {len s a1 a2 a3 a4 a5 a6 : Int} (ht : ∀ i, 0 ≤ i → i < len → 0 ≤ t i ∧ t i ≤ 255) (l0 : 0 ≤ len) (l1 : len ≤ 240) (hT : zTM t len Q) (s0 : 0 ≤ s) (s1 : s ≤ len) (hO : zxO t len s) (hK : zTK t len s Q) (b1 : 3 ≤ a1) (b2 : a1 ≤ 5) (g2 : zrg a2) (g3 : zrg a3) (g4 : zrg a4) (g5 : zrg a5) (g6 : zrg a6) : qmd_is zK0 Q 60 a1 a2 a3 a4 a5 a6 = some (if (zxK t len s = 1 ∧ zxE t len s - zxS t len s = a1) ∧ t (zxS t len s) = a2 ∧ t (zxS t len s + 1) = a3 ∧ t (zxS t len s + 2) = a4 ∧ (4 ≤ a1 → t (zxS t len s + 3) = a5) ∧ (5 ≤ a1 → t (zxS t len s + 4) = a6) then 1 else 0) := by
  obtain ⟨q1, q2, q3, q4, q5, q6, q7⟩ := zxSE (t := t) s0 s1
  obtain ⟨k1, k2, -⟩ := hK
  obtain ⟨k3, k4, k5, k6⟩ := k2 hO
  unfold qmd_is
  rw [zgf_ok rfl, Option.bind_some, k4, zw_id (x := zxK t len s) (by omega) (by omega), zw_id (x := 1) (by decide) (by decide)]
  by_cases c1 : zxK t len s = 1
  rotate_left
  · rw [if_neg c1, if_neg (fun q => c1 q.1.1)]
  rw [if_pos c1, zgf_ok rfl, Option.bind_some, zgf_ok rfl, Option.bind_some, k3, k1, zw_id (x := zxE t len s - zxS t len s) (by omega) (by omega), zw_id (x := a1) (by omega) (by omega)]
  by_cases c2 : zxE t len s - zxS t len s = a1
  rotate_left
  · rw [if_neg c2, if_neg (fun q => c2 q.1.2)]
  obtain ⟨S, hS⟩ : ∃ S, zxS t len s = S := ⟨_, rfl⟩
  rw [hS] at q1 q2 q4 q7 k1 c2 ⊢
  have lk : ∀ i, 0 ≤ i → i < a1 → qmd_look zK0 Q 60 (S + i) = some (t (S + i)) ∧ zw (t (S + i)) = t (S + i) := by
    intro i i0 i1
    have hb := ht (S + i) (by omega) (by omega)
    rw [m_look hT l0 l1 (by omega) (by omega), if_neg (by omega)]
    exact ⟨rfl, zw_id (by omega) (by omega)⟩
  have l00 := lk 0 (by omega) (by omega)
  rw [Int.add_zero] at l00
  rw [if_pos c2, Option.bind_some, zgk_ok rfl, Option.bind_some, l00.1, Option.bind_some, l00.2, zw_id g2.1 g2.2]
  by_cases d0 : t S = a2
  rotate_left
  · rw [if_neg d0, if_neg (fun q => d0 q.2.1)]
  rw [if_pos d0, Option.bind_some, Option.bind_some, (lk 1 (by omega) (by omega)).1, Option.bind_some, (lk 1 (by omega) (by omega)).2, zw_id g3.1 g3.2]
  by_cases d1 : t (S + 1) = a3
  rotate_left
  · rw [if_neg d1, if_neg (fun q => d1 q.2.2.1)]
  rw [if_pos d1, Option.bind_some, Option.bind_some, (lk 2 (by omega) (by omega)).1, Option.bind_some, (lk 2 (by omega) (by omega)).2, zw_id g4.1 g4.2]
  by_cases d2 : t (S + 2) = a4
  rotate_left
  · rw [if_neg d2, if_neg (fun q => d2 q.2.2.2.1)]
  rw [if_pos d2, zw_id (x := 4) (by decide) (by decide), zw_id (x := 5) (by decide) (by decide)]
  by_cases w4 : a1 < 4
  · rw [if_pos w4, if_pos (by omega), if_pos ⟨⟨c1, c2⟩, d0, d1, d2, fun q => by omega, fun q => by omega⟩]
    rfl
  · rw [if_neg w4, Option.bind_some, Option.bind_some, (lk 3 (by omega) (by omega)).1, Option.bind_some, (lk 3 (by omega) (by omega)).2, zw_id g5.1 g5.2]
    by_cases d3 : t (S + 3) = a5
    rotate_left
    · rw [if_neg d3]
      show (some 0 : Option Int) = _
      rw [if_neg (fun q => d3 (q.2.2.2.2.1 (by omega)))]
    rw [if_pos d3]
    by_cases w5 : a1 < 5
    · rw [if_pos w5, if_pos ⟨⟨c1, c2⟩, d0, d1, d2, fun _ => d3, fun q => by omega⟩]
      rfl
    · rw [if_neg w5, Option.bind_some, Option.bind_some, (lk 4 (by omega) (by omega)).1, Option.bind_some, (lk 4 (by omega) (by omega)).2, zw_id g6.1 g6.2]
      by_cases d4 : t (S + 4) = a6
      · rw [if_pos d4, if_pos ⟨⟨c1, c2⟩, d0, d1, d2, fun _ => d3, fun _ => d4⟩]
        rfl
      · rw [if_neg d4, if_neg (fun q => d4 (q.2.2.2.2.2 (by omega)))]
        rfl
theorem m_kind {Q : zM} {t : Int → Int} {len s : Int} (ht : ∀ i, 0 ≤ i → i < len → 0 ≤ t i ∧ t i ≤ 255) (l0 : 0 ≤ len) (l1 : len ≤ 240) (hT : zTM t len Q) (s0 : 0 ≤ s) (s1 : s ≤ len) (hO : zxO t len s) (hK : zTK t len s Q) : qmd_lineNow zK0 Q 60 = some (if zkn t len s = -1 then -4 else zkn t len s) := by
  have i1 := m_is (a1 := 4) (a2 := 108) (a3 := 111) (a4 := 97) (a5 := 100) (a6 := 0) ht l0 l1 hT s0 s1 hO hK (by decide) (by decide) (by decide) (by decide) (by decide) (by decide) (by decide)
  have i2 := m_is (a1 := 5) (a2 := 115) (a3 := 116) (a4 := 111) (a5 := 114) (a6 := 101) ht l0 l1 hT s0 s1 hO hK (by decide) (by decide) (by decide) (by decide) (by decide) (by decide) (by decide)
  have i3 := m_is (a1 := 3) (a2 := 97) (a3 := 100) (a4 := 100) (a5 := 0) (a6 := 0) ht l0 l1 hT s0 s1 hO hK (by decide) (by decide) (by decide) (by decide) (by decide) (by decide) (by decide)
  have i4 := m_is (a1 := 3) (a2 := 109) (a3 := 117) (a4 := 108) (a5 := 0) (a6 := 0) ht l0 l1 hT s0 s1 hO hK (by decide) (by decide) (by decide) (by decide) (by decide) (by decide) (by decide)
  have j1 : ∀ (w : List Int) (C : Prop) [Decidable C], (zwd w t len s = true ↔ C) → (if C then (1 : Int) else 0) = if zwd w t len s then 1 else 0 := by
    intro w C _ h
    by_cases c : C
    · rw [if_pos c, if_pos (h.2 c)]
    · rw [if_neg c, if_neg (fun q => c (h.1 q))]
  rw [j1 [108, 111, 97, 100] _ (by unfold zwd; simp [zal]; omega)] at i1
  rw [j1 [115, 116, 111, 114, 101] _ (by unfold zwd; simp [zal]; omega)] at i2
  rw [j1 [97, 100, 100] _ (by unfold zwd; simp [zal]; omega)] at i3
  rw [j1 [109, 117, 108] _ (by unfold zwd; simp [zal]; omega)] at i4
  unfold qmd_lineNow zkn
  rw [zgk_ok rfl, Option.bind_some, i1, Option.bind_some]
  cases zwd [108, 111, 97, 100] t len s with
  | true => rfl
  | false =>
    rw [if_pos (by decide), Option.bind_some, i2, Option.bind_some]
    cases zwd [115, 116, 111, 114, 101] t len s with
    | true => rfl
    | false =>
      rw [if_pos (by decide), Option.bind_some, i3, Option.bind_some]
      cases zwd [97, 100, 100] t len s with
      | true => rfl
      | false =>
        rw [if_pos (by decide), Option.bind_some, i4, Option.bind_some]
        cases zwd [109, 117, 108] t len s with
        | true => rfl
        | false => rfl
