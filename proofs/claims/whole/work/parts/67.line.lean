def zVC (M : zM) (A : Int → Int) (P : zM) : Prop := zsa M P ∧ ∀ i, P 4 i = A i
def zVM (M : zM) (D : Int → Int) (Q : zM) : Prop := zsa M Q ∧ ∀ y, Q 62 y = D y
theorem zVC.up {M P : zM} {A : Int → Int} {r i v : Int} (h : zVC M A P) (hs : zste r i = false) (hr : r ≠ 4) : zVC M A (zu P r i v) := ⟨h.1.up hs, fun j => by rw [zu_n (Ne.symm hr)]; exact h.2 j⟩
theorem zVM.up {M Q : zM} {D : Int → Int} {r i v : Int} (h : zVM M D Q) (hs : zste r i = false) (hr : r ≠ 62) : zVM M D (zu Q r i v) := ⟨h.1.up hs, fun j => by rw [zu_n (Ne.symm hr)]; exact h.2 j⟩
theorem c_src {M P : zM} {s y : Int} (I : Iv M) (hP : zsa M P) (s0 : -1 ≤ s) (s1 : s < 16) (y0 : 0 ≤ y) (y1 : y < 64) : qtm_sourceAt zK0 P 32 s y = some (if 0 ≤ s then P 33 (64 * s + y) + P 34 s else 0) := by
  have g := (I.keep hP).g
  unfold zPt at g
  have g0 : zgr zK0 P 9 5 32 0 = some 33 := by simp only [g]
  have g1 : zgr zK0 P 9 5 32 1 = some 34 := by simp only [g]
  unfold qtm_sourceAt qtm_thereAt qtm_goesAt
  rw [zw_id (x := s) (by omega) (by omega)]
  by_cases c : 0 ≤ s
  · rw [if_pos c, if_pos c, zgk_ok rfl, Option.bind_some, Option.bind_some, g0, Option.bind_some, zga_ok (N := 1024) rfl (by decide) (by omega) (by omega), Option.bind_some, Option.bind_some, g1, Option.bind_some, zga_ok (N := 16) rfl (by decide) c (by omega), Option.bind_some, Option.bind_some, show s * 64 + y = 64 * s + y by omega]
  · rw [if_neg c, if_neg c]
theorem j_line {M P0 Q0 : zM} {n : Nat} {p k l a L : Int} {A D bk : Int → Int} (hn : 1000000 ≤ n) (I : Iv M) (hp : zPr M p) (hL : zkd zK0 L = some (2, 7)) (hbC : ∀ P, zVC M A P → ∀ x, 0 ≤ x → x ≤ 1000000 → qla_bankOfAddress zK0 P L x = some (bk x)) (hbM : ∀ Q, zVM M D Q → ∀ x, 0 ≤ x → x ≤ 1000000 → qmd_bankAt zK0 Q 60 x = some (bk x)) (hbk : ∀ x, 0 ≤ bk x ∧ bk x < 17) (k0 : 0 ≤ k) (k1 : k < M p 6) (l0 : 1 ≤ l) (l1 : l ≤ 64) (hC : zVC M A P0) (hM : zVM M D Q0) (h34 : P0 34 k = zdl (M 1 14) (M (p + 1) k)) (hR : zTR P0 Q0 l k 0 (zun (M (p + 1) k))) : ∃ P Q, qtm_runLine n zK0 P0 32 L p k l a = some P ∧ qmd_runsLine n zK0 Q0 60 k l a = some Q ∧ zVC M A P ∧ zVM M D Q ∧ zTR P Q l k l (zun (M (p + 1) k)) ∧ (∀ i, P 34 i = P0 34 i) ∧ P 32 4 = P0 32 4 := by
  obtain ⟨p0, p1, p2, p3, p4, p5⟩ := id hp
  obtain ⟨y1, y2, y3, y4, y5, y6, y7⟩ := zprK p0
  obtain ⟨l2, l3, l4, l5, l6⟩ := p5 k k0 k1
  obtain ⟨c1, c2, c3, c4, c5, c6, c7, c8⟩ := l2
  have hr := I.2.2.1
  unfold IvR at hr
  obtain ⟨kd, hkd⟩ : ∃ kd, M (p + 1) k = kd := ⟨_, rfl⟩
  rw [hkd] at h34 hR c1 c2 c5 c6 c7 c8 l3 ⊢
  have hun : 0 ≤ zun kd ∧ zun kd < 3 := by unfold zun; split <;> (try split) <;> omega
  have hj3 : (if zw 2 ≤ zw kd then some (kd - 1) else some 0) = some (zun kd) := by
    rw [zw_id (x := 2) (by decide) (by decide), zw_id (x := kd) (by omega) (by omega)]
    unfold zun
    rcases (show kd = 0 ∨ kd = 1 ∨ kd = 2 ∨ kd = 3 by omega) with rfl | rfl | rfl | rfl <;> simp
  have hdl : 0 ≤ zdl (M 1 14) kd ∧ zdl (M 1 14) kd ≤ 12 := by unfold zdl; split <;> (try split) <;> omega
  have st : ∀ P : zM, zsa M P → ∀ q, 1 ≤ q → q ≤ 6 → P (p + q) k = M (p + q) k := fun P hP q q0 q1 => hP _ _ (zstq p0 q0 q1)
  have gP0 := zprG (I.keep hC.1).g p0
  have gQ0 := (I.keep hM.1).g
  unfold zPt at gQ0
  have q25 : zgr zK0 Q0 12 49 60 25 = some 73 := by simp only [gQ0]
  unfold qtm_runLine qmd_runsLine
  rw [gP0.1, Option.bind_some, zga_ok (N := 16) y2 (by decide) k0 (by omega), Option.bind_some, st P0 hC.1 1 (by omega) (by omega), hkd, c_unit c1 c2, Option.bind_some, q25, Option.bind_some, zga_ok (N := 16) rfl (by decide) k0 (by omega), Option.bind_some, hM.1 73 k rfl, l3]
  rw [Option.bind_some, zga_ok (N := 16) rfl (by decide) k0 (by omega), Option.bind_some, hM.1 73 k rfl, l3, hj3, Option.bind_some]
  refine zwh2 (n := n) (R := fun (s t : Int × zM) => s.1 = t.1 ∧ 0 ≤ s.1 ∧ s.1 ≤ l ∧ zVC M A s.2 ∧ zVM M D t.2 ∧ zTR s.2 t.2 l k s.1 (zun kd) ∧ (∀ i, s.2 34 i = P0 34 i) ∧ s.2 32 4 = P0 32 4) (fun s => (l - s.1).toNat) (fun P Q => zVC M A P ∧ zVM M D Q ∧ zTR P Q l k l (zun kd) ∧ (∀ i, P 34 i = P0 34 i) ∧ P 32 4 = P0 32 4) ?_ _ _ ⟨rfl, by simp, by dsimp only; omega, hC, hM, hR, fun _ => rfl, rfl⟩ (by dsimp only; omega)
  rintro ⟨e, P⟩ ⟨e', Q⟩ ⟨r1, r2, r3, r4, r5, r6, r7, r8⟩
  dsimp only at r1 r2 r3 r4 r5 r6 r7 r8 ⊢
  subst r1
  rw [zw_id (x := l) (by omega) (by omega), zw_id (x := e) (by omega) (by omega)]
  by_cases c : l ≤ e
  · right
    rw [if_pos c, if_pos c]
    have : e = l := by omega
    subst this
    exact ⟨_, _, rfl, rfl, r4, r5, r6, r7, r8⟩
  left
  rw [if_neg c, if_neg c]
  obtain ⟨t1, t2, t3, t4, t5⟩ := id r6
  have gP := (I.keep r4.1).g
  have gp := zprG gP p0
  have gQ := (I.keep r5.1).g
  unfold zPt at gP gQ
  have b0 : zgr zK0 P 9 5 32 0 = some 33 := by simp only [gP]
  have b1 : zgr zK0 P 9 5 32 1 = some 34 := by simp only [gP]
  have b2 : zgr zK0 P 9 5 32 2 = some 35 := by simp only [gP]
  have b3 : zgr zK0 P 9 5 32 3 = some 36 := by simp only [gP]
  have d17 : zgr zK0 Q 12 49 60 17 = some 69 := by simp only [gQ]
  have d25 : zgr zK0 Q 12 49 60 25 = some 73 := by simp only [gQ]
  have d26 : zgr zK0 Q 12 49 60 26 = some 74 := by simp only [gQ]
  have d27 : zgr zK0 Q 12 49 60 27 = some 75 := by simp only [gQ]
  have d28 : zgr zK0 Q 12 49 60 28 = some 76 := by simp only [gQ]
  have d43 : zgr zK0 Q 12 49 60 43 = some 82 := by simp only [gQ]
  have d44 : zgr zK0 Q 12 49 60 44 = some 83 := by simp only [gQ]
  have d45 : zgr zK0 Q 12 49 60 45 = some 84 := by simp only [gQ]
  have f16 : Q 60 16 = M 1 14 := (r5.1 60 16 rfl).trans hr.2.2
  obtain ⟨y, hy, hy0, hy1, hy2⟩ : ∃ y, (if zw a = 0 then some (l - 1) else some e) = some y ∧ 0 ≤ y ∧ y < l ∧ (if zw a = 0 then l - 1 else e) = y := by
    by_cases w : zw a = 0
    · exact ⟨l - 1, by rw [if_pos w], by omega, by omega, by rw [if_pos w]⟩
    · exact ⟨e, by rw [if_neg w], by omega, by omega, by rw [if_neg w]⟩
  have hth : ∀ j, 0 ≤ j → j < k → qmd_thereAt n zK0 Q 60 j e l a = some (P 33 (64 * j + y) + P 34 j) ∧ 0 ≤ P 33 (64 * j + y) + P 34 j ∧ P 33 (64 * j + y) + P 34 j ≤ 13 * (64 * k + e) := by
    intro j j0 j1
    have m := m_there (a := a) (e := e) (l := l) hn I r5.1 j0 (by omega) r2 (by omega) l1 (fun x x0 x1 => by
      obtain ⟨z1, z2, z3, z4, z5⟩ := t3 j x j0 x0 x1 (Or.inl j1)
      have := t4 j j0 j1
      rw [z2]; omega) (fun x x' x0 x1 x2 => by
      obtain ⟨z1, z2, z3, z4, z5⟩ := t3 j x j0 x0 (by omega) (Or.inl j1)
      obtain ⟨w1, w2, w3, w4, w5⟩ := t3 j x' j0 (by omega) x2 (Or.inl j1)
      have := z5 x' x1 x2 (Or.inl j1)
      rw [z2, w2]; omega)
    obtain ⟨z1, z2, z3, z4, z5⟩ := t3 j y j0 hy0 hy1 (Or.inl j1)
    have := t4 j j0 j1
    rw [hy2, z2] at m
    exact ⟨m, by omega, by omega⟩
  obtain ⟨sA, hsA⟩ : ∃ sA, M (p + 5) k = sA := ⟨_, rfl⟩
  obtain ⟨sB, hsB⟩ : ∃ sB, M (p + 6) k = sB := ⟨_, rfl⟩
  rw [hsA] at c6 c7 c8
  rw [hsB] at c5 c8
  have rA : -1 ≤ sA ∧ sA < k := by
    rcases (show kd = 0 ∨ kd = 1 ∨ 2 ≤ kd by omega) with w | w | w
    · have := c6 w; omega
    · have := c7 w; unfold zmk at this; omega
    · have := (c8 w).2.2.2.2.1; unfold zmk at this; omega
  have rB : -1 ≤ sB ∧ sB < k := by
    rcases (show kd ≤ 1 ∨ 2 ≤ kd by omega) with w | w
    · have := c5 w; omega
    · have := (c8 w).2.2.2.2.2; unfold zmk at this; omega
  obtain ⟨SA, hSA⟩ : ∃ SA, (if 0 ≤ sA then P 33 (64 * sA + y) + P 34 sA else 0) = SA := ⟨_, rfl⟩
  obtain ⟨SB, hSB⟩ : ∃ SB, (if 0 ≤ sB then P 33 (64 * sB + y) + P 34 sB else 0) = SB := ⟨_, rfl⟩
  have rSA : 0 ≤ SA ∧ SA ≤ 13 * (64 * k + e) := by
    rw [← hSA]
    by_cases w : 0 ≤ sA
    · rw [if_pos w]; exact (hth sA w rA.2).2
    · rw [if_neg w]; omega
  have rSB : 0 ≤ SB ∧ SB ≤ 13 * (64 * k + e) := by
    rw [← hSB]
    by_cases w : 0 ≤ sB
    · rw [if_pos w]; exact (hth sB w rB.2).2
    · rw [if_neg w]; omega
  have ru := t2 (zun kd) hun.1 hun.2
  obtain ⟨X, hX⟩ : ∃ X, zmx (P 35 (zun kd)) (zmx SA SB) = X := ⟨_, rfl⟩
  have rX0 := zmx_rg rSA rSB
  have rX := zmx_rg (a := P 35 (zun kd)) (b := zmx SA SB) ⟨ru.2.1, ru.2.2⟩ ⟨rX0.1, rX0.2.1⟩
  rw [hX] at rX
  have eX : zmax (P 35 (zun kd)) (zmax SA SB) = X := by
    rw [zmax_x (a := SA) (b := SB) (by unfold zrg; omega) (by unfold zrg; omega), zmax_x (by unfold zrg; omega) (by unfold zrg; omega), hX]
  rw [hy, Option.bind_some, b2, Option.bind_some, zga_ok (N := 3) rfl (by decide) hun.1 (by omega), Option.bind_some, gp.2.2.2.2.1, Option.bind_some, zga_ok (N := 16) y6 (by decide) k0 (by omega), Option.bind_some, zgk_ok (r := 32) (ci := 9) (N := 5) rfl, Option.bind_some, st P r4.1 5 (by omega) (by omega), hsA, c_src I r4.1 rA.1 (by omega) hy0 (by omega), Option.bind_some, hSA, gp.2.2.2.2.2, Option.bind_some, zga_ok (N := 16) y7 (by decide) k0 (by omega), Option.bind_some, Option.bind_some, st P r4.1 6 (by omega) (by omega), hsB, c_src I r4.1 rB.1 (by omega) hy0 (by omega), Option.bind_some, hSB, Option.bind_some, eX]
  rw [d45, Option.bind_some, zga_ok (N := 3) rfl (by decide) hun.1 (by omega), Option.bind_some, ru.1, d25, Option.bind_some, zga_ok (N := 16) rfl (by decide) k0 (by omega), Option.bind_some, r5.1 73 k rfl, l3, zw_id (x := kd) (by omega) (by omega), zw_id (x := 1) (by decide) (by decide), zw_id (x := zun kd) (by omega) (by omega)]
  have fin : ∀ (P1 Q1 : zM) (b : Int), zVC M A P1 → zVM M D Q1 → (∀ c i, c ≠ 36 → P1 c i = P c i) → (∀ c i, c ≠ 69 → Q1 c i = Q c i) → (∀ j, 0 ≤ j → j < 17 → Q1 69 j = P1 36 j ∧ 0 ≤ P1 36 j ∧ P1 36 j ≤ 13 * (64 * k + e) + 12) → P 35 (zun kd) ≤ b → b ≤ 13 * (64 * k + e) → ∃ s' t', ((zgr zK0 P1 9 5 32 0).bind fun r16 =>
      (zpa zK0 P1 100 r16 ((k * 64) + e) b).bind fun M17 =>
      (zgr zK0 M17 9 5 32 2).bind fun r18 =>
      (zpa zK0 M17 100 r18 (zun kd) (b + 1)).bind fun M19 =>
      some (Sum.inl (e + 1, M19) : (Int × zM) ⊕ zM)) = some (.inl s') ∧ ((zgr zK0 Q1 12 49 60 43).bind fun r11 =>
      (zpa zK0 Q1 100 r11 ((64 * k) + e) b).bind fun M12 =>
      (zgr zK0 M12 12 49 60 44).bind fun r13 =>
      (if zun kd = 0 then
        (zgf zK0 M12 12 49 60 16).bind fun v18 =>
        some v18
      else
        if zun kd = 1 then
          some 3
        else
          some 5 : Option (Int)).bind fun j14 =>
      (zpa zK0 M12 100 r13 ((64 * k) + e) (b + j14)).bind fun M15 =>
      (zgr zK0 M15 12 49 60 45).bind fun r16 =>
      (zpa zK0 M15 100 r16 (zun kd) (b + 1)).bind fun M17 =>
      some (Sum.inl (e + 1, M17) : (Int × zM) ⊕ zM)) = some (.inl t') ∧ (s'.1 = t'.1 ∧ 0 ≤ s'.1 ∧ s'.1 ≤ l ∧ zVC M A s'.2 ∧ zVM M D t'.2 ∧ zTR s'.2 t'.2 l k s'.1 (zun kd) ∧ (∀ i, s'.2 34 i = P0 34 i) ∧ s'.2 32 4 = P0 32 4) ∧ (l - s'.1).toNat < (l - e).toNat := by
    intro P1 Q1 b v1 v2 hP hQ hrr bb0 bb1
    have g1 := (I.keep v1.1).g
    have g2 := (I.keep v2.1).g
    unfold zPt at g1 g2
    have e0 : zgr zK0 P1 9 5 32 0 = some 33 := by simp only [g1]
    have e2 : zgr zK0 P1 9 5 32 2 = some 35 := by simp only [g1]
    have e43 : zgr zK0 Q1 12 49 60 43 = some 82 := by simp only [g2]
    have e44 : zgr zK0 Q1 12 49 60 44 = some 83 := by simp only [g2]
    have e45 : zgr zK0 Q1 12 49 60 45 = some 84 := by simp only [g2]
    have hd : (if zun kd = 0 then some (Q1 60 16) else if zun kd = 1 then some 3 else some 5) = some (P 34 k) := by
      rw [r7 k, h34, hQ 60 16 (by decide), f16]
      unfold zun zdl
      rcases (show kd = 0 ∨ kd = 1 ∨ kd = 2 ∨ kd = 3 by omega) with rfl | rfl | rfl | rfl <;> simp
    have dk : 0 ≤ P 34 k ∧ P 34 k ≤ 12 := by rw [r7 k, h34]; exact hdl
    rw [e0, Option.bind_some, show k * 64 + e = 64 * k + e by omega, zpa_ok (N := 1024) rfl (by decide) (by omega) (by omega), Option.bind_some, zgr_u (Or.inl (by decide)), e2, Option.bind_some, zpa_ok (N := 3) rfl (by decide) hun.1 (by omega), Option.bind_some]
    rw [e43, Option.bind_some, zpa_ok (N := 1024) rfl (by decide) (by omega) (by omega), Option.bind_some, zgr_u (Or.inl (by decide)), e44, Option.bind_some, zgf_ok rfl, Option.bind_some, zu_n (show (60 : Int) ≠ 82 by decide), hd, Option.bind_some, zpa_ok (N := 1024) rfl (by decide) (by omega) (by omega), Option.bind_some, zgr_u (Or.inl (by decide)), zgr_u (Or.inl (by decide)), e45, Option.bind_some, zpa_ok (N := 3) rfl (by decide) hun.1 (by omega), Option.bind_some]
    refine ⟨_, _, rfl, rfl, ⟨rfl, by dsimp only; omega, by dsimp only; omega, (v1.up rfl (by decide)).up rfl (by decide), ((v2.up rfl (by decide)).up rfl (by decide)).up rfl (by decide), zTR_s r6 k0 r2 (by omega) l1 hun.1 hun.2 bb0 bb1 rfl dk.1 dk.2 hP hQ hrr, fun i => ?_, ?_⟩, by dsimp only; omega⟩
    · dsimp only
      rw [zu_n (by decide), zu_n (by decide), hP 34 i (by decide), r7 i]
    · dsimp only
      rw [zu_n (by decide), zu_n (by decide), hP 32 4 (by decide), r8]
  by_cases w2 : 2 ≤ kd
  · have hu0 : ¬ zun kd = 0 := by unfold zun; split <;> (try split) <;> omega
    obtain ⟨x1, x2, x3, x4, x5, x6⟩ := c8 w2
    have sA0 : 0 ≤ sA := by unfold zmk at x5; omega
    have sB0 : 0 ≤ sB := by unfold zmk at x6; omega
    rw [if_pos sA0] at hSA
    rw [if_pos sB0] at hSB
    rw [if_neg hu0, Option.bind_some, if_neg (show ¬ kd = 1 by omega), Option.bind_some, if_neg (show ¬ zun kd ≤ 0 by omega), d27, Option.bind_some, zga_ok (N := 16) rfl (by decide) k0 (by omega), Option.bind_some, zgk_ok (r := 60) (ci := 12) (N := 49) rfl, Option.bind_some, r5.1 75 k rfl, l5, m_made hn I r5.1 hp (by omega) x1 x2 x5, Option.bind_some, Option.bind_some, (hth sA sA0 rA.2).1, Option.bind_some, hSA, d28, Option.bind_some, zga_ok (N := 16) rfl (by decide) k0 (by omega), Option.bind_some, Option.bind_some, r5.1 76 k rfl, l6, m_made hn I r5.1 hp (by omega) x3 x4 x6, Option.bind_some, Option.bind_some, (hth sB sB0 rB.2).1, Option.bind_some, hSB, md_more (by unfold zrg; omega) (by unfold zrg; omega), Option.bind_some, md_more (by unfold zrg; omega) (by unfold zrg; omega), Option.bind_some, hX, Option.bind_some]
    dsimp only
    exact fin P Q X r4 r5 (fun _ _ _ => rfl) (fun _ _ _ => rfl) (fun j j0 j1 => by have := t1 j j0 j1; omega) rX.2.2.1 rX.2.1
  · have hu0 : zun kd = 0 := by unfold zun; rw [if_neg (by omega), if_neg (by omega)]
    obtain ⟨x1, x2, x3, x4, x5⟩ := c5 (by omega)
    have hSB0 : SB = 0 := by rw [← hSB, if_neg (by omega)]
    have hj9 : (if kd = 1 then
        (zgr zK0 Q 12 49 60 26).bind fun r40 =>
        (zga zK0 Q 100 r40 k).bind fun v41 =>
        (some ()).bind fun _ => (qmd_madeBy n zK0 Q 60 k v41).bind fun v42 =>
        (some ()).bind fun _ => (qmd_thereAt n zK0 Q 60 v42 e l a).bind fun v43 =>
        (qmd_more zK0 Q (P 35 (zun kd)) v43).bind fun v44 =>
        some v44
      else
        some (P 35 (zun kd)) : Option (Int)) = some X := by
      by_cases w1 : kd = 1
      · have x7 := c7 w1
        have sA0 : 0 ≤ sA := by unfold zmk at x7; omega
        rw [if_pos sA0] at hSA
        rw [if_pos w1, d26, Option.bind_some, zga_ok (N := 16) rfl (by decide) k0 (by omega), Option.bind_some, Option.bind_some, r5.1 74 k rfl, l4, m_made hn I r5.1 hp (by omega) c3 c4 x7, Option.bind_some, Option.bind_some, (hth sA sA0 rA.2).1, Option.bind_some, hSA, md_more (by unfold zrg; omega) (by unfold zrg; omega), Option.bind_some, ← hX, hSB0]
        congr 1
        unfold zmx
        repeat' split
        all_goals omega
      · have hSA0 : SA = 0 := by rw [← hSA, if_neg (by have := c6 (by omega); omega)]
        rw [if_neg w1, ← hX, hSA0, hSB0]
        congr 1
        unfold zmx
        repeat' split
        all_goals omega
    have m0 : 0 ≤ e * M (p + 4) k := Int.mul_nonneg r2 (by omega)
    have m1 : e * M (p + 4) k ≤ 64 * 99 := Int.mul_le_mul (by omega) (by omega) (by omega) (by omega)
    have hbkx := hbk (M (p + 3) k + e * M (p + 4) k)
    obtain ⟨w, hw⟩ : ∃ w, bk (M (p + 3) k + e * M (p + 4) k) = w := ⟨_, rfl⟩
    rw [hw] at hbkx
    have rw36 := t1 w hbkx.1 hbkx.2
    have rb := zmx_rg (a := X) (b := P 36 w) ⟨rX.1, rX.2.1⟩ ⟨rw36.2.1, rw36.2.2⟩
    obtain ⟨b, hb⟩ : ∃ b, zmx X (P 36 w) = b := ⟨_, rfl⟩
    rw [hb] at rb
    have hzd : P 34 k = M 1 14 := by
      rw [r7 k, h34]
      unfold zdl
      rw [if_neg (by omega), if_neg (by omega)]
    rw [zgk_ok (r := 60) (ci := 12) (N := 49) rfl, hj9, Option.bind_some, if_pos hu0, gp.2.2.1, Option.bind_some, zga_ok (N := 16) y4 (by decide) k0 (by omega), Option.bind_some, gp.2.2.2.1, Option.bind_some, zga_ok (N := 16) y5 (by decide) k0 (by omega), Option.bind_some, st P r4.1 3 (by omega) (by omega), st P r4.1 4 (by omega) (by omega), zgk_ok hL, Option.bind_some, hbC P r4 _ (by omega) (by omega), Option.bind_some, hw, b3, Option.bind_some, zga_ok (N := 17) rfl (by decide) hbkx.1 (by omega), Option.bind_some, Option.bind_some, Option.bind_some, b1, Option.bind_some, zga_ok (N := 16) rfl (by decide) k0 (by omega), Option.bind_some, zpa_ok (N := 17) rfl (by decide) hbkx.1 (by omega), Option.bind_some, Option.bind_some, zmax_x (a := X) (by unfold zrg; omega) (by unfold zrg; omega), hb]
    rw [if_pos (show zun kd ≤ 0 by omega), d27, Option.bind_some, zga_ok (N := 16) rfl (by decide) k0 (by omega), Option.bind_some, d28, Option.bind_some, zga_ok (N := 16) rfl (by decide) k0 (by omega), Option.bind_some, r5.1 75 k rfl, l5, r5.1 76 k rfl, l6, Option.bind_some, hbM Q r5 _ (by omega) (by omega), Option.bind_some, hw, d17, Option.bind_some, zga_ok (N := 17) rfl (by decide) hbkx.1 (by omega), Option.bind_some, rw36.1, md_more (by unfold zrg; omega) (by unfold zrg; omega), Option.bind_some, hb, Option.bind_some, zgf_ok rfl, Option.bind_some, f16, zpa_ok (N := 17) rfl (by decide) hbkx.1 (by omega), Option.bind_some, Option.bind_some]
    dsimp only
    refine fin (zu P 36 w (b + P 34 k)) (zu Q 69 w (b + M 1 14)) b (r4.up rfl (by decide)) (r5.up rfl (by decide)) (fun c i hc => zu_n hc) (fun c i hc => zu_n hc) (fun j j0 j1 => ?_) (by omega) (by omega)
    by_cases q : j = w
    · rw [q, zu_e, zu_e, hzd]
      omega
    · rw [zu_m q, zu_m q]
      have := t1 j j0 j1
      omega
