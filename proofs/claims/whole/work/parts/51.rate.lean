/-- how far both sides are in the search of a round like an earlier one -/
def zRs (M T : zM) (β : Nat → Int) (q : Int) (p : Nat) (s : Int × Int × zM) (t : Int × Int × Int × zM) : Prop :=
  ∃ (r : Nat) (P Q : zM), s = ((zrt β q (r * p)).1, (r : Int), P) ∧ t = ((zrt β q (r * p)).1 - 1, ((r * p : Nat) : Int), (r : Int) + 1, Q) ∧ r ≤ 64 ∧ zsa M P ∧ zsa M Q ∧ (∀ y, Q 62 y = zlN T 62 y) ∧ (∀ j, 0 ≤ j → j < 17 → P 25 j = (zrt β q (r * p)).2 j ∧ Q 69 j = (zrt β q (r * p)).2 j) ∧
    (∀ k : Nat, k < r → P 28 k = (zrt β q ((k + 1) * p)).1 ∧ Q 72 ((k : Int) + 1) = (zrt β q ((k + 1) * p)).1 - 1 ∧ P 26 k = zpc (zL β q ((k + 1) * p)) (zm16 (M 2 2)).toNat ∧ P 27 k = (if M 2 2 = 17 then zL β q ((k + 1) * p) 16 else 0) ∧ ∀ j, 0 ≤ j → j < 17 → Q 71 (17 * ((k : Int) + 1) + j) = zL β q ((k + 1) * p) j) ∧
    (2 ≤ r → ¬ ∀ j, 0 ≤ j → j < 17 → zL β q ((0 + 1) * p) j = zL β q ((1 + 1) * p) j)
def zPs (M : zM) (p : Nat) (x : Int × zM) (y : (Int × Int × Int × Int × zM) ⊕ (Int × zM)) : Prop :=
  (x.1 = 0 ∧ zsa M x.2 ∧ ∃ E, y = .inr (0, E) ∧ zsa M E) ∨ (x.1 = 1 ∧ zsa M x.2 ∧ ∃ (r k : Nat) (t c : Int) (E : zM) (A D : Int), y = .inl (t, c, (r : Int) + 1, (k : Int) + 1, E) ∧ zsa M E ∧ k < r ∧ r < 64 ∧ A = ((r : Int) - k) * p ∧ 1 ≤ A ∧ A ≤ 16128 ∧ 1 ≤ D ∧ D ≤ 98304 ∧ E 72 ((r : Int) + 1) - E 72 ((k : Int) + 1) = D ∧ x.2 24 4 = A / (Nat.gcd A.toNat D.toNat : Int) ∧ x.2 24 5 = D / (Nat.gcd A.toNat D.toNat : Int) ∧ x.2 24 6 = (r : Int) + 1)
theorem j_round {M T : zM} {n p : Nat} {a s N : Int} {β : Nat → Int} (hn : 1000000 ≤ n) (I : Iv M) (hT : zsa M T) (a0 : 0 ≤ a) (a1 : a ≤ 999) (s0 : 1 ≤ s) (s1 : s ≤ 99) (N0 : 1 ≤ N) (N1 : N ≤ 256) (p0 : 1 ≤ p) (p1 : p ≤ 256) (hβ : ∀ k : Nat, β k = zadr M (a + k * s)) (hper : ∀ k, β (k + p) = β k) (hmod : ∀ c : Nat, β c = zadr M (a + (c % N) * s)) : ∃ x y, zwh (σ := Int × Int × zM) (fun s6 =>
    if zw 64 ≤ zw s6.2.1 then
      some (.inr ((0 : Int), s6.2.2))
    else
      (zwh (σ := Int × Int × zM) (ρ := Int × Int × zM) (fun s7 =>
        if zw (p : Int) ≤ zw s7.2.1 then
          some (.inr (s7.1, s7.2.1, s7.2.2))
        else
          (zgk zK0 2 2 7).bind fun _ => (qla_bankOfAddress zK0 s7.2.2 2 (a + (s7.2.1 * s))).bind fun v13 =>
          (zgr zK0 s7.2.2 4 7 24 0).bind fun r14 =>
          (zga zK0 s7.2.2 100 r14 v13).bind fun v15 =>
          (some (zmax s7.1 v15)).bind fun x16 =>
          (zgr zK0 s7.2.2 4 7 24 0).bind fun r17 =>
          (zpa zK0 s7.2.2 100 r17 v13 (x16 + M 1 14)).bind fun M18 =>
          (some (x16 + 1)).bind fun x19 =>
          some (.inl (x19, s7.2.1 + 1, M18))) n (s6.1, 0, s6.2.2)).bind fun e8 =>
      (zgf zK0 e8.2.2 2 7 2 2).bind fun v9 =>
      (zgk zK0 24 4 7).bind fun _ => (qra_keep n zK0 e8.2.2 24 s6.2.1 e8.1 v9).bind fun M10 =>
      (zgk zK0 24 4 7).bind fun _ => (qra_earlierLike n zK0 M10 24 s6.2.1).bind fun v11 =>
      if zw v11 < 0 then
        some (.inl (e8.1, s6.2.1 + 1, M10))
      else
        (zgk zK0 24 4 7).bind fun _ => (qra_settle n zK0 M10 24 s6.2.1 v11 (p : Int)).bind fun M12 =>
        some (.inr (1, M12))) n (0, 0, zfl M 25 17 0) = some x ∧ zwh (σ := Int × Int × Int × zM) (fun s7 =>
    if zw 64 < zw s7.2.2.1 then
      some (.inr (.inr ((0 : Int), s7.2.2.2)))
    else
      (zwh (σ := Int × Int × Int × zM) (ρ := Int × Int × Int × zM) (fun s21 =>
        if zw (p : Int) ≤ zw s21.2.2.1 then
          some (.inr (s21.1, s21.2.1, s21.2.2.1, s21.2.2.2))
        else
          (zrm s21.2.1 N).bind fun v37 =>
          (zgk zK0 60 12 49).bind fun _ => (qmd_asks zK0 s21.2.2.2 60 (a + (v37 * s)) s21.1).bind fun p38 =>
          some (.inl (p38.1, s21.2.1 + 1, s21.2.2.1 + 1, p38.2))) n (s7.1, s7.2.1, 0, s7.2.2.2)).bind fun e22 =>
      (zgr zK0 e22.2.2.2 12 49 60 20).bind fun r23 =>
      (zpa zK0 e22.2.2.2 100 r23 s7.2.2.1 e22.1).bind fun M24 =>
      (zwh (σ := Int × zM) (ρ := Int × zM) (fun s25 =>
        if zw 17 ≤ zw s25.1 then
          some (.inr (s25.1, s25.2))
        else
          (zgr zK0 s25.2 12 49 60 19).bind fun r30 =>
          (zgr zK0 s25.2 12 49 60 17).bind fun r31 =>
          (zga zK0 s25.2 100 r31 s25.1).bind fun v32 =>
          (if zw v32 ≤ zw (e22.1 + 1) then
            some 0
          else
            (zgr zK0 s25.2 12 49 60 17).bind fun r35 =>
            (zga zK0 s25.2 100 r35 s25.1).bind fun v36 =>
            some ((v36 - e22.1) - 1) : Option (Int)).bind fun j33 =>
          (zpa zK0 s25.2 100 r30 ((17 * s7.2.2.1) + s25.1) j33).bind fun M34 =>
          some (.inl (s25.1 + 1, M34))) n (0, M24)).bind fun e26 =>
      zesc (β := Int) (zwh (σ := Int) (fun s27 =>
        if zw s7.2.2.1 ≤ zw s27 then
          some (.inr (.inl s27))
        else
          (zgk zK0 60 12 49).bind fun _ => (qmd_areAlike n zK0 e26.2 60 s27 s7.2.2.1).bind fun v29 =>
          if zw v29 = 0 then
            some (.inl (s27 + 1))
          else
            some (.inr (.inr (.inr (.inl (e22.1, e22.2.1, s7.2.2.1, s27, e26.2)))))) n 1) fun e28 =>
      some (.inl (e22.1, e22.2.1, s7.2.2.1 + 1, e26.2))) n ((-1), 0, 1, zfl (zlN T) 69 17 0) = some y ∧ zPs M p x y := by
  have IT := I.keep hT
  have ht := I.2.1
  unfold IvT at ht
  obtain ⟨q, hq⟩ : ∃ q, M 1 14 = q := ⟨_, rfl⟩
  have hr := I.2.2.1
  unfold IvR at hr
  rw [hq] at hr ⊢
  obtain ⟨q0, q1, q2⟩ := hr
  have hmul : ∀ r k, β (r * p + k) = β k := by
    intro r
    induction r with
    | zero => intro k; rw [Nat.zero_mul, Nat.zero_add]
    | succ r ih => intro k; rw [Nat.succ_mul, show r * p + p + k = (r * p + k) + p by omega, hper, ih]
  have hz : ∀ k j, M 2 2 ≤ j → zL β q k j = 0 := by
    intro k j hj
    unfold zL
    rw [zrt_no (fun i => by rw [hβ]; have := (zadr_lt I (x := a + i * s)).2; omega)]
    have := (zrt_rg (β := β) q0 q1 k).1
    unfold zps
    rw [if_neg (by omega)]
  refine zwh2 (n := n) (R := zRs M T β q p) (fun s => (64 - s.2.1).toNat) _ ?_ _ _ ?_ ?_
  · rintro s' t' ⟨r, P, Q, rfl, rfl, r1, J1, J2, J3, J4, J5, J6⟩
    dsimp only
    rw [zw_id (x := 64) (by decide) (by decide), zw_id (x := (r : Int)) (by omega) (by omega), zw_id (x := (r : Int) + 1) (by omega) (by omega)]
    by_cases c : 64 ≤ (r : Int)
    · right
      rw [if_pos c, if_pos (by omega)]
      exact ⟨_, _, rfl, rfl, Or.inl ⟨rfl, J1, _, rfl, J2⟩⟩
    rw [if_neg c, if_neg (by omega)]
    have hR : r * p + p ≤ 16384 := by
      have : r * p ≤ 63 * 256 := Nat.mul_le_mul (by omega) p1
      omega
    obtain ⟨P1, e1, u1, u2, u3⟩ := c_asks (R0 := r * p) (q := q) hn I J1 q0 q1 a0 a1 s0 s1 p1 hR (fun k => by rw [hmul, hβ]) (fun j j0 j1 => (J4 j j0 j1).1)
    obtain ⟨Q1, e2, w1, w2, w3⟩ := m_asks (R0 := r * p) (β := β) hn I hT J2 J3 a0 a1 s0 s1 N0 N1 p1 hR hmod (fun j j0 j1 => by rw [hq]; exact (J4 j j0 j1).2)
    rw [hq, show ((r * p : Nat) : Int) = ((r * p : Nat) : Int) from rfl] at e2
    rw [hq] at w3
    have ep : (r + 1) * p = r * p + p := Nat.succ_mul r p
    obtain ⟨g0, g1, g2, g3⟩ := zrt_rg (β := β) q0 q1 (r * p + p)
    have gP := (I.keep u1).g
    have e3 := c_keep (r := (r : Int)) (now := (zrt β q (r * p + p)).1) (m := M 2 2) (L := zL β q (r * p + p)) hn gP (by omega) (by omega) (by omega) (by omega) (by omega) (by omega) (fun j j0 j1 => by rw [u3 j j0 j1]; have := g3 j; exact ⟨by omega, by omega, rfl⟩)
    rw [e1, Option.bind_some]
    dsimp only
    rw [zgf_ok rfl, Option.bind_some, show P1 2 2 = M 2 2 from u1 2 2 rfl, zgk_ok rfl, Option.bind_some, e3, Option.bind_some, Option.bind_some]
    rw [e2, Option.bind_some]
    dsimp only
    obtain ⟨now, hnow⟩ : ∃ now, (zrt β q (r * p + p)).1 = now := ⟨_, rfl⟩
    rw [hnow] at g0 g1 g2 g3 ⊢
    have hQ20 : zgr zK0 Q1 12 49 60 20 = some 72 := by have := (I.keep w1).g; unfold zPt at this; simp only [this]
    rw [hQ20, Option.bind_some, zpa_ok (N := 65) rfl (by decide) (by omega) (by omega), Option.bind_some]
    have w1' : zsa M (zu Q1 72 ((r : Int) + 1) (now - 1)) := w1.up rfl
    have e4 := m_lefts (Q := zu Q1 72 ((r : Int) + 1) (now - 1)) (r := (r : Int) + 1) (t := now - 1) (L := zL β q (r * p + p)) hn (I.keep w1').g (by omega) (by omega) (by omega) (by omega) (fun j j0 j1 => by
      rw [zu_n (by decide), w3 j j0 j1]
      have := g3 j
      refine ⟨by omega, by omega, ?_⟩
      rw [show now - 1 + 1 = now by omega]
      unfold zL
      rw [hnow])
    rw [e4, Option.bind_some]
    dsimp only
    have v1 : zsa M (zu (zu (zu P1 26 r (zpc (zL β q (r * p + p)) (zm16 (M 2 2)).toNat)) 27 r (if M 2 2 = 17 then zL β q (r * p + p) 16 else 0)) 28 r now) := ((u1.up rfl).up rfl).up rfl
    obtain ⟨P2, hP2⟩ : ∃ P2, zu (zu (zu P1 26 r (zpc (zL β q (r * p + p)) (zm16 (M 2 2)).toNat)) 27 r (if M 2 2 = 17 then zL β q (r * p + p) 16 else 0)) 28 r now = P2 := ⟨_, rfl⟩
    have v2 : zsa M (zsp (zu Q1 72 ((r : Int) + 1) (now - 1)) 71 (17 * ((r : Int) + 1)) 17 (zL β q (r * p + p))) := w1'.st (fun _ => rfl)
    obtain ⟨Q3, hQ3⟩ : ∃ Q3, zsp (zu Q1 72 ((r : Int) + 1) (now - 1)) 71 (17 * ((r : Int) + 1)) 17 (zL β q (r * p + p)) = Q3 := ⟨_, rfl⟩
    rw [hP2] at v1 ⊢
    rw [hQ3] at v2 ⊢
    have H : ∀ k : Nat, k < r + 1 → P2 28 k = (zrt β q ((k + 1) * p)).1 ∧ Q3 72 ((k : Int) + 1) = (zrt β q ((k + 1) * p)).1 - 1 ∧ P2 26 k = zpc (zL β q ((k + 1) * p)) (zm16 (M 2 2)).toNat ∧ P2 27 k = (if M 2 2 = 17 then zL β q ((k + 1) * p) 16 else 0) ∧ ∀ j, 0 ≤ j → j < 17 → Q3 71 (17 * ((k : Int) + 1) + j) = zL β q ((k + 1) * p) j := by
      intro k hk
      rw [← hP2, ← hQ3]
      by_cases f : k = r
      · subst f
        rw [ep, hnow]
        refine ⟨zu_e _ _ _ _, by rw [zsp_ne (by decide), zu_e], by rw [zu_n (by decide), zu_n (by decide), zu_e], by rw [zu_n (by decide), zu_e], fun j j0 j1 => ?_⟩
        unfold zsp
        rw [if_pos ⟨rfl, by omega, by omega⟩, show 17 * ((k : Int) + 1) + j - 17 * ((k : Int) + 1) = j by omega]
      · have f' : (k : Int) ≠ (r : Int) := by omega
        obtain ⟨x1, x2, x3, x4, x5⟩ := J5 k (by omega)
        refine ⟨?_, ?_, ?_, ?_, fun j j0 j1 => ?_⟩
        · rw [zu_m f', zu_n (by decide), zu_n (by decide), u2 28 _ (by decide), x1]
        · rw [zsp_ne (by decide), zu_m (by omega), w2 72 _ (by decide), x2]
        · rw [zu_n (by decide), zu_n (by decide), zu_m f', u2 26 _ (by decide), x3]
        · rw [zu_n (by decide), zu_m f', zu_n (by decide), u2 27 _ (by decide), x4]
        · unfold zsp
          rw [if_neg (by omega), zu_n (by decide), w2 71 _ (by decide), x5 j j0 j1]
    obtain ⟨x, y, e5, e6, e7⟩ := j_find (n := n) (r := r) (m := M 2 2) (L := fun k => zL β q ((k + 1) * p)) (fun s27 => (Sum.inr (Sum.inl (now - 1, ((r * p + p : Nat) : Int), (r : Int) + 1, s27, Q3)) : (Int × Int × Int × zM) ⊕ ((Int × Int × Int × Int × zM) ⊕ (Int × zM)))) hn (I.keep v1).g (I.keep v2).g (by omega) (by omega) (by omega) (fun k j => by have := zL_rg (β := β) q0 q1 ((k + 1) * p) j; omega) (fun k j hj => hz _ j hj) (fun k hk => ⟨(H k (by omega)).2.2.1, (H k (by omega)).2.2.2.1⟩) (fun k hk => (H k (by omega)).2.2.2.2)
    rw [zw_id (x := (r : Int) + 1) (by omega) (by omega)] at e6
    rw [e5, Option.bind_some, e6]
    rcases e7 with ⟨rfl, rfl, e7⟩ | ⟨k, hk, rfl, rfl, e7⟩
    · left
      rw [if_pos (by decide)]
      refine ⟨_, _, rfl, rfl, ⟨r + 1, P2, Q3, ?_, ?_, by omega, v1, v2, ?_, ?_, H, ?_⟩, by dsimp only; omega⟩
      · rw [ep, hnow]; rfl
      · rw [ep, hnow, show ((r + 1 : Nat) : Int) = (r : Int) + 1 from rfl]
      · intro y
        rw [← hQ3, zsp_ne (by decide), zu_n (by decide), w2 62 _ (by decide)]
        exact J3 y
      · intro j j0 j1
        rw [ep, ← hP2, ← hQ3, zsp_ne (by decide), zu_n (by decide), zu_n (by decide), zu_n (by decide), zu_n (by decide)]
        exact ⟨u3 j j0 j1, w3 j j0 j1⟩
      · intro h2
        by_cases f : r = 1
        · have := e7 0 (by omega)
          rw [f] at this
          exact this
        · exact J6 (by omega)
    · right
      have hD0 := zrt_lt (β := β) (q := q) ((k + 1) * p) ((r - k) * p)
      have eq : (k + 1) * p + (r - k) * p = r * p + p := by
        rw [← Nat.add_mul, ← ep]
        congr 1
        omega
      rw [eq, hnow] at hD0
      have x1 : 1 * 1 ≤ (r - k) * p := Nat.mul_le_mul (by omega) p0
      have x2 : (r - k) * p ≤ 63 * 256 := Nat.mul_le_mul (by omega) p1
      have x3 : (((r - k) * p : Nat) : Int) = ((r : Int) - k) * p := by
        rw [Int.natCast_mul, Int.ofNat_sub (by omega)]
      have x4 := (zrt_rg (β := β) q0 q1 ((k + 1) * p)).1
      have hD1 : now ≤ 98304 := by
        by_cases f : 2 ≤ r
        · have nad : ∀ i, β i ≠ β (i + 1) := by
            intro i hi
            have d1 : i = i / p * p + i % p := by rw [Nat.mul_comm]; exact (Nat.div_add_mod i p).symm
            have d2 := Nat.mod_lt i (show p > 0 by omega)
            have d3 : β (i % p) = β (i % p + 1) := by
              rw [← hmul (i / p) (i % p), ← d1, hi, ← hmul (i / p) (i % p + 1), ← Nat.add_assoc, ← d1]
            have := zL_adj q0 q1 hper d2 d3
            refine J6 f (fun j _ _ => ?_)
            rw [show (0 + 1) * p = p by omega, show (1 + 1) * p = p + p by omega]
            exact (this j).symm
          have := zrt_b q0 q1 nad (r * p + p)
          rw [hnow] at this
          omega
        · have : r * p ≤ 1 * 256 := Nat.mul_le_mul (by omega) p1
          omega
      obtain ⟨A, hA⟩ : ∃ A, ((r : Int) - k) * p = A := ⟨_, rfl⟩
      obtain ⟨D, hD⟩ : ∃ D, now - (zrt β q ((k + 1) * p)).1 = D := ⟨_, rfl⟩
      have h28 : P2 28 r - P2 28 k = D := by
        rw [(H r (by omega)).1, (H k (by omega)).1, ep, hnow, hD]
      have e8 := c_settle (P := P2) (r := (r : Int)) (k := (k : Int)) (p := (p : Int)) (A := A) (D := D) hn (I.keep v1).g (by omega) (by omega) (by omega) (by omega) hA h28 (by omega) (by omega) (by omega) (by omega)
      rw [zw_id (x := (k : Int)) (by omega) (by omega), if_neg (by omega), e8, Option.bind_some]
      refine ⟨_, _, rfl, rfl, Or.inr ⟨rfl, ((v1.up rfl).up rfl).up rfl, r, k, _, _, Q3, A, D, rfl, v2, hk, by omega, hA.symm, by omega, by omega, by omega, by omega, ?_, ?_, ?_, by dsimp only; rw [zu_e]⟩⟩
      · rw [(H r (by omega)).2.1, (H k (by omega)).2.1, ep, hnow]; omega
      · dsimp only
        rw [zu_m (by decide), zu_m (by decide), zu_e]
      · dsimp only
        rw [zu_m (by decide), zu_e]
  · refine ⟨0, zfl M 25 17 0, zfl (zlN T) 69 17 0, ?_, ?_, by omega, (zsa.rf M).fl (fun _ => rfl), hT.ly.fl (fun _ => rfl), fun y => ?_, fun j j0 j1 => ?_, fun k hk => by omega, fun h => by omega⟩
    · rw [Nat.zero_mul]; rfl
    · rw [Nat.zero_mul]; rfl
    · rw [zfl_n (by decide)]
    · rw [Nat.zero_mul, zfl_e j0 j1, zfl_e j0 j1]
      exact ⟨rfl, rfl⟩
  · dsimp only
    omega
