theorem zkn_rg {t : Int → Int} {len s : Int} : -1 ≤ zkn t len s ∧ zkn t len s ≤ 3 := by
  unfold zkn
  repeat' split
  all_goals omega
theorem m_rl {t : Int → Int} {len s k : Int} {Q : zM} {n : Nat} (ht : ∀ i, 0 ≤ i → i < len → 0 ≤ t i ∧ t i ≤ 255) (l0 : 0 ≤ len) (l1 : len ≤ 240) (hT : zTM t len Q) (s0 : 0 ≤ s) (s1 : s ≤ len) (hO : zxO t len s) (hK : zTK t len s Q) (k0 : 0 ≤ k) (k1 : k ≤ 16) (h29 : Q 60 29 = k) :
    (zkn t len s = -1 → qmd_readLine n zK0 Q 60 = some (zu (zu Q 60 41 2) 60 42 (Q 60 38))) ∧ (0 ≤ zkn t len s → k = 16 → qmd_readLine n zK0 Q 60 = some (zu (zu Q 60 41 5) 60 42 (Q 60 38))) ∧
    (0 ≤ zkn t len s → k < 16 → qmd_readLine n zK0 Q 60 = (qmd_next n zK0 Q 60).bind (zRL n (zkn t len s) (fun Q => qmd_readRow n zK0 Q 60 (if zkn t len s = 1 then 1 else 0)) (fun Q => if 2 ≤ zkn t len s then (qmd_readRow n zK0 Q 60 1).bind fun p => some (p.1, p.2) else (qmd_readNumber n zK0 Q 60 0 999).bind fun p => some (p.1, p.2)) (fun Q => if 2 ≤ zkn t len s then (qmd_readRow n zK0 Q 60 1).bind fun p => some (p.1, p.2) else (qmd_readNumber n zK0 Q 60 1 99).bind fun p => some (p.1, p.2)))) := by
  have hk := m_kind ht l0 l1 hT s0 s1 hO hK
  have kr := zkn_rg (t := t) (len := len) (s := s)
  obtain ⟨-, -, -, h41⟩ := hK.2.1 hO
  obtain ⟨kd, hkd⟩ : ∃ kd, zkn t len s = kd := ⟨_, rfl⟩
  rw [hkd] at hk kr ⊢
  refine ⟨fun q => ?_, fun q q2 => ?_, fun q q2 => ?_⟩
  · unfold qmd_readLine
    rw [if_pos q] at hk
    obtain ⟨Z, hZ⟩ : ∃ Z, zu (zu Q 60 41 2) 60 42 (Q 60 38) = Z := ⟨_, rfl⟩
    have z41 : Z 60 41 = 2 := by rw [← hZ, zu_m (by decide), zu_e]
    obtain ⟨j, hj⟩ : ∃ j, (if zw 16 ≤ zw (Z 60 29) then some (0 : Int) else some 1) = some j := by
      by_cases w : zw 16 ≤ zw (Z 60 29)
      · exact ⟨0, by rw [if_pos w]⟩
      · exact ⟨1, by rw [if_neg w]⟩
    rw [zgk_ok (r := 60) (ci := 12) (N := 49) rfl, Option.bind_some, hk, Option.bind_some, if_pos rfl, Option.bind_some, Option.bind_some, m_wants0 h41, Option.bind_some, hZ, zgf_ok rfl, Option.bind_some, hj, Option.bind_some, Option.bind_some, m_wantsF (by omega) (by omega), Option.bind_some, zgf_ok rfl, Option.bind_some, z41, if_neg (show ¬ zw 2 ≤ 0 by decide)]
  · unfold qmd_readLine
    rw [if_neg (show ¬ kd = -1 by omega)] at hk
    have e5 : zu (zu Q 60 41 5) 60 42 (Q 60 38) 60 41 = 5 := by rw [zu_m (by decide), zu_e]
    rw [zgk_ok (r := 60) (ci := 12) (N := 49) rfl, Option.bind_some, hk, Option.bind_some, zw_id (x := kd) (by omega) (by omega), zw_id (x := -4) (by decide) (by decide), if_neg (show ¬ kd = -4 by omega), Option.bind_some, Option.bind_some, m_wants1, Option.bind_some, zgf_ok rfl, Option.bind_some, h29, q2, if_pos (show zw 16 ≤ zw 16 by decide), Option.bind_some, Option.bind_some, m_wants0 h41, Option.bind_some, zgf_ok rfl, Option.bind_some, e5, if_neg (show ¬ zw 5 ≤ 0 by decide)]
  · unfold qmd_readLine
    rw [if_neg (show ¬ kd = -1 by omega)] at hk
    rw [zgk_ok (r := 60) (ci := 12) (N := 49) rfl, Option.bind_some, hk, Option.bind_some, zw_id (x := kd) (by omega) (by omega), zw_id (x := -4) (by decide) (by decide), if_neg (show ¬ kd = -4 by omega), Option.bind_some, Option.bind_some, m_wants1, Option.bind_some, zgf_ok rfl, Option.bind_some, h29, zw_id (x := k) (by omega) (by omega), zw_id (x := 16) (by decide) (by decide), if_neg (show ¬ 16 ≤ k by omega), Option.bind_some, Option.bind_some, m_wants1, Option.bind_some, zgf_ok rfl, Option.bind_some, h41, if_pos (show zw 0 ≤ 0 by decide), Option.bind_some]
    congr 1
    funext M8
    unfold zRL
    rw [zgk_ok (r := 60) (ci := 12) (N := 49) rfl, zw_id (x := kd) (by omega) (by omega), zw_id (x := 1) (by decide) (by decide), zw_id (x := 2) (by decide) (by decide)]
    by_cases w1 : kd = 1
    · simp only [if_pos w1]
      by_cases w2 : 2 ≤ kd
      · omega
      · simp only [if_neg w2]
        rfl
    · simp only [if_neg w1]
      by_cases w2 : 2 ≤ kd
      · simp only [if_pos w2]
        rfl
      · simp only [if_neg w2]
        rfl
/-- both sides between two lines -/
def zPR (t : Int → Int) (len d : Int) (M T : zM) (k : Int) (P Q : zM) : Prop := 0 ≤ k ∧ k ≤ 16 ∧ zFC d M P ∧ zFM T Q ∧ P d 6 = k ∧ P 29 3 = 0 ∧ Q 60 29 = k ∧ (∃ s, 0 ≤ s ∧ s ≤ len ∧ P 29 5 = s ∧ zTK t len s Q) ∧
  (∀ r, 0 ≤ r → r < 8 → (P 31 r = -1 ∨ zmk P d k r (P 31 r)) ∧ (zw (zand (zshr (Q 60 34) r) 1) = zw 1 ↔ 0 ≤ P 31 r)) ∧
  ∀ i, 0 ≤ i → i < k → zli P d i ∧ Q 77 i = P (d + 1) i ∧ Q 78 i = P (d + 2) i ∧ Q 79 i = P (d + 3) i ∧ Q 80 i = P (d + 4) i
/-- both sides at the text's end -/
def zPE (d : Int) (M T : zM) (x : Int × zM) (y : zM) : Prop := zFC d M x.2 ∧ zFM T y ∧ ((x.1 = 1 ∧ x.2 29 3 = 0 ∧ y 60 41 = 0 ∧ ∃ k, 0 ≤ k ∧ k ≤ 16 ∧ x.2 d 6 = k ∧ y 60 29 = k ∧ ∀ i, 0 ≤ i → i < k → zli x.2 d i ∧ y 77 i = x.2 (d + 1) i ∧ y 78 i = x.2 (d + 2) i ∧ y 79 i = x.2 (d + 3) i ∧ y 80 i = x.2 (d + 4) i) ∨ (x.1 = 0 ∧ 1 ≤ x.2 29 3 ∧ x.2 29 3 ≤ 5 ∧ y 60 41 = x.2 29 3 ∧ y 60 42 = x.2 29 4))
theorem zmk.cg {M M' : zM} {p k r j : Int} (h : ∀ q i, 1 ≤ q → q ≤ 2 → 0 ≤ i → i < k → M' (p + q) i = M (p + q) i) (hm : zmk M p k r j) : zmk M' p k r j := by
  obtain ⟨b1, b2, b3, b4, b5⟩ := hm
  refine ⟨b1, b2, ?_, ?_, fun i c1 c2 => ?_⟩
  · rw [h 1 j (by omega) (by omega) b1 b2]; exact b3
  · rw [h 2 j (by omega) (by omega) b1 b2]; exact b4
  · rw [h 1 i (by omega) (by omega) (by omega) c2, h 2 i (by omega) (by omega) (by omega) c2]
    exact b5 i c1 c2
theorem zmk.up {M : zM} {p k r j : Int} (hm : zmk M p k r j) (h : M (p + 1) k = 1 ∨ M (p + 2) k ≠ r) : zmk M p (k + 1) r j := by
  obtain ⟨b1, b2, b3, b4, b5⟩ := hm
  refine ⟨b1, by omega, b3, b4, fun i c1 c2 => ?_⟩
  by_cases e : i = k
  · rw [e]; exact h
  · exact b5 i c1 (by omega)
theorem j_succ {t : Int → Int} {len d k kd s2 u1 u2 u3 : Int} {M T P P1 P' Q Q8 Q' : zM} (hd : d = 46 ∨ d = 53) (k0 : 0 ≤ k) (k1 : k < 16) (c1 : 0 ≤ kd) (kr : kd ≤ 3) (e2 : ∀ c i, ¬ (c = 29 ∧ 3 ≤ i ∧ i ≤ 8) → P1 c i = P c i) (n2 : ∀ c i, ¬ (c = 60 ∧ 37 ≤ i ∧ i ≤ 42) → Q8 c i = Q c i) (hm : ∀ r, 0 ≤ r → r < 8 → (P 31 r = -1 ∨ zmk P d k r (P 31 r)) ∧ (zw (zand (zshr (Q 60 34) r) 1) = zw 1 ↔ 0 ≤ P 31 r)) (hl : ∀ i, 0 ≤ i → i < k → zli P d i ∧ Q 77 i = P (d + 1) i ∧ Q 78 i = P (d + 2) i ∧ Q 79 i = P (d + 3) i ∧ Q 80 i = P (d + 4) i)
    (h3 : P1 29 3 = 0) (j4 : zFM T Q') (j5 : ∀ r, P' 31 r = P1 31 r) (v1 : 0 ≤ s2) (v2 : s2 ≤ len) (v3 : zLn d k P1 P' kd u1 u2 u3 (zsA kd (P1 31 u1) (P1 31 u2)) (zsB kd (P1 31 u3)) s2) (v4 : zTK t len s2 Q') (v5 : Q' 60 29 = k + 1) (v6 : Q' 60 34 = zor (Q8 60 34) (if kd = 1 then 0 else zshl 1 u1)) (v7 : Q' 77 k = kd) (v8 : Q' 78 k = u1) (v9 : Q' 79 k = u2) (v10 : Q' 80 k = u3) (v11 : ∀ c i, 77 ≤ c → c ≤ 80 → i ≠ k → Q' c i = Q8 c i) (v12 : 0 ≤ u1) (v13 : u1 < 8) (v14 : kd = 1 → 0 ≤ P1 31 u1) (v15 : kd ≤ 1 → 0 ≤ u2 ∧ u2 ≤ 999 ∧ 1 ≤ u3 ∧ u3 ≤ 99) (v16 : 2 ≤ kd → 0 ≤ u2 ∧ u2 < 8 ∧ 0 ≤ u3 ∧ u3 < 8 ∧ 0 ≤ P1 31 u2 ∧ 0 ≤ P1 31 u3)
    (P2 : zM) (g1 : zFC d M P2) (g2 : P2 d 6 = k + 1) (g3 : ∀ c i, c ≠ d → c ≠ 31 → P2 c i = P' c i) (g4 : ∀ r, 0 ≤ r → r < 8 → P2 31 r = if kd ≠ 1 ∧ r = u1 then k else P 31 r) : zPR t len d M T (k + 1) P2 Q' := by
  obtain ⟨b1, b2, b3, b4, b5, b6, b7, b8, b9⟩ := v3
  have dq : ∀ q i, 1 ≤ q → q ≤ 6 → 0 ≤ i → i < k → P' (d + q) i = P (d + q) i := fun q i q0 q1 i0 i1 => by rw [b9 q i q0 q1 (by omega), e2 (d + q) i (by omega)]
  have mkk : ∀ r j, zmk P d k r j → zmk P' d k r j := fun r j h => zmk.cg (fun q i q0 q1 i0 i1 => dq q i q0 (by omega) i0 i1) h
  have made : ∀ r, 0 ≤ r → r < 8 → 0 ≤ P1 31 r → zmk P' d k r (P1 31 r) := by
    intro r r0 r1 h
    rw [e2 31 r (by omega)] at h ⊢
    rcases (hm r r0 r1).1 with q | q
    · omega
    · exact mkk r _ q
  have hlk : zli P' d k := by
    refine ⟨by omega, by omega, by omega, by omega, fun w => ?_, fun w => ?_, fun w => ?_, fun w => ?_⟩
    · rw [b3] at w
      obtain ⟨z1, z2, z3, z4⟩ := v15 w
      refine ⟨by omega, by omega, by omega, by omega, ?_⟩
      rw [b8]; unfold zsB; rw [if_pos w]
    · rw [b3] at w
      rw [b7]; unfold zsA; rw [if_neg (by omega), if_pos w]
    · rw [b3] at w
      rw [b7, b4]; unfold zsA; rw [if_pos w]
      exact made u1 v12 v13 (v14 w)
    · rw [b3] at w
      obtain ⟨z1, z2, z3, z4, z5, z6⟩ := v16 w
      refine ⟨by omega, by omega, by omega, by omega, ?_, ?_⟩
      · rw [b7, b5]; unfold zsA; rw [if_neg (by omega), if_neg (by omega)]
        exact made u2 z1 z2 z5
      · rw [b8, b6]; unfold zsB; rw [if_neg (by omega)]
        exact made u3 z3 z4 z6
  have hll : ∀ i, 0 ≤ i → i < k + 1 → zli P' d i ∧ Q' 77 i = P' (d + 1) i ∧ Q' 78 i = P' (d + 2) i ∧ Q' 79 i = P' (d + 3) i ∧ Q' 80 i = P' (d + 4) i := by
    intro i i0 i1
    by_cases e : i = k
    · rw [e, b3, b4, b5, b6]
      exact ⟨hlk, v7, v8, v9, v10⟩
    · obtain ⟨z1, z2, z3, z4, z5⟩ := hl i i0 (by omega)
      rw [dq 1 i (by omega) (by omega) i0 (by omega), dq 2 i (by omega) (by omega) i0 (by omega), dq 3 i (by omega) (by omega) i0 (by omega), dq 4 i (by omega) (by omega) i0 (by omega), v11 77 i (by omega) (by omega) e, v11 78 i (by omega) (by omega) e, v11 79 i (by omega) (by omega) e, v11 80 i (by omega) (by omega) e, n2 77 i (by omega), n2 78 i (by omega), n2 79 i (by omega), n2 80 i (by omega)]
      exact ⟨zli.cong (fun q j q0 q1 j0 j1 => dq q j q0 q1 j0 (by omega)) i0 z1, z2, z3, z4, z5⟩
  have h5 : ∀ q i, 1 ≤ q → q ≤ 6 → P2 (d + q) i = P' (d + q) i := fun q i q0 q1 => g3 (d + q) i (by omega) (by omega)
  refine ⟨by omega, by omega, g1, j4, g2, by rw [g3 29 3 (by omega) (by decide), b2, h3], v5, ⟨s2, v1, v2, by rw [g3 29 5 (by omega) (by decide), b1], v4⟩, fun r r0 r1 => ?_, fun i i0 i1 => ?_⟩
  · have bits : zw (zand (zshr (Q' 60 34) r) 1) = zw 1 ↔ (0 ≤ P 31 r ∨ (kd ≠ 1 ∧ r = u1)) := by
      rw [zmade r0 r1, v6, zb32_or, Bool.or_eq_true, ← zmade r0 r1, n2 60 34 (by omega), (hm r r0 r1).2]
      by_cases w : kd = 1
      · rw [if_pos w, zb32_0]
        exact ⟨fun q => Or.inl (by rcases q with q | q; exact q; cases q), fun q => Or.inl (by rcases q with q | q; exact q; exact absurd w q.1)⟩
      · rw [if_neg w, zb32_shl v12 v13 _ (by omega), decide_eq_true_eq, show ((r.toNat : Nat) : Int) = r by omega]
        exact ⟨fun q => by rcases q with q | q; exact Or.inl q; exact Or.inr ⟨w, q⟩, fun q => by rcases q with q | q; exact Or.inl q; exact Or.inr q.2⟩
    rw [bits, g4 r r0 r1]
    by_cases e : kd ≠ 1 ∧ r = u1
    · rw [if_pos e]
      refine ⟨Or.inr (zmk.cg (M := P') (fun q i q0 q1 _ _ => h5 q i q0 (by omega)) ⟨k0, by omega, by rw [b3]; exact e.1, by rw [b4, e.2], fun i i0 i1 => by omega⟩), ⟨fun _ => k0, fun _ => Or.inr e⟩⟩
    · rw [if_neg e]
      refine ⟨?_, ⟨fun q => by rcases q with q | q; exact q; exact absurd q e, Or.inl⟩⟩
      rcases (hm r r0 r1).1 with q | q
      · exact Or.inl q
      · refine Or.inr (zmk.cg (M := P') (fun q i q0 q1 _ _ => h5 q i q0 (by omega)) ((mkk r _ q).up ?_))
        rw [b3, b4]
        by_cases w : kd = 1
        · exact Or.inl w
        · exact Or.inr (fun h => e ⟨w, h.symm⟩)
  · obtain ⟨z1, z2, z3, z4, z5⟩ := hll i i0 i1
    rw [h5 1 i (by omega) (by omega), h5 2 i (by omega) (by omega), h5 3 i (by omega) (by omega), h5 4 i (by omega) (by omega)]
    exact ⟨zli.cong (fun q j q0 q1 _ _ => h5 q j q0 q1) i0 z1, z2, z3, z4, z5⟩
theorem j_into {t : Int → Int} {len d : Int} {M T P0 Q0 : zM} {n : Nat} (hn : 1000000 ≤ n) (ht : ∀ i, 0 ≤ i → i < len → 0 ≤ t i ∧ t i ≤ 255) (l0 : 0 ≤ len) (l1 : len ≤ 240) (hB : zBC t len d M) (hT : zTT t len T) (h0 : zPR t len d M T 0 P0 Q0) : ∃ x y, zwh (σ := Int × zM) (fun s7 =>
    if zw 16 < zw s7.1 then
      some (.inr ((0 : Int), s7.2))
    else
      (zgk zK0 29 5 9).bind fun _ => (qrd_takeToken n zK0 s7.2 29).bind fun p8 =>
      if zw p8.1 = 0 then
        some (.inr (0, p8.2))
      else
        (zgf zK0 p8.2 5 9 29 6).bind fun v9 =>
        if zw v9 = 0 then
          some (.inr (1, p8.2))
        else
          (zgk zK0 29 5 9).bind fun _ => (qrd_kindNamed n zK0 p8.2 29).bind fun v10 =>
          if 0 ≤ zw v10 then
            if zw s7.1 = zw 16 then
              (zgk zK0 29 5 9).bind fun _ => (qrd_refuse zK0 p8.2 29 5).bind fun p11 =>
              (zbr p11.1).bind fun z12 => some (.inr (z12, p11.2))
            else
              (zgk zK0 29 5 9).bind fun _ => (qrd_readLine n zK0 p8.2 29 d v10 s7.1).bind fun p13 =>
              if zw p13.1 = 0 then
                some (.inr (0, p13.2))
              else
                (zpf zK0 p13.2 3 7 d 6 (s7.1 + 1)).bind fun M14 =>
                (if zw v10 = zw 1 then
                  some M14
                else
                  (zgr zK0 M14 5 9 29 1).bind fun r16 =>
                  (zgr zK0 M14 3 7 d 1).bind fun r17 =>
                  (zga zK0 M14 100 r17 s7.1).bind fun v18 =>
                  (zpa zK0 M14 100 r16 v18 s7.1).bind fun M19 =>
                  some M19 : Option (zM)).bind fun j15 =>
                some (.inl (s7.1 + 1, j15))
          else
            (zgk zK0 29 5 9).bind fun _ => (qrd_refuse zK0 p8.2 29 2).bind fun p20 =>
            (zbr p20.1).bind fun z21 => some (.inr (z21, p20.2))) n (0, P0) = some x ∧ (zwh (σ := zM) (ρ := zM) (fun s6 =>
    (zgf zK0 s6 12 49 60 41).bind fun v31 =>
    if zw v31 = 0 then
      (zgf zK0 s6 12 49 60 39).bind fun v32 =>
      if zw v32 = 0 then
        some (.inr s6)
      else
        (zgk zK0 60 12 49).bind fun _ => (qmd_readLine n zK0 s6 60).bind fun M33 =>
        some (.inl M33)
    else
      some (.inr s6)) n Q0) = some y ∧ zPE d M T x y := by
  have hd := hB.2.1
  obtain ⟨y1, y2, y3, -⟩ := zprK hd
  refine zwh2e (n := n) (R := fun (s : Int × zM) (q : zM) => zPR t len d M T s.1 s.2 q) (fun s => (17 - s.1).toNat) _ ?_ _ _ h0 (by dsimp only; omega)
  rintro ⟨k, P⟩ Q ⟨k0, k1, hP, hQ, hd6, h3, h29, ⟨s, s0, s1, h5, hK⟩, hm, hl⟩
  dsimp only at k0 k1 hP hQ hd6 h3 h29 hm hl ⊢
  obtain ⟨q1, q2, q3, q4, q5, q6, q7⟩ := zxSE (t := t) s0 s1
  obtain ⟨x1, P1, e1, e2, e3, e4, e5, e6, e7, e8⟩ := c_tok hn ht l0 l1 (hP.tp hB) h5 s0 s1
  have f1 := hP.it e2
  rw [zw_id (x := 16) (by decide) (by decide), zw_id (x := k) (by omega) (by omega), if_neg (by omega), zgk_ok (r := 29) (ci := 5) (N := 9) rfl, Option.bind_some, e1, Option.bind_some, zgf_ok (r := 60) (ci := 12) (N := 49) (k := 41) rfl]
  dsimp only
  simp only [Option.bind_some]
  have hl1 : ∀ i, 0 ≤ i → i < k → zli P1 d i ∧ Q 77 i = P1 (d + 1) i ∧ Q 78 i = P1 (d + 2) i ∧ Q 79 i = P1 (d + 3) i ∧ Q 80 i = P1 (d + 4) i := by
    intro i i0 i1
    obtain ⟨u1, u2, u3, u4, u5⟩ := hl i i0 i1
    rw [e2 (d + 1) i (by omega), e2 (d + 2) i (by omega), e2 (d + 3) i (by omega), e2 (d + 4) i (by omega)]
    exact ⟨zli.cong (fun q j _ _ _ _ => e2 (d + q) j (by omega)) i0 u1, u2, u3, u4, u5⟩
  by_cases o : zxo t len s = true
  rotate_left
  · right; left
    obtain ⟨rfl, w1, w2⟩ := e8 (zxo_f o)
    obtain ⟨w3, w4⟩ := hK.2.2 (zxo_f o)
    rw [if_pos (show zw 0 = 0 by decide), w3, if_neg (show ¬ zw 1 = 0 by decide)]
    exact ⟨_, _, rfl, rfl, f1, hQ, Or.inr ⟨rfl, by dsimp only; omega, by dsimp only; omega, by dsimp only; omega, by dsimp only; omega⟩⟩
  obtain ⟨rfl, w1, w2⟩ := e7 (zxo_t o)
  obtain ⟨w3, w4, w5, w6⟩ := hK.2.1 (zxo_t o)
  rw [if_neg (show ¬ zw 1 = 0 by decide), w6, if_pos (show zw 0 = 0 by decide), zgf_ok (r := 29) (ci := 5) (N := 9) (k := 6) rfl, Option.bind_some, e5, zgf_ok (r := 60) (ci := 12) (N := 49) (k := 39) rfl, Option.bind_some, w4, zw_id (x := zxK t len s) (by omega) (by omega)]
  by_cases c0 : zxK t len s = 0
  · right; left
    rw [if_pos c0, if_pos c0]
    exact ⟨_, _, rfl, rfl, f1, hQ, Or.inl ⟨rfl, by dsimp only; rw [w1, h3], w6, k, k0, k1, by dsimp only; rw [e2 d 6 (by omega), hd6], h29, hl1⟩⟩
  rw [if_neg c0, if_neg c0, c_kind hn ht l0 l1 (f1.tp hB) s0 s1 e3 e4 e5, Option.bind_some, zgk_ok (r := 60) (ci := 12) (N := 49) rfl, Option.bind_some]
  have kr := zkn_rg (t := t) (len := len) (s := s)
  obtain ⟨m1, m2, m3⟩ := m_rl (n := n) ht l0 l1 (hQ.tm hT) s0 s1 (zxo_t o) hK k0 k1 h29
  obtain ⟨kd, hkd⟩ : ∃ kd, zkn t len s = kd := ⟨_, rfl⟩
  rw [hkd] at kr m1 m2 m3 ⊢
  rw [zw_id (x := kd) (by omega) (by omega)]
  have stop : ∀ f, f = 2 ∨ f = 5 → (∃ P2, P2 = zu (zu P1 29 3 f) 29 4 (P1 29 7) ∧ zFC d M P2 ∧ P2 29 3 = f ∧ P2 29 4 = zxS t len s) ∧ ∃ Q2, Q2 = zu (zu Q 60 41 f) 60 42 (Q 60 38) ∧ zFM T Q2 ∧ Q2 60 41 = f ∧ Q2 60 42 = zxS t len s := by
    intro f _
    refine ⟨⟨_, rfl, f1.it (fun c i h => by rw [zu_at, if_neg (by omega), zu_at, if_neg (by omega)]), by rw [zu_m (by decide), zu_e], by rw [zu_e, e4]⟩, ⟨_, rfl, hQ.it (fun c i h => by rw [zu_at, if_neg (by omega), zu_at, if_neg (by omega)]), by rw [zu_m (by decide), zu_e], by rw [zu_e, hK.1]⟩⟩
  by_cases c1 : 0 ≤ kd
  rotate_left
  · right; right
    obtain ⟨⟨P2, h1, h2, h3', h4⟩, Q2, g1, g2, g3, g4⟩ := stop 2 (Or.inl rfl)
    rw [if_neg c1, c_refuse, Option.bind_some, ← h1, m1 (by omega), ← g1, Option.bind_some]
    refine ⟨(0, P2), Q2, Q2, rfl, rfl, ?_, h2, g2, Or.inr ⟨rfl, by dsimp only; omega, by dsimp only; omega, by dsimp only; omega, by dsimp only; omega⟩⟩
    rw [zgf_ok rfl, Option.bind_some, g3, if_neg (show ¬ zw 2 = 0 by decide)]
  rw [if_pos c1]
  by_cases c2 : k = 16
  · right; right
    obtain ⟨⟨P2, h1, h2, h3', h4⟩, Q2, g1, g2, g3, g4⟩ := stop 5 (Or.inr rfl)
    rw [if_pos c2, c_refuse, Option.bind_some, ← h1, m2 c1 c2, ← g1, Option.bind_some]
    refine ⟨(0, P2), Q2, Q2, rfl, rfl, ?_, h2, g2, Or.inr ⟨rfl, by dsimp only; omega, by dsimp only; omega, by dsimp only; omega, by dsimp only; omega⟩⟩
    rw [zgf_ok rfl, Option.bind_some, g3, if_neg (show ¬ zw 5 = 0 by decide)]
  rw [if_neg c2, m3 c1 (by omega)]
  obtain ⟨Q8, n1, n2, n3⟩ := m_tok (s := zxE t len s) hn ht l0 l1 (hQ.tm hT) w3 w6 (by omega) q3
  rw [n1, Option.bind_some]
  have hQ8 := hQ.it n2
  have mr : ∀ r, 0 ≤ r → r < 8 → -1 ≤ P1 31 r ∧ P1 31 r < 16 := by
    intro r r0 r1
    rw [e2 31 r (by omega)]
    rcases (hm r r0 r1).1 with q | q
    · omega
    · unfold zmk at q; omega
  obtain ⟨x, P', Q', j1, j2, j3, j4, j5, j6, j7⟩ := j_pline (kd := kd) (s1 := zxE t len s) hn ht l0 l1 hB f1 hT hQ8 k0 (show k < 16 by omega) c1 (by omega) (by omega) q3 e3 (by rw [n2 60 29 (by omega), h29]) n3 mr (fun r r0 r1 => by rw [n2 60 34 (by omega), e2 31 r (by omega)]; exact (hm r r0 r1).2)
  rw [j1, Option.bind_some, j2, Option.bind_some]
  dsimp only
  rcases j7 with ⟨rfl, s2, u1, u2, u3, v1, v2, v3, v4, v5, v6, v7, v8, v9, v10, v11, v12, v13, v14, v15, v16⟩ | ⟨rfl, v1, v2, v3, v4⟩
  rotate_left
  · right; right
    rw [if_pos (show zw 0 = 0 by decide)]
    refine ⟨(0, P'), Q', Q', rfl, rfl, ?_, j3, j4, Or.inr ⟨rfl, v1, v2, v3, v4⟩⟩
    rw [zgf_ok rfl, Option.bind_some, v3, zw_id (x := P' 29 3) (by omega) (by omega), if_neg (by omega)]
  left
  have js := j_succ (M := M) (T := T) hd k0 (show k < 16 by omega) c1 kr.2 e2 n2 hm hl (by rw [w1, h3]) j4 j5 v1 v2 v3 v4 v5 v6 v7 v8 v9 v10 v11 v12 v13 v14 v15 v16
  have b4 := v3.2.2.2.1
  clear hm hl hl1 stop m1 m2 m3 v3 v4 v14 v15 v16 v11 mr hQ8 hQ hK n3
  have fZ : zFC d M (zu P' d 6 (k + 1)) := by
    intro c i h1 h2 h3 h4
    rw [zu_at, if_neg (by omega)]
    exact j3 c i h1 h2 h3 h4
  rw [if_neg (show ¬ zw 1 = 0 by decide), zpf_ok y1, Option.bind_some, zw_id (x := 1) (by decide) (by decide)]
  by_cases w : kd = 1
  · rw [if_pos w, Option.bind_some]
    refine ⟨_, _, rfl, rfl, js (zu P' d 6 (k + 1)) fZ (zu_e _ _ _ _) (fun c i hc _ => zu_n hc) (fun r r0 r1 => ?_), by dsimp only; omega⟩
    rw [if_neg (fun q => q.1 w), zu_n (by omega), j5 r, e2 31 r (by omega)]
  · have fY : zFC d M (zu (zu P' d 6 (k + 1)) 31 u1 k) := by
      intro c i h1 h2 h3 h4
      rw [zu_n h2]
      exact fZ c i h1 h2 h3 h4
    rw [if_neg w, (fZ.tp hB).g1, Option.bind_some, (fZ.pt hB).2.1, Option.bind_some, zga_ok (N := 16) y3 (by decide) k0 (by omega), Option.bind_some, zu_n (show d + 2 ≠ d by omega), b4, zpa_ok (N := 8) rfl (by decide) v12 (by omega), Option.bind_some, Option.bind_some]
    refine ⟨_, _, rfl, rfl, js (zu (zu P' d 6 (k + 1)) 31 u1 k) fY (by rw [zu_n (by omega), zu_e]) (fun c i hc h31 => by rw [zu_n h31, zu_n hc]) (fun r r0 r1 => ?_), by dsimp only; omega⟩
    by_cases e : r = u1
    · rw [if_pos ⟨w, e⟩, e, zu_e]
    · rw [if_neg (fun q => e q.2), zu_m e, zu_n (by omega), j5 r, e2 31 r (by omega)]
