theorem m_copyp {T Q : zM} {n : Nat} {k : Int} (hn : 1000000 ≤ n) (g : zPt T) (hQ : ∀ i, i ∈ [25, 26, 27, 28, 30, 31, 32, 33] → Q 60 i = T 60 i) (h24 : Q 60 24 = k) : ∃ Q', zwh (σ := Int × zM) (fun s12 =>
      if zw 16 ≤ zw s12.1 then
        (zgf zK0 s12.2 12 49 60 24).bind fun v13 =>
        some (.inr (v13, s12.2))
      else
        (zgr zK0 s12.2 12 49 60 25).bind fun r14 =>
        (zgr zK0 s12.2 12 49 60 30).bind fun r15 =>
        (zga zK0 s12.2 100 r15 s12.1).bind fun v16 =>
        (zpa zK0 s12.2 100 r14 s12.1 v16).bind fun M17 =>
        (zgr zK0 M17 12 49 60 26).bind fun r18 =>
        (zgr zK0 M17 12 49 60 31).bind fun r19 =>
        (zga zK0 M17 100 r19 s12.1).bind fun v20 =>
        (zpa zK0 M17 100 r18 s12.1 v20).bind fun M21 =>
        (zgr zK0 M21 12 49 60 27).bind fun r22 =>
        (zgr zK0 M21 12 49 60 32).bind fun r23 =>
        (zga zK0 M21 100 r23 s12.1).bind fun v24 =>
        (zpa zK0 M21 100 r22 s12.1 v24).bind fun M25 =>
        (zgr zK0 M25 12 49 60 28).bind fun r26 =>
        (zgr zK0 M25 12 49 60 33).bind fun r27 =>
        (zga zK0 M25 100 r27 s12.1).bind fun v28 =>
        (zpa zK0 M25 100 r26 s12.1 v28).bind fun M29 =>
        some (.inl (s12.1 + 1, M29))) n (0, Q) = some (k, Q') ∧ (∀ c i, ¬ (73 ≤ c ∧ c ≤ 76) → Q' c i = Q c i) ∧ ∀ i, 0 ≤ i → i < 16 → Q' 73 i = Q 77 i ∧ Q' 74 i = Q 78 i ∧ Q' 75 i = Q 79 i ∧ Q' 76 i = Q 80 i := by
  have key : ∀ F : Int × zM → Option ((Int × zM) ⊕ (Int × zM)), (∃ r, zwh F n (0, Q) = some r ∧ r.1 = k ∧ (∀ c i, ¬ (73 ≤ c ∧ c ≤ 76) → r.2 c i = Q c i) ∧ ∀ i, 0 ≤ i → i < 16 → r.2 73 i = Q 77 i ∧ r.2 74 i = Q 78 i ∧ r.2 75 i = Q 79 i ∧ r.2 76 i = Q 80 i) → ∃ Q', zwh F n (0, Q) = some (k, Q') ∧ (∀ c i, ¬ (73 ≤ c ∧ c ≤ 76) → Q' c i = Q c i) ∧ ∀ i, 0 ≤ i → i < 16 → Q' 73 i = Q 77 i ∧ Q' 74 i = Q 78 i ∧ Q' 75 i = Q 79 i ∧ Q' 76 i = Q 80 i := by
    rintro F ⟨⟨r1, r2⟩, e1, e2, e3, e4⟩
    dsimp only at e2 e3 e4
    subst e2
    exact ⟨_, e1, e3, e4⟩
  have pt : ∀ E : zM, (∀ c i, ¬ (73 ≤ c ∧ c ≤ 76) → E c i = Q c i) → ∀ i v, i ∈ [25, 26, 27, 28, 30, 31, 32, 33] → zgr zK0 T 12 49 60 i = some v → zgr zK0 E 12 49 60 i = some v := by
    intro E hE i v hi h
    rw [← h]
    unfold zgr
    rw [hE 60 i (by omega), hQ i hi]
  unfold zPt at g
  refine key _ (zwh_inv (fun s => 0 ≤ s.1 ∧ s.1 ≤ 16 ∧ (∀ c i, ¬ (73 ≤ c ∧ c ≤ 76) → s.2 c i = Q c i) ∧ ∀ i, 0 ≤ i → i < s.1 → s.2 73 i = Q 77 i ∧ s.2 74 i = Q 78 i ∧ s.2 75 i = Q 79 i ∧ s.2 76 i = Q 80 i) (fun s => (16 - s.1).toNat) _ ?_ n _ ⟨by simp, by simp, fun _ _ _ => rfl, fun i i0 i1 => by dsimp only at i1; omega⟩ (by dsimp only; omega))
  rintro ⟨j, E⟩ ⟨j0, j1, h1, h2⟩
  dsimp only at j0 j1 h1 h2 ⊢
  rw [zw_id (x := 16) (by decide) (by decide), zw_id (x := j) (by omega) (by omega)]
  by_cases c : 16 ≤ j
  · right
    have : j = 16 := by omega
    subst this
    rw [if_pos c, zgf_ok rfl, Option.bind_some]
    exact ⟨_, rfl, by dsimp only; rw [h1 60 24 (by omega), h24], h1, h2⟩
  · left
    rw [if_neg c]
    have a0 := pt E h1
    rw [a0 25 73 (by decide) (by simp only [g]), Option.bind_some, a0 30 77 (by decide) (by simp only [g]), Option.bind_some, zga_ok (N := 16) rfl (by decide) j0 (by omega), Option.bind_some, zpa_ok (N := 16) rfl (by decide) j0 (by omega), Option.bind_some]
    rw [zgr_u (Or.inl (by decide)), a0 26 74 (by decide) (by simp only [g]), Option.bind_some, zgr_u (Or.inl (by decide)), a0 31 78 (by decide) (by simp only [g]), Option.bind_some, zga_ok (N := 16) rfl (by decide) j0 (by omega), Option.bind_some, zpa_ok (N := 16) rfl (by decide) j0 (by omega), Option.bind_some]
    rw [zgr_u (Or.inl (by decide)), zgr_u (Or.inl (by decide)), a0 27 75 (by decide) (by simp only [g]), Option.bind_some, zgr_u (Or.inl (by decide)), zgr_u (Or.inl (by decide)), a0 32 79 (by decide) (by simp only [g]), Option.bind_some, zga_ok (N := 16) rfl (by decide) j0 (by omega), Option.bind_some, zpa_ok (N := 16) rfl (by decide) j0 (by omega), Option.bind_some]
    rw [zgr_u (Or.inl (by decide)), zgr_u (Or.inl (by decide)), zgr_u (Or.inl (by decide)), a0 28 76 (by decide) (by simp only [g]), Option.bind_some, zgr_u (Or.inl (by decide)), zgr_u (Or.inl (by decide)), zgr_u (Or.inl (by decide)), a0 33 80 (by decide) (by simp only [g]), Option.bind_some, zga_ok (N := 16) rfl (by decide) j0 (by omega), Option.bind_some, zpa_ok (N := 16) rfl (by decide) j0 (by omega), Option.bind_some]
    refine ⟨_, rfl, ⟨by dsimp only; omega, by dsimp only; omega, fun x i hx => ?_, fun i i0 i1 => ?_⟩, by dsimp only; omega⟩
    · dsimp only
      rw [zu_n (by omega), zu_n (by omega), zu_n (by omega), zu_n (by omega)]
      exact h1 x i hx
    · dsimp only at i1 ⊢
      have q7 : ∀ c i, 77 ≤ c → c ≤ 80 → E c i = Q c i := fun c i _ _ => h1 c i (by omega)
      by_cases e : i = j
      · subst e
        simp only [zu_n (show (73 : Int) ≠ 76 by decide), zu_n (show (73 : Int) ≠ 75 by decide), zu_n (show (73 : Int) ≠ 74 by decide), zu_n (show (74 : Int) ≠ 76 by decide), zu_n (show (74 : Int) ≠ 75 by decide), zu_n (show (75 : Int) ≠ 76 by decide), zu_n (show (78 : Int) ≠ 73 by decide), zu_n (show (79 : Int) ≠ 74 by decide), zu_n (show (79 : Int) ≠ 73 by decide), zu_n (show (80 : Int) ≠ 75 by decide), zu_n (show (80 : Int) ≠ 74 by decide), zu_n (show (80 : Int) ≠ 73 by decide), zu_e]
        exact ⟨q7 77 i (by omega) (by omega), q7 78 i (by omega) (by omega), q7 79 i (by omega) (by omega), q7 80 i (by omega) (by omega)⟩
      · simp only [zu_m e]
        exact h2 i i0 (by omega)
/-- a reading leaves the rest as it was -/
theorem Iv.rd {d : Int} {M N : zM} (I : Iv M) (hd : d = 46 ∨ d = 53) (G : ∀ c i, ¬ (c = 29 ∧ 2 ≤ i ∧ i ≤ 8) → c ≠ 31 → ¬ (c = d ∧ i = 6) → ¬ (d + 1 ≤ c ∧ c ≤ d + 6) → ¬ (c = 60 ∧ (i = 24 ∨ i = 29 ∨ i = 34 ∨ (36 ≤ i ∧ i ≤ 42))) → ¬ (73 ≤ c ∧ c ≤ 80) → ¬ (c = 1 ∧ (i = 12 ∨ i = 13)) → N c i = M c i) (h1 : N 29 2 = 0) (h2 : N 60 36 = 0) (h3 : N 60 41 = N 29 3) (h4 : 0 ≤ N 29 3) (h5 : N 29 3 ≤ 5) (hL : IvL N) : Iv N := by
  obtain ⟨hS, hT, hR, hW, hP, hL', hSh⟩ := I
  refine ⟨hS.keep (fun c i h => ?_), hT.keep (fun c i h => ?_), hR.keep (fun c i h => ?_), hW.keep (fun c i h => ?_), ⟨by omega, by omega, by omega, fun i i0 i1 => by omega, h3, h4, h5⟩, hL, hSh.keep (fun c i h => ?_)⟩
  · simp only [zpZ, decide_eq_true_eq] at h
    exact G c i (by omega) (by omega) (by omega) (by omega) (by omega) (by omega) (by omega)
  · simp only [zpT, decide_eq_true_eq] at h
    exact G c i (by omega) (by omega) (by omega) (by omega) (by omega) (by omega) (by omega)
  · simp only [zpR, decide_eq_true_eq] at h
    exact G c i (by omega) (by omega) (by omega) (by omega) (by omega) (by omega) (by omega)
  · simp only [zpW, decide_eq_true_eq] at h
    exact G c i (by omega) (by omega) (by omega) (by omega) (by omega) (by omega) (by omega)
  · simp only [zpS, decide_eq_true_eq] at h
    exact G c i (by omega) (by omega) (by omega) (by omega) (by omega) (by omega) (by omega)
theorem o_program {M : zM} {n : Nat} (hn : 1000000 ≤ n) (I : Iv M) : ∃ r M1 r' M2, qbs_program n zK0 M 1 = some (r, M1) ∧ qmd_program n zK0 M1 60 = some (r', M2) ∧ zw r = zw r' ∧ Iv M2 := by
  obtain ⟨pp1, pp2, pp3, pp4, pp5⟩ := I.2.2.2.2.1
  obtain ⟨ll1, ll2, ll3, ll4, ll5⟩ := I.2.2.2.2.2.1
  obtain ⟨p, hp⟩ : ∃ p, M 1 12 = p := ⟨_, rfl⟩
  obtain ⟨d, hd⟩ : ∃ d, M 1 13 = d := ⟨_, rfl⟩
  have pd : (p = 46 ∧ d = 53) ∨ (p = 53 ∧ d = 46) := by rw [← hp, ← hd]; exact ll1
  rw [hp] at ll2 ll3 ll4 ll5
  have hd' : d = 46 ∨ d = 53 := by omega
  obtain ⟨y1, -⟩ := zprK hd'
  have g := I.g
  have gS := I.1
  unfold zSR at gS
  obtain ⟨t, ht0⟩ : ∃ t : Int → Int, M 81 = t := ⟨_, rfl⟩
  obtain ⟨len, hlen⟩ : ∃ len, M 29 2 = len := ⟨_, rfl⟩
  rw [hlen] at pp1 pp2 pp3 pp4
  rw [ht0] at pp4
  have ht : ∀ i, 0 ≤ i → i < len → 0 ≤ t i ∧ t i ≤ 255 := fun i i0 i1 => ⟨(pp4 i i0 i1).1, (pp4 i i0 i1).2.1⟩
  have hB : zBC t len d M := by
    refine ⟨⟨by simp [gS], by simp [gS], hlen, fun i i0 i1 => (pp4 i i0 i1).2.2⟩, hd', ?_⟩
    rcases hd' with rfl | rfl
    · simp [gS]
    · simp [gS]
  have hTT : ∀ T : zM, (∀ i, 0 ≤ i → i ≤ 48 → T 60 i = M 60 i) → (∀ i, T 81 i = M 81 i) → zTT t len T := by
    intro T h1 h2
    refine ⟨⟨by rw [h1 35 (by decide) (by decide)]; simp [gS], by rw [h1 36 (by decide) (by decide), pp3], fun i i0 i1 => by rw [h2 i, ht0]⟩, by rw [h1 30 (by decide) (by decide)]; simp [gS], by rw [h1 31 (by decide) (by decide)]; simp [gS], by rw [h1 32 (by decide) (by decide)]; simp [gS], by rw [h1 33 (by decide) (by decide)]; simp [gS]⟩
  obtain ⟨P0, hP0⟩ : ∃ P0, zfl (zu (zu (zu (zu M 29 5 0) 29 3 0) 29 4 0) d 6 0) 31 8 (-1) = P0 := ⟨_, rfl⟩
  have fP0 : zFC d M P0 := by
    intro c i h1 h2 h3 h4
    rw [← hP0, zfl_n h2, zu_at, if_neg (by omega), zu_at, if_neg (by omega), zu_at, if_neg (by omega), zu_at, if_neg (by omega)]
  have run : ∀ T : zM, (∀ i, 0 ≤ i → i ≤ 48 → T 60 i = M 60 i) → (∀ i, T 81 i = M 81 i) → ∃ x Q0 y, qrd_readInto n zK0 M 29 d = some x ∧ qmd_next n zK0 (zu (zu (zu (zu T 60 41 0) 60 37 0) 60 29 0) 60 34 0) 60 = some Q0 ∧ (zwh (σ := zM) (ρ := zM) (fun s6 =>
    (zgf zK0 s6 12 49 60 41).bind fun v31 =>
    if zw v31 = 0 then
      (zgf zK0 s6 12 49 60 39).bind fun v32 =>
      if zw v32 = 0 then
        some (.inr s6)
      else
        (zgk zK0 60 12 49).bind fun _ => (qmd_readLine n zK0 s6 60).bind fun M33 =>
        some (.inl M33)
    else
      some (.inr s6)) n Q0) = some y ∧ zPE d M T x y := by
    intro T h1 h2
    have hT := hTT T h1 h2
    obtain ⟨Z, hZ⟩ : ∃ Z, zu (zu (zu (zu T 60 41 0) 60 37 0) 60 29 0) 60 34 0 = Z := ⟨_, rfl⟩
    have zf : zFM T Z := by
      intro c i q1 q2
      rw [← hZ, zu_at, if_neg (by omega), zu_at, if_neg (by omega), zu_at, if_neg (by omega), zu_at, if_neg (by omega)]
    have z41 : Z 60 41 = 0 := by rw [← hZ, zu_m (by decide), zu_m (by decide), zu_m (by decide), zu_e]
    have z37 : Z 60 37 = 0 := by rw [← hZ, zu_m (by decide), zu_m (by decide), zu_e]
    have z29 : Z 60 29 = 0 := by rw [← hZ, zu_m (by decide), zu_e]
    have z34 : Z 60 34 = 0 := by rw [← hZ, zu_e]
    obtain ⟨Q0, e1, e2, e3⟩ := m_tok (s := 0) hn ht pp1 pp2 (zf.tm hT) z37 z41 (by omega) (by omega)
    rw [hZ]
    have hR : zPR t len d M T 0 P0 Q0 := by
      refine ⟨by omega, by omega, fP0, zf.it e2, ?_, ?_, by rw [e2 60 29 (by omega), z29], ⟨0, by omega, by omega, ?_, e3⟩, fun r r0 r1 => ⟨Or.inl ?_, ?_⟩, fun i i0 i1 => by omega⟩
      · rw [← hP0, zfl_n (by omega), zu_e]
      · rw [← hP0, zfl_n (by decide), zu_n (by omega), zu_m (by decide), zu_e]
      · rw [← hP0, zfl_n (by decide), zu_n (by omega), zu_m (by decide), zu_m (by decide), zu_e]
      · rw [← hP0, zfl_e r0 r1]
      · rw [e2 60 34 (by omega), z34, zmade r0 r1, zb32_0, ← hP0, zfl_e r0 r1]
        exact ⟨fun q => absurd q (by decide), fun q => absurd q (by decide)⟩
    obtain ⟨x, y, j1, j2, j3⟩ := j_into hn ht pp1 pp2 hB hT hR
    refine ⟨x, Q0, y, ?_, e1, j2, j3⟩
    unfold qrd_readInto
    rw [zpf_ok rfl, Option.bind_some, zpf_ok rfl, Option.bind_some, zpf_ok rfl, Option.bind_some, zpf_ok y1, Option.bind_some, zgr_ok (v := 31) rfl (by rw [zu_n (by omega), zu_m (by decide), zu_m (by decide), zu_m (by decide)]; simp [gS]) (by decide), Option.bind_some, zfillI (N := 8) rfl (by decide) (by omega), Option.bind_some, show ((8 : Nat) : Int) = 8 from rfl, hP0]
    exact j1
  obtain ⟨⟨x, P'⟩, Qz, yz, a1, a2, a3, a4⟩ := run M (fun _ _ _ => rfl) (fun _ => rfl)
  clear a2 a3
  have fP' : zFC d M P' := a4.1
  have gp13 : zgr zK0 M 11 15 1 13 = some d := zgr_ok (v := d) rfl hd (by omega)
  have g9 : ∀ E : zM, E 1 9 = M 1 9 → zgr zK0 E 11 15 1 9 = some 29 := fun E h => zgr_ok (v := 29) rfl (by rw [h]; simp [gS]) (by decide)
  have f1 : ∀ i, P' 1 i = M 1 i := fun i => fP' 1 i (by omega) (by omega) (by omega) (by omega)
  unfold qbs_program
  rw [g9 M rfl, Option.bind_some, gp13, Option.bind_some, zgk_ok rfl, Option.bind_some, a1, Option.bind_some]
  dsimp only
  rw [g9 P' (f1 9), Option.bind_some, zpf_ok rfl, Option.bind_some]
  have pre : ∀ (T Q0 y : zM), qmd_next n zK0 (zu (zu (zu (zu T 60 41 0) 60 37 0) 60 29 0) 60 34 0) 60 = some Q0 → ∀ F : zM → Option (zM ⊕ zM), zwh F n Q0 = some y → ∀ X : zM → Option (Int × zM), ((zpf zK0 T 12 49 60 41 0).bind fun M1 =>
  (zpf zK0 M1 12 49 60 37 0).bind fun M2 =>
  (zpf zK0 M2 12 49 60 29 0).bind fun M3 =>
  (zpf zK0 M3 12 49 60 34 0).bind fun M4 =>
  (zgk zK0 60 12 49).bind fun _ => (qmd_next n zK0 M4 60).bind fun M5 =>
  (zwh F n M5).bind fun e7 =>
  (zpf zK0 e7 12 49 60 36 0).bind X) = X (zu y 60 36 0) := by
    intro T Q0 y e1 F e2 X
    rw [zpf_ok rfl, Option.bind_some, zpf_ok rfl, Option.bind_some, zpf_ok rfl, Option.bind_some, zpf_ok rfl, Option.bind_some, zgk_ok rfl, Option.bind_some, e1, Option.bind_some, e2, Option.bind_some, zpf_ok rfl, Option.bind_some]
  have pq : ∀ q : Int, 1 ≤ q → q ≤ 6 → ¬ (d + 1 ≤ p + q ∧ p + q ≤ d + 6) := fun q _ _ => by omega
  rcases a4.2.2 with ⟨hx, -⟩ | ⟨hx, -⟩
  · -- a text without faults
    dsimp only at hx
    subst hx
    have g12 : zgr zK0 (zu P' 29 2 0) 11 15 1 12 = some p := zgr_ok (v := p) rfl (by rw [zu_n (by decide), f1, hp]) (by omega)
    have g13 : zgr zK0 (zu P' 29 2 0) 11 15 1 13 = some d := zgr_ok (v := d) rfl (by rw [zu_n (by decide), f1, hd]) (by omega)
    rw [if_neg (show ¬ zw 1 = 0 by decide), g12, Option.bind_some, g13, Option.bind_some, zpf_ok rfl, Option.bind_some, zpf_ok rfl, Option.bind_some, zgr_ok (v := d) rfl (by rw [zu_m (by decide), zu_e]) (by omega), Option.bind_some, zgf_ok y1, Option.bind_some, zu_n (show d ≠ 1 by omega), zu_n (show d ≠ 1 by omega), zu_n (show d ≠ 29 by omega)]
    obtain ⟨T, hT⟩ : ∃ T, zu (zu (zu P' 29 2 0) 1 12 d) 1 13 p = T := ⟨_, rfl⟩
    have tT : ∀ c i, ¬ (c = 29 ∧ i = 2) → ¬ (c = 1 ∧ (i = 12 ∨ i = 13)) → T c i = P' c i := by
      intro c i h1 h2
      rw [← hT, zu_at, if_neg (by omega), zu_at, if_neg (by omega), zu_at, if_neg (by omega)]
    obtain ⟨x', Q0, y, b1, b2, b3, b4⟩ := run T (fun i i0 i1 => by rw [tT 60 i (by omega) (by omega)]; exact fP' 60 i (by omega) (by omega) (by omega) (by omega)) (fun i => by rw [tT 81 i (by omega) (by omega)]; exact fP' 81 i (by omega) (by omega) (by omega) (by omega))
    rw [a1] at b1
    injection b1 with b1
    subst b1
    obtain ⟨c1, c2, c3⟩ := b4
    rcases c3 with ⟨-, c4, c5, k, k0, k1, c6, c7, c8⟩ | ⟨c4, -⟩
    rotate_left
    · dsimp only at c4; omega
    dsimp only at c4 c6 c8
    rw [hT, c6]
    have GM : ∀ c i, ¬ (c = 29 ∧ 2 ≤ i ∧ i ≤ 8) → c ≠ 31 → ¬ (c = d ∧ i = 6) → ¬ (d + 1 ≤ c ∧ c ≤ d + 6) → ¬ (c = 60 ∧ (i = 24 ∨ i = 29 ∨ i = 34 ∨ (36 ≤ i ∧ i ≤ 42))) → ¬ (73 ≤ c ∧ c ≤ 80) → ¬ (c = 1 ∧ (i = 12 ∨ i = 13)) → zu (zu y 60 36 0) 60 24 k c i = M c i := by
      intro c i h1 h2 h3 h4 h5 h6 h7
      rw [zu_at, if_neg (by omega), zu_at, if_neg (by omega), c2 c i (by omega) (by omega), tT c i (by omega) (by omega), fP' c i (by omega) h2 h3 h4]
    obtain ⟨Q', m1, m2, m3⟩ := m_copyp (T := M) (Q := zu (zu y 60 36 0) 60 24 k) (n := n) (k := k) hn g (fun i hi => by
      have : 25 ≤ i ∧ i ≤ 33 ∧ i ≠ 29 := by
        rcases (show i = 25 ∨ i = 26 ∨ i = 27 ∨ i = 28 ∨ i = 30 ∨ i = 31 ∨ i = 32 ∨ i = 33 by simpa using hi) with rfl | rfl | rfl | rfl | rfl | rfl | rfl | rfl <;> decide
      exact GM 60 i (by omega) (by omega) (by omega) (by omega) (by omega) (by omega) (by omega)) (zu_e _ _ _ _)
    refine ⟨k, T, k, Q', rfl, ?_, rfl, ?_⟩
    · unfold qmd_program
      rw [pre T Q0 y b2 _ b3]
      rw [zgf_ok rfl, Option.bind_some, zu_m (by decide), c5, if_pos (show zw 0 ≤ 0 by decide), zgf_ok rfl, Option.bind_some, zu_m (by decide), c7, zpf_ok rfl, Option.bind_some]
      exact m1
    · have Q2 : ∀ c i, ¬ (73 ≤ c ∧ c ≤ 80) → ¬ (c = 60 ∧ (i = 24 ∨ i = 29 ∨ i = 34 ∨ (36 ≤ i ∧ i ≤ 42))) → Q' c i = T c i := by
        intro c i h1 h2
        rw [m2 c i (by omega), zu_at, if_neg (by omega), zu_at, if_neg (by omega), c2 c i (by omega) (by omega)]
      have Qd : ∀ q i, 1 ≤ q → q ≤ 6 → Q' (d + q) i = P' (d + q) i := fun q i _ _ => by rw [Q2 (d + q) i (by omega) (by omega), tT (d + q) i (by omega) (by omega)]
      have Q3 : Q' 29 3 = 0 := by rw [Q2 29 3 (by omega) (by omega), tT 29 3 (by omega) (by omega), c4]
      have e12 : Q' 1 12 = d := by rw [Q2 1 12 (by omega) (by omega), ← hT, zu_m (by decide), zu_e]
      have e13 : Q' 1 13 = p := by rw [Q2 1 13 (by omega) (by omega), ← hT, zu_e]
      have e24 : Q' 60 24 = k := by rw [m2 60 24 (by omega), zu_e]
      have ed6 : Q' d 6 = k := by rw [Q2 d 6 (by omega) (by omega), tT d 6 (by omega) (by omega), c6]
      refine Iv.rd (d := d) I hd' (fun c i h1 h2 h3 h4 h5 h6 h7 => by rw [m2 c i (by omega)]; exact GM c i h1 h2 h3 h4 h5 h6 h7) (by rw [Q2 29 2 (by omega) (by omega), ← hT, zu_n (by decide), zu_n (by decide), zu_e]) (by rw [m2 60 36 (by omega), zu_m (by decide), zu_e]) ?_ (by omega) (by omega) ?_
      · rw [m2 60 41 (by omega), zu_m (by decide), zu_m (by decide), c5, Q3]
      · unfold IvL
        rw [e12, e13, e24, ed6]
        refine ⟨by omega, k0, k1, rfl, fun i i0 i1 => ?_⟩
        obtain ⟨z1, z2, z3, z4, z5⟩ := c8 i i0 i1
        obtain ⟨o1, o2, o3, o4⟩ := m3 i i0 (by omega)
        have y7 : ∀ c, 77 ≤ c → c ≤ 80 → zu (zu y 60 36 0) 60 24 k c i = y c i := fun c _ _ => by rw [zu_n (by omega), zu_n (by omega)]
        rw [y7 77 (by omega) (by omega)] at o1
        rw [y7 78 (by omega) (by omega)] at o2
        rw [y7 79 (by omega) (by omega)] at o3
        rw [y7 80 (by omega) (by omega)] at o4
        rw [Qd 1 i (by omega) (by omega), Qd 2 i (by omega) (by omega), Qd 3 i (by omega) (by omega), Qd 4 i (by omega) (by omega)]
        exact ⟨zli.cong (fun q j q0 q1 _ _ => Qd q j q0 q1) i0 z1, o1.trans z2, o2.trans z3, o3.trans z4, o4.trans z5⟩
  · -- a fault
    dsimp only at hx
    subst hx
    rw [if_pos (show zw 0 = 0 by decide), g9 (zu P' 29 2 0) (by rw [zu_n (by decide), f1]), Option.bind_some, zgf_ok rfl, Option.bind_some, zu_m (by decide)]
    obtain ⟨T, hT⟩ : ∃ T, zu P' 29 2 0 = T := ⟨_, rfl⟩
    have tT : ∀ c i, ¬ (c = 29 ∧ i = 2) → T c i = P' c i := by
      intro c i h1
      rw [← hT, zu_at, if_neg (by omega)]
    obtain ⟨x', Q0, y, b1, b2, b3, b4⟩ := run T (fun i i0 i1 => by rw [tT 60 i (by omega)]; exact fP' 60 i (by omega) (by omega) (by omega) (by omega)) (fun i => by rw [tT 81 i (by omega)]; exact fP' 81 i (by omega) (by omega) (by omega) (by omega))
    rw [a1] at b1
    injection b1 with b1
    subst b1
    obtain ⟨c1, c2, c3⟩ := b4
    rcases c3 with ⟨c4, -⟩ | ⟨-, c4, c5, c6, c7⟩
    · dsimp only at c4; omega
    dsimp only at c4 c5 c6 c7
    rw [hT]
    have GM : ∀ c i, ¬ (c = 29 ∧ 2 ≤ i ∧ i ≤ 8) → c ≠ 31 → ¬ (c = d ∧ i = 6) → ¬ (d + 1 ≤ c ∧ c ≤ d + 6) → ¬ (c = 60 ∧ (i = 29 ∨ i = 34 ∨ (36 ≤ i ∧ i ≤ 42))) → ¬ (77 ≤ c ∧ c ≤ 80) → zu y 60 36 0 c i = M c i := by
      intro c i h1 h2 h3 h4 h5 h6
      rw [zu_at, if_neg (by omega), c2 c i (by omega) (by omega), tT c i (by omega), fP' c i (by omega) h2 h3 h4]
    have e3 : zu y 60 36 0 29 3 = P' 29 3 := by rw [zu_n (by decide), c2 29 3 (by omega) (by omega), tT 29 3 (by omega)]
    refine ⟨_, T, -10 - y 60 42, zu y 60 36 0, rfl, ?_, by rw [c7], ?_⟩
    · unfold qmd_program
      rw [pre T Q0 y b2 _ b3]
      rw [zgf_ok rfl, Option.bind_some, zu_m (by decide), c6, zw_id (x := P' 29 3) (by omega) (by omega), if_neg (by omega), zgf_ok rfl, Option.bind_some, zu_m (by decide)]
    · refine Iv.rd (d := d) I hd' (fun c i h1 h2 h3 h4 h5 h6 h7 => GM c i h1 h2 h3 h4 (by omega) (by omega)) (by rw [zu_n (by decide), c2 29 2 (by omega) (by omega), ← hT, zu_e]) (zu_e _ _ _ _) (by rw [e3, zu_m (by decide), c6]) (by omega) (by omega) ?_
      unfold IvL
      have p6 : zu y 60 36 0 p 6 = M p 6 := GM p 6 (by omega) (by omega) (by omega) (by omega) (by omega) (by omega)
      rw [GM 1 12 (by omega) (by omega) (by omega) (by omega) (by omega) (by omega), GM 1 13 (by omega) (by omega) (by omega) (by omega) (by omega) (by omega), GM 60 24 (by omega) (by omega) (by omega) (by omega) (by omega) (by omega), hp, hd, p6]
      have Qp : ∀ q i, 1 ≤ q → q ≤ 6 → zu y 60 36 0 (p + q) i = M (p + q) i := fun q i q0 q1 => GM (p + q) i (by omega) (by omega) (by omega) (pq q q0 q1) (by omega) (by omega)
      refine ⟨by omega, ll2, ll3, ll4, fun i i0 i1 => ?_⟩
      obtain ⟨z1, z2, z3, z4, z5⟩ := ll5 i i0 i1
      rw [GM 73 i (by omega) (by omega) (by omega) (by omega) (by omega) (by omega), GM 74 i (by omega) (by omega) (by omega) (by omega) (by omega) (by omega), GM 75 i (by omega) (by omega) (by omega) (by omega) (by omega) (by omega), GM 76 i (by omega) (by omega) (by omega) (by omega) (by omega) (by omega), Qp 1 i (by omega) (by omega), Qp 2 i (by omega) (by omega), Qp 3 i (by omega) (by omega), Qp 4 i (by omega) (by omega)]
      exact ⟨zli.cong (fun q j q0 q1 _ _ => Qp q j q0 q1) i0 z1, z2, z3, z4, z5⟩
