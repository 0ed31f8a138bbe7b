theorem zsa.sy {M P Q : zM} (h : zsa M P) (k : zsa M Q) : zsa P Q := fun c i hc => (k c i hc).trans (h c i hc).symm
theorem zsa.st {M Q : zM} {r lo m : Int} {f : Int → Int} (h : zsa M Q) (hs : ∀ i, zste r i = false) : zsa M (zsp Q r lo m f) := by
  intro c i hc
  rw [zsp_ne (fun e => by rw [e, hs] at hc; cases hc)]
  exact h c i hc
theorem c_asks {M P0 : zM} {n R0 p : Nat} {a s q : Int} {β : Nat → Int} (hn : 1000000 ≤ n) (I : Iv M) (hP : zsa M P0) (q0 : 1 ≤ q) (q1 : q ≤ 12) (a0 : 0 ≤ a) (a1 : a ≤ 999) (s0 : 1 ≤ s) (s1 : s ≤ 99) (hp : p ≤ 256) (hR : R0 + p ≤ 16384) (hβ : ∀ k : Nat, β (R0 + k) = zadr M (a + k * s)) (h25 : ∀ j, 0 ≤ j → j < 17 → P0 25 j = (zrt β q R0).2 j) : ∃ P, (zwh (σ := Int × Int × zM) (ρ := Int × Int × zM) (fun s7 =>
        if zw (p : Int) ≤ zw s7.2.1 then
          some (.inr (s7.1, s7.2.1, s7.2.2))
        else
          (zgk zK0 2 2 7).bind fun _ => (qla_bankOfAddress zK0 s7.2.2 2 (a + (s7.2.1 * s))).bind fun v13 =>
          (zgr zK0 s7.2.2 4 7 24 0).bind fun r14 =>
          (zga zK0 s7.2.2 100 r14 v13).bind fun v15 =>
          (some (zmax s7.1 v15)).bind fun x16 =>
          (zgr zK0 s7.2.2 4 7 24 0).bind fun r17 =>
          (zpa zK0 s7.2.2 100 r17 v13 (x16 + q)).bind fun M18 =>
          (some (x16 + 1)).bind fun x19 =>
          some (.inl (x19, s7.2.1 + 1, M18))) n ((zrt β q R0).1, 0, P0)) = some ((zrt β q (R0 + p)).1, (p : Int), P) ∧ zsa M P ∧ zeq 25 P0 P ∧ ∀ j, 0 ≤ j → j < 17 → P 25 j = (zrt β q (R0 + p)).2 j := by
  have key : ∀ F : Int × Int × zM → Option ((Int × Int × zM) ⊕ (Int × Int × zM)), (∃ r, zwh F n ((zrt β q R0).1, 0, P0) = some r ∧ r.1 = (zrt β q (R0 + p)).1 ∧ r.2.1 = (p : Int) ∧ zsa M r.2.2 ∧ zeq 25 P0 r.2.2 ∧ ∀ j, 0 ≤ j → j < 17 → r.2.2 25 j = (zrt β q (R0 + p)).2 j) → ∃ P, zwh F n ((zrt β q R0).1, 0, P0) = some ((zrt β q (R0 + p)).1, (p : Int), P) ∧ zsa M P ∧ zeq 25 P0 P ∧ ∀ j, 0 ≤ j → j < 17 → P 25 j = (zrt β q (R0 + p)).2 j := by
    rintro F ⟨⟨r1, r2, r3⟩, e1, e2, e3, e4, e5, e6⟩
    dsimp only at e2 e3 e4 e5 e6
    subst e2 e3
    exact ⟨_, e1, e4, e5, e6⟩
  refine key _ (zwh_inv (fun s => ∃ (k : Nat) (P : zM), k ≤ p ∧ s = ((zrt β q (R0 + k)).1, (k : Int), P) ∧ zsa M P ∧ zeq 25 P0 P ∧ ∀ j, 0 ≤ j → j < 17 → P 25 j = (zrt β q (R0 + k)).2 j) (fun s => (p - s.2.1).toNat) _ ?_ n _ ⟨0, P0, by omega, rfl, hP, fun _ _ _ => rfl, h25⟩ (by dsimp only; omega))
  rintro s' ⟨k, P, k1, rfl, k2, k3, k4⟩
  dsimp only
  rw [zw_id (x := (p : Int)) (by omega) (by omega), zw_id (x := (k : Int)) (by omega) (by omega)]
  by_cases c : (p : Int) ≤ (k : Int)
  · right
    have : k = p := by omega
    subst this
    rw [if_pos c]
    exact ⟨_, rfl, rfl, rfl, k2, k3, k4⟩
  · left
    rw [if_neg c]
    have IP := I.keep k2
    have gP := IP.g
    unfold zPt at gP
    have m0 : 0 ≤ (k : Int) * s := Int.mul_nonneg (by omega) (by omega)
    have m1 : (k : Int) * s ≤ 256 * 99 := Int.mul_le_mul (by omega) s1 (by omega) (by omega)
    obtain ⟨z1, z2, z3⟩ := la_addr IP.la (x := a + k * s) (by omega) (by omega)
    rw [zadr.cg k2, ← hβ] at z1 z2 z3
    obtain ⟨g0, g1, g2, g3⟩ := zrt_rg (β := β) q0 q1 (R0 + k)
    have g4 := g3 (β (R0 + k))
    simp (disch := omega) only [Option.bind_some, zPf, zPa, zgr_u, zgr_fl, gP, z1, k4]
    rw [zmax_ok (by omega) (by omega) (by omega) (by omega)]
    refine ⟨_, rfl, ⟨k + 1, _, by omega, rfl, k2.up rfl, ?_, ?_⟩, by dsimp only; omega⟩
    · intro c i hc
      rw [zu_n hc]
      exact k3 c i hc
    · intro j j0 j1
      rw [show R0 + (k + 1) = (R0 + k) + 1 by omega, zrt]
      dsimp only
      by_cases f : j = β (R0 + k)
      · rw [if_pos f, f, zu_e]; rfl
      · rw [if_neg f, zu_m f, k4 j j0 j1]
theorem m_asks {M T Q0 : zM} {n R0 p : Nat} {a s N : Int} {β : Nat → Int} (hn : 1000000 ≤ n) (I : Iv M) (hT : zsa M T) (hQ : zsa M Q0) (h62 : ∀ y, Q0 62 y = zlN T 62 y) (a0 : 0 ≤ a) (a1 : a ≤ 999) (s0 : 1 ≤ s) (s1 : s ≤ 99) (N0 : 1 ≤ N) (N1 : N ≤ 256) (hp : p ≤ 256) (hR : R0 + p ≤ 16384) (hβ : ∀ c : Nat, β c = zadr M (a + (c % N) * s)) (h69 : ∀ j, 0 ≤ j → j < 17 → Q0 69 j = (zrt β (M 1 14) R0).2 j) : ∃ Q, (zwh (σ := Int × Int × Int × zM) (ρ := Int × Int × Int × zM) (fun s21 =>
        if zw (p : Int) ≤ zw s21.2.2.1 then
          some (.inr (s21.1, s21.2.1, s21.2.2.1, s21.2.2.2))
        else
          (zrm s21.2.1 N).bind fun v37 =>
          (zgk zK0 60 12 49).bind fun _ => (qmd_asks zK0 s21.2.2.2 60 (a + (v37 * s)) s21.1).bind fun p38 =>
          some (.inl (p38.1, s21.2.1 + 1, s21.2.2.1 + 1, p38.2))) n ((zrt β (M 1 14) R0).1 - 1, (R0 : Int), 0, Q0)) = some ((zrt β (M 1 14) (R0 + p)).1 - 1, ((R0 + p : Nat) : Int), (p : Int), Q) ∧ zsa M Q ∧ zeq 69 Q0 Q ∧ ∀ j, 0 ≤ j → j < 17 → Q 69 j = (zrt β (M 1 14) (R0 + p)).2 j := by
  have IT := I.keep hT
  have hr := I.2.2.1
  unfold IvR at hr
  obtain ⟨q, hq⟩ : ∃ q, M 1 14 = q := ⟨_, rfl⟩
  rw [hq] at h69 hr ⊢
  obtain ⟨q0, q1, q2⟩ := hr
  have key : ∀ F : Int × Int × Int × zM → Option ((Int × Int × Int × zM) ⊕ (Int × Int × Int × zM)), (∃ r, zwh F n ((zrt β q R0).1 - 1, (R0 : Int), 0, Q0) = some r ∧ r.1 = (zrt β q (R0 + p)).1 - 1 ∧ r.2.1 = ((R0 + p : Nat) : Int) ∧ r.2.2.1 = (p : Int) ∧ zsa M r.2.2.2 ∧ zeq 69 Q0 r.2.2.2 ∧ ∀ j, 0 ≤ j → j < 17 → r.2.2.2 69 j = (zrt β q (R0 + p)).2 j) → ∃ Q, zwh F n ((zrt β q R0).1 - 1, (R0 : Int), 0, Q0) = some ((zrt β q (R0 + p)).1 - 1, ((R0 + p : Nat) : Int), (p : Int), Q) ∧ zsa M Q ∧ zeq 69 Q0 Q ∧ ∀ j, 0 ≤ j → j < 17 → Q 69 j = (zrt β q (R0 + p)).2 j := by
    rintro F ⟨⟨r1, r2, r3, r4⟩, e1, e2, e3, e7, e4, e5, e6⟩
    dsimp only at e2 e3 e4 e5 e6 e7
    subst e2 e3 e7
    exact ⟨_, e1, e4, e5, e6⟩
  refine key _ (zwh_inv (fun s => ∃ (k : Nat) (Q : zM), k ≤ p ∧ s = ((zrt β q (R0 + k)).1 - 1, ((R0 + k : Nat) : Int), (k : Int), Q) ∧ zsa M Q ∧ zeq 69 Q0 Q ∧ ∀ j, 0 ≤ j → j < 17 → Q 69 j = (zrt β q (R0 + k)).2 j) (fun s => (p - s.2.2.1).toNat) _ ?_ n _ ⟨0, Q0, by omega, rfl, hQ, fun _ _ _ => rfl, h69⟩ (by dsimp only; omega))
  rintro s' ⟨k, Q, k1, rfl, k2, k3, k4⟩
  dsimp only
  rw [zw_id (x := (p : Int)) (by omega) (by omega), zw_id (x := (k : Int)) (by omega) (by omega)]
  by_cases c : (p : Int) ≤ (k : Int)
  · right
    have : k = p := by omega
    subst this
    rw [if_pos c]
    exact ⟨_, rfl, rfl, rfl, rfl, k2, k3, k4⟩
  · left
    rw [if_neg c]
    have IQ := I.keep k2
    have gQ := IQ.g
    unfold zPt at gQ
    have b0 := Int.emod_nonneg ((R0 + k : Nat) : Int) (show N ≠ 0 by omega)
    have b1 := Int.emod_lt_of_pos ((R0 + k : Nat) : Int) (show 0 < N by omega)
    have m0 : 0 ≤ ((R0 + k : Nat) : Int) % N * s := Int.mul_nonneg b0 (by omega)
    have m1 : ((R0 + k : Nat) : Int) % N * s ≤ 256 * 99 := Int.mul_le_mul (by omega) s1 (by omega) (by omega)
    have z4 := md_addr IT (Q := Q) ((k2 60 0 rfl).trans ((hT 60 0 rfl).symm.trans IT.2.1.2.2.2.2.2.2.2.2.2.2.2.2.1)) ((k2 60 1 rfl).trans ((hT 60 1 rfl).symm.trans IT.2.1.2.2.2.2.2.2.2.2.2.2.2.2.2.1)) ((k2 60 7 rfl).trans (by have := I.1; unfold zSR at this; simp [this])) (fun y => (k3 62 y (by decide)).trans (h62 y)) (x := a + ((R0 + k : Nat) : Int) % N * s) (by omega) (by omega)
    have z5 := zadr_lt I (x := a + ((R0 + k : Nat) : Int) % N * s)
    have hb := I.2.1.2.2.2.2.2.1
    rw [zadr.cg hT, ← hβ] at z4
    rw [← hβ] at z5
    have r4 := (k2 60 16 rfl).trans q2
    obtain ⟨g0, g1, g2, g3⟩ := zrt_rg (β := β) q0 q1 (R0 + k)
    have g4 := g3 (β (R0 + k))
    rw [zrm_ok (by omega) (by omega) (by omega) (by omega)]
    unfold qmd_asks
    simp (disch := omega) only [Option.bind_some, zPf, zPa, zgr_u, zgr_fl, gQ, z4, k4, r4]
    rw [zw_id (x := (zrt β q (R0 + k)).1 - 1 + 1) (by omega) (by omega), zw_id (x := (zrt β q (R0 + k)).2 (β (R0 + k))) (by omega) (by omega), show (zrt β q (R0 + k)).1 - 1 + 1 = (zrt β q (R0 + k)).1 by omega]
    obtain ⟨x, hx⟩ : ∃ x, zmx (zrt β q (R0 + k)).1 ((zrt β q (R0 + k)).2 (β (R0 + k))) = x := ⟨_, rfl⟩
    have e : (if (zrt β q (R0 + k)).1 ≤ (zrt β q (R0 + k)).2 (β (R0 + k)) then some ((zrt β q (R0 + k)).2 (β (R0 + k))) else some (zrt β q (R0 + k)).1) = some x := by
      rw [← hx]
      unfold zmx
      by_cases l : (zrt β q (R0 + k)).1 < (zrt β q (R0 + k)).2 (β (R0 + k))
      · rw [if_pos l, if_pos (by omega)]
      · rw [if_neg l]
        by_cases l2 : (zrt β q (R0 + k)).1 ≤ (zrt β q (R0 + k)).2 (β (R0 + k))
        · rw [if_pos l2, show (zrt β q (R0 + k)).2 (β (R0 + k)) = (zrt β q (R0 + k)).1 by omega]
        · rw [if_neg l2]
    rw [e]
    simp (disch := omega) only [Option.bind_some, zPf, zPa, zgr_u, zgr_fl]
    have e1 : (zrt β q (R0 + (k + 1))).1 = x + 1 := by
      rw [show R0 + (k + 1) = (R0 + k) + 1 by omega, zrt, hx]
    refine ⟨_, rfl, ⟨k + 1, zu Q 69 (β (R0 + k)) (x + q), by omega, ?_, k2.up rfl, ?_, ?_⟩, by dsimp only; omega⟩
    · rw [e1, show x + 1 - 1 = x by omega, show ((R0 + k : Nat) : Int) + 1 = ((R0 + (k + 1) : Nat) : Int) by omega]
      rfl
    · intro c i hc
      rw [zu_n hc]
      exact k3 c i hc
    · intro j j0 j1
      rw [show R0 + (k + 1) = (R0 + k) + 1 by omega, zrt]
      dsimp only
      rw [hx]
      by_cases f : j = β (R0 + k)
      · rw [if_pos f, f, zu_e]
      · rw [if_neg f, zu_m f, k4 j j0 j1]
theorem m_lefts {Q : zM} {n : Nat} {r t : Int} {L : Int → Int} (hn : 1000000 ≤ n) (g : zPt Q) (r0 : 1 ≤ r) (r1 : r ≤ 64) (t0 : -1 ≤ t) (t1 : t ≤ 1000000) (h : ∀ j, 0 ≤ j → j < 17 → 0 ≤ Q 69 j ∧ Q 69 j ≤ 1100000 ∧ L j = zps (Q 69 j - (t + 1))) : (zwh (σ := Int × zM) (ρ := Int × zM) (fun s25 =>
        if zw 17 ≤ zw s25.1 then
          some (.inr (s25.1, s25.2))
        else
          (zgr zK0 s25.2 12 49 60 19).bind fun r30 =>
          (zgr zK0 s25.2 12 49 60 17).bind fun r31 =>
          (zga zK0 s25.2 100 r31 s25.1).bind fun v32 =>
          (if zw v32 ≤ zw (t + 1) then
            some 0
          else
            (zgr zK0 s25.2 12 49 60 17).bind fun r35 =>
            (zga zK0 s25.2 100 r35 s25.1).bind fun v36 =>
            some ((v36 - t) - 1) : Option (Int)).bind fun j33 =>
          (zpa zK0 s25.2 100 r30 ((17 * r) + s25.1) j33).bind fun M34 =>
          some (.inl (s25.1 + 1, M34))) n (0, Q)) = some (17, zsp Q 71 (17 * r) 17 L) := by
  unfold zPt at g
  refine zwh_eq (fun s => 0 ≤ s.1 ∧ s.1 ≤ 17 ∧ s.2 = zsp Q 71 (17 * r) s.1 L) (fun s => (17 - s.1).toNat) ?_ n _ ⟨by simp, by simp, by simp [zsp_0]⟩ (by simp; omega)
  rintro ⟨j, E⟩ ⟨h1, h2, h3⟩
  dsimp only at h1 h2 h3 ⊢
  subst h3
  rw [zw_id (x := 17) (by decide) (by decide), zw_id (x := j) (by omega) (by omega)]
  by_cases c : 17 ≤ j
  · right
    rw [if_pos c, show j = 17 by omega]
  · left
    rw [if_neg c]
    obtain ⟨p1, p2, p3⟩ := h j h1 (by omega)
    have ge : ∀ k, zgr zK0 (zsp Q 71 (17 * r) j L) 12 49 60 k = zgr zK0 Q 12 49 60 k := by
      intro k
      unfold zgr
      rw [zsp_ne (by decide)]
    have ge2 : ∀ k, zsp Q 71 (17 * r) j L 69 k = Q 69 k := fun k => zsp_ne (by decide)
    simp only [ge]
    simp (disch := omega) only [Option.bind_some, zPf, zPa, zgr_u, zgr_fl, g, ge2]
    rw [zw_id (x := Q 69 j) (by omega) (by omega), zw_id (x := t + 1) (by omega) (by omega)]
    have e : (if Q 69 j ≤ t + 1 then some 0 else some (Q 69 j - t - 1)) = some (L j) := by
      rw [p3]
      unfold zps
      by_cases d : Q 69 j ≤ t + 1
      · rw [if_pos d, if_neg (by omega)]
      · rw [if_neg d, if_pos (by omega), show Q 69 j - t - 1 = Q 69 j - (t + 1) by omega]
    rw [e]
    simp (disch := omega) only [Option.bind_some, zPf, zPa, zgr_u, zgr_fl]
    exact ⟨_, rfl, ⟨by dsimp only; omega, by dsimp only; omega, zsp_s h1 rfl⟩, by dsimp only; omega⟩
