theorem zperi {M : zM} {a s N : Int} {p : Nat} (hN : M 2 0 * M 2 1 = N) (m : Int) (hp : (p : Int) * s = N * m) (k : Nat) : zadr M (a + ((k + p : Nat) : Int) * s) = zadr M (a + (k : Int) * s) := by
  unfold zadr
  rw [hN, show a + ((k + p : Nat) : Int) * s = a + (k : Int) * s + N * m by rw [← hp, Int.natCast_add, Int.add_mul]; omega, Int.add_mul_emod_self_left]
theorem zmodn {M : zM} {a s N : Int} (hN : M 2 0 * M 2 1 = N) (c : Int) : zadr M (a + c * s) = zadr M (a + (c % N) * s) := by
  unfold zadr
  have e := Int.mul_ediv_add_emod c N
  rw [hN]
  have : a + c * s = a + (c % N) * s + N * (c / N * s) := by
    have h : c * s = (N * (c / N) + c % N) * s := by rw [e]
    rw [h, Int.add_mul, Int.mul_assoc]
    omega
  rw [this, Int.add_mul_emod_self_left]
theorem j_seek {M : zM} {n : Nat} {a s : Int} (hn : 1000000 ≤ n) (I : Iv M) (a0 : 0 ≤ a) (a1 : a ≤ 999) (s0 : 1 ≤ s) (s1 : s ≤ 99) : ∀ T, zsa M T → ∃ x P y Q, qra_seek n zK0 M 24 2 (M 1 14) a s = some (x, P) ∧ qmd_findRate n zK0 T 60 a s = some (y, Q) ∧ zsa M P ∧ zsa M Q ∧ ((x = 0 ∧ y = 0) ∨ (x = 1 ∧ y = 1 ∧ P 24 4 = Q 60 21 ∧ P 24 5 = Q 60 22 ∧ P 24 6 = Q 60 23 ∧ 1 ≤ P 24 4 ∧ P 24 4 ≤ 16128 ∧ 1 ≤ P 24 5 ∧ P 24 5 ≤ 98304)) := by
  intro T hT
  have IT := I.keep hT
  have h := I.la
  have hrc := zrc h.2.2.2.1 h.2.2.2.2.1 h.2.2.2.2.2.1 h.2.2.2.2.2.2.1
  obtain ⟨N, hN⟩ : ∃ N, M 2 0 * M 2 1 = N := ⟨_, rfl⟩
  rw [hN] at hrc
  have q1 := zdg (x := N) (by omega) (Nat.gcd_dvd_left N.toNat s.toNat)
  have q2 := zdg (x := s) (by omega) (Nat.gcd_dvd_right N.toNat s.toNat)
  have dv1 : (Nat.gcd N.toNat s.toNat : Int) ∣ N := by
    have : ((Nat.gcd N.toNat s.toNat : Nat) : Int) ∣ ((N.toNat : Nat) : Int) := Int.natCast_dvd_natCast.mpr (Nat.gcd_dvd_left _ _)
    rw [show ((N.toNat : Nat) : Int) = N by omega] at this
    exact this
  have dv2 : (Nat.gcd N.toNat s.toNat : Int) ∣ s := by
    have : ((Nat.gcd N.toNat s.toNat : Nat) : Int) ∣ ((s.toNat : Nat) : Int) := Int.natCast_dvd_natCast.mpr (Nat.gcd_dvd_right _ _)
    rw [show ((s.toNat : Nat) : Int) = s by omega] at this
    exact this
  have gc := cl_gcd (M := zfl M 25 17 0) (n := n) (x := N) (y := s) hn (by omega) (by omega) (by omega) (by omega)
  have gm := md_gcd (M := zfl (zlN T) 69 17 0) (n := n) (x := s) (y := N) hn (by omega) (by omega) (by omega) (by omega)
  rw [Nat.gcd_comm] at gm
  obtain ⟨G, hG⟩ : ∃ G, (Nat.gcd N.toNat s.toNat : Int) = G := ⟨_, rfl⟩
  rw [hG] at q1 q2 dv1 dv2 gc gm
  obtain ⟨p, hp⟩ : ∃ p : Nat, (p : Int) = N / G := ⟨(N / G).toNat, by omega⟩
  have hpG : (p : Int) * G = N := by rw [hp]; exact Int.ediv_mul_cancel dv1
  have hps : (p : Int) * s = N * (s / G) := by
    rw [← hpG, Int.mul_assoc, Int.mul_ediv_cancel' dv2]
  have gM := I.g
  have hla := I.keep ((zsa.rf M).fl (r := 25) (N := 17) (v := 0) (fun _ => rfl))
  have hcc := la_count hla.la
  rw [zfl_n (by decide), zfl_n (by decide), hN] at hcc
  have t0 : (zfl (zlN T) 69 17 0) 60 0 = M 2 0 := by rw [zfl_n (by decide), zlN_ne (by decide)]; exact (hT 60 0 rfl).trans I.2.1.2.2.2.2.2.2.2.2.2.2.2.2.1
  have t1 : (zfl (zlN T) 69 17 0) 60 1 = M 2 1 := by rw [zfl_n (by decide), zlN_ne (by decide)]; exact (hT 60 1 rfl).trans I.2.1.2.2.2.2.2.2.2.2.2.2.2.2.2.1
  have p24 : zgr zK0 M 4 7 24 0 = some 25 := by unfold zPt at gM; simp only [gM]
  unfold qra_seek qmd_findRate
  rw [p24, Option.bind_some, zfillI (N := 17) rfl (by decide) (by omega), Option.bind_some, zgk_ok (r := 2) (ci := 2) (N := 7) rfl, Option.bind_some, show ((17 : Nat) : Int) = 17 from rfl, hcc, Option.bind_some, gc, Option.bind_some, zdv_ok (by omega) (by omega) (by omega) (by omega), Option.bind_some, ← hp]
  rw [zgk_ok (r := 60) (ci := 12) (N := 49) rfl, Option.bind_some, mbegins hn IT, Option.bind_some, zgf_ok rfl, Option.bind_some, zgf_ok rfl, Option.bind_some, Option.bind_some, t0, t1, hN, gm, Option.bind_some, zdv_ok (by omega) (by omega) (by omega) (by omega), Option.bind_some, ← hp]
  have key : ∀ (F : Int × Int × zM → Option ((Int × Int × zM) ⊕ (Int × zM))) (H : Int × Int × Int × zM → Option ((Int × Int × Int × zM) ⊕ ((Int × Int × Int × Int × zM) ⊕ (Int × zM)))) (s0 : Int × Int × zM) (t0 : Int × Int × Int × zM), (∃ x y, zwh F n s0 = some x ∧ zwh H n t0 = some y ∧ zPs M p x y) → ∃ x P y Q, zwh F n s0 = some (x, P) ∧ (zesc (zwh H n t0) fun e8 =>
  (some ((e8.2.2.1 - e8.2.2.2.1) * (p : Int))).bind fun x9 =>
  (zgr zK0 e8.2.2.2.2 12 49 60 20).bind fun r10 =>
  (zga zK0 e8.2.2.2.2 100 r10 e8.2.2.1).bind fun v11 =>
  (zgr zK0 e8.2.2.2.2 12 49 60 20).bind fun r12 =>
  (zga zK0 e8.2.2.2.2 100 r12 e8.2.2.2.1).bind fun v13 =>
  (some (v11 - v13)).bind fun x14 =>
  (qmd_common n zK0 e8.2.2.2.2 x9 x14).bind fun v15 =>
  (zdv x9 v15).bind fun v16 =>
  (zpf zK0 e8.2.2.2.2 12 49 60 21 v16).bind fun M17 =>
  (zdv x14 v15).bind fun v18 =>
  (zpf zK0 M17 12 49 60 22 v18).bind fun M19 =>
  (zpf zK0 M19 12 49 60 23 e8.2.2.1).bind fun M20 =>
  some (1, M20)) = some (y, Q) ∧ zsa M P ∧ zsa M Q ∧ ((x = 0 ∧ y = 0) ∨ (x = 1 ∧ y = 1 ∧ P 24 4 = Q 60 21 ∧ P 24 5 = Q 60 22 ∧ P 24 6 = Q 60 23 ∧ 1 ≤ P 24 4 ∧ P 24 4 ≤ 16128 ∧ 1 ≤ P 24 5 ∧ P 24 5 ≤ 98304)) := by
    rintro F H s0 t0 ⟨⟨x, P⟩, y, e1, e2, e3⟩
    rcases e3 with ⟨rfl, e4, E, rfl, e5⟩ | ⟨rfl, e4, r, k, t, c, E, A, D, rfl, e5, e6, e7, e8, e9, e10, e11, e12, e13, e14, e15, e16⟩
    · exact ⟨0, P, 0, E, e1, by rw [e2]; rfl, e4, e5, Or.inl ⟨rfl, rfl⟩⟩
    · dsimp only at e4 e14 e15 e16
      have x1 := zdg (x := A) (by omega) (Nat.gcd_dvd_left A.toNat D.toNat)
      have x2 := zdg (x := D) (by omega) (Nat.gcd_dvd_right A.toNat D.toNat)
      have gm := md_gcd (M := E) (n := n) (x := A) (y := D) hn (by omega) (by omega) (by omega) (by omega)
      obtain ⟨g, hg⟩ : ∃ g, (Nat.gcd A.toNat D.toNat : Int) = g := ⟨_, rfl⟩
      rw [hg] at x1 x2 gm e14 e15
      have p20 : zgr zK0 E 12 49 60 20 = some 72 := by have := (I.keep e5).g; unfold zPt at this; simp only [this]
      refine ⟨1, P, 1, zu (zu (zu E 60 21 (A / g)) 60 22 (D / g)) 60 23 ((r : Int) + 1), e1, ?_, e4, ((e5.up rfl).up rfl).up rfl, Or.inr ⟨rfl, rfl, ?_, ?_, ?_, by omega, by omega, by omega, by omega⟩⟩
      · rw [e2]
        unfold zesc
        dsimp only
        rw [show (r : Int) + 1 - ((k : Int) + 1) = (r : Int) - k by omega, ← e8, Option.bind_some, p20, Option.bind_some, zga_ok (N := 65) rfl (by decide) (by omega) (by omega), Option.bind_some, Option.bind_some, zga_ok (N := 65) rfl (by decide) (by omega) (by omega), Option.bind_some, Option.bind_some, e13, gm, Option.bind_some, zdv_ok (by omega) (by omega) (by omega) (by omega), Option.bind_some, zpf_ok rfl, Option.bind_some, zdv_ok (by omega) (by omega) (by omega) (by omega), Option.bind_some, zpf_ok rfl, Option.bind_some, zpf_ok rfl, Option.bind_some]
      · rw [zu_m (by decide), zu_m (by decide), zu_e, e14]
      · rw [zu_m (by decide), zu_e, e15]
      · rw [zu_e, e16]
  have jr := j_round (p := p) (N := N) (β := fun k => zadr M (a + (k : Int) * s)) hn I hT a0 a1 s0 s1 (by omega) (by omega) (by omega) (by omega) (fun k => rfl) (fun k => zperi hN (s / G) hps k) (fun c => zmodn hN c)
  rw [zgk_ok (r := 2) (ci := 2) (N := 7) rfl, zgk_ok (r := 60) (ci := 12) (N := 49) rfl] at jr
  exact key _ _ _ _ jr
