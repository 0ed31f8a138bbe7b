theorem zAk {f g : Int → Int} {m : Int} (m0 : 1 ≤ m) (m1 : m ≤ 17) (hf : ∀ j, 0 ≤ f j ∧ f j < 16) (hg : ∀ j, 0 ≤ g j ∧ g j < 16) (zf0 : ∀ j, m ≤ j → f j = 0) (zg0 : ∀ j, m ≤ j → g j = 0) : (zpc f (zm16 m).toNat = zpc g (zm16 m).toNat ∧ (if m = 17 then f 16 else 0) = (if m = 17 then g 16 else 0)) ↔ ∀ j, 0 ≤ j → j < 17 → f j = g j := by
  have hm : (zm16 m).toNat ≤ 16 := by unfold zm16; split <;> omega
  constructor
  · rintro ⟨h1, h2⟩ j j0 j1
    by_cases c : m ≤ j
    · rw [zf0 j c, zg0 j c]
    · by_cases d : j < 16
      · have := zpc_inj hm (fun u _ => hf u) (fun u _ => hg u) h1 j.toNat (by unfold zm16; split <;> omega)
        rw [show ((j.toNat : Nat) : Int) = j by omega] at this
        exact this
      · have e : j = 16 := by omega
        subst e
        rw [if_pos (by omega), if_pos (by omega)] at h2
        exact h2
  · intro h
    refine ⟨zpc_cg (fun u hu => h u (by omega) (by omega)), ?_⟩
    rw [h 16 (by omega) (by omega)]
theorem j_find {P Q : zM} {n r : Nat} {m : Int} {L : Nat → Int → Int} {α : Type} (X : Int → α) (hn : 1000000 ≤ n) (gP : zPt P) (gQ : zPt Q) (r1 : r < 64) (m0 : 1 ≤ m) (m1 : m ≤ 17) (hL : ∀ k j, 0 ≤ L k j ∧ L k j < 16) (hz : ∀ k j, m ≤ j → L k j = 0) (hP : ∀ k : Nat, k ≤ r → P 26 k = zpc (L k) (zm16 m).toNat ∧ P 27 k = (if m = 17 then L k 16 else 0)) (hQ : ∀ k : Nat, k ≤ r → ∀ j, 0 ≤ j → j < 17 → Q 71 (17 * ((k : Int) + 1) + j) = L k j) : ∃ x y, qra_earlierLike n zK0 P 24 r = some x ∧ zwh (σ := Int) (ρ := Int ⊕ α) (fun s27 =>
        if zw ((r : Int) + 1) ≤ zw s27 then
          some (.inr (.inl s27))
        else
          (zgk zK0 60 12 49).bind fun _ => (qmd_areAlike n zK0 Q 60 s27 ((r : Int) + 1)).bind fun v29 =>
          if zw v29 = 0 then
            some (.inl (s27 + 1))
          else
            some (.inr (.inr (X s27)))) n 1 = some y ∧ ((x = -1 ∧ y = .inl ((r : Int) + 1) ∧ ∀ k : Nat, k < r → ¬ ∀ j, 0 ≤ j → j < 17 → L k j = L r j) ∨ ∃ k : Nat, k < r ∧ x = k ∧ y = .inr (X ((k : Int) + 1)) ∧ ∀ j, 0 ≤ j → j < 17 → L k j = L r j) := by
  unfold qra_earlierLike
  have f1 : zgr zK0 P 4 7 24 1 = some 26 := by unfold zPt at gP; simp only [gP]
  have f2 : zgr zK0 P 4 7 24 2 = some 27 := by unfold zPt at gP; simp only [gP]
  refine zwh2 (n := n) (R := fun (s t : Int) => ∃ k : Nat, s = k ∧ t = (k : Int) + 1 ∧ k ≤ r ∧ ∀ i : Nat, i < k → ¬ ∀ j, 0 ≤ j → j < 17 → L i j = L r j) (fun s => ((r : Int) - s).toNat) _ ?_ _ _ ⟨0, by simp, by simp, by omega, fun i hi => by omega⟩ (by simp; omega)
  rintro s t ⟨k, rfl, rfl, k1, k2⟩
  rw [zw_id (x := (r : Int)) (by omega) (by omega), zw_id (x := (k : Int)) (by omega) (by omega), zw_id (x := (r : Int) + 1) (by omega) (by omega), zw_id (x := (k : Int) + 1) (by omega) (by omega)]
  by_cases c : (r : Int) ≤ (k : Int)
  · right
    rw [if_pos c, if_pos (by omega)]
    have : k = r := by omega
    subst this
    exact ⟨_, _, rfl, rfl, Or.inl ⟨rfl, rfl, k2⟩⟩
  · rw [if_neg c, if_neg (by omega)]
    obtain ⟨v, e1, e2, e3⟩ := m_alike (i := (k : Int) + 1) (r := (r : Int) + 1) hn gQ (by omega) (by omega) (by omega) (by omega) (by
      intro i j _ _ j0 j1 hi
      unfold zrg
      rcases hi with rfl | rfl
      · rw [hQ k k1 j j0 j1]; have := hL k j; omega
      · rw [hQ r (by omega) j j0 j1]; have := hL r j; omega)
    have e4 : v = 1 ↔ ∀ j, 0 ≤ j → j < 17 → L k j = L r j := by
      rw [e3]
      constructor
      · intro h j j0 j1
        have := h j j0 j1
        rw [hQ k k1 j j0 j1, hQ r (by omega) j j0 j1] at this
        exact this
      · intro h j j0 j1
        rw [hQ k k1 j j0 j1, hQ r (by omega) j j0 j1]
        exact h j j0 j1
    have e5 := zAk (f := L k) (g := L r) m0 m1 (hL k) (hL r) (hz k) (hz r)
    obtain ⟨p1, p2⟩ := hP k k1
    obtain ⟨p3, p4⟩ := hP r (by omega)
    have v1 : zrg (if m = 17 then L k 16 else 0) := by unfold zrg; have := hL k 16; split <;> omega
    have v2 : zrg (if m = 17 then L r 16 else 0) := by unfold zrg; have := hL r 16; split <;> omega
    rw [f1, Option.bind_some, zga_ok (N := 64) rfl (by decide) (by omega) (by omega), Option.bind_some, Option.bind_some, zga_ok (N := 64) rfl (by decide) (by omega) (by omega), Option.bind_some, f2, Option.bind_some, zga_ok (N := 64) rfl (by decide) (by omega) (by omega), Option.bind_some, Option.bind_some, zga_ok (N := 64) rfl (by decide) (by omega) (by omega), Option.bind_some, zgk_ok rfl, Option.bind_some, e1, Option.bind_some, p1, p2, p3, p4]
    have zc := zlcmp_0 (zpc (L k) (zm16 m).toNat) (zpc (L r) (zm16 m).toNat)
    rw [zpc_rg, zpc_rg] at zc
    rw [zw_id v1.1 v1.2, zw_id v2.1 v2.2]
    by_cases d : ∀ j, 0 ≤ j → j < 17 → L k j = L r j
    · right
      have hv := e4.2 d
      obtain ⟨d1, d2⟩ := e5.2 d
      subst hv
      rw [if_pos (zc.2 d1), if_pos d2, zwl.2.2.2.2.2.2.2.1, if_neg (by decide)]
      exact ⟨_, _, rfl, rfl, Or.inr ⟨k, by omega, rfl, rfl, d⟩⟩
    · left
      have hv : v = 0 := by
        rcases e2 with q | q
        · exact q
        · exact absurd (e4.1 q) d
      subst hv
      rw [zwl.2.2.2.2.2.2.1, if_pos rfl]
      refine ⟨(k : Int) + 1, (k : Int) + 1 + 1, ?_, rfl, ⟨k + 1, by omega, by omega, by omega, fun i hi => ?_⟩, by omega⟩
      · by_cases d1 : zpc (L k) (zm16 m).toNat = zpc (L r) (zm16 m).toNat
        · rw [if_pos (zc.2 d1), if_neg (fun d2 => d (e5.1 ⟨d1, d2⟩))]; rfl
        · rw [if_neg (fun q => d1 (zc.1 q))]; rfl
      · by_cases f : i = k
        · rw [f]; exact d
        · exact k2 i (by omega)
theorem zdg {x : Int} {g : Nat} (x0 : 1 ≤ x) (hg : g ∣ x.toNat) : 1 ≤ (g : Int) ∧ (g : Int) ≤ x ∧ 1 ≤ x / g ∧ x / g ≤ x := by
  have g0 : 0 < g := Nat.pos_of_dvd_of_pos hg (by omega)
  have g1 : g ≤ x.toNat := Nat.le_of_dvd (by omega) hg
  refine ⟨by omega, by omega, ?_, Int.ediv_le_self _ (by omega)⟩
  exact Int.le_ediv_of_mul_le (by omega) (by omega)
theorem c_settle {P : zM} {n : Nat} {r k p A D : Int} (hn : 1000000 ≤ n) (g : zPt P) (r0 : 0 ≤ r) (r1 : r < 64) (k0 : 0 ≤ k) (k1 : k < 64) (hA : (r - k) * p = A) (hD : P 28 r - P 28 k = D) (A0 : 1 ≤ A) (A1 : A ≤ 16128) (D0 : 1 ≤ D) (D1 : D ≤ 300000) : qra_settle n zK0 P 24 r k p = some (zu (zu (zu P 24 4 (A / (Nat.gcd A.toNat D.toNat : Int))) 24 5 (D / (Nat.gcd A.toNat D.toNat : Int))) 24 6 (r + 1)) := by
  unfold zPt at g
  have q1 := zdg A0 (Nat.gcd_dvd_left A.toNat D.toNat)
  have q2 := zdg D0 (Nat.gcd_dvd_right A.toNat D.toNat)
  unfold qra_settle
  simp (disch := omega) only [Option.bind_some, zPf, zPa, zgr_u, zgr_fl, g, hA, hD]
  rw [cl_gcd hn A0 (by omega) (by omega) (by omega), Option.bind_some]
  obtain ⟨G, hG⟩ : ∃ G, (Nat.gcd A.toNat D.toNat : Int) = G := ⟨_, rfl⟩
  rw [hG] at q1 q2 ⊢
  have e : zmax 1 G = G := by
    rw [zmax_ok (by omega) (by omega) (by omega) (by omega)]
    split <;> omega
  rw [e, zdv_ok (by omega) (by omega) (by omega) (by omega), Option.bind_some, zdv_ok (by omega) (by omega) (by omega) (by omega)]
  rfl
