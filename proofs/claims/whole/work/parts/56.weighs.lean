/-- how the weighing of the laws of m banks stands before the x-th -/
def zWg (M : zM) (k m : Int) (P : zM) (x : Int) : Prop := zsa M P ∧ P 4 0 = M 2 0 ∧ P 4 1 = M 2 1 ∧ P 15 0 = zcn (zgr1 M k m) x.toNat ∧ (0 < zcn (zgr1 M k m) x.toNat → P 15 1 = zfi (zgr1 M k m) (fun c => c) x.toNat / m ∧ P 15 2 = zfi (zgr1 M k m) (fun c => c) x.toNat % m)
theorem c_weigh1 {M P : zM} {n : Nat} {k m a b : Int} (hn : 1000000 ≤ n) (I : Iv M) (k0 : 0 ≤ k) (k1 : k ≤ 1) (m0 : 1 ≤ m) (m1 : m ≤ 17) (a0 : 0 ≤ a) (a1 : a < m) (b0 : 0 ≤ b) (b1 : b < m) (h : zWg M k m P (a * m + b)) : ∃ P', ((zgk zK0 4 2 7).bind fun _ => (qla_takeLaw zK0 P 4 k a b m).bind fun M4 =>
          (zgk zK0 7 10 2).bind fun _ => (qwi_allGrantedBy n zK0 M4 7 4).bind fun v5 =>
          (if zw v5 = 0 then
            some M4
          else
            (zgf zK0 M4 1 3 15 0).bind fun v7 =>
            (if zw v7 = 0 then
              (zpf zK0 M4 1 3 15 1 a).bind fun M11 =>
              (zpf zK0 M11 1 3 15 2 b).bind fun M12 =>
              some M12
            else
              some M4 : Option (zM)).bind fun j8 =>
            (zgf zK0 j8 1 3 15 0).bind fun v9 =>
            (zpf zK0 j8 1 3 15 0 (v9 + 1)).bind fun M10 =>
            some M10 : Option (zM)).bind fun j6 =>
          some (Sum.inl (b + 1, j6) : (Int × zM) ⊕ (Int × zM))) = some (.inl (b + 1, P')) ∧ zWg M k m P' (a * m + (b + 1)) := by
  obtain ⟨h1, h2, h3, h4, h5⟩ := h
  have hx := zlin (R := m) (C := m) a0 a1 b0 b1
  have ij := zij (i := a) b0 b1
  have cr := zcn_rg (zgr1 M k m) (a * m + b).toNat
  have e1 := zcn_s (P := zgr1 M k m) hx.1
  have e2 := zfi_s (P := zgr1 M k m) (g := fun c => c) hx.1
  have cf := zcf (zgr1 M k m) (a * m + b).toNat
  have mm : m * m ≤ 17 * 17 := Int.mul_le_mul m1 m1 (by omega) (by omega)
  unfold qla_takeLaw
  simp only [zPf, Option.bind_some]
  rw [c_all (M := M) (k := k) (m := m) (x := a * m + b) hn I ((((h1.up rfl).up rfl).up rfl).up rfl) k0 k1 m0 m1 hx.1 hx.2 (by rw [zu_m (by decide), zu_m (by decide), zu_m (by decide), zu_m (by decide), h2]) (by rw [zu_m (by decide), zu_m (by decide), zu_m (by decide), zu_m (by decide), h3]) (by rw [zu_e]) (by rw [zu_m (by decide), zu_m (by decide), zu_m (by decide), zu_e]) (by rw [zu_m (by decide), zu_m (by decide), zu_e, ij.1]) (by rw [zu_m (by decide), zu_e, ij.2]), Option.bind_some]
  have q1 : zu (zu (zu (zu P 4 3 k) 4 4 a) 4 5 b) 4 2 m 15 0 = zcn (zgr1 M k m) (a * m + b).toNat := by
    rw [zu_n (by decide), zu_n (by decide), zu_n (by decide), zu_n (by decide), h4]
  have q2 : ∀ i, zu (zu (zu (zu P 4 3 k) 4 4 a) 4 5 b) 4 2 m 15 i = P 15 i := fun i => by
    rw [zu_n (by decide), zu_n (by decide), zu_n (by decide), zu_n (by decide)]
  have q3 : zu (zu (zu (zu P 4 3 k) 4 4 a) 4 5 b) 4 2 m 4 0 = M 2 0 := by rw [zu_m (by decide), zu_m (by decide), zu_m (by decide), zu_m (by decide), h2]
  have q4 : zu (zu (zu (zu P 4 3 k) 4 4 a) 4 5 b) 4 2 m 4 1 = M 2 1 := by rw [zu_m (by decide), zu_m (by decide), zu_m (by decide), zu_m (by decide), h3]
  have q5 : zsa M (zu (zu (zu (zu P 4 3 k) 4 4 a) 4 5 b) 4 2 m) := (((h1.up rfl).up rfl).up rfl).up rfl
  obtain ⟨P1, hP1⟩ : ∃ P1, zu (zu (zu (zu P 4 3 k) 4 4 a) 4 5 b) 4 2 m = P1 := ⟨_, rfl⟩
  rw [hP1] at q1 q2 q3 q4 q5 ⊢
  rw [← Int.add_assoc]
  by_cases g : zgr1 M k m (a * m + b) = true
  · rw [g, if_pos rfl, if_neg (by decide), q1]
    rw [g, if_pos rfl] at e1
    rw [zw_id (x := zcn (zgr1 M k m) (a * m + b).toNat) (by omega) (by omega)]
    by_cases z : zcn (zgr1 M k m) (a * m + b).toNat = 0
    · rw [if_pos z]
      simp only [Option.bind_some]
      refine ⟨_, rfl, (((q5.up rfl).up rfl).up rfl), ?_, ?_, ?_, fun _ => ?_⟩
      · rw [zu_n (by decide), zu_n (by decide), zu_n (by decide), q3]
      · rw [zu_n (by decide), zu_n (by decide), zu_n (by decide), q4]
      · rw [zu_e, zu_m (by decide), zu_m (by decide), q1, e1]
      · rw [if_pos g] at e2
        rw [zu_m (by decide), zu_m (by decide), zu_e, zu_m (by decide), zu_e, e2, if_pos (by omega), ij.1, ij.2]
        exact ⟨rfl, rfl⟩
    · rw [if_neg z]
      simp only [Option.bind_some]
      refine ⟨_, rfl, q5.up rfl, ?_, ?_, ?_, fun _ => ?_⟩
      · rw [zu_n (by decide), q3]
      · rw [zu_n (by decide), q4]
      · rw [zu_e, q1, e1]
      · rw [zu_m (by decide), zu_m (by decide), q2, q2, e2, if_neg (by omega)]
        exact h5 (by omega)
  · have g' : zgr1 M k m (a * m + b) = false := by simpa using g
    rw [g'] at e1 e2
    rw [g', if_pos (by decide)]
    simp only [Option.bind_some]
    rw [if_neg (by decide), Int.add_zero] at e1
    refine ⟨_, rfl, q5, q3, q4, ?_, fun z => ?_⟩
    · rw [q1, e1]
    · rw [e1] at z
      rw [q2, q2, e2, if_neg (show ¬ zfi (zgr1 M k m) (fun c => c) (a * m + b).toNat = -4 by omega)]
      exact h5 z
theorem c_weigh {M P0 : zM} {n : Nat} {k m : Int} (hn : 1000000 ≤ n) (I : Iv M) (k0 : 0 ≤ k) (k1 : k ≤ 1) (m0 : 1 ≤ m) (m1 : m ≤ 17) (h : zWg M k m P0 0) : ∃ P, qsl_weighAll n zK0 P0 15 4 k m 7 = some P ∧ zWg M k m P (m * m) := by
  unfold qsl_weighAll
  refine zwh_inv (fun s => 0 ≤ s.1 ∧ s.1 ≤ m ∧ zWg M k m s.2 (s.1 * m)) (fun s => (m - s.1).toNat) _ ?_ n _ ⟨by simp, by simp; omega, by simpa using h⟩ (by simp; omega)
  rintro ⟨a, P⟩ ⟨a0, a1, hP⟩
  dsimp only at a0 a1 hP ⊢
  rw [zw_id (x := m) (by omega) (by omega), zw_id (x := a) (by omega) (by omega)]
  by_cases c : m ≤ a
  · right
    rw [if_pos c]
    have : a = m := by omega
    subst this
    exact ⟨_, rfl, hP⟩
  · left
    rw [if_neg c]
    have inner : ∀ F : Int × zM → Option ((Int × zM) ⊕ (Int × zM)), (∀ b P, 0 ≤ b → b < m → zWg M k m P (a * m + b) → ∃ P', F (b, P) = some (.inl (b + 1, P')) ∧ zWg M k m P' (a * m + (b + 1))) → (∀ P, F (m, P) = some (.inr (m, P))) → ∃ P', zwh F n (0, P) = some (m, P') ∧ zWg M k m P' (a * m + m) := by
      intro F f1 f2
      obtain ⟨⟨r1, r2⟩, e1, e2, e3⟩ := zwh_inv (f := F) (fun s => 0 ≤ s.1 ∧ s.1 ≤ m ∧ zWg M k m s.2 (a * m + s.1)) (fun s => (m - s.1).toNat) (fun r => r.1 = m ∧ zWg M k m r.2 (a * m + m)) (by
        rintro ⟨b, P⟩ ⟨b0, b1, hb⟩
        dsimp only at b0 b1 hb ⊢
        by_cases d : b < m
        · left
          obtain ⟨P', g1, g2⟩ := f1 b P b0 d hb
          exact ⟨_, g1, ⟨by dsimp only; omega, by dsimp only; omega, g2⟩, by dsimp only; omega⟩
        · right
          have : b = m := by omega
          subst this
          exact ⟨_, f2 P, rfl, hb⟩) n (0, P) ⟨by simp, by simp; omega, by simpa using hP⟩ (by simp; omega)
      dsimp only at e2 e3
      subst e2
      exact ⟨_, e1, e3⟩
    have key : ∀ F : Int × zM → Option ((Int × zM) ⊕ (Int × zM)), (∃ P', zwh F n (0, P) = some (m, P') ∧ zWg M k m P' (a * m + m)) → ∃ s' : Int × zM, ((zwh F n (0, P)).bind fun e3 => some (Sum.inl (a + 1, e3.2) : (Int × zM) ⊕ zM)) = some (.inl s') ∧ (0 ≤ s'.1 ∧ s'.1 ≤ m ∧ zWg M k m s'.2 (s'.1 * m)) ∧ (m - s'.1).toNat < (m - a).toNat := by
      rintro F ⟨P', e1, e2⟩
      rw [e1]
      refine ⟨_, rfl, ⟨by dsimp only; omega, by dsimp only; omega, ?_⟩, by dsimp only; omega⟩
      dsimp only
      rw [Int.add_mul, Int.one_mul]
      exact e2
    refine key _ (inner _ ?_ ?_)
    · intro b P b0 b1 hb
      dsimp only
      rw [zw_id (x := b) (by omega) (by omega), if_neg (by omega)]
      exact c_weigh1 hn I k0 k1 m0 m1 a0 (by omega) b0 b1 hb
    · intro P
      dsimp only
      rw [zw_id (x := m) (by omega) (by omega), if_pos (by omega)]
theorem m_weigh {M Q : zM} {n : Nat} {k m : Int} (hn : 1000000 ≤ n) (I : Iv M) (hQ : zsa M Q) (k0 : 0 ≤ k) (k1 : k ≤ 1) (m0 : 1 ≤ m) (m1 : m ≤ 17) (hb : zlc0 M ≤ m) : ∃ f Q', (zwh (σ := Int × Int × Int × zM) (ρ := Int × Int × Int × zM) (fun s7 =>
            if zw (m * m) ≤ zw s7.2.2.1 then
              some (.inr (s7.1, s7.2.1, s7.2.2.1, s7.2.2.2))
            else
              (zgk zK0 60 12 49).bind fun _ => (qmd_bound n zK0 s7.2.2.2 60).bind fun v9 =>
              if zw m < zw v9 then
                some (.inr (s7.1, s7.2.1, s7.2.2.1, s7.2.2.2))
              else
                (zdv s7.2.2.1 m).bind fun v10 =>
                (zrm s7.2.2.1 m).bind fun v11 =>
                (zgk zK0 60 12 49).bind fun _ => (qmd_lays n zK0 s7.2.2.2 60 k v10 v11 m).bind fun M12 =>
                (zgk zK0 60 12 49).bind fun _ => (qmd_grantsAll n zK0 M12 60).bind fun v13 =>
                (if zw v13 = 0 then
                  some (s7.1, s7.2.1)
                else
                  (if zw s7.1 = 0 then
                    some s7.2.2.1
                  else
                    some s7.2.1 : Option (Int)).bind fun j15 =>
                  some (s7.1 + 1, j15) : Option (Int × Int)).bind fun j14 =>
                some (.inl (j14.1, j14.2, s7.2.2.1 + 1, M12))) n (0, 0, 0, Q)) = some (zcn (zgr1 M k m) (m * m).toNat, f, m * m, Q') ∧ zsa M Q' ∧ (0 < zcn (zgr1 M k m) (m * m).toNat → f = zfi (zgr1 M k m) (fun c => c) (m * m).toNat) := by
  have mm : m * m ≤ 17 * 17 := Int.mul_le_mul m1 m1 (by omega) (by omega)
  have mm0 : 1 * 1 ≤ m * m := Int.mul_le_mul m0 m0 (by omega) (by omega)
  have key : ∀ F : Int × Int × Int × zM → Option ((Int × Int × Int × zM) ⊕ (Int × Int × Int × zM)), (∃ r, zwh F n (0, 0, 0, Q) = some r ∧ r.1 = zcn (zgr1 M k m) (m * m).toNat ∧ r.2.2.1 = m * m ∧ zsa M r.2.2.2 ∧ (0 < zcn (zgr1 M k m) (m * m).toNat → r.2.1 = zfi (zgr1 M k m) (fun c => c) (m * m).toNat)) → ∃ f Q', zwh F n (0, 0, 0, Q) = some (zcn (zgr1 M k m) (m * m).toNat, f, m * m, Q') ∧ zsa M Q' ∧ (0 < zcn (zgr1 M k m) (m * m).toNat → f = zfi (zgr1 M k m) (fun c => c) (m * m).toNat) := by
    rintro F ⟨⟨r1, r2, r3, r4⟩, e1, e2, e3, e4, e5⟩
    dsimp only at e2 e3 e4 e5
    subst e2 e3
    exact ⟨_, _, e1, e4, e5⟩
  refine key _ (zwh_inv (fun s => 0 ≤ s.2.2.1 ∧ s.2.2.1 ≤ m * m ∧ s.1 = zcn (zgr1 M k m) s.2.2.1.toNat ∧ zsa M s.2.2.2 ∧ (0 < zcn (zgr1 M k m) s.2.2.1.toNat → s.2.1 = zfi (zgr1 M k m) (fun c => c) s.2.2.1.toNat)) (fun s => (m * m - s.2.2.1).toNat) _ ?_ n _ ⟨by simp, by simp; omega, rfl, hQ, fun h => by simp [zcn] at h⟩ (by dsimp only; omega))
  rintro ⟨cn, f, x, E⟩ ⟨x0, x1, h1, h2, h3⟩
  dsimp only at x0 x1 h1 h2 h3 ⊢
  rw [zw_id (x := m * m) (by omega) (by omega), zw_id (x := x) (by omega) (by omega)]
  by_cases c : m * m ≤ x
  · right
    rw [if_pos c]
    have : x = m * m := by omega
    rw [this] at h1 h3 ⊢
    exact ⟨_, rfl, h1, rfl, h2, h3⟩
  · left
    obtain ⟨d1, d2, d3, d4, d5⟩ := zdm (c := x) (R := m) (C := m) m0 x0 (by omega)
    have IE := I.keep h2
    have hbv := bd_val hn IE
    rw [zlc0_cg I h2] at hbv
    have hS' := IE.1
    unfold zSR at hS'
    have ht := IE.2.1
    unfold IvT at ht
    have hl := mlays (M := E) (k := k) (a := x / m) (b := x % m) (N := m) hn ⟨k0, by omega, d1, by omega, d3, by omega, m0, m1⟩ (by simp [hS']) (by simp [hS']) (by omega) (by omega) (by omega) (by omega) (fun x x0 x1 => (ht.2.2.2.2.2.2.2.2.2.2.2.2.2.2.2.2.2.2 x x0 x1).1)
    rw [if_neg c, zgk_ok (r := 60) (ci := 12) (N := 49) rfl, Option.bind_some, hbv.2.1, Option.bind_some, zw_id (x := m) (by omega) (by omega), zw_id (x := zlc0 M) (by omega) (by omega), if_neg (by omega), zdv_ok x0 (by omega) (by omega) (by omega), Option.bind_some, zrm_ok x0 (by omega) (by omega) (by omega), Option.bind_some, Option.bind_some, hl, Option.bind_some, Option.bind_some]
    have h2' : zsa M (zly E k (x / m) (x % m) m (E 60 1) (E 60 0) 0) := by
      intro c i hc
      rw [zly_ne (fun e => by rw [e] at hc; cases hc)]
      exact h2 c i hc
    have e3 : E 3 = M 3 := funext fun i => h2 3 i rfl
    rw [m_all (M := M) (k := k) (m := m) (x := x) hn I h2' (fun i j i0 i1 j0 j1 => by
      rw [zly_at i0 (by rw [ht.2.2.2.2.2.2.2.2.2.2.2.2.1, h2 2 0 rfl]; exact i1) j0 (by rw [ht.2.2.2.2.2.2.2.2.2.2.2.2.2.1, h2 2 1 rfl]; exact j1) (by omega), e3]), Option.bind_some]
    have e1 := zcn_s (P := zgr1 M k m) x0
    have e2 := zfi_s (P := zgr1 M k m) (g := fun c => c) x0
    have cr := zcn_rg (zgr1 M k m) x.toNat
    have cf := zcf (zgr1 M k m) x.toNat
    by_cases g : zgr1 M k m x = true
    · rw [g, if_pos rfl] at e1
      rw [g, if_pos rfl] at e2
      rw [g, if_pos rfl, if_neg (by decide), zw_id (x := cn) (by omega) (by omega)]
      by_cases z : cn = 0
      · rw [if_pos z]
        simp only [Option.bind_some]
        exact ⟨_, rfl, ⟨by dsimp only; omega, by dsimp only; omega, by dsimp only; rw [e1, h1], h2', fun _ => by dsimp only; rw [e2, if_pos (by omega)]⟩, by dsimp only; omega⟩
      · rw [if_neg z]
        simp only [Option.bind_some]
        exact ⟨_, rfl, ⟨by dsimp only; omega, by dsimp only; omega, by dsimp only; rw [e1, h1], h2', fun _ => by dsimp only; rw [e2, if_neg (by omega)]; exact h3 (by omega)⟩, by dsimp only; omega⟩
    · have g' : zgr1 M k m x = false := by simpa using g
      rw [g', if_neg (by decide), Int.add_zero] at e1
      rw [g'] at e2
      rw [g', if_pos (by decide)]
      simp only [Option.bind_some]
      refine ⟨_, rfl, ⟨by dsimp only; omega, by dsimp only; omega, by dsimp only; rw [e1, h1], h2', fun z => ?_⟩, by dsimp only; omega⟩
      dsimp only at z ⊢
      rw [e1] at z
      rw [e2, if_neg (show ¬ zfi (zgr1 M k m) (fun c => c) x.toNat = -4 by omega)]
      exact h3 z
theorem m_weigh0 {M Q : zM} {n : Nat} {k m : Int} (hn : 1000000 ≤ n) (I : Iv M) (hQ : zsa M Q) (m0 : 1 ≤ m) (m1 : m ≤ 17) (hb : m < zlc0 M) : (zwh (σ := Int × Int × Int × zM) (ρ := Int × Int × Int × zM) (fun s7 =>
            if zw (m * m) ≤ zw s7.2.2.1 then
              some (.inr (s7.1, s7.2.1, s7.2.2.1, s7.2.2.2))
            else
              (zgk zK0 60 12 49).bind fun _ => (qmd_bound n zK0 s7.2.2.2 60).bind fun v9 =>
              if zw m < zw v9 then
                some (.inr (s7.1, s7.2.1, s7.2.2.1, s7.2.2.2))
              else
                (zdv s7.2.2.1 m).bind fun v10 =>
                (zrm s7.2.2.1 m).bind fun v11 =>
                (zgk zK0 60 12 49).bind fun _ => (qmd_lays n zK0 s7.2.2.2 60 k v10 v11 m).bind fun M12 =>
                (zgk zK0 60 12 49).bind fun _ => (qmd_grantsAll n zK0 M12 60).bind fun v13 =>
                (if zw v13 = 0 then
                  some (s7.1, s7.2.1)
                else
                  (if zw s7.1 = 0 then
                    some s7.2.2.1
                  else
                    some s7.2.1 : Option (Int)).bind fun j15 =>
                  some (s7.1 + 1, j15) : Option (Int × Int)).bind fun j14 =>
                some (.inl (j14.1, j14.2, s7.2.2.1 + 1, M12))) n (0, 0, 0, Q)) = some (0, 0, 0, Q) := by
  have mm : m * m ≤ 17 * 17 := Int.mul_le_mul m1 m1 (by omega) (by omega)
  have mm0 : 1 * 1 ≤ m * m := Int.mul_le_mul m0 m0 (by omega) (by omega)
  refine zwh_eq (fun s => s = (0, 0, 0, Q)) (fun _ => 0) ?_ n _ rfl (by omega)
  rintro s rfl
  right
  dsimp only
  have hbv := bd_val hn (I.keep hQ)
  rw [zlc0_cg I hQ] at hbv
  rw [zw_id (x := m * m) (by omega) (by omega), zw_id (x := 0) (by decide) (by decide), if_neg (by omega), zgk_ok rfl, Option.bind_some, hbv.2.1, Option.bind_some, zw_id (x := m) (by omega) (by omega), zw_id (x := zlc0 M) (by omega) (by omega), if_pos hb]
