/-- at the p-th place the shape does not lie, or lies free -/
def zgG (M : zM) (l k m d p : Int) : Bool := (!decide (zft (M l 0) (M l 1) k m d (p / M l 1) (p % M l 1))) || zok (fun u => zBv (M l 3) (M l 4) (M l 5) (M l 2) (M 3) (p / M l 1 + zrd k d u) (p % M l 1 + zcx k d u)) (zsz k m d).toNat
theorem zgG_ij {M : zM} {l k m d i j : Int} (j0 : 0 ≤ j) (j1 : j < M l 1) : zgG M l k m d (i * M l 1 + j) = ((!decide (zft (M l 0) (M l 1) k m d i j)) || zok (fun u => zBv (M l 3) (M l 4) (M l 5) (M l 2) (M 3) (i + zrd k d u) (j + zcx k d u)) (zsz k m d).toNat) := by
  unfold zgG
  rw [(zij j0 j1).1, (zij j0 j1).2]
theorem sh_granted {M : zM} {n : Nat} {s l : Int} (hn : 1000000 ≤ n) (hl : zLa M l) (h : zsM M s) : qsh_isGrantedBy n zK0 M s l = some (if zal (zgG M l (M s 0) (M s 1) (M s 2)) (M l 0 * M l 1).toNat then 1 else 0) := by
  have hgij := fun {i j : Int} => zgG_ij (M := M) (l := l) (k := M s 0) (m := M s 1) (d := M s 2) (i := i) (j := j)
  have hfit := fun {i j : Int} => sh_fits (M := M) (i := i) (j := j) h hl
  have hcl := fun {i j : Int} => sh_clash (M := M) (n := n) (i := i) (j := j) hn hl h
  obtain ⟨G, hG⟩ : ∃ G, zgG M l (M s 0) (M s 1) (M s 2) = G := ⟨_, rfl⟩
  rw [hG] at hgij ⊢
  have hlin := fun {i j : Int} => zlin (R := M l 0) (C := M l 1) (i := i) (j := j)
  obtain ⟨l1, l2, l3, l4, l5, l6, l7, l8⟩ := hl
  have l3' := l3
  unfold zlw at l3'
  unfold qsh_isGrantedBy
  refine zwh_eq (fun i => 0 ≤ i ∧ i ≤ M l 0 ∧ zal G (i * M l 1).toNat = true) (fun i => (M l 0 - i).toNat) ?_ n _ ⟨by omega, by omega, by simp [zal]⟩ (by omega)
  intro i ⟨i0, i1, hi⟩
  try dsimp only
  rw [zgf_ok l1, Option.bind_some, zw_id (by omega) (by omega), zw_id (x := i) (by omega) (by omega)]
  by_cases c : M l 0 ≤ i
  · right
    rw [if_pos c, ← show i = M l 0 by omega, hi]
    rfl
  · rw [if_neg c]
    have inner : ∀ f : Int → Option (Int ⊕ (Int ⊕ (Int ⊕ Int))), (∀ j, 0 ≤ j → j ≤ M l 1 → zal G (i * M l 1 + j).toNat = true → ((∃ j', f j = some (.inl j') ∧ j' = j + 1 ∧ j + 1 ≤ M l 1 ∧ zal G (i * M l 1 + (j + 1)).toNat = true) ∨ (f j = some (.inr (.inl j)) ∧ j = M l 1) ∨ f j = some (.inr (.inr (.inr (if zal G (M l 0 * M l 1).toNat then 1 else 0)))))) → zwh f n 0 = some (.inl (M l 1)) ∧ zal G (i * M l 1 + M l 1).toNat = true ∨ zwh f n 0 = some (.inr (.inr (if zal G (M l 0 * M l 1).toNat then 1 else 0))) := by
      intro f hf
      obtain ⟨r, e1, e2⟩ := zwh_inv (f := f) (fun j => 0 ≤ j ∧ j ≤ M l 1 ∧ zal G (i * M l 1 + j).toNat = true) (fun j => (M l 1 - j).toNat) (fun r => (r = .inl (M l 1) ∧ zal G (i * M l 1 + M l 1).toNat = true) ∨ r = .inr (.inr (if zal G (M l 0 * M l 1).toNat then 1 else 0))) (by
        rintro j ⟨j0, j1, hj⟩
        rcases hf j j0 j1 hj with ⟨j', e1, rfl, e2, e3⟩ | ⟨e1, rfl⟩ | e1
        · exact Or.inl ⟨_, e1, ⟨by omega, e2, e3⟩, by omega⟩
        · exact Or.inr ⟨_, e1, Or.inl ⟨rfl, hj⟩⟩
        · exact Or.inr ⟨_, e1, Or.inr rfl⟩) n 0 ⟨by omega, by omega, by simpa using hi⟩ (by omega)
      rcases e2 with ⟨e2, e3⟩ | e2
      · left
        rw [e1, e2]
        exact ⟨rfl, e3⟩
      · right
        rw [e1, e2]
    have fin : ∀ f : Int → Option (Int ⊕ (Int ⊕ (Int ⊕ Int))), (zwh f n 0 = some (.inl (M l 1)) ∧ zal G (i * M l 1 + M l 1).toNat = true ∨ zwh f n 0 = some (.inr (.inr (if zal G (M l 0 * M l 1).toNat then 1 else 0)))) → (∃ s' : Int, zesc (zwh f n 0) (fun _ => some (.inl (i + 1))) = some (.inl s') ∧ (0 ≤ s' ∧ s' ≤ M l 0 ∧ zal G (s' * M l 1).toNat = true) ∧ (M l 0 - s').toNat < (M l 0 - i).toNat) ∨ zesc (zwh f n 0) (fun _ => some (.inl (i + 1))) = some (.inr (if zal G (M l 0 * M l 1).toNat then 1 else 0)) := by
      intro f q
      rcases q with ⟨q1, q2⟩ | q1
      · left
        rw [q1]
        exact ⟨i + 1, rfl, ⟨by omega, by omega, by rw [Int.add_mul, Int.one_mul]; exact q2⟩, by omega⟩
      · right
        rw [q1]
        rfl
    refine fin _ (inner _ ?_)
    intro j j0 j1 hj
    try dsimp only
    rw [zgf_ok l1, Option.bind_some, zw_id (by omega) (by omega), zw_id (x := j) (by omega) (by omega)]
    by_cases c1 : M l 1 ≤ j
    · right; left
      rw [if_pos c1]
      exact ⟨rfl, by omega⟩
    · obtain ⟨p0, p1⟩ := hlin i0 (show i < M l 0 by omega) j0 (show j < M l 1 by omega)
      have hs := zal_s (G := G) p0
      rw [hj, Bool.true_and, hgij j0 (by omega), Int.add_assoc] at hs
      rw [if_neg c1, zgk_ok h.1, Option.bind_some, hfit (by unfold zrg; omega) (by unfold zrg; omega), Option.bind_some]
      by_cases c2 : zft (M l 0) (M l 1) (M s 0) (M s 1) (M s 2) i j
      · rw [if_pos c2, if_neg (by decide), Option.bind_some, hcl c2, Option.bind_some, zgf_ok l1, Option.bind_some, zw_id (x := M l 3) (by omega) (by omega)]
        rw [decide_eq_true c2, Bool.not_true, Bool.false_or] at hs
        by_cases c3 : zok (fun u => zBv (M l 3) (M l 4) (M l 5) (M l 2) (M 3) (i + zrd (M s 0) (M s 2) u) (j + zcx (M s 0) (M s 2) u)) (zsz (M s 0) (M s 1) (M s 2)).toNat = true
        · rw [c3] at hs
          rw [c3, if_pos rfl, if_pos (by decide)]
          by_cases c4 : M l 3 = 0
          · right; right
            have hall : zal G (M l 0 * M l 1).toNat = true := by
              refine zal_of (fun p q0 q1 => ?_)
              rw [← hG, zgG, c4]
              rw [c4] at c3
              rw [zok_sh (by omega) (by omega) c3]
              simp
            rw [if_pos c4, hall]
            rfl
          · left
            rw [if_neg c4]
            exact ⟨_, rfl, rfl, by omega, hs⟩
        · right; right
          have c3' : zok (fun u => zBv (M l 3) (M l 4) (M l 5) (M l 2) (M 3) (i + zrd (M s 0) (M s 2) u) (j + zcx (M s 0) (M s 2) u)) (zsz (M s 0) (M s 1) (M s 2)).toNat = false := by simpa using c3
          rw [c3'] at hs
          rw [c3', zal_dn (s := (i * M l 1 + (j + 1)).toNat) (by omega) hs]
          rfl
      · left
        rw [decide_eq_false c2, Bool.not_false, Bool.true_or] at hs
        rw [if_neg c2, if_pos (by decide)]
        exact ⟨_, rfl, rfl, by omega, hs⟩

theorem md_grants {M : zM} {n : Nat} {w : Int} (hn : 1000000 ≤ n) (I : Iv M) (w0 : 0 ≤ w) (w1 : w < M 7 1) : qmd_grants n zK0 (zlN M) 60 w = some (if zal (zgG M 2 (M (9 + w) 0) (M (9 + w) 1) (M (9 + w) 2)) (M 2 0 * M 2 1).toNat then 1 else 0) := by
  have hat := fun {i j : Int} => zlN_at I (i := i) (j := j)
  have tt := I.2.1
  unfold IvT at tt
  have hS' := I.1
  unfold zSR at hS'
  obtain ⟨u1, u2, u3, u4⟩ := I.2.2.2.1
  obtain ⟨v1, v2, v3, v4, v5, v6, v7, v8, v9⟩ := u4 w w0 w1
  have hg : zsg (M (9 + w) 0) (M (9 + w) 1) (M (9 + w) 2) := ⟨v4, v5, v6, v7, v8, v9⟩
  have f0 : zlN M 60 0 = M 2 0 := by rw [zlN_ne (by decide), tt.2.2.2.2.2.2.2.2.2.2.2.2.1]
  have f1 : zlN M 60 1 = M 2 1 := by rw [zlN_ne (by decide), tt.2.2.2.2.2.2.2.2.2.2.2.2.2.1]
  have f7 : zlN M 60 7 = 62 := by rw [zlN_ne (by decide)]; simp [hS']
  have f10 : zlN M 60 10 = 64 := by rw [zlN_ne (by decide)]; simp [hS']
  have f11 : zlN M 60 11 = 65 := by rw [zlN_ne (by decide)]; simp [hS']
  have f12 : zlN M 60 12 = 66 := by rw [zlN_ne (by decide)]; simp [hS']
  have f64 : zlN M 64 w = M (9 + w) 0 := by rw [zlN_ne (by decide), v1]
  have f65 : zlN M 65 w = M (9 + w) 1 := by rw [zlN_ne (by decide), v2]
  have f66 : zlN M 66 w = M (9 + w) 2 := by rw [zlN_ne (by decide), v3]
  obtain ⟨k, hk⟩ : ∃ k, M (9 + w) 0 = k := ⟨_, rfl⟩
  obtain ⟨m, hm⟩ : ∃ m, M (9 + w) 1 = m := ⟨_, rfl⟩
  obtain ⟨d, hd⟩ : ∃ d, M (9 + w) 2 = d := ⟨_, rfl⟩
  rw [hk, hm, hd] at hg ⊢
  rw [hk] at f64
  rw [hm] at f65
  rw [hd] at f66
  have hgij := fun {i j : Int} => zgG_ij (M := M) (l := 2) (k := k) (m := m) (d := d) (i := i) (j := j)
  have hth := fun {i j : Int} => md_isThere (M := zlN M) (i := i) (j := j) hg
  rw [f0, f1] at hth
  have hfr : ∀ i j, zft (M 2 0) (M 2 1) k m d i j → qmd_isFree n zK0 (zlN M) 60 k m d i j = some (if zok (fun u => zBv (M 2 3) (M 2 4) (M 2 5) (M 2 2) (M 3) (i + zrd k d u) (j + zcx k d u)) (zsz k m d).toNat then 1 else 0) := fun i j hf => md_free (R := M 2 0) (C := M 2 1) hn (fun x y => zB M x y) _ f7 (by omega) (by omega) (fun x y x0 x1 y0 y1 => hat x0 x1 y0 y1) hg hf (fun u => rfl)
  have hlin := fun {i j : Int} => zlin (R := M 2 0) (C := M 2 1) (i := i) (j := j)
  obtain ⟨G, hG⟩ : ∃ G, zgG M 2 k m d = G := ⟨_, rfl⟩
  rw [hG] at hgij ⊢
  unfold qmd_grants
  refine zwh_eq (fun s => 0 ≤ s.2 ∧ s.2 ≤ M 2 0 ∧ s = ((if zal G (s.2 * M 2 1).toNat then 1 else 0), s.2)) (fun s => (M 2 0 - s.2).toNat) ?_ n _ ⟨by simp, by simp; omega, by simp [zal]⟩ (by simp; omega)
  intro s ⟨i0, i1, hs⟩
  obtain ⟨i, hi⟩ : ∃ i, s.2 = i := ⟨_, rfl⟩
  rw [hi] at i0 i1 hs
  subst hs
  try dsimp only
  rw [zgf_ok rfl, Option.bind_some, f0, zw_id (by omega) (by omega), zw_id (x := i) (by omega) (by omega)]
  by_cases c : M 2 0 ≤ i
  · right
    rw [if_pos c, show i = M 2 0 by omega]
    by_cases c1 : zal G (M 2 0 * M 2 1).toNat = true
    · simp [c1, zbr]
    · simp [c1, zbr]
  · rw [if_neg c]
    have hle : ∀ j, 0 ≤ j → j ≤ M 2 1 → (i * M 2 1 + j).toNat ≤ (M 2 0 * M 2 1).toNat ∧ (i * M 2 1 + j).toNat ≤ ((i + 1) * M 2 1).toNat := by
      intro j j0 j1
      have := hlin i0 (show i < M 2 0 by omega) (show 0 ≤ M 2 1 - 1 by omega) (show M 2 1 - 1 < M 2 1 by omega)
      rw [Int.add_mul, Int.one_mul]
      omega
    by_cases c1 : zal G (i * M 2 1).toNat = true
    · left
      rw [c1, if_pos rfl, if_neg (by decide)]
      refine ⟨((if zal G ((i + 1) * M 2 1).toNat then 1 else 0), i + 1), ?_, ⟨by dsimp only; omega, by dsimp only; omega, rfl⟩, by dsimp only; omega⟩
      have inner : ∀ f : Int × Int → Option ((Int × Int) ⊕ (Int × Int)), (∀ j, 0 ≤ j → j ≤ M 2 1 → ((f ((if zal G (i * M 2 1 + j).toNat then 1 else 0), j) = some (.inl ((if zal G (i * M 2 1 + (j + 1)).toNat then 1 else 0), j + 1)) ∧ j < M 2 1) ∨ (f ((if zal G (i * M 2 1 + j).toNat then 1 else 0), j) = some (.inr ((if zal G (i * M 2 1 + j).toNat then 1 else 0), j)) ∧ (j = M 2 1 ∨ zal G (i * M 2 1 + j).toNat = false)))) → (zwh f n (1, 0)).bind (fun e6 => some (.inl (e6.1, i + 1))) = (some (.inl ((if zal G ((i + 1) * M 2 1).toNat then 1 else 0), i + 1)) : Option ((Int × Int) ⊕ Int)) := by
        intro f hf
        obtain ⟨r, e1, e2⟩ := zwh_inv (f := f) (fun s => ∃ j, 0 ≤ j ∧ j ≤ M 2 1 ∧ s = ((if zal G (i * M 2 1 + j).toNat then 1 else 0), j)) (fun s => (M 2 1 - s.2).toNat) (fun r => r.1 = if zal G ((i + 1) * M 2 1).toNat then 1 else 0) (by
          rintro s ⟨j, j0, j1, rfl⟩
          rcases hf j j0 j1 with ⟨e1, e2⟩ | ⟨e1, e2⟩
          · exact Or.inl ⟨_, e1, ⟨j + 1, by omega, by omega, rfl⟩, by dsimp only; omega⟩
          · refine Or.inr ⟨_, e1, ?_⟩
            dsimp only
            rcases e2 with rfl | e2
            · rw [Int.add_mul, Int.one_mul]
            · rw [e2, zal_dn (hle j j0 j1).2 e2]) n (1, 0) ⟨0, by omega, by omega, by simp [c1]⟩ (by simp; omega)
        rw [e1, Option.bind_some, e2]
      refine inner _ ?_
      intro j j0 j1
      try dsimp only
      rw [zgf_ok rfl, Option.bind_some, f1, zw_id (by omega) (by omega), zw_id (x := j) (by omega) (by omega)]
      by_cases d1 : M 2 1 ≤ j
      · right
        rw [if_pos d1]
        exact ⟨rfl, Or.inl (by omega)⟩
      · rw [if_neg d1]
        by_cases d2 : zal G (i * M 2 1 + j).toNat = true
        · left
          obtain ⟨p0, p1⟩ := hlin i0 (show i < M 2 0 by omega) j0 (show j < M 2 1 by omega)
          have hs := zal_s (G := G) p0
          rw [d2, Bool.true_and, hgij j0 (by omega), Int.add_assoc] at hs
          refine ⟨?_, by omega⟩
          rw [d2, if_pos rfl, if_neg (by decide), zgr_ok (v := 64) rfl f10 (by decide), Option.bind_some, zga_ok (N := 6) rfl (by decide) w0 (by omega), Option.bind_some, zgr_ok (v := 65) rfl f11 (by decide), Option.bind_some, zga_ok (N := 6) rfl (by decide) w0 (by omega), Option.bind_some, zgr_ok (v := 66) rfl f12 (by decide), Option.bind_some, zga_ok (N := 6) rfl (by decide) w0 (by omega), Option.bind_some, f64, f65, f66, zgk_ok rfl, Option.bind_some, hth (by unfold zrg; omega) (by unfold zrg; omega) (by omega) (by omega), Option.bind_some]
          by_cases d3 : zft (M 2 0) (M 2 1) k m d i j
          · rw [decide_eq_true d3, Bool.not_true, Bool.false_or] at hs
            rw [if_pos d3, if_neg (by decide)]
            simp only [Option.bind_some]
            rw [zga_ok (N := 6) rfl (by decide) w0 (by omega), Option.bind_some, zga_ok (N := 6) rfl (by decide) w0 (by omega), Option.bind_some, zga_ok (N := 6) rfl (by decide) w0 (by omega), Option.bind_some, f64, f65, f66, hfr i j d3, Option.bind_some, hs]
            by_cases d4 : zok (fun u => zBv (M 2 3) (M 2 4) (M 2 5) (M 2 2) (M 3) (i + zrd k d u) (j + zcx k d u)) (zsz k m d).toNat = true
            · rw [d4]
              rfl
            · have d4' : zok (fun u => zBv (M 2 3) (M 2 4) (M 2 5) (M 2 2) (M 3) (i + zrd k d u) (j + zcx k d u)) (zsz k m d).toNat = false := by simpa using d4
              rw [d4']
              rfl
          · rw [decide_eq_false d3, Bool.not_false, Bool.true_or] at hs
            rw [if_neg d3, if_pos (by decide), hs]
            rfl
        · right
          have d2' : zal G (i * M 2 1 + j).toNat = false := by simpa using d2
          rw [d2']
          exact ⟨rfl, Or.inr rfl⟩
    · right
      have c1' : zal G (i * M 2 1).toNat = false := by simpa using c1
      have := hle 0 (by omega) (by omega)
      rw [Int.add_zero] at this
      rw [c1', zal_dn this.1 c1']
      simp [zbr, zwl]
