/-- at the p-th place the shape does not lie, or lies free; any map -/
def zgL (R C : Int) (B : Int → Int → Int) (k m d p : Int) : Bool := (!decide (zft R C k m d (p / C) (p % C))) || zok (fun u => B (p / C + zrd k d u) (p % C + zcx k d u)) (zsz k m d).toNat
theorem zgL_ij {R C k m d i j : Int} {B : Int → Int → Int} (j0 : 0 ≤ j) (j1 : j < C) : zgL R C B k m d (i * C + j) = ((!decide (zft R C k m d i j)) || zok (fun u => B (i + zrd k d u) (j + zcx k d u)) (zsz k m d).toNat) := by
  unfold zgL
  rw [(zij j0 j1).1, (zij j0 j1).2]
theorem zgG_L {M : zM} {l k m d : Int} : zgG M l k m d = zgL (M l 0) (M l 1) (fun x y => zBv (M l 3) (M l 4) (M l 5) (M l 2) (M 3) x y) k m d := rfl
theorem md_grantq {Q : zM} {n : Nat} {w R C k m d : Int} (B : Int → Int → Int) (hn : 1000000 ≤ n) (f0 : Q 60 0 = R) (f1 : Q 60 1 = C) (f7 : Q 60 7 = 62) (f10 : Q 60 10 = 64) (f11 : Q 60 11 = 65) (f12 : Q 60 12 = 66) (f64 : Q 64 w = k) (f65 : Q 65 w = m) (f66 : Q 66 w = d) (R0 : 1 ≤ R) (R1 : R ≤ 16) (C0 : 1 ≤ C) (C1 : C ≤ 16) (w0 : 0 ≤ w) (w1 : w < 6) (hg : zsg k m d) (hat : ∀ i j, 0 ≤ i → i < R → 0 ≤ j → j < C → Q 62 (16 * i + j) = B i j) : qmd_grants n zK0 Q 60 w = some (if zal (zgL R C B k m d) (R * C).toNat then 1 else 0) := by
  have hgij := fun {i j : Int} => zgL_ij (R := R) (B := B) (k := k) (m := m) (d := d) (i := i) (j := j) (C := C)
  have hth := fun {i j : Int} => md_isThere (M := Q) (i := i) (j := j) hg
  rw [f0, f1] at hth
  have hfr : ∀ i j, zft R C k m d i j → qmd_isFree n zK0 Q 60 k m d i j = some (if zok (fun u => B (i + zrd k d u) (j + zcx k d u)) (zsz k m d).toNat then 1 else 0) := fun i j hf => md_free (R := R) (C := C) hn B _ f7 (by omega) (by omega) (fun x y x0 x1 y0 y1 => hat x y x0 x1 y0 y1) hg hf (fun u => rfl)
  have hlin := fun {i j : Int} => zlin (R := R) (C := C) (i := i) (j := j)
  obtain ⟨G, hG⟩ : ∃ G, zgL R C B k m d = G := ⟨_, rfl⟩
  rw [hG] at hgij ⊢
  unfold qmd_grants
  refine zwh_eq (fun s => 0 ≤ s.2 ∧ s.2 ≤ R ∧ s = ((if zal G (s.2 * C).toNat then 1 else 0), s.2)) (fun s => (R - s.2).toNat) ?_ n _ ⟨by simp, by simp; omega, by simp [zal]⟩ (by simp; omega)
  intro s ⟨i0, i1, hs⟩
  obtain ⟨i, hi⟩ : ∃ i, s.2 = i := ⟨_, rfl⟩
  rw [hi] at i0 i1 hs
  subst hs
  try dsimp only
  rw [zgf_ok rfl, Option.bind_some, f0, zw_id (by omega) (by omega), zw_id (x := i) (by omega) (by omega)]
  by_cases c : R ≤ i
  · right
    rw [if_pos c, show i = R by omega]
    by_cases c1 : zal G (R * C).toNat = true
    · simp [c1, zbr]
    · simp [c1, zbr]
  · rw [if_neg c]
    have hle : ∀ j, 0 ≤ j → j ≤ C → (i * C + j).toNat ≤ (R * C).toNat ∧ (i * C + j).toNat ≤ ((i + 1) * C).toNat := by
      intro j j0 j1
      have := hlin i0 (show i < R by omega) (show 0 ≤ C - 1 by omega) (show C - 1 < C by omega)
      rw [Int.add_mul, Int.one_mul]
      omega
    by_cases c1 : zal G (i * C).toNat = true
    · left
      rw [c1, if_pos rfl, if_neg (by decide)]
      refine ⟨((if zal G ((i + 1) * C).toNat then 1 else 0), i + 1), ?_, ⟨by dsimp only; omega, by dsimp only; omega, rfl⟩, by dsimp only; omega⟩
      have inner : ∀ f : Int × Int → Option ((Int × Int) ⊕ (Int × Int)), (∀ j, 0 ≤ j → j ≤ C → ((f ((if zal G (i * C + j).toNat then 1 else 0), j) = some (.inl ((if zal G (i * C + (j + 1)).toNat then 1 else 0), j + 1)) ∧ j < C) ∨ (f ((if zal G (i * C + j).toNat then 1 else 0), j) = some (.inr ((if zal G (i * C + j).toNat then 1 else 0), j)) ∧ (j = C ∨ zal G (i * C + j).toNat = false)))) → (zwh f n (1, 0)).bind (fun e6 => some (.inl (e6.1, i + 1))) = (some (.inl ((if zal G ((i + 1) * C).toNat then 1 else 0), i + 1)) : Option ((Int × Int) ⊕ Int)) := by
        intro f hf
        obtain ⟨r, e1, e2⟩ := zwh_inv (f := f) (fun s => ∃ j, 0 ≤ j ∧ j ≤ C ∧ s = ((if zal G (i * C + j).toNat then 1 else 0), j)) (fun s => (C - s.2).toNat) (fun r => r.1 = if zal G ((i + 1) * C).toNat then 1 else 0) (by
          rintro s ⟨j, j0, j1, rfl⟩
          rcases hf j j0 j1 with ⟨e1, e2⟩ | ⟨e1, e2⟩
          · exact Or.inl ⟨_, e1, ⟨j + 1, by omega, by omega, rfl⟩, by dsimp only; omega⟩
          · refine Or.inr ⟨_, e1, ?_⟩
            dsimp only
            rcases e2 with rfl | e2
            · rw [Int.add_mul, Int.one_mul]
            · rw [e2, zal_dn (hle j j0 j1).2 e2]) n (1, 0) ⟨0, by omega, by omega, by simp [c1]⟩ (by simp; omega)
        rw [e1, Option.bind_some, e2]
      refine inner _ ?_
      intro j j0 j1
      try dsimp only
      rw [zgf_ok rfl, Option.bind_some, f1, zw_id (by omega) (by omega), zw_id (x := j) (by omega) (by omega)]
      by_cases d1 : C ≤ j
      · right
        rw [if_pos d1]
        exact ⟨rfl, Or.inl (by omega)⟩
      · rw [if_neg d1]
        by_cases d2 : zal G (i * C + j).toNat = true
        · left
          obtain ⟨p0, p1⟩ := hlin i0 (show i < R by omega) j0 (show j < C by omega)
          have hs := zal_s (G := G) p0
          rw [d2, Bool.true_and, hgij j0 (by omega), Int.add_assoc] at hs
          refine ⟨?_, by omega⟩
          rw [d2, if_pos rfl, if_neg (by decide), zgr_ok (v := 64) rfl f10 (by decide), Option.bind_some, zga_ok (N := 6) rfl (by decide) w0 (by omega), Option.bind_some, zgr_ok (v := 65) rfl f11 (by decide), Option.bind_some, zga_ok (N := 6) rfl (by decide) w0 (by omega), Option.bind_some, zgr_ok (v := 66) rfl f12 (by decide), Option.bind_some, zga_ok (N := 6) rfl (by decide) w0 (by omega), Option.bind_some, f64, f65, f66, zgk_ok rfl, Option.bind_some, hth (by unfold zrg; omega) (by unfold zrg; omega) (by omega) (by omega), Option.bind_some]
          by_cases d3 : zft (R) (C) k m d i j
          · rw [decide_eq_true d3, Bool.not_true, Bool.false_or] at hs
            rw [if_pos d3, if_neg (by decide)]
            simp only [Option.bind_some]
            rw [zga_ok (N := 6) rfl (by decide) w0 (by omega), Option.bind_some, zga_ok (N := 6) rfl (by decide) w0 (by omega), Option.bind_some, zga_ok (N := 6) rfl (by decide) w0 (by omega), Option.bind_some, f64, f65, f66, hfr i j d3, Option.bind_some, hs]
            by_cases d4 : zok (fun u => B (i + zrd k d u) (j + zcx k d u)) (zsz k m d).toNat = true
            · rw [d4]
              rfl
            · have d4' : zok (fun u => B (i + zrd k d u) (j + zcx k d u)) (zsz k m d).toNat = false := by simpa using d4
              rw [d4']
              rfl
          · rw [decide_eq_false d3, Bool.not_false, Bool.true_or] at hs
            rw [if_neg d3, if_pos (by decide), hs]
            rfl
        · right
          have d2' : zal G (i * C + j).toNat = false := by simpa using d2
          rw [d2']
          exact ⟨rfl, Or.inr rfl⟩
    · right
      have c1' : zal G (i * C).toNat = false := by simpa using c1
      have := hle 0 (by omega) (by omega)
      rw [Int.add_zero] at this
      rw [c1', zal_dn this.1 c1']
      simp [zbr, zwl]
/-- the largest cut of a wish -/
def zlc0 (M : zM) : Int := zlg (fun w => znw (M 2 0) (M 2 1) (M (9 + w) 0) (M (9 + w) 1) (M (9 + w) 2)) (fun w => zsz (M (9 + w) 0) (M (9 + w) 1) (M (9 + w) 2)) (M 7 1).toNat
theorem bd_val {M : zM} {n : Nat} (hn : 1000000 ≤ n) (I : Iv M) : qwi_largestCut n zK0 M 7 2 = some (zlc0 M) ∧ qmd_bound n zK0 M 60 = some (zlc0 M) ∧ 1 ≤ zlc0 M ∧ zlc0 M ≤ 128 := by
  unfold zlc0
  obtain ⟨E, hE⟩ : ∃ E : Int → Bool, (fun w => znw (M 2 0) (M 2 1) (M (9 + w) 0) (M (9 + w) 1) (M (9 + w) 2)) = E := ⟨_, rfl⟩
  obtain ⟨S, hSz⟩ : ∃ S : Int → Int, (fun w => zsz (M (9 + w) 0) (M (9 + w) 1) (M (9 + w) 2)) = S := ⟨_, rfl⟩
  rw [hE, hSz]
  have hEe : ∀ w, znw (M 2 0) (M 2 1) (M (9 + w) 0) (M (9 + w) 1) (M (9 + w) 2) = E w := fun w => by rw [← hE]
  have hSe : ∀ w, zsz (M (9 + w) 0) (M (9 + w) 1) (M (9 + w) 2) = S w := fun w => by rw [← hSz]
  have hsM := fun {w : Int} => zw_sM I (w := w)
  have hc : ∀ w, 0 ≤ w → w < M 7 1 → qsh_isSomewhere n zK0 M (9 + w) 2 = some (if E w then 0 else 1) := fun w w0 w1 => by rw [sh_some hn I.la (hsM w0 w1), hEe]
  have hcs : ∀ w, 0 ≤ w → w < M 7 1 → qsh_size zK0 M (9 + w) = some (S w) := fun w w0 w1 => by rw [sh_size (hsM w0 w1), hSe]
  have hSr : ∀ w, 0 ≤ w → w < M 7 1 → 1 ≤ S w ∧ S w ≤ 128 := fun w w0 w1 => by rw [← hSe]; exact zsz_rg (hsM w0 w1).2
  have h8 := fun {w : Int} => zw_8 I.1 (k := w)
  have hS' := I.1
  unfold zSR at hS'
  have tt := I.2.1
  unfold IvT at tt
  obtain ⟨u1, u2, u3, u4⟩ := I.2.2.2.1
  have zr := zlg_rg (E := E) (S := S) (w := (M 7 1).toNat) (fun x x0 x1 => hSr x x0 (by omega))
  refine ⟨?_, ?_, zr.1, zr.2⟩
  · skip
    have e : qwi_largestCut n zK0 M 7 2 = some (zlg E S (M 7 1).toNat) := by
      unfold qwi_largestCut
      refine zwh_eq (fun s => 0 ≤ s.2 ∧ s.2 ≤ M 7 1 ∧ s = (zlg E S s.2.toNat, s.2)) (fun s => (M 7 1 - s.2).toNat) ?_ n _ ⟨by simp, by simp; omega, rfl⟩ (by simp; omega)
      intro s ⟨w0, w1, hs⟩
      obtain ⟨w, hw⟩ : ∃ w, s.2 = w := ⟨_, rfl⟩
      rw [hw] at w0 w1 hs
      subst hs
      try dsimp only
      rw [zgf_ok rfl, Option.bind_some, zw_id (by omega) (by omega), zw_id (x := w) (by omega) (by omega)]
      by_cases c : M 7 1 ≤ w
      · right
        rw [if_pos c, show w = M 7 1 by omega]
      · left
        have r1 := zlg_rg (E := E) (S := S) (w := w.toNat) (fun x x0 x1 => hSr x x0 (by omega))
        have r2 := hSr w w0 (by omega)
        have k1 := (zw_c w0 (show w < 6 by omega)).1
        rw [if_neg c, zgr_ok (v := 8) rfl (by simp [hS']) (by decide), Option.bind_some, zgq_ok (v := 9 + w) (N := 6) rfl (by decide) w0 (by omega) (h8 w0 (by omega)) (by omega), Option.bind_some, zgk_ok k1, Option.bind_some, hc w w0 (by omega), Option.bind_some]
        refine ⟨(zlg E S (w + 1).toNat, w + 1), ?_, ⟨by dsimp only; omega, by dsimp only; omega, rfl⟩, by dsimp only; omega⟩
        rw [zlg_s w0]
        simp only [Option.bind_some]
        rw [zgq_ok (v := 9 + w) (N := 6) rfl (by decide) w0 (by omega) (h8 w0 (by omega)) (by omega), Option.bind_some, zgk_ok k1, Option.bind_some, hcs w w0 (by omega), Option.bind_some, zmax_ok (by omega) (by omega) (by omega) (by omega)]
        by_cases d : E w = true
        · simp [d, zwl]
        · simp [d, zwl]
    exact e
  · unfold qmd_bound
    refine zwh_eq (fun s => 0 ≤ s.2 ∧ s.2 ≤ M 7 1 ∧ s = (zlg E S s.2.toNat, s.2)) (fun s => (M 7 1 - s.2).toNat) ?_ n _ ⟨by simp, by simp; omega, rfl⟩ (by simp; omega)
    intro s ⟨w0, w1, hs⟩
    obtain ⟨w, hw⟩ : ∃ w, s.2 = w := ⟨_, rfl⟩
    rw [hw] at w0 w1 hs
    subst hs
    try dsimp only
    rw [zgf_ok rfl, Option.bind_some, u3, zw_id (by omega) (by omega), zw_id (x := w) (by omega) (by omega)]
    by_cases c : M 7 1 ≤ w
    · right
      rw [if_pos c, show w = M 7 1 by omega]
    · left
      obtain ⟨v1, v2, v3, v4, v5, v6, v7, v8, v9⟩ := u4 w w0 (by omega)
      have hg := (hsM w0 (show w < M 7 1 by omega)).2
      have r1 := zlg_rg (E := E) (S := S) (w := w.toNat) (fun x x0 x1 => hSr x x0 (by omega))
      have r2 := hSr w w0 (by omega)
      have hnw := znw_iff (R := M 2 0) (C := M 2 1) (k := M (9 + w) 0) (m := M (9 + w) 1) (d := M (9 + w) 2) (by omega)
      rw [hEe] at hnw
      have hth := fun {i j : Int} => md_isThere (M := M) (i := i) (j := j) hg
      rw [tt.2.2.2.2.2.2.2.2.2.2.2.2.1, tt.2.2.2.2.2.2.2.2.2.2.2.2.2.1] at hth
      refine ⟨(zlg E S (w + 1).toNat, w + 1), ?_, ⟨by dsimp only; omega, by dsimp only; omega, rfl⟩, by dsimp only; omega⟩
      have inner : ∀ f : Int × Int → Option ((Int × Int) ⊕ (Int × Int)), (∀ x c, 0 ≤ c → c < 256 → (x = 0 ∨ x = 1) → f (x, c) = some (.inl ((if x = 1 ∨ zft (M 2 0) (M 2 1) (M (9 + w) 0) (M (9 + w) 1) (M (9 + w) 2) (c / 16) (c % 16) then 1 else 0), c + 1))) → (∀ x, f (x, 256) = some (.inr (x, 256))) → zwh f n (0, 0) = some ((if E w then 0 else 1), 256) := by
        intro f h1 h2
        refine zwh_eq (fun s => 0 ≤ s.2 ∧ s.2 ≤ 256 ∧ (s.1 = 0 ∨ s.1 = 1) ∧ (s.1 = 1 ↔ ∃ c, 0 ≤ c ∧ c < s.2 ∧ zft (M 2 0) (M 2 1) (M (9 + w) 0) (M (9 + w) 1) (M (9 + w) 2) (c / 16) (c % 16))) (fun s => (256 - s.2).toNat) ?_ n (0, 0) ⟨by simp, by simp, Or.inl rfl, by
          constructor
          · intro q; cases q
          · rintro ⟨c, q1, q2, _⟩; dsimp only at q2; omega⟩ (by simp; omega)
        rintro ⟨x, y⟩ ⟨y0, y1, hx, hxy⟩
        dsimp only at y0 y1 hx hxy
        by_cases q : y < 256
        · left
          refine ⟨_, h1 x y y0 q hx, ⟨by dsimp only; omega, by dsimp only; omega, ?_, ?_⟩, by dsimp only; omega⟩
          · dsimp only
            split
            · exact Or.inr rfl
            · exact Or.inl rfl
          · dsimp only
            by_cases t : x = 1 ∨ zft (M 2 0) (M 2 1) (M (9 + w) 0) (M (9 + w) 1) (M (9 + w) 2) (y / 16) (y % 16)
            · rw [if_pos t]
              refine ⟨fun _ => ?_, fun _ => rfl⟩
              rcases t with t | t
              · obtain ⟨c, e1, e2, e3⟩ := hxy.1 t
                exact ⟨c, e1, by omega, e3⟩
              · exact ⟨y, y0, by omega, t⟩
            · rw [if_neg t]
              refine ⟨(fun q => absurd q (by decide)), ?_⟩
              rintro ⟨c, e1, e2, e3⟩
              exfalso
              apply t
              by_cases z : c = y
              · right; rw [← z]; exact e3
              · left; exact hxy.2 ⟨c, e1, by omega, e3⟩
        · right
          have : y = 256 := by omega
          subst this
          rw [h2]
          have : x = if E w then 0 else 1 := by
            by_cases z : E w = true
            · rw [z, if_pos rfl]
              rcases hx with hx | hx
              · exact hx
              · obtain ⟨c, e1, e2, e3⟩ := hxy.1 hx
                exact absurd e3 (hnw.1 z _ _)
            · have z' : E w = false := by simpa using z
              rw [z', if_neg (by decide)]
              rcases hx with hx | hx
              · exfalso
                apply z
                refine hnw.2 (fun i j hf => ?_)
                have := hf.1
                have : x = 1 := hxy.2 ⟨16 * i + j, by omega, by omega, by rw [show (16 * i + j) / 16 = i by omega, show (16 * i + j) % 16 = j by omega]; exact hf⟩
                omega
              · exact hx
          rw [← this]
      rw [if_neg c, inner]
      · rw [Option.bind_some, zgr_ok (v := 64) rfl (by simp [hS']) (by decide), Option.bind_some, zga_ok (N := 6) rfl (by decide) w0 (by omega), Option.bind_some, zgr_ok (v := 65) rfl (by simp [hS']) (by decide), Option.bind_some, zga_ok (N := 6) rfl (by decide) w0 (by omega), Option.bind_some, zgr_ok (v := 66) rfl (by simp [hS']) (by decide), Option.bind_some, zga_ok (N := 6) rfl (by decide) w0 (by omega), Option.bind_some, v1, v2, v3, md_cellsOf hg, hSe, Option.bind_some, zlg_s w0, zw_id (x := S w) (by omega) (by omega), zw_id (x := zlg E S w.toNat) (by omega) (by omega)]
        by_cases d : E w = true
        · simp [d, zwl, zesc]
        · by_cases d2 : zlg E S w.toNat < S w
          · simp [d, zwl, zesc, d2, show ¬ S w ≤ zlg E S w.toNat by omega]
          · simp [d, zwl, zesc, d2, show S w ≤ zlg E S w.toNat by omega]
      · intro x y y0 y1 hx
        dsimp only
        rw [zw_id (x := 256) (by decide) (by decide), zw_id (x := y) (by omega) (by omega), if_neg (by omega)]
        rcases hx with rfl | rfl
        · rw [if_pos (by decide), zgr_ok (v := 64) rfl (by simp [hS']) (by decide), Option.bind_some, zga_ok (N := 6) rfl (by decide) w0 (by omega), Option.bind_some, zgr_ok (v := 65) rfl (by simp [hS']) (by decide), Option.bind_some, zga_ok (N := 6) rfl (by decide) w0 (by omega), Option.bind_some, zgr_ok (v := 66) rfl (by simp [hS']) (by decide), Option.bind_some, zga_ok (N := 6) rfl (by decide) w0 (by omega), Option.bind_some, v1, v2, v3, zdv_ok y0 (by omega) (by decide) (by decide), Option.bind_some, zrm_ok y0 (by omega) (by decide) (by decide), Option.bind_some, zgk_ok rfl, Option.bind_some, hth (by unfold zrg; omega) (by unfold zrg; omega) (by omega) (by omega), Option.bind_some]
          by_cases z : zft (M 2 0) (M 2 1) (M (9 + w) 0) (M (9 + w) 1) (M (9 + w) 2) (y / 16) (y % 16)
          · rw [if_pos z, if_neg (by decide), if_pos (Or.inr z)]
            rfl
          · rw [if_neg z, if_pos (by decide), if_neg (fun q => q.elim (fun q => absurd q (by decide)) z)]
            rfl
        · rw [if_neg (by decide), if_pos (Or.inl rfl)]
          rfl
      · intro x
        dsimp only
        rw [if_pos (by omega)]
theorem zlg_cg {E F : Int → Bool} {S U : Int → Int} {w : Nat} (h : ∀ x : Int, 0 ≤ x → x < w → E x = F x ∧ S x = U x) : zlg E S w = zlg F U w := by
  induction w with
  | zero => rfl
  | succ w ih =>
    rw [zlg, zlg, ih (fun x h0 h1 => h x h0 (by omega)), (h w (by omega) (by omega)).1, (h w (by omega) (by omega)).2]
theorem zst9 {w i : Int} (h0 : 0 ≤ w) (h1 : w < 6) : zste (9 + w) i = true := by
  rcases (show w = 0 ∨ w = 1 ∨ w = 2 ∨ w = 3 ∨ w = 4 ∨ w = 5 by omega) with rfl | rfl | rfl | rfl | rfl | rfl <;> rfl
theorem zlc0_cg {M P : zM} (I : Iv M) (h : zsa M P) : zlc0 P = zlc0 M := by
  have h7 := I.2.2.2.1
  unfold IvW at h7
  unfold zlc0
  rw [h 7 1 rfl]
  refine zlg_cg (fun x x0 x1 => ?_)
  rw [h 2 0 rfl, h 2 1 rfl, h (9 + x) 0 (zst9 x0 (by omega)), h (9 + x) 1 (zst9 x0 (by omega)), h (9 + x) 2 (zst9 x0 (by omega))]
  exact ⟨rfl, rfl⟩
