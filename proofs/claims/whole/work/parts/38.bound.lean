theorem zal_iff {G : Int → Bool} {t : Nat} : zal G t = true ↔ ∀ p : Int, 0 ≤ p → p < t → G p = true := by
  constructor
  · intro h p p0 p1
    by_cases q : G p = true
    · exact q
    · have e := zal_s (G := G) p0
      have : G p = false := by simpa using q
      rw [this, Bool.and_false] at e
      rw [zal_dn (s := (p + 1).toNat) (by omega) e] at h
      cases h
  · exact zal_of
/-- the shape lies nowhere -/
def znw (R C k m d : Int) : Bool := zal (fun p => !decide (zft R C k m d (p / C) (p % C))) (R * C).toNat
theorem znw_iff {R C k m d : Int} (C0 : 1 ≤ C) : znw R C k m d = true ↔ ∀ i j, ¬ zft R C k m d i j := by
  unfold znw
  rw [zal_iff]
  constructor
  · intro h i j hf
    obtain ⟨p0, p1⟩ := zlin (R := R) (C := C) hf.1.1.1 hf.1.1.2 hf.1.2.1 hf.1.2.2
    have := h (i * C + j) p0 (by omega)
    rw [(zij hf.1.2.1 hf.1.2.2).1, (zij hf.1.2.1 hf.1.2.2).2, decide_eq_true hf] at this
    cases this
  · intro h p _ _
    rw [decide_eq_false (h _ _)]
    rfl
theorem sh_some {M : zM} {n : Nat} {s l : Int} (hn : 1000000 ≤ n) (hl : zLa M l) (h : zsM M s) : qsh_isSomewhere n zK0 M s l = some (if znw (M l 0) (M l 1) (M s 0) (M s 1) (M s 2) then 0 else 1) := by
  have hfit := fun {i j : Int} => sh_fits (M := M) (i := i) (j := j) h hl
  obtain ⟨l1, l2, l3, l4, l5, l6, l7, l8⟩ := hl
  have hnw := znw_iff (R := M l 0) (C := M l 1) (k := M s 0) (m := M s 1) (d := M s 2) l6
  obtain ⟨B, hB⟩ : ∃ B, znw (M l 0) (M l 1) (M s 0) (M s 1) (M s 2) = B := ⟨_, rfl⟩
  rw [hB] at hnw ⊢
  unfold qsh_isSomewhere
  refine zwh_eq (fun i => 0 ≤ i ∧ i ≤ M l 0 ∧ ∀ x j, x < i → ¬ zft (M l 0) (M l 1) (M s 0) (M s 1) (M s 2) x j) (fun i => (M l 0 - i).toNat) ?_ n _ ⟨by omega, by omega, fun x j hx hf => by have := hf.1.1.1; omega⟩ (by omega)
  intro i ⟨i0, i1, hi⟩
  try dsimp only
  rw [zgf_ok l1, Option.bind_some, zw_id (by omega) (by omega), zw_id (x := i) (by omega) (by omega)]
  by_cases c : M l 0 ≤ i
  · right
    rw [if_pos c, hnw.2 (fun x j hf => hi x j (by have := hf.1.1.2; omega) hf)]
    rfl
  · rw [if_neg c]
    have inner : ∀ f : Int → Option (Int ⊕ (Int ⊕ (Int ⊕ Int))), (∀ j, 0 ≤ j → j ≤ M l 1 → (f j = some (.inl (j + 1)) ∧ j + 1 ≤ M l 1 ∧ ¬ zft (M l 0) (M l 1) (M s 0) (M s 1) (M s 2) i j) ∨ (f j = some (.inr (.inl j)) ∧ j = M l 1) ∨ (f j = some (.inr (.inr (.inr 1))) ∧ zft (M l 0) (M l 1) (M s 0) (M s 1) (M s 2) i j)) → (zwh f n 0 = some (.inl (M l 1)) ∧ ∀ j, ¬ zft (M l 0) (M l 1) (M s 0) (M s 1) (M s 2) i j) ∨ (zwh f n 0 = some (.inr (.inr 1)) ∧ ∃ j, zft (M l 0) (M l 1) (M s 0) (M s 1) (M s 2) i j) := by
      intro f hf
      obtain ⟨r, e1, e2⟩ := zwh_inv (f := f) (fun j => 0 ≤ j ∧ j ≤ M l 1 ∧ ∀ y, y < j → ¬ zft (M l 0) (M l 1) (M s 0) (M s 1) (M s 2) i y) (fun j => (M l 1 - j).toNat) (fun r => (r = .inl (M l 1) ∧ ∀ j, ¬ zft (M l 0) (M l 1) (M s 0) (M s 1) (M s 2) i j) ∨ (r = .inr (.inr 1) ∧ ∃ j, zft (M l 0) (M l 1) (M s 0) (M s 1) (M s 2) i j)) (by
        rintro j ⟨j0, j1, hj⟩
        rcases hf j j0 j1 with ⟨e1, e2, e3⟩ | ⟨e1, e2⟩ | ⟨e1, e2⟩
        · refine Or.inl ⟨_, e1, ⟨by omega, e2, fun y hy => ?_⟩, by omega⟩
          by_cases q : y = j
          · rw [q]; exact e3
          · exact hj y (by omega)
        · refine Or.inr ⟨_, e1, Or.inl ⟨by rw [e2], fun y hf => hj y (by have := hf.1.2.2; omega) hf⟩⟩
        · exact Or.inr ⟨_, e1, Or.inr ⟨rfl, j, e2⟩⟩) n 0 ⟨by omega, by omega, fun y hy hf => by have := hf.1.2.1; omega⟩ (by omega)
      rcases e2 with ⟨e2, e3⟩ | ⟨e2, e3⟩
      · left
        rw [e1, e2]
        exact ⟨rfl, e3⟩
      · right
        rw [e1, e2]
        exact ⟨rfl, e3⟩
    have fin : ∀ f : Int → Option (Int ⊕ (Int ⊕ (Int ⊕ Int))), ((zwh f n 0 = some (.inl (M l 1)) ∧ ∀ j, ¬ zft (M l 0) (M l 1) (M s 0) (M s 1) (M s 2) i j) ∨ (zwh f n 0 = some (.inr (.inr 1)) ∧ ∃ j, zft (M l 0) (M l 1) (M s 0) (M s 1) (M s 2) i j)) → (∃ s' : Int, zesc (zwh f n 0) (fun _ => some (.inl (i + 1))) = some (.inl s') ∧ (0 ≤ s' ∧ s' ≤ M l 0 ∧ ∀ x j, x < s' → ¬ zft (M l 0) (M l 1) (M s 0) (M s 1) (M s 2) x j) ∧ (M l 0 - s').toNat < (M l 0 - i).toNat) ∨ zesc (zwh f n 0) (fun _ => some (.inl (i + 1))) = some (.inr (if B then 0 else 1)) := by
      intro f q
      rcases q with ⟨q1, q2⟩ | ⟨q1, j, q2⟩
      · left
        rw [q1]
        refine ⟨i + 1, rfl, ⟨by omega, by omega, fun x j hx => ?_⟩, by omega⟩
        by_cases q : x = i
        · rw [q]; exact q2 j
        · exact hi x j (by omega)
      · right
        have hb : B = false := by
          by_cases e : B = true
          · exact absurd q2 (hnw.1 e i j)
          · simpa using e
        rw [q1, hb]
        rfl
    refine fin _ (inner _ ?_)
    intro j j0 j1
    try dsimp only
    rw [zgf_ok l1, Option.bind_some, zw_id (by omega) (by omega), zw_id (x := j) (by omega) (by omega)]
    by_cases c1 : M l 1 ≤ j
    · right; left
      rw [if_pos c1]
      exact ⟨rfl, by omega⟩
    · rw [if_neg c1, zgk_ok h.1, Option.bind_some, hfit (by unfold zrg; omega) (by unfold zrg; omega), Option.bind_some]
      by_cases c2 : zft (M l 0) (M l 1) (M s 0) (M s 1) (M s 2) i j
      · right; right
        rw [if_pos c2, if_neg (by decide)]
        exact ⟨rfl, c2⟩
      · left
        rw [if_neg c2, if_pos (by decide)]
        exact ⟨rfl, by omega, c2⟩
/-- the largest of the first w that lies somewhere, at least 1 -/
def zlg (E : Int → Bool) (S : Int → Int) : Nat → Int
  | 0 => 1
  | w + 1 => if E w then zlg E S w else if zlg E S w < S w then S w else zlg E S w
theorem zlg_s {E : Int → Bool} {S : Int → Int} {w : Int} (h : 0 ≤ w) : zlg E S (w + 1).toNat = if E w then zlg E S w.toNat else if zlg E S w.toNat < S w then S w else zlg E S w.toNat := by
  rw [show (w + 1).toNat = w.toNat + 1 by omega, zlg, show ((w.toNat : Nat) : Int) = w by omega]
theorem zlg_rg {E : Int → Bool} {S : Int → Int} {w : Nat} (h : ∀ x : Int, 0 ≤ x → x < w → 1 ≤ S x ∧ S x ≤ 128) : 1 ≤ zlg E S w ∧ zlg E S w ≤ 128 := by
  induction w with
  | zero => simp [zlg]
  | succ w ih =>
    have i1 := ih (fun x h0 h1 => h x h0 (by omega))
    have i2 := h w (by omega) (by omega)
    rw [zlg]
    split
    · exact i1
    · split
      · exact i2
      · exact i1
theorem o_bound {M : zM} {n : Nat} (hn : 1000000 ≤ n) (I : Iv M) : ∃ r r', qbs_bound n zK0 M 1 = some r ∧ qmd_bound n zK0 M 60 = some r' ∧ zw r = zw r' := by
  obtain ⟨E, hE⟩ : ∃ E : Int → Bool, (fun w => znw (M 2 0) (M 2 1) (M (9 + w) 0) (M (9 + w) 1) (M (9 + w) 2)) = E := ⟨_, rfl⟩
  obtain ⟨S, hSz⟩ : ∃ S : Int → Int, (fun w => zsz (M (9 + w) 0) (M (9 + w) 1) (M (9 + w) 2)) = S := ⟨_, rfl⟩
  have hEe : ∀ w, znw (M 2 0) (M 2 1) (M (9 + w) 0) (M (9 + w) 1) (M (9 + w) 2) = E w := fun w => by rw [← hE]
  have hSe : ∀ w, zsz (M (9 + w) 0) (M (9 + w) 1) (M (9 + w) 2) = S w := fun w => by rw [← hSz]
  have hsM := fun {w : Int} => zw_sM I (w := w)
  have hc : ∀ w, 0 ≤ w → w < M 7 1 → qsh_isSomewhere n zK0 M (9 + w) 2 = some (if E w then 0 else 1) := fun w w0 w1 => by rw [sh_some hn I.la (hsM w0 w1), hEe]
  have hcs : ∀ w, 0 ≤ w → w < M 7 1 → qsh_size zK0 M (9 + w) = some (S w) := fun w w0 w1 => by rw [sh_size (hsM w0 w1), hSe]
  have hSr : ∀ w, 0 ≤ w → w < M 7 1 → 1 ≤ S w ∧ S w ≤ 128 := fun w w0 w1 => by rw [← hSe]; exact zsz_rg (hsM w0 w1).2
  have h8 := fun {w : Int} => zw_8 I.1 (k := w)
  have hS' := I.1
  unfold zSR at hS'
  have tt := I.2.1
  unfold IvT at tt
  obtain ⟨u1, u2, u3, u4⟩ := I.2.2.2.1
  refine ⟨zlg E S (M 7 1).toNat, zlg E S (M 7 1).toNat, ?_, ?_, rfl⟩
  · unfold qbs_bound
    have e : qwi_largestCut n zK0 M 7 2 = some (zlg E S (M 7 1).toNat) := by
      unfold qwi_largestCut
      refine zwh_eq (fun s => 0 ≤ s.2 ∧ s.2 ≤ M 7 1 ∧ s = (zlg E S s.2.toNat, s.2)) (fun s => (M 7 1 - s.2).toNat) ?_ n _ ⟨by simp, by simp; omega, rfl⟩ (by simp; omega)
      intro s ⟨w0, w1, hs⟩
      obtain ⟨w, hw⟩ : ∃ w, s.2 = w := ⟨_, rfl⟩
      rw [hw] at w0 w1 hs
      subst hs
      try dsimp only
      rw [zgf_ok rfl, Option.bind_some, zw_id (by omega) (by omega), zw_id (x := w) (by omega) (by omega)]
      by_cases c : M 7 1 ≤ w
      · right
        rw [if_pos c, show w = M 7 1 by omega]
      · left
        have r1 := zlg_rg (E := E) (S := S) (w := w.toNat) (fun x x0 x1 => hSr x x0 (by omega))
        have r2 := hSr w w0 (by omega)
        have k1 := (zw_c w0 (show w < 6 by omega)).1
        rw [if_neg c, zgr_ok (v := 8) rfl (by simp [hS']) (by decide), Option.bind_some, zgq_ok (v := 9 + w) (N := 6) rfl (by decide) w0 (by omega) (h8 w0 (by omega)) (by omega), Option.bind_some, zgk_ok k1, Option.bind_some, hc w w0 (by omega), Option.bind_some]
        refine ⟨(zlg E S (w + 1).toNat, w + 1), ?_, ⟨by dsimp only; omega, by dsimp only; omega, rfl⟩, by dsimp only; omega⟩
        rw [zlg_s w0]
        simp only [Option.bind_some]
        rw [zgq_ok (v := 9 + w) (N := 6) rfl (by decide) w0 (by omega) (h8 w0 (by omega)) (by omega), Option.bind_some, zgk_ok k1, Option.bind_some, hcs w w0 (by omega), Option.bind_some, zmax_ok (by omega) (by omega) (by omega) (by omega)]
        by_cases d : E w = true
        · simp [d, zwl]
        · simp [d, zwl]
    rw [zgr_ok (v := 7) rfl (by simp [hS']) (by decide), Option.bind_some, zgr_ok (v := 2) rfl (by simp [hS']) (by decide), Option.bind_some, zgk_ok rfl, Option.bind_some, e]
    rfl
  · unfold qmd_bound
    refine zwh_eq (fun s => 0 ≤ s.2 ∧ s.2 ≤ M 7 1 ∧ s = (zlg E S s.2.toNat, s.2)) (fun s => (M 7 1 - s.2).toNat) ?_ n _ ⟨by simp, by simp; omega, rfl⟩ (by simp; omega)
    intro s ⟨w0, w1, hs⟩
    obtain ⟨w, hw⟩ : ∃ w, s.2 = w := ⟨_, rfl⟩
    rw [hw] at w0 w1 hs
    subst hs
    try dsimp only
    rw [zgf_ok rfl, Option.bind_some, u3, zw_id (by omega) (by omega), zw_id (x := w) (by omega) (by omega)]
    by_cases c : M 7 1 ≤ w
    · right
      rw [if_pos c, show w = M 7 1 by omega]
    · left
      obtain ⟨v1, v2, v3, v4, v5, v6, v7, v8, v9⟩ := u4 w w0 (by omega)
      have hg := (hsM w0 (show w < M 7 1 by omega)).2
      have r1 := zlg_rg (E := E) (S := S) (w := w.toNat) (fun x x0 x1 => hSr x x0 (by omega))
      have r2 := hSr w w0 (by omega)
      have hnw := znw_iff (R := M 2 0) (C := M 2 1) (k := M (9 + w) 0) (m := M (9 + w) 1) (d := M (9 + w) 2) (by omega)
      rw [hEe] at hnw
      have hth := fun {i j : Int} => md_isThere (M := M) (i := i) (j := j) hg
      rw [tt.2.2.2.2.2.2.2.2.2.2.2.2.1, tt.2.2.2.2.2.2.2.2.2.2.2.2.2.1] at hth
      refine ⟨(zlg E S (w + 1).toNat, w + 1), ?_, ⟨by dsimp only; omega, by dsimp only; omega, rfl⟩, by dsimp only; omega⟩
      have inner : ∀ f : Int × Int → Option ((Int × Int) ⊕ (Int × Int)), (∀ x c, 0 ≤ c → c < 256 → (x = 0 ∨ x = 1) → f (x, c) = some (.inl ((if x = 1 ∨ zft (M 2 0) (M 2 1) (M (9 + w) 0) (M (9 + w) 1) (M (9 + w) 2) (c / 16) (c % 16) then 1 else 0), c + 1))) → (∀ x, f (x, 256) = some (.inr (x, 256))) → zwh f n (0, 0) = some ((if E w then 0 else 1), 256) := by
        intro f h1 h2
        refine zwh_eq (fun s => 0 ≤ s.2 ∧ s.2 ≤ 256 ∧ (s.1 = 0 ∨ s.1 = 1) ∧ (s.1 = 1 ↔ ∃ c, 0 ≤ c ∧ c < s.2 ∧ zft (M 2 0) (M 2 1) (M (9 + w) 0) (M (9 + w) 1) (M (9 + w) 2) (c / 16) (c % 16))) (fun s => (256 - s.2).toNat) ?_ n (0, 0) ⟨by simp, by simp, Or.inl rfl, by
          constructor
          · intro q; cases q
          · rintro ⟨c, q1, q2, _⟩; dsimp only at q2; omega⟩ (by simp; omega)
        rintro ⟨x, y⟩ ⟨y0, y1, hx, hxy⟩
        dsimp only at y0 y1 hx hxy
        by_cases q : y < 256
        · left
          refine ⟨_, h1 x y y0 q hx, ⟨by dsimp only; omega, by dsimp only; omega, ?_, ?_⟩, by dsimp only; omega⟩
          · dsimp only
            split
            · exact Or.inr rfl
            · exact Or.inl rfl
          · dsimp only
            by_cases t : x = 1 ∨ zft (M 2 0) (M 2 1) (M (9 + w) 0) (M (9 + w) 1) (M (9 + w) 2) (y / 16) (y % 16)
            · rw [if_pos t]
              refine ⟨fun _ => ?_, fun _ => rfl⟩
              rcases t with t | t
              · obtain ⟨c, e1, e2, e3⟩ := hxy.1 t
                exact ⟨c, e1, by omega, e3⟩
              · exact ⟨y, y0, by omega, t⟩
            · rw [if_neg t]
              refine ⟨(fun q => absurd q (by decide)), ?_⟩
              rintro ⟨c, e1, e2, e3⟩
              exfalso
              apply t
              by_cases z : c = y
              · right; rw [← z]; exact e3
              · left; exact hxy.2 ⟨c, e1, by omega, e3⟩
        · right
          have : y = 256 := by omega
          subst this
          rw [h2]
          have : x = if E w then 0 else 1 := by
            by_cases z : E w = true
            · rw [z, if_pos rfl]
              rcases hx with hx | hx
              · exact hx
              · obtain ⟨c, e1, e2, e3⟩ := hxy.1 hx
                exact absurd e3 (hnw.1 z _ _)
            · have z' : E w = false := by simpa using z
              rw [z', if_neg (by decide)]
              rcases hx with hx | hx
              · exfalso
                apply z
                refine hnw.2 (fun i j hf => ?_)
                have := hf.1
                have : x = 1 := hxy.2 ⟨16 * i + j, by omega, by omega, by rw [show (16 * i + j) / 16 = i by omega, show (16 * i + j) % 16 = j by omega]; exact hf⟩
                omega
              · exact hx
          rw [← this]
      rw [if_neg c, inner]
      · rw [Option.bind_some, zgr_ok (v := 64) rfl (by simp [hS']) (by decide), Option.bind_some, zga_ok (N := 6) rfl (by decide) w0 (by omega), Option.bind_some, zgr_ok (v := 65) rfl (by simp [hS']) (by decide), Option.bind_some, zga_ok (N := 6) rfl (by decide) w0 (by omega), Option.bind_some, zgr_ok (v := 66) rfl (by simp [hS']) (by decide), Option.bind_some, zga_ok (N := 6) rfl (by decide) w0 (by omega), Option.bind_some, v1, v2, v3, md_cellsOf hg, hSe, Option.bind_some, zlg_s w0, zw_id (x := S w) (by omega) (by omega), zw_id (x := zlg E S w.toNat) (by omega) (by omega)]
        by_cases d : E w = true
        · simp [d, zwl, zesc]
        · by_cases d2 : zlg E S w.toNat < S w
          · simp [d, zwl, zesc, d2, show ¬ S w ≤ zlg E S w.toNat by omega]
          · simp [d, zwl, zesc, d2, show S w ≤ zlg E S w.toNat by omega]
      · intro x y y0 y1 hx
        dsimp only
        rw [zw_id (x := 256) (by decide) (by decide), zw_id (x := y) (by omega) (by omega), if_neg (by omega)]
        rcases hx with rfl | rfl
        · rw [if_pos (by decide), zgr_ok (v := 64) rfl (by simp [hS']) (by decide), Option.bind_some, zga_ok (N := 6) rfl (by decide) w0 (by omega), Option.bind_some, zgr_ok (v := 65) rfl (by simp [hS']) (by decide), Option.bind_some, zga_ok (N := 6) rfl (by decide) w0 (by omega), Option.bind_some, zgr_ok (v := 66) rfl (by simp [hS']) (by decide), Option.bind_some, zga_ok (N := 6) rfl (by decide) w0 (by omega), Option.bind_some, v1, v2, v3, zdv_ok y0 (by omega) (by decide) (by decide), Option.bind_some, zrm_ok y0 (by omega) (by decide) (by decide), Option.bind_some, zgk_ok rfl, Option.bind_some, hth (by unfold zrg; omega) (by unfold zrg; omega) (by omega) (by omega), Option.bind_some]
          by_cases z : zft (M 2 0) (M 2 1) (M (9 + w) 0) (M (9 + w) 1) (M (9 + w) 2) (y / 16) (y % 16)
          · rw [if_pos z, if_neg (by decide), if_pos (Or.inr z)]
            rfl
          · rw [if_neg z, if_pos (by decide), if_neg (fun q => q.elim (fun q => absurd q (by decide)) z)]
            rfl
        · rw [if_neg (by decide), if_pos (Or.inl rfl)]
          rfl
      · intro x
        dsimp only
        rw [if_pos (by omega)]
