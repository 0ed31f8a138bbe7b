theorem zct.cg {M Q : zM} {k m d : Int} (e : ∀ c x, c = 2 ∨ c = 3 → Q c x = M c x) : zct Q k m d = zct M k m d := by
  unfold zct
  rw [e 2 0 (Or.inl rfl), e 2 1 (Or.inl rfl)]
  congr 1
  funext p
  rw [zf.cg e]
theorem mcuts {M : zM} {n : Nat} {k m d a4 : Int} (hn : 1000000 ≤ n) (I : Iv M) (hg : zsg k m d) (b0 : 0 ≤ a4) (b1 : a4 ≤ 4) : ∃ Q, qmd_cuts n zK0 M 60 k m d a4 = some (zpk a4 (zct M k m d (M 2 0 * M 2 1).toNat), Q) ∧ zeq 63 (zlN M) Q := by
  have hlay := mlaysNow hn I
  have hat := fun {i j : Int} => zlN_at I (i := i) (j := j)
  have hla := I.la
  obtain ⟨h1, h2, h3, h4, h5, h6⟩ := id hg
  have tt := I.2.1
  unfold IvT at tt
  have hS' := I.1
  unfold zSR at hS'
  have f0 : zlN M 60 0 = M 2 0 := by rw [zlN_ne (by decide), tt.2.2.2.2.2.2.2.2.2.2.2.2.1]
  have f1 : zlN M 60 1 = M 2 1 := by rw [zlN_ne (by decide), tt.2.2.2.2.2.2.2.2.2.2.2.2.2.1]
  have f7 : zlN M 60 7 = 62 := by rw [zlN_ne (by decide)]; simp [hS']
  have f8 : zlN M 60 8 = 63 := by rw [zlN_ne (by decide)]; simp [hS']
  unfold qmd_cuts
  rw [zcut (by unfold zrg; omega) (by unfold zrg; omega) (by unfold zrg; omega), if_pos (by omega), Option.bind_some, if_neg (by decide), zw_id (x := a4) (by omega) (by omega), zinn (by unfold zrg; omega) (by decide) (by decide), if_pos (by omega), Option.bind_some, if_neg (by decide), zgk_ok rfl, Option.bind_some, hlay, Option.bind_some]
  have key : ∀ (F : Int × Int × Int × Int × Int × Int × zM → Option ((Int × Int × Int × Int × Int × Int × zM) ⊕ (Int × Int × Int × Int × Int × Int × zM))) (G : Int × Int × Int × Int × Int × Int × zM → Option (Int × zM)), (∃ r, zwh F n ((zct M k m d 0).1, (zct M k m d 0).2.1, (zct M k m d 0).2.2.1, (zct M k m d 0).2.2.2.1, (zct M k m d 0).2.2.2.2, 0, zlN M) = some r ∧ ∃ x Q, r = ((zct M k m d (M 2 0 * M 2 1).toNat).1, (zct M k m d (M 2 0 * M 2 1).toNat).2.1, (zct M k m d (M 2 0 * M 2 1).toNat).2.2.1, (zct M k m d (M 2 0 * M 2 1).toNat).2.2.2.1, (zct M k m d (M 2 0 * M 2 1).toNat).2.2.2.2, x, Q) ∧ zeq 63 (zlN M) Q) → (∀ z1 z2 z3 z4 z5 x Q, G (z1, z2, z3, z4, z5, x, Q) = some (zpk a4 (z1, z2, z3, z4, z5), Q)) → ∃ Q, (zwh F n (0, 0, 0, 0, -4, 0, zlN M)).bind G = some (zpk a4 (zct M k m d (M 2 0 * M 2 1).toNat), Q) ∧ zeq 63 (zlN M) Q := by
    rintro F G ⟨r, e1, x, Q, e2, e3⟩ hG
    refine ⟨Q, ?_, e3⟩
    rw [show zwh F n (0, 0, 0, 0, -4, 0, zlN M) = some r from e1, e2, Option.bind_some, hG]
  apply key
  · refine zdbl (R := M 2 0) (C := M 2 1) hn (by omega) (by omega) (by omega) (by omega) (fun Q => zeq 63 (zlN M) Q) (zct M k m d) (fun r : Int × Int × Int × Int × Int × Int × zM => ∃ x Q, r = ((zct M k m d (M 2 0 * M 2 1).toNat).1, (zct M k m d (M 2 0 * M 2 1).toNat).2.1, (zct M k m d (M 2 0 * M 2 1).toNat).2.2.1, (zct M k m d (M 2 0 * M 2 1).toNat).2.2.2.1, (zct M k m d (M 2 0 * M 2 1).toNat).2.2.2.2, x, Q) ∧ zeq 63 (zlN M) Q) _ (fun i s7 =>
            (zgf zK0 s7.2.2.2.2.2.2 12 49 60 1).bind fun v9 =>
            if zw v9 ≤ zw s7.2.2.2.2.2.1 then
              some (.inr (s7.1, s7.2.1, s7.2.2.1, s7.2.2.2.1, s7.2.2.2.2.1, s7.2.2.2.2.2.1, s7.2.2.2.2.2.2))
            else
              (zgk zK0 60 12 49).bind fun _ => (qmd_isThere zK0 s7.2.2.2.2.2.2 60 k m d i s7.2.2.2.2.2.1).bind fun v10 =>
              (if zw v10 = 0 then
                some (s7.1, s7.2.1, s7.2.2.1, s7.2.2.2.1, s7.2.2.2.2.1, s7.2.2.2.2.2.2)
              else
                (zgk zK0 60 12 49).bind fun _ => (qmd_beatsOf n zK0 s7.2.2.2.2.2.2 60 k m d i s7.2.2.2.2.2.1).bind fun p12 =>
                (if zw p12.1 = zw 1 then
                  some 1
                else
                  some 0 : Option (Int)).bind fun j13 =>
                (some (s7.2.1 + j13)).bind fun x14 =>
                (some (s7.2.2.2.1 + p12.1)).bind fun x15 =>
                (if zw p12.1 ≤ zw s7.2.2.1 then
                  some s7.2.2.2.2.1
                else
                  some ((16 * i) + s7.2.2.2.2.2.1) : Option (Int)).bind fun j16 =>
                (if zw p12.1 ≤ zw s7.2.2.1 then
                  some s7.2.2.1
                else
                  some p12.1 : Option (Int)).bind fun j17 =>
                some (s7.1 + 1, x14, j17, x15, j16, p12.2) : Option (Int × Int × Int × Int × Int × zM)).bind fun j11 =>
              some (.inl (j11.1, j11.2.1, j11.2.2.1, j11.2.2.2.1, j11.2.2.2.2.1, s7.2.2.2.2.2.1 + 1, j11.2.2.2.2.2))) ?_ ?_ ?_ ?_ (zlN M) (fun _ _ _ => rfl)
    · intro i j Q i0 i1 j0 j1 hQ
      have q0 : Q 60 0 = M 2 0 := by rw [hQ 60 0 (by decide), f0]
      have q1 : Q 60 1 = M 2 1 := by rw [hQ 60 1 (by decide), f1]
      have hft := md_isThere (M := Q) (i := i) (j := j) hg (by unfold zrg; omega) (by unfold zrg; omega) (by omega) (by omega)
      rw [q0, q1] at hft
      have e := zct_s (M := M) (k := k) (m := m) (d := d) i0 j0 j1
      have er := zct_rg (M := M) hg (i * M 2 1 + j).toNat
      dsimp only
      rw [zgf_ok rfl, Option.bind_some, q1, zw_id (by omega) (by omega), zw_id (x := j) (by omega) (by omega), if_neg (by omega), zgk_ok rfl, Option.bind_some, hft, Option.bind_some]
      by_cases c : zft (M 2 0) (M 2 1) k m d i j
      · have hb := md_beats (Q := Q) (n := n) (R := M 2 0) (C := M 2 1) (i := i) (j := j) hn (fun x y => zB M x y) (zf M k d i j) (by rw [hQ 60 7 (by decide), f7]) (by rw [hQ 60 8 (by decide), f8]) (by omega) (by omega) (fun x y x0 x1 y0 y1 => by
          rw [hQ 62 _ (by decide), hat x0 x1 y0 y1]
          exact ⟨rfl, zB_rL hla x0 (by omega) y0 (by omega)⟩) hg c (fun u => rfl)
        have hm := zmb_128 (zf M k d i j) hg
        rw [if_pos c] at e
        rw [e, if_pos c, if_neg (by decide), Option.bind_some, hb]
        dsimp only
        rw [Option.bind_some, zw_id (x := zmb (zf M k d i j) (zsz k m d).toNat) (by omega) (by omega), zw_id (x := 1) (by decide) (by decide), zw_id (by omega) (by omega)]
        refine ⟨zta Q 63 (zf M k d i j) (zsz k m d).toNat, ?_, fun c x q => by rw [zta_ne q]; exact hQ c x q⟩
        by_cases c1 : zmb (zf M k d i j) (zsz k m d).toNat = 1
        · by_cases c2 : zmb (zf M k d i j) (zsz k m d).toNat ≤ (zct M k m d (i * M 2 1 + j).toNat).2.2.1
          · simp [c1]
            rw [c1] at c2
            simp [c2]
          · simp [c1]
            rw [c1] at c2
            simp [c2]
        · by_cases c2 : zmb (zf M k d i j) (zsz k m d).toNat ≤ (zct M k m d (i * M 2 1 + j).toNat).2.2.1
          · simp [c1, c2]
          · simp [c1, c2]
      · rw [if_neg c] at e
        rw [e, if_neg c, if_pos (by decide)]
        exact ⟨Q, rfl, hQ⟩
    · intro i Q z1 z2 z3 z4 z5 hQ
      have q1 : Q 60 1 = M 2 1 := by rw [hQ 60 1 (by decide), f1]
      dsimp only
      rw [zgf_ok rfl, Option.bind_some, q1, if_pos (by omega)]
    · intro i Q z1 z2 z3 z4 z5 i0 i1 hQ
      have q0 : Q 60 0 = M 2 0 := by rw [hQ 60 0 (by decide), f0]
      dsimp only
      rw [zgf_ok rfl, Option.bind_some, q0, zw_id (by omega) (by omega), zw_id (x := i) (by omega) (by omega), if_neg (by omega), zgk_ok (K := zK0) (r := 60) (ci := 12) (N := 49) rfl]
    · intro Q hQ
      have q0 : Q 60 0 = M 2 0 := by rw [hQ 60 0 (by decide), f0]
      dsimp only
      rw [zgf_ok rfl, Option.bind_some, q0, if_pos (by omega)]
      exact ⟨_, rfl, _, _, rfl, hQ⟩
  · intro z1 z2 z3 z4 z5 x Q
    simp only [zwl]
    unfold zpk
    split
    · rfl
    · split
      · rfl
      · split
        · rfl
        · split <;> rfl
theorem o_cuts {M : zM} {n : Nat} (hn : 1000000 ≤ n) (I : Iv M) {a1 a2 a3 a4 : Int} (g1 : zrg a1) (g2 : zrg a2) (g3 : zrg a3) (g4 : zrg a4) : ∃ r M1 r' M2, qbs_cuts n zK0 M 1 a1 a2 a3 a4 = some (r, M1) ∧ qmd_cuts n zK0 M1 60 a1 a2 a3 a4 = some (r', M2) ∧ zw r = zw r' ∧ Iv M2 := by
  by_cases c : (0 ≤ a1 ∧ a1 ≤ 4) ∧ (1 ≤ a2 ∧ a2 ≤ 16) ∧ 1 ≤ a3 ∧ a3 ≤ 8
  · have hg : zsg a1 a2 a3 := ⟨c.1.1, c.1.2, c.2.1.1, c.2.1.2, c.2.2.1, c.2.2.2⟩
    by_cases c4 : 0 ≤ a4 ∧ a4 ≤ 4
    · obtain ⟨Q, e1, e2⟩ := ccuts (n := n) hn I hg c4.1 c4.2
      have IQ : Iv Q := I.as.off (Or.inl rfl) e2
      obtain ⟨Q', e3, e4⟩ := mcuts (n := n) hn IQ hg c4.1 c4.2
      refine ⟨_, Q, _, Q', e1, e3, ?_, (Iv.ly IQ).off (Or.inr rfl) e4⟩
      rw [zct.cg (M := zas M a1 a2 a3) (Q := Q) (fun c x q => e2 c x (by omega)), e2 2 0 (by decide), e2 2 1 (by decide)]
    · refine ⟨-1, M, -1, M, ?_, ?_, rfl, I⟩
      · unfold qbs_cuts
        simp [zshp g1 g2 g3, c, zwl, zwit g4 (show zrg 0 by decide) (show zrg 4 by decide), c4]
      · unfold qmd_cuts
        simp [zcut g1 g2 g3, c, zwl, zw_in g4, zinn g4 (show zrg 0 by decide) (show zrg 4 by decide), c4]
  · refine ⟨-1, M, -1, M, ?_, ?_, rfl, I⟩
    · unfold qbs_cuts
      simp [zshp g1 g2 g3, c, zwl]
    · unfold qmd_cuts
      simp [zcut g1 g2 g3, c, zwl]
