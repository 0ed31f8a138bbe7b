theorem zkp.of {P : Int → Int → Bool} {M Q : zM} {r : Int} (h : zeq r M Q) (hs : ∀ i, P r i = false) : zkp P M Q := by
  intro c i hc
  exact h c i (fun e => by rw [e, hs] at hc; cases hc)
theorem Iv.off {M Q : zM} {r : Int} (hr : r = 6 ∨ r = 63) (h : zeq r M Q) (I : Iv M) : Iv Q := by
  obtain ⟨hS, hT, hR, hW, hP, hL, hSh⟩ := I
  rcases hr with rfl | rfl
  · refine ⟨hS.keep ?_, hT.keep ?_, hR.keep ?_, hW.keep ?_, hP.keep ?_, hL.keep ?_, hSh.keep ?_⟩
    all_goals exact zkp.of h (fun _ => rfl)
  · refine ⟨hS.keep ?_, hT.keep ?_, hR.keep ?_, hW.keep ?_, hP.keep ?_, hL.keep ?_, hSh.keep ?_⟩
    all_goals exact zkp.of h (fun _ => rfl)
/-- what the cuts of the first p places come to -/
def zcu (ft : Int → Bool) (bt g : Int → Int) : Nat → Int × Int × Int × Int × Int
  | 0 => (0, 0, 0, 0, -4)
  | p + 1 => if ft p then ((zcu ft bt g p).1 + 1, (zcu ft bt g p).2.1 + (if bt p = 1 then 1 else 0), (if bt p ≤ (zcu ft bt g p).2.2.1 then (zcu ft bt g p).2.2.1 else bt p), (zcu ft bt g p).2.2.2.1 + bt p, (if bt p ≤ (zcu ft bt g p).2.2.1 then (zcu ft bt g p).2.2.2.2 else g p)) else zcu ft bt g p
theorem zcu_s {ft : Int → Bool} {bt g : Int → Int} {p : Int} (h : 0 ≤ p) : zcu ft bt g (p + 1).toNat = if ft p then ((zcu ft bt g p.toNat).1 + 1, (zcu ft bt g p.toNat).2.1 + (if bt p = 1 then 1 else 0), (if bt p ≤ (zcu ft bt g p.toNat).2.2.1 then (zcu ft bt g p.toNat).2.2.1 else bt p), (zcu ft bt g p.toNat).2.2.2.1 + bt p, (if bt p ≤ (zcu ft bt g p.toNat).2.2.1 then (zcu ft bt g p.toNat).2.2.2.2 else g p)) else zcu ft bt g p.toNat := by
  rw [show (p + 1).toNat = p.toNat + 1 by omega, zcu, show ((p.toNat : Nat) : Int) = p by omega]
theorem zcu_rg {ft : Int → Bool} {bt g : Int → Int} (h : ∀ p, 0 ≤ bt p ∧ bt p ≤ 128) (p : Nat) : 0 ≤ (zcu ft bt g p).2.2.1 ∧ (zcu ft bt g p).2.2.1 ≤ 128 := by
  induction p with
  | zero => simp [zcu]
  | succ p ih =>
    rw [zcu]
    have := h p
    split
    · dsimp only
      split <;> omega
    · exact ih
/-- both loops of a walk over the places, row by row -/
theorem zdbl {α ρ : Type} {n : Nat} {R C : Int} (hn : 1000000 ≤ n) (R0 : 0 ≤ R) (R1 : R ≤ 16) (C0 : 0 ≤ C) (C1 : C ≤ 16) (V : α → Prop) (z : Nat → Int × Int × Int × Int × Int) (res : ρ → Prop)
    (fo : Int × Int × Int × Int × Int × Int × α → Option ((Int × Int × Int × Int × Int × Int × α) ⊕ ρ)) (fi : Int → Int × Int × Int × Int × Int × Int × α → Option ((Int × Int × Int × Int × Int × Int × α) ⊕ (Int × Int × Int × Int × Int × Int × α)))
    (hi : ∀ i j Q, 0 ≤ i → i < R → 0 ≤ j → j < C → V Q → ∃ Q', fi i ((z (i * C + j).toNat).1, (z (i * C + j).toNat).2.1, (z (i * C + j).toNat).2.2.1, (z (i * C + j).toNat).2.2.2.1, (z (i * C + j).toNat).2.2.2.2, j, Q) = some (.inl ((z (i * C + (j + 1)).toNat).1, (z (i * C + (j + 1)).toNat).2.1, (z (i * C + (j + 1)).toNat).2.2.1, (z (i * C + (j + 1)).toNat).2.2.2.1, (z (i * C + (j + 1)).toNat).2.2.2.2, j + 1, Q')) ∧ V Q')
    (hie : ∀ i Q z1 z2 z3 z4 z5, V Q → fi i (z1, z2, z3, z4, z5, C, Q) = some (.inr (z1, z2, z3, z4, z5, C, Q)))
    (ho : ∀ i Q z1 z2 z3 z4 z5, 0 ≤ i → i < R → V Q → fo (z1, z2, z3, z4, z5, i, Q) = (zwh (fi i) n (z1, z2, z3, z4, z5, 0, Q)).bind fun e => some (.inl (e.1, e.2.1, e.2.2.1, e.2.2.2.1, e.2.2.2.2.1, i + 1, e.2.2.2.2.2.2)))
    (hoe : ∀ Q, V Q → ∃ r, fo ((z (R * C).toNat).1, (z (R * C).toNat).2.1, (z (R * C).toNat).2.2.1, (z (R * C).toNat).2.2.2.1, (z (R * C).toNat).2.2.2.2, R, Q) = some (.inr r) ∧ res r)
    (Q : α) (hV : V Q) : ∃ r, zwh fo n ((z 0).1, (z 0).2.1, (z 0).2.2.1, (z 0).2.2.2.1, (z 0).2.2.2.2, 0, Q) = some r ∧ res r := by
  refine zwh_inv (fun s => ∃ i Q, 0 ≤ i ∧ i ≤ R ∧ V Q ∧ s = ((z (i * C).toNat).1, (z (i * C).toNat).2.1, (z (i * C).toNat).2.2.1, (z (i * C).toNat).2.2.2.1, (z (i * C).toNat).2.2.2.2, i, Q)) (fun s => (R - s.2.2.2.2.2.1).toNat) res ?_ n _ ⟨0, Q, by omega, by omega, hV, by simp⟩ (by simp; omega)
  rintro s ⟨i, Q, i0, i1, hv, rfl⟩
  by_cases c : i < R
  · left
    obtain ⟨r, hr, Q', hv', rfl⟩ := zwh_inv (f := fi i) (fun s => ∃ j Q, 0 ≤ j ∧ j ≤ C ∧ V Q ∧ s = ((z (i * C + j).toNat).1, (z (i * C + j).toNat).2.1, (z (i * C + j).toNat).2.2.1, (z (i * C + j).toNat).2.2.2.1, (z (i * C + j).toNat).2.2.2.2, j, Q)) (fun s => (C - s.2.2.2.2.2.1).toNat) (fun r => ∃ Q, V Q ∧ r = ((z (i * C + C).toNat).1, (z (i * C + C).toNat).2.1, (z (i * C + C).toNat).2.2.1, (z (i * C + C).toNat).2.2.2.1, (z (i * C + C).toNat).2.2.2.2, C, Q)) (by
        rintro s ⟨j, Q, j0, j1, hv, rfl⟩
        by_cases c2 : j < C
        · left
          obtain ⟨Q', e1, e2⟩ := hi i j Q i0 c j0 c2 hv
          exact ⟨_, e1, ⟨j + 1, Q', by omega, by omega, e2, rfl⟩, by dsimp only; omega⟩
        · right
          have : j = C := by omega
          subst this
          exact ⟨_, hie i Q _ _ _ _ _ hv, Q, hv, rfl⟩) n ((z (i * C).toNat).1, (z (i * C).toNat).2.1, (z (i * C).toNat).2.2.1, (z (i * C).toNat).2.2.2.1, (z (i * C).toNat).2.2.2.2, 0, Q) ⟨0, Q, by omega, by omega, hv, by simp⟩ (by simp; omega)
    refine ⟨_, by rw [ho i Q _ _ _ _ _ i0 c hv, hr]; rfl, ⟨i + 1, Q', by omega, by omega, hv', ?_⟩, by dsimp only; omega⟩
    rw [show (i + 1) * C = i * C + C by rw [Int.add_mul, Int.one_mul]]
  · right
    have : i = R := by omega
    subst this
    exact hoe Q hv

theorem zmb_128 (f : Int → Int) {k m d : Int} (h : zsg k m d) : 0 ≤ zmb f (zsz k m d).toNat ∧ zmb f (zsz k m d).toNat ≤ 128 := by
  have := zmb_rg f (zsz k m d).toNat
  have := zsz_rg h
  omega
def zpk (a : Int) (z : Int × Int × Int × Int × Int) : Int := if a = 0 then z.1 else if a = 1 then z.2.1 else if a = 2 then z.2.2.1 else if a = 3 then z.2.2.2.1 else z.2.2.2.2
def zct (M : zM) (k m d : Int) : Nat → Int × Int × Int × Int × Int := zcu (fun p => decide (zft (M 2 0) (M 2 1) k m d (p / M 2 1) (p % M 2 1))) (fun p => zmb (zf M k d (p / M 2 1) (p % M 2 1)) (zsz k m d).toNat) (fun p => 16 * (p / M 2 1) + p % M 2 1)
theorem zct_s {M : zM} {k m d i j : Int} (i0 : 0 ≤ i) (j0 : 0 ≤ j) (j1 : j < M 2 1) : zct M k m d (i * M 2 1 + (j + 1)).toNat = if zft (M 2 0) (M 2 1) k m d i j then ((zct M k m d (i * M 2 1 + j).toNat).1 + 1, (zct M k m d (i * M 2 1 + j).toNat).2.1 + (if zmb (zf M k d i j) (zsz k m d).toNat = 1 then 1 else 0), (if zmb (zf M k d i j) (zsz k m d).toNat ≤ (zct M k m d (i * M 2 1 + j).toNat).2.2.1 then (zct M k m d (i * M 2 1 + j).toNat).2.2.1 else zmb (zf M k d i j) (zsz k m d).toNat), (zct M k m d (i * M 2 1 + j).toNat).2.2.2.1 + zmb (zf M k d i j) (zsz k m d).toNat, (if zmb (zf M k d i j) (zsz k m d).toNat ≤ (zct M k m d (i * M 2 1 + j).toNat).2.2.1 then (zct M k m d (i * M 2 1 + j).toNat).2.2.2.2 else 16 * i + j)) else zct M k m d (i * M 2 1 + j).toNat := by
  have h0 : 0 ≤ i * M 2 1 + j := by
    have : 0 ≤ i * M 2 1 := Int.mul_nonneg i0 (by omega)
    omega
  unfold zct
  rw [← Int.add_assoc, zcu_s h0, (zij j0 j1).1, (zij j0 j1).2]
  simp only [decide_eq_true_eq]
theorem zct_rg {M : zM} {k m d : Int} (h : zsg k m d) (p : Nat) : 0 ≤ (zct M k m d p).2.2.1 ∧ (zct M k m d p).2.2.1 ≤ 128 := zcu_rg (fun p => zmb_128 _ h) p
theorem zf.cg {M Q : zM} {k d i j : Int} (e : ∀ c x, c = 2 ∨ c = 3 → Q c x = M c x) : zf Q k d i j = zf M k d i j := by
  funext u
  exact zB.cg e
theorem ccuts {M : zM} {n : Nat} {k m d a4 : Int} (hn : 1000000 ≤ n) (I : Iv M) (hg : zsg k m d) (b0 : 0 ≤ a4) (b1 : a4 ≤ 4) : ∃ Q, qbs_cuts n zK0 M 1 k m d a4 = some (zpk a4 (zct (zas M k m d) k m d (zas M k m d 2 0 * zas M k m d 2 1).toNat), Q) ∧ zeq 6 (zas M k m d) Q := by
  have hSM := I.1
  unfold zSR at hSM
  obtain ⟨h1, h2, h3, h4, h5, h6⟩ := id hg
  obtain ⟨N, hN⟩ : ∃ N, zas M k m d = N := ⟨_, rfl⟩
  have IN : Iv N := hN ▸ I.as
  have hN5 : N 5 0 = k ∧ N 5 1 = m ∧ N 5 2 = d := hN ▸ zas_at
  have hla := IN.la
  have tt := IN.2.1
  unfold IvT at tt
  have hS' := IN.1
  unfold zSR at hS'
  unfold qbs_cuts
  rw [zshp (by unfold zrg; omega) (by unfold zrg; omega) (by unfold zrg; omega), if_pos (by omega), Option.bind_some, if_neg (by decide), zwit (by unfold zrg; omega) (by decide) (by decide), if_pos (by omega), Option.bind_some, if_neg (by decide), zgr_ok (v := 5) rfl (by simp [hSM]) (by decide), Option.bind_some, zgk_ok rfl, Option.bind_some, sh_become, Option.bind_some, hN]
  have key : ∀ F : Int × Int × Int × Int × Int × Int × zM → Option ((Int × Int × Int × Int × Int × Int × zM) ⊕ (Int × zM)), (∃ r, zwh F n ((zct N k m d 0).1, (zct N k m d 0).2.1, (zct N k m d 0).2.2.1, (zct N k m d 0).2.2.2.1, (zct N k m d 0).2.2.2.2, 0, N) = some r ∧ r.1 = zpk a4 (zct N k m d (N 2 0 * N 2 1).toNat) ∧ zeq 6 N r.2) → ∃ Q, zwh F n (0, 0, 0, 0, -4, 0, N) = some (zpk a4 (zct N k m d (N 2 0 * N 2 1).toNat), Q) ∧ zeq 6 N Q := by
    rintro F ⟨⟨r1, r2⟩, e1, e2, e3⟩
    dsimp only at e2 e3
    subst e2
    exact ⟨r2, e1, e3⟩
  apply key
  refine zdbl (R := N 2 0) (C := N 2 1) hn (by omega) (by omega) (by omega) (by omega) (fun Q => zeq 6 N Q) (zct N k m d) (fun r : Int × zM => r.1 = zpk a4 (zct N k m d (N 2 0 * N 2 1).toNat) ∧ zeq 6 N r.2) _ (fun i s8 =>
            (zgr zK0 s8.2.2.2.2.2.2 11 15 1 0).bind fun r10 =>
            (zgf zK0 s8.2.2.2.2.2.2 2 7 r10 1).bind fun v11 =>
            if zw v11 ≤ zw s8.2.2.2.2.2.1 then
              some (.inr (s8.1, s8.2.1, s8.2.2.1, s8.2.2.2.1, s8.2.2.2.2.1, s8.2.2.2.2.2.1, s8.2.2.2.2.2.2))
            else
              (zgr zK0 s8.2.2.2.2.2.2 11 15 1 2).bind fun r12 =>
              (zgr zK0 s8.2.2.2.2.2.2 11 15 1 0).bind fun r13 =>
              (zgk zK0 r12 6 3).bind fun _ => (qsh_fits zK0 s8.2.2.2.2.2.2 r12 r13 i s8.2.2.2.2.2.1).bind fun v14 =>
              (if zw v14 = 0 then
                some (s8.1, s8.2.1, s8.2.2.1, s8.2.2.2.1, s8.2.2.2.2.1, s8.2.2.2.2.2.2)
              else
                (zgr zK0 s8.2.2.2.2.2.2 11 15 1 2).bind fun r16 =>
                (zgr zK0 s8.2.2.2.2.2.2 11 15 1 0).bind fun r17 =>
                (zgr zK0 s8.2.2.2.2.2.2 11 15 1 3).bind fun r18 =>
                (zgk zK0 r16 6 3).bind fun _ => (qsh_beatsAt n zK0 s8.2.2.2.2.2.2 r16 r17 i s8.2.2.2.2.2.1 r18).bind fun p19 =>
                (if zw p19.1 = zw 1 then
                  some 1
                else
                  some 0 : Option (Int)).bind fun j20 =>
                (some (s8.2.1 + j20)).bind fun x21 =>
                (some (s8.2.2.2.1 + p19.1)).bind fun x22 =>
                if zw p19.1 ≤ zw s8.2.2.1 then
                  some (s8.1 + 1, x21, s8.2.2.1, x22, s8.2.2.2.2.1, p19.2)
                else
                  (qbs_spot zK0 p19.2 i s8.2.2.2.2.2.1).bind fun v23 =>
                  some (s8.1 + 1, x21, p19.1, x22, v23, p19.2) : Option (Int × Int × Int × Int × Int × zM)).bind fun j15 =>
              some (.inl (j15.1, j15.2.1, j15.2.2.1, j15.2.2.2.1, j15.2.2.2.2.1, s8.2.2.2.2.2.1 + 1, j15.2.2.2.2.2))) ?_ ?_ ?_ ?_ N (fun _ _ _ => rfl)
  · intro i j Q i0 i1 j0 j1 hQ
    have hlQ : zLa Q 2 := hla.cg (fun c x q => hQ c x (by omega))
    have hs5 : zsM Q 5 := ⟨rfl, by rw [hQ 5 0 (by decide), hQ 5 1 (by decide), hQ 5 2 (by decide), hN5.1, hN5.2.1, hN5.2.2]; exact hg⟩
    have q10 : Q 1 0 = 2 := by rw [hQ 1 0 (by decide)]; simp [hS']
    have q12 : Q 1 2 = 5 := by rw [hQ 1 2 (by decide)]; simp [hS']
    have q13 : Q 1 3 = 6 := by rw [hQ 1 3 (by decide)]; simp [hS']
    have hft := sh_fits (i := i) (j := j) hs5 hlQ (by unfold zrg; omega) (by unfold zrg; omega)
    rw [hQ 5 0 (by decide), hQ 5 1 (by decide), hQ 5 2 (by decide), hN5.1, hN5.2.1, hN5.2.2, hQ 2 0 (by decide), hQ 2 1 (by decide)] at hft
    have e := zct_s (M := N) (k := k) (m := m) (d := d) i0 j0 j1
    have er := zct_rg (M := N) hg (i * N 2 1 + j).toNat
    dsimp only
    rw [zgr_ok (v := 2) rfl q10 (by decide), Option.bind_some, zgf_ok rfl, Option.bind_some, hQ 2 1 (by decide), zw_id (by omega) (by omega), zw_id (x := j) (by omega) (by omega), if_neg (by omega), zgr_ok (v := 5) rfl q12 (by decide), Option.bind_some, Option.bind_some, zgk_ok rfl, Option.bind_some, hft, Option.bind_some]
    by_cases c : zft (N 2 0) (N 2 1) k m d i j
    · have hb := sh_beats (n := n) (i := i) (j := j) hn hlQ hs5 (by rw [hQ 5 0 (by decide), hQ 5 1 (by decide), hQ 5 2 (by decide), hN5.1, hN5.2.1, hN5.2.2, hQ 2 0 (by decide), hQ 2 1 (by decide)]; exact c)
      rw [hQ 5 0 (by decide), hQ 5 1 (by decide), hQ 5 2 (by decide), hN5.1, hN5.2.1, hN5.2.2, zf.cg (M := N) (fun c x q => hQ c x (by omega))] at hb
      have hm := zmb_128 (zf N k d i j) hg
      rw [if_pos c] at e
      rw [e, if_pos c, if_neg (by decide), Option.bind_some, Option.bind_some, zgr_ok (v := 6) rfl q13 (by decide), Option.bind_some, zgk_ok rfl, Option.bind_some, hb]
      dsimp only
      rw [Option.bind_some, zw_id (x := zmb (zf N k d i j) (zsz k m d).toNat) (by omega) (by omega), zw_id (x := 1) (by decide) (by decide), zw_id (by omega) (by omega), qbs_spot]
      refine ⟨zta Q 6 (zf N k d i j) (zsz k m d).toNat, ?_, fun c x q => by rw [zta_ne q]; exact hQ c x q⟩
      by_cases c1 : zmb (zf N k d i j) (zsz k m d).toNat = 1
      · by_cases c2 : zmb (zf N k d i j) (zsz k m d).toNat ≤ (zct N k m d (i * N 2 1 + j).toNat).2.2.1
        · simp [c1]
          rw [c1] at c2
          simp [c2]
        · simp [c1]
          rw [c1] at c2
          simp [c2]
          omega
      · by_cases c2 : zmb (zf N k d i j) (zsz k m d).toNat ≤ (zct N k m d (i * N 2 1 + j).toNat).2.2.1
        · simp [c1, c2]
        · simp [c1, c2]
          omega
    · rw [if_neg c] at e
      rw [e, if_neg c, if_pos (by decide)]
      exact ⟨Q, rfl, hQ⟩
  · intro i Q z1 z2 z3 z4 z5 hQ
    have q10 : Q 1 0 = 2 := by rw [hQ 1 0 (by decide)]; simp [hS']
    dsimp only
    rw [zgr_ok (v := 2) rfl q10 (by decide), Option.bind_some, zgf_ok rfl, Option.bind_some, hQ 2 1 (by decide), if_pos (by omega)]
  · intro i Q z1 z2 z3 z4 z5 i0 i1 hQ
    have q10 : Q 1 0 = 2 := by rw [hQ 1 0 (by decide)]; simp [hS']
    dsimp only
    rw [zgr_ok (v := 2) rfl q10 (by decide), Option.bind_some, zgf_ok rfl, Option.bind_some, hQ 2 0 (by decide), zw_id (by omega) (by omega), zw_id (x := i) (by omega) (by omega), if_neg (by omega)]
  · intro Q hQ
    have q10 : Q 1 0 = 2 := by rw [hQ 1 0 (by decide)]; simp [hS']
    dsimp only
    rw [zgr_ok (v := 2) rfl q10 (by decide), Option.bind_some, zgf_ok rfl, Option.bind_some, hQ 2 0 (by decide), if_pos (by omega), zw_id (x := a4) (by omega) (by omega)]
    unfold zpk
    split
    · exact ⟨_, rfl, rfl, hQ⟩
    · split
      · exact ⟨_, rfl, rfl, hQ⟩
      · split
        · exact ⟨_, rfl, rfl, hQ⟩
        · split
          · exact ⟨_, rfl, rfl, hQ⟩
          · exact ⟨_, rfl, rfl, hQ⟩
