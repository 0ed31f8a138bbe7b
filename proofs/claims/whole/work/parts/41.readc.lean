theorem mread {M Q : zM} {n : Nat} {a b l : Int} (hn : 1000000 ≤ n) (I : Iv M) (hQ : ∀ c x, c ≠ 3 → Q c x = M c x) (a0 : 0 ≤ a) (a1 : a < 4) (l0 : 0 ≤ l) (l1 : l ≤ 2) (gb : zrg b) (h0 : 0 ≤ M (38 + 2 * a) 1) (h1 : M (38 + 2 * a) 1 ≤ 256) (hsr : ∀ x, 0 ≤ x → x < 256 → zrg (M (39 + 2 * a) x)) (h85 : M 85 a = l) (h86 : M 86 a = M (38 + 2 * a) 1) (h87 : ∀ x, 0 ≤ x → x < 256 → M 87 (256 * a + x) = M (39 + 2 * a) x) :
    (∀ v, zff (zbd (M (39 + 2 * a)) b (M (38 + 2 * a) 1) (M 2 2)) (M 2 0 * M 2 1).toNat = some v → qmd_read n zK0 Q 60 a l b = some (v, Q)) ∧ (zff (zbd (M (39 + 2 * a)) b (M (38 + 2 * a) 1) (M 2 2)) (M 2 0 * M 2 1).toNat = none → qmd_read n zK0 Q 60 a l b = some ((zcp (fun p => M (39 + 2 * a) (b + p)) (fun p => 16 * (p / M 2 1) + p % M 2 1) (M 61) (M 2 0 * M 2 1).toNat).1, zrp Q 61 (zcp (fun p => M (39 + 2 * a) (b + p)) (fun p => 16 * (p / M 2 1) + p % M 2 1) (M 61) (M 2 0 * M 2 1).toNat).2)) := by
  have hS' := I.1
  unfold zSR at hS'
  have tt := I.2.1
  unfold IvT at tt
  have t19 := tt.2.2.2.2.2.2.2.2.2.2.2.2.2.2.2.2.2.2
  have hrc := zrc tt.1 tt.2.1 tt.2.2.1 tt.2.2.2.1
  have hd := fun {c : Int} => zdm (c := c) (R := M 2 0) tt.2.2.1
  have f0 : Q 60 0 = M 2 0 := by rw [hQ _ _ (by decide), tt.2.2.2.2.2.2.2.2.2.2.2.2.1]
  have f1 : Q 60 1 = M 2 1 := by rw [hQ _ _ (by decide), tt.2.2.2.2.2.2.2.2.2.2.2.2.2.1]
  have f2 : Q 60 2 = M 2 2 := by rw [hQ _ _ (by decide), tt.2.2.2.2.2.2.2.2.2.2.2.2.2.2.1]
  have f6 : Q 60 6 = 61 := by rw [hQ _ _ (by decide)]; simp [hS']
  have f46 : Q 60 46 = 85 := by rw [hQ _ _ (by decide)]; simp [hS']
  have f47 : Q 60 47 = 86 := by rw [hQ _ _ (by decide)]; simp [hS']
  have f48 : Q 60 48 = 87 := by rw [hQ _ _ (by decide)]; simp [hS']
  have g85 : Q 85 a = l := by rw [hQ _ _ (by decide), h85]
  have g86 : Q 86 a = M (38 + 2 * a) 1 := by rw [hQ _ _ (by decide), h86]
  have g87 : ∀ x, 0 ≤ x → x < 256 → Q 87 (256 * a + x) = M (39 + 2 * a) x := fun x x0 x1 => by rw [hQ _ _ (by decide), h87 x x0 x1]
  obtain ⟨T, hT⟩ : ∃ T, M 2 0 * M 2 1 = T := ⟨_, rfl⟩
  rw [hT] at hrc hd ⊢
  obtain ⟨L, hL⟩ : ∃ L, M (38 + 2 * a) 1 = L := ⟨_, rfl⟩
  rw [hL] at h0 h1 g86 ⊢
  obtain ⟨bad, hbad⟩ : ∃ bad, zbd (M (39 + 2 * a)) b L (M 2 2) = bad := ⟨_, rfl⟩
  rw [hbad]
  have gb' := gb
  unfold zrg at gb'
  unfold qmd_read
  rw [zsht (by unfold zrg; omega) (by unfold zrg; omega), if_pos (by omega), Option.bind_some, if_neg (by decide), zgr_ok (v := 85) rfl f46 (by decide), Option.bind_some, zga_ok (N := 4) rfl (by decide) a0 (by omega), Option.bind_some, g85, if_pos rfl]
  have first : ∀ f : Int → Option (Int ⊕ (Int ⊕ (Int × zM))), (∀ p, 0 ≤ p → p < T → zff bad p.toNat = none → (bad p = none ∧ f p = some (.inl (p + 1))) ∨ (∃ v, bad p = some v ∧ f p = some (.inr (.inr (v, Q))))) → f T = some (.inr (.inl T)) → zwh f n 0 = some (match zff bad T.toNat with | none => .inl T | some v => .inr (v, Q)) := by
    intro f hf hfT
    refine zwh_eq (fun p => 0 ≤ p ∧ p ≤ T ∧ zff bad p.toNat = none) (fun p => (T - p).toNat) ?_ n _ ⟨by omega, by omega, rfl⟩ (by omega)
    rintro p ⟨p0, p1, hp⟩
    by_cases c : p < T
    · have e := zff_s p0 hp
      rcases hf p p0 c hp with ⟨e1, e2⟩ | ⟨v, e1, e2⟩
      · left
        exact ⟨_, e2, ⟨by omega, by omega, by rw [e, e1]⟩, by omega⟩
      · right
        rw [e2, zff_up (s := (p + 1).toNat) (v := v) (by omega) (by rw [e, e1])]
    · right
      have : p = T := by omega
      subst this
      rw [hfT, hp]
  rw [first]
  · constructor
    · intro v hv
      rw [hv]
      rfl
    · intro hv
      rw [hv]
      have hnb : ∀ p, 0 ≤ p → p < T → (0 ≤ b + p ∧ b + p ≤ L - 1) ∧ 0 ≤ M (39 + 2 * a) (b + p) ∧ M (39 + 2 * a) (b + p) ≤ M 2 2 - 1 := by
        intro p p0 p1
        have := zff_no hv p0 (by omega)
        rw [← hbad, zbd] at this
        by_cases q : 0 ≤ b + p ∧ b + p ≤ L - 1
        · rw [if_pos q] at this
          by_cases q2 : 0 ≤ M (39 + 2 * a) (b + p) ∧ M (39 + 2 * a) (b + p) ≤ M 2 2 - 1
          · exact ⟨q, q2⟩
          · rw [if_neg q2] at this; cases this
        · rw [if_neg q] at this; cases this
      obtain ⟨Z, hZ⟩ : ∃ Z, zcp (fun p => M (39 + 2 * a) (b + p)) (fun p => 16 * (p / M 2 1) + p % M 2 1) (M 61) = Z := ⟨_, rfl⟩
      have hZs : ∀ p, 0 ≤ p → Z (p + 1).toNat = ((Z p.toNat).1 + (if (Z p.toNat).2 (16 * (p / M 2 1) + p % M 2 1) = M (39 + 2 * a) (b + p) then 0 else 1), fun x => if x = 16 * (p / M 2 1) + p % M 2 1 then M (39 + 2 * a) (b + p) else (Z p.toNat).2 x) := fun p p0 => by rw [← hZ]; exact zcp_s p0
      have hZr : ∀ p, p ≤ T → ∀ x, 0 ≤ x → x < 256 → 0 ≤ (Z p.toNat).2 x ∧ (Z p.toNat).2 x < M 2 2 := fun p p1 x x0 x1 => by
        rw [← hZ]
        exact zcp_rg (fun x x0 x1 => by have := t19 x x0 x1; omega) (fun q q0 q1 => by have := hnb q q0 (by omega); omega) x x0 x1
      rw [hZ]
      have hZ0 : Z 0 = (0, Q 61) := by rw [← hZ, show Q 61 = M 61 from funext fun x => hQ 61 x (by decide)]; rfl
      show zwh _ n _ = _
      refine zwh_eq (fun s => 0 ≤ s.2.1 ∧ s.2.1 ≤ T ∧ s = ((Z s.2.1.toNat).1, s.2.1, zrp Q 61 (Z s.2.1.toNat).2)) (fun s => (T - s.2.1).toNat) ?_ n _ ⟨by simp, by simp; omega, by simp [hZ0, zrp_0]⟩ (by simp; omega)
      intro s ⟨p0, p1, hs⟩
      obtain ⟨p, hp⟩ : ∃ p, s.2.1 = p := ⟨_, rfl⟩
      rw [hp] at p0 p1 hs
      subst hs
      try dsimp only
      rw [zgf_ok rfl, Option.bind_some, zgf_ok rfl, Option.bind_some, zrp_ne (by decide), zrp_ne (by decide), f0, f1, hT, zw_id (by omega) (by omega), zw_id (x := p) (by omega) (by omega)]
      by_cases c : T ≤ p
      · right
        rw [if_pos c, show p = T by omega]
      · left
        obtain ⟨d1, d2, d3, d4, d5⟩ := hd p0 (show p < T by omega)
        have z1 := hZr p p1 (16 * (p / M 2 1) + p % M 2 1) (by omega) (by omega)
        have z2 := hnb p p0 (by omega)
        refine ⟨((Z (p + 1).toNat).1, p + 1, zrp Q 61 (Z (p + 1).toNat).2), ?_, ⟨by dsimp only; omega, by dsimp only; omega, rfl⟩, by dsimp only; omega⟩
        rw [if_neg c, Option.bind_some, zdv_ok p0 (by omega) (by omega) (by omega), Option.bind_some, Option.bind_some, zrm_ok p0 (by omega) (by omega) (by omega), Option.bind_some, Option.bind_some, zgr_ok (v := 87) rfl (by rw [zrp_ne (by decide), f48]) (by decide), Option.bind_some, zga_ok (N := 1024) rfl (by decide) (by omega) (by omega), Option.bind_some, zrp_ne (by decide), show 256 * a + b + p = 256 * a + (b + p) by omega, g87 _ (by omega) (by omega), zgr_ok (v := 61) rfl (by rw [zrp_ne (by decide), f6]) (by decide), Option.bind_some, zga_ok (N := 256) rfl (by decide) (by omega) (by omega), Option.bind_some, zrp_at, zw_id (x := (Z p.toNat).2 (16 * (p / M 2 1) + p % M 2 1)) (by omega) (by omega), zw_id (x := M (39 + 2 * a) (b + p)) (by omega) (by omega)]
        simp only [Option.bind_some]
        rw [zpa_ok (N := 256) rfl (by decide) (by omega) (by omega), zrp_u, hZs p p0]
        by_cases q : (Z p.toNat).2 (16 * (p / M 2 1) + p % M 2 1) = M (39 + 2 * a) (b + p)
        · simp [q]
        · simp [q]
  · intro p p0 p1 hp
    have hb : p = 0 ∨ (0 ≤ b ∧ b < 256) := by
      by_cases q : p = 0
      · exact Or.inl q
      · right
        have := zff_no hp (p := 0) (by omega) (by omega)
        rw [← hbad, zbd] at this
        by_cases q2 : 0 ≤ b + 0 ∧ b + 0 ≤ L - 1
        · omega
        · rw [if_neg q2] at this; cases this
    have e2 : bad p = zbd (M (39 + 2 * a)) b L (M 2 2) p := by rw [hbad]
    try dsimp only
    rw [zgf_ok rfl, Option.bind_some, zgf_ok rfl, Option.bind_some, f0, f1, hT, zw_id (x := T) (by omega) (by omega), zw_id (x := p) (by omega) (by omega), zw_id (x := b) (by omega) (by omega), if_neg (by omega)]
    by_cases c0 : b + p < 0
    · right
      rw [if_pos ((zcmp_lt (by unfold zrg; omega) (by decide)).2 c0)]
      exact ⟨-12, by rw [e2, zbd, if_neg (by omega)], rfl⟩
    · rw [if_neg (fun q => c0 ((zcmp_lt (by unfold zrg; omega) (by decide)).1 q)), zgr_ok (v := 86) rfl f47 (by decide), Option.bind_some, zga_ok (N := 4) rfl (by decide) a0 (by omega), Option.bind_some, g86, zw_id (x := L) (by omega) (by omega)]
      by_cases c1 : b + p < L
      · have r := hsr (b + p) (by omega) (by omega)
        rw [if_pos ((zcmp_lt (by unfold zrg; omega) (by unfold zrg; omega)).2 c1), zgr_ok (v := 87) rfl f48 (by decide), Option.bind_some, zga_ok (N := 1024) rfl (by decide) (by omega) (by omega), Option.bind_some, g87 _ (by omega) (by omega), zgf_ok rfl, Option.bind_some, f2, zw_in r, zw_id (x := M 2 2 - 1) (by omega) (by omega), zinn r (by decide) (by unfold zrg; omega), Option.bind_some]
        by_cases c2 : 0 ≤ M (39 + 2 * a) (b + p) ∧ M (39 + 2 * a) (b + p) ≤ M 2 2 - 1
        · left
          rw [if_pos c2, if_neg (by decide)]
          exact ⟨by rw [e2, zbd, if_pos (by omega), if_pos c2], rfl⟩
        · right
          rw [if_neg c2, if_pos (by decide)]
          exact ⟨-1000 - p, by rw [e2, zbd, if_pos (by omega), if_neg c2], rfl⟩
      · right
        rw [if_neg (fun q => c1 ((zcmp_lt (by unfold zrg; omega) (by unfold zrg; omega)).1 q))]
        exact ⟨-12, by rw [e2, zbd, if_neg (by omega)], rfl⟩
  · try dsimp only
    rw [zgf_ok rfl, Option.bind_some, zgf_ok rfl, Option.bind_some, f0, f1, hT, if_pos (by omega)]

theorem zff_neg {s : Int → Int} {b L N : Int} {t : Nat} {v : Int} (h : zff (zbd s b L N) t = some v) : -1000 - (t : Int) ≤ v ∧ v < 0 := by
  induction t with
  | zero => cases h
  | succ t ih =>
    rw [zff] at h
    cases q : zff (zbd s b L N) t with
    | some w =>
      rw [q] at h
      have := ih (q.trans h)
      omega
    | none =>
      rw [q] at h
      have h' : zbd s b L N t = some v := h
      unfold zbd at h'
      split at h'
      · split at h'
        · cases h'
        · injection h' with h'
          omega
      · injection h' with h'
        omega
theorem o_read {M : zM} {n : Nat} (hn : 1000000 ≤ n) (I : Iv M) {a1 a2 a3 : Int} (g1 : zrg a1) (g2 : zrg a2) (g3 : zrg a3) : ∃ r M1 r' M2, qbs_read n zK0 M 1 a1 a2 a3 = some (r, M1) ∧ qmd_read n zK0 M1 60 a1 a2 a3 = some (r', M2) ∧ zw r = zw r' ∧ Iv M2 := by
  obtain ⟨hS, hT, hR, hW, hP, hL, hSh⟩ := id I
  have hS' := hS
  unfold zSR at hS'
  have e2 : zw a2 = a2 := zw_in g2
  have w1 := fun Q => zwit (K := zK0) (M := Q) g1 (show zrg 0 by decide) (show zrg 3 by decide)
  have w2 := fun Q => zwit (K := zK0) (M := Q) g2 (show zrg 0 by decide) (show zrg 2 by decide)
  by_cases c1 : 0 ≤ a1 ∧ a1 ≤ 3
  · by_cases c2 : 0 ≤ a2 ∧ a2 ≤ 2
    · obtain ⟨b37, b38⟩ := zs_37 hS c1.1 (by omega)
      obtain ⟨s1, s2, s3, s4, s5, s6⟩ := zs_c c1.1 (show a1 < 4 by omega)
      have z1 : zgq zK0 M 104 37 a1 = some (38 + 2 * a1) := zgq_ok (N := 4) rfl (by decide) c1.1 (by omega) b37 (by omega)
      have z2 : zga zK0 M 100 85 a1 = some (M 85 a1) := zga_ok (N := 4) rfl (by decide) c1.1 (by omega)
      rcases hSh a1 c1.1 (by omega) with ⟨q1, q2⟩ | ⟨q1, q2, q3, q4, q5, q6, q7⟩
      · refine ⟨-11, M, -11, M, ?_, ?_, rfl, I⟩
        · unfold qbs_read qst_isNothing
          simp [w1, w2, c1, c2, zwl, zPo, hS', z1, zgk_ok s1, zgf_ok s1, q1]
        · unfold qmd_read
          simp [zsht g1 g2, c1, c2, zwl, zPo, hS', z2, q2, e2, show ¬ (-4 : Int) = a2 by omega]
      · have y1 : zw (M (38 + 2 * a1) 1) = M (38 + 2 * a1) 1 := zw_id (by omega) (by omega)
        have y2 : zw (M (38 + 2 * a1) 2) = M (38 + 2 * a1) 2 := zw_id (by omega) (by omega)
        by_cases c3 : M (38 + 2 * a1) 2 = a2
        · have hcr := crefuse (n := n) (b := a3) hn I c1.1 (by omega) g3 q1 q2 (fun x x0 x1 => ⟨(q7 x x0 x1).2.1, (q7 x x0 x1).2.2⟩)
          have hmr := fun {Q : zM} (hQ : ∀ c x, c ≠ 3 → Q c x = M c x) => mread (n := n) (b := a3) (l := a2) hn I hQ c1.1 (by omega) c2.1 c2.2 g3 q1 q2 (fun x x0 x1 => ⟨(q7 x x0 x1).2.1, (q7 x x0 x1).2.2⟩) (by rw [q6, c3]) q3 (fun x x0 x1 => (q7 x x0 x1).1)
          cases hz : zff (zbd (M (39 + 2 * a1)) a3 (M (38 + 2 * a1) 1) (M 2 2)) (M 2 0 * M 2 1).toNat with
          | some v =>
            have hrc := zrc hT.1 hT.2.1 hT.2.2.1 hT.2.2.2.1
            have hneg := zff_neg hz
            have hv : zw v < 0 := by
              rw [zw_id (by omega) (by omega)]
              omega
            rw [hz] at hcr
            refine ⟨v, M, v, M, ?_, (hmr (fun _ _ _ => rfl)).1 v hz, rfl, I⟩
            unfold qbs_read qst_isNothing
            have hv' : ¬ 0 ≤ zw v := by omega
            simp [w1, w2, c1, c2, zwl, zPo, hS', z1, zgk_ok s1, zgf_ok s1, q1, y1, y2, c3, e2, hcr, hv']
          | none =>
            have hrc := zrc hT.1 hT.2.1 hT.2.2.1 hT.2.2.2.1
            have hnb : ∀ p, 0 ≤ p → p < M 2 0 * M 2 1 → (0 ≤ a3 + p ∧ a3 + p ≤ M (38 + 2 * a1) 1 - 1) ∧ 0 ≤ M (39 + 2 * a1) (a3 + p) ∧ M (39 + 2 * a1) (a3 + p) ≤ M 2 2 - 1 := by
              intro p p0 p1
              have := zff_no hz p0 (by omega)
              rw [zbd] at this
              by_cases q : 0 ≤ a3 + p ∧ a3 + p ≤ M (38 + 2 * a1) 1 - 1
              · rw [if_pos q] at this
                by_cases q2 : 0 ≤ M (39 + 2 * a1) (a3 + p) ∧ M (39 + 2 * a1) (a3 + p) ≤ M 2 2 - 1
                · exact ⟨q, q2⟩
                · rw [if_neg q2] at this; cases this
              · rw [if_neg q] at this; cases this
            have n0 := hnb 0 (by omega) (by omega)
            have n1 := hnb (M 2 0 * M 2 1 - 1) (by omega) (by omega)
            have hco := ccopy (n := n) (b := a3) hn I c1.1 (by omega) (by omega) (by omega) q2 (fun p p0 p1 => by have := hnb p p0 p1; omega)
            obtain ⟨Zc, hZc⟩ : ∃ Z, zcp (fun p => M (39 + 2 * a1) (a3 + p)) (fun p => 16 * (p / M 2 1) + p % M 2 1) (M 3) (M 2 0 * M 2 1).toNat = Z := ⟨_, rfl⟩
            have hm2 := (hmr (Q := zrp M 3 Zc.2) (fun c x q => zrp_ne q)).2 hz
            obtain ⟨Zm, hZm⟩ : ∃ Z, zcp (fun p => M (39 + 2 * a1) (a3 + p)) (fun p => 16 * (p / M 2 1) + p % M 2 1) (M 61) (M 2 0 * M 2 1).toNat = Z := ⟨_, rfl⟩
            have tt := hT
            unfold IvT at tt
            have t19 := tt.2.2.2.2.2.2.2.2.2.2.2.2.2.2.2.2.2.2
            have heq := zcp_eq (s := fun p => M (39 + 2 * a1) (a3 + p)) (g := fun p => 16 * (p / M 2 1) + p % M 2 1) (t := M 3) (t' := M 61) (p := (M 2 0 * M 2 1).toNat) (fun x x0 x1 => (t19 x x0 x1).1) (fun q q0 q1 => by
              obtain ⟨d1, d2, d3, d4, d5⟩ := zdm (c := q) (R := M 2 0) tt.2.2.1 q0 (by omega)
              show 0 ≤ 16 * (q / M 2 1) + q % M 2 1 ∧ 16 * (q / M 2 1) + q % M 2 1 < 256
              omega)
            have hrg := zcp_rg (s := fun p => M (39 + 2 * a1) (a3 + p)) (g := fun p => 16 * (p / M 2 1) + p % M 2 1) (t := M 3) (p := (M 2 0 * M 2 1).toNat) (N := M 2 2) (fun x x0 x1 => (t19 x x0 x1).2) (fun q q0 q1 => by have := hnb q q0 (by omega); show 0 ≤ M (39 + 2 * a1) (a3 + q) ∧ M (39 + 2 * a1) (a3 + q) < M 2 2; omega)
            rw [hZc] at hco heq hrg
            rw [hZm] at hm2 heq
            rw [hz] at hcr
            refine ⟨Zc.1, zrp M 3 Zc.2, Zm.1, zrp (zrp M 3 Zc.2) 61 Zm.2, ?_, hm2, by rw [heq.1], ?_⟩
            · unfold qbs_read qst_isNothing
              simp [w1, w2, c1, c2, zwl, zPo, hS', z1, zgk_ok s1, zgf_ok s1, q1, y1, y2, c3, e2, hcr, hco]
            · refine ⟨hS.keep ?_, ?_, hR.keep ?_, hW.keep ?_, hP.keep ?_, hL.keep ?_, hSh.keep ?_⟩
              case refine_2 =>
                have k : ∀ c x, c ≠ 3 → c ≠ 61 → zrp (zrp M 3 Zc.2) 61 Zm.2 c x = M c x := fun c x h1 h2 => by rw [zrp_ne h2, zrp_ne h1]
                unfold IvT
                rw [k 2 0 (by decide) (by decide), k 2 1 (by decide) (by decide), k 2 2 (by decide) (by decide), k 2 3 (by decide) (by decide), k 2 4 (by decide) (by decide), k 2 5 (by decide) (by decide), k 60 0 (by decide) (by decide), k 60 1 (by decide) (by decide), k 60 2 (by decide) (by decide), k 60 3 (by decide) (by decide), k 60 4 (by decide) (by decide), k 60 5 (by decide) (by decide)]
                obtain ⟨t1, t2, t3, t4, t5, t6, t7, t8, t9, t10, t11, t12, t13, t14, t15, t16, t17, t18, _⟩ := tt
                refine ⟨t1, t2, t3, t4, t5, t6, t7, t8, t9, t10, t11, t12, t13, t14, t15, t16, t17, t18, fun x x0 x1 => ?_⟩
                rw [zrp_at, zrp_ne (by decide), zrp_at, heq.2 x x0 x1]
                exact ⟨rfl, hrg x x0 x1⟩
              all_goals exact ((zkp.rf _ _).rp (fun _ => rfl)).rp (fun _ => rfl)
        · refine ⟨-13, M, -13, M, ?_, ?_, rfl, I⟩
          · unfold qbs_read qst_isNothing
            simp [w1, w2, c1, c2, zwl, zPo, hS', z1, zgk_ok s1, zgf_ok s1, q1, y1, y2, c3, e2]
          · unfold qmd_read
            simp [zsht g1 g2, c1, c2, zwl, zPo, hS', z2, q6, y2, e2, c3, show ¬ M (38 + 2 * a1) 2 = -4 by omega]
    · refine ⟨-1, M, -1, M, ?_, ?_, rfl, I⟩
      · unfold qbs_read
        simp [w1, w2, c1, c2, zwl]
      · unfold qmd_read
        simp [zsht g1 g2, c1, c2, zwl]
  · refine ⟨-1, M, -1, M, ?_, ?_, rfl, I⟩
    · unfold qbs_read
      simp [w1, c1, zwl]
    · unfold qmd_read
      simp [zsht g1 g2, c1, zwl]
