/-- what is copied of the first p, and how many differed -/
def zcp (s g : Int → Int) (t : Int → Int) : Nat → Int × (Int → Int)
  | 0 => (0, t)
  | p + 1 => ((zcp s g t p).1 + (if (zcp s g t p).2 (g p) = s p then 0 else 1), fun x => if x = g p then s p else (zcp s g t p).2 x)
theorem zcp_s {s g t : Int → Int} {p : Int} (h : 0 ≤ p) : zcp s g t (p + 1).toNat = ((zcp s g t p.toNat).1 + (if (zcp s g t p.toNat).2 (g p) = s p then 0 else 1), fun x => if x = g p then s p else (zcp s g t p.toNat).2 x) := by
  rw [show (p + 1).toNat = p.toNat + 1 by omega, zcp, show ((p.toNat : Nat) : Int) = p by omega]
theorem zcp_eq {s g t t' : Int → Int} {p : Nat} (h : ∀ x, 0 ≤ x → x < 256 → t' x = t x) (hg : ∀ q : Int, 0 ≤ q → q < p → 0 ≤ g q ∧ g q < 256) : (zcp s g t' p).1 = (zcp s g t p).1 ∧ ∀ x, 0 ≤ x → x < 256 → (zcp s g t' p).2 x = (zcp s g t p).2 x := by
  induction p with
  | zero => exact ⟨rfl, h⟩
  | succ p ih =>
    obtain ⟨i1, i2⟩ := ih (fun q h0 h1 => hg q h0 (by omega))
    have g1 := hg p (by omega) (by omega)
    rw [zcp, zcp]
    dsimp only
    rw [i1, i2 _ g1.1 g1.2]
    refine ⟨rfl, fun x x0 x1 => ?_⟩
    rw [i2 x x0 x1]
theorem zcp_rg {s g t : Int → Int} {p : Nat} {N : Int} (h : ∀ x, 0 ≤ x → x < 256 → 0 ≤ t x ∧ t x < N) (hs : ∀ q : Int, 0 ≤ q → q < p → 0 ≤ s q ∧ s q < N) : ∀ x, 0 ≤ x → x < 256 → 0 ≤ (zcp s g t p).2 x ∧ (zcp s g t p).2 x < N := by
  induction p with
  | zero => exact h
  | succ p ih =>
    have ih := ih (fun q h0 h1 => hs q h0 (by omega))
    intro x x0 x1
    rw [zcp]
    dsimp only
    split
    · exact hs p (by omega) (by omega)
    · exact ih x x0 x1
/-- a whole cell replaced -/
def zrp (M : zM) (r : Int) (t : Int → Int) : zM := fun c x => if c = r then t x else M c x
theorem zrp_ne {M : zM} {r c x : Int} {t : Int → Int} (h : c ≠ r) : zrp M r t c x = M c x := by
  unfold zrp
  rw [if_neg h]
theorem zrp_at {M : zM} {r x : Int} {t : Int → Int} : zrp M r t r x = t x := by
  unfold zrp
  rw [if_pos rfl]
theorem zrp_u {M : zM} {r x v : Int} {t : Int → Int} : zu (zrp M r t) r x v = zrp M r (fun y => if y = x then v else t y) := by
  funext c y
  rw [zu_at]
  unfold zrp
  dsimp only
  by_cases q : c = r
  · rw [if_pos q, if_pos q]
    by_cases q2 : y = x
    · rw [if_pos ⟨q, q2⟩, if_pos q2]
    · rw [if_neg (fun e => q2 e.2), if_neg q2]
  · rw [if_neg q, if_neg q, if_neg (fun e => q e.1)]
theorem zrp_0 {M : zM} {r : Int} : zrp M r (M r) = M := by
  funext c y
  unfold zrp
  by_cases q : c = r
  · rw [if_pos q, q]
  · rw [if_neg q]
theorem zkp.rp {P : Int → Int → Bool} {M M1 : zM} {r : Int} {t : Int → Int} (h : zkp P M M1) (hs : ∀ i, P r i = false) : zkp P M (zrp M1 r t) := by
  intro c x hc
  unfold zrp
  rw [if_neg (fun q => by rw [q, hs] at hc; cases hc)]
  exact h c x hc
theorem ccopy {M : zM} {n : Nat} {a b : Int} (hn : 1000000 ≤ n) (I : Iv M) (a0 : 0 ≤ a) (a1 : a < 4) (b0 : 0 ≤ b) (hsz : b + M 2 0 * M 2 1 ≤ M (38 + 2 * a) 1) (hs1 : M (38 + 2 * a) 1 ≤ 256) (hsr : ∀ p, 0 ≤ p → p < M 2 0 * M 2 1 → 0 ≤ M (39 + 2 * a) (b + p) ∧ M (39 + 2 * a) (b + p) < M 2 2) : qst_copyTo n zK0 M (38 + 2 * a) 2 b = some ((zcp (fun p => M (39 + 2 * a) (b + p)) (fun p => 16 * (p / M 2 1) + p % M 2 1) (M 3) (M 2 0 * M 2 1).toNat).1, zrp M 3 (zcp (fun p => M (39 + 2 * a) (b + p)) (fun p => 16 * (p / M 2 1) + p % M 2 1) (M 3) (M 2 0 * M 2 1).toNat).2) := by
  have hla := I.la
  have hS' := I.1
  unfold zSR at hS'
  obtain ⟨b37, b38⟩ := zs_37 I.1 a0 a1
  obtain ⟨s1, s2, s3, s4, s5, s6⟩ := zs_c a0 a1
  have tt := I.2.1
  unfold IvT at tt
  have t19 := tt.2.2.2.2.2.2.2.2.2.2.2.2.2.2.2.2.2.2
  have hrc := zrc tt.1 tt.2.1 tt.2.2.1 tt.2.2.2.1
  have hd := fun {c : Int} => zdm (c := c) (R := M 2 0) tt.2.2.1
  obtain ⟨T, hT⟩ : ∃ T, M 2 0 * M 2 1 = T := ⟨_, rfl⟩
  rw [hT] at hsz hsr hrc hd ⊢
  obtain ⟨Z, hZ⟩ : ∃ Z, zcp (fun p => M (39 + 2 * a) (b + p)) (fun p => 16 * (p / M 2 1) + p % M 2 1) (M 3) = Z := ⟨_, rfl⟩
  have hZs : ∀ p, 0 ≤ p → Z (p + 1).toNat = ((Z p.toNat).1 + (if (Z p.toNat).2 (16 * (p / M 2 1) + p % M 2 1) = M (39 + 2 * a) (b + p) then 0 else 1), fun x => if x = 16 * (p / M 2 1) + p % M 2 1 then M (39 + 2 * a) (b + p) else (Z p.toNat).2 x) := fun p p0 => by rw [← hZ]; exact zcp_s p0
  have hZr : ∀ p, p ≤ T → ∀ x, 0 ≤ x → x < 256 → 0 ≤ (Z p.toNat).2 x ∧ (Z p.toNat).2 x < M 2 2 := fun p p1 x x0 x1 => by
    rw [← hZ]
    exact zcp_rg (fun x x0 x1 => (t19 x x0 x1).2) (fun q q0 q1 => hsr q q0 (by omega)) x x0 x1
  rw [hZ]
  have hZ0 : Z 0 = (0, M 3) := by rw [← hZ]; rfl
  unfold qst_copyTo qst_has
  refine zwh_eq (fun s => 0 ≤ s.2.1 ∧ s.2.1 ≤ T ∧ s = ((Z s.2.1.toNat).1, s.2.1, zrp M 3 (Z s.2.1.toNat).2)) (fun s => (T - s.2.1).toNat) ?_ n _ ⟨by simp, by simp; omega, by simp [hZ0, zrp_0]⟩ (by simp; omega)
  intro s ⟨p0, p1, hs⟩
  obtain ⟨p, hp⟩ : ∃ p, s.2.1 = p := ⟨_, rfl⟩
  rw [hp] at p0 p1 hs
  subst hs
  try dsimp only
  have hla' : zLa (zrp M 3 (Z p.toNat).2) 2 := by
    obtain ⟨l1, l2, l3, l4, l5, l6, l7, l8⟩ := hla
    unfold zLa
    rw [zrp_ne (by decide), zrp_ne (by decide), zrp_ne (by decide), zrp_ne (by decide), zrp_ne (by decide), zrp_ne (by decide), zrp_ne (by decide)]
    refine ⟨l1, l2, l3, l4, l5, l6, l7, fun _ x x0 x1 => ?_⟩
    rw [zrp_at]
    exact hZr p p1 x x0 x1
  rw [zgk_ok rfl, Option.bind_some, la_count hla', zrp_ne (by decide), zrp_ne (by decide), hT, Option.bind_some, zw_id (by omega) (by omega), zw_id (x := p) (by omega) (by omega)]
  by_cases c : T ≤ p
  · right
    rw [if_pos c, show p = T by omega]
  · left
    obtain ⟨d1, d2, d3, d4, d5⟩ := hd p0 (show p < T by omega)
    have z1 := hZr p p1 (16 * (p / M 2 1) + p % M 2 1) (by omega) (by omega)
    have z2 := hsr p p0 (by omega)
    refine ⟨((Z (p + 1).toNat).1, p + 1, zrp M 3 (Z (p + 1).toNat).2), ?_, ⟨by dsimp only; omega, by dsimp only; omega, rfl⟩, by dsimp only; omega⟩
    rw [if_neg c, zgk_ok s1, Option.bind_some, zgf_ok s1, Option.bind_some, zrp_ne (by omega), zwit (by unfold zrg; omega) (by decide) (by unfold zrg; omega), if_pos (by omega), Option.bind_some]
    have zb1 : zbr 1 = some 1 := rfl
    rw [zb1, Option.bind_some, Option.bind_some, if_neg (by decide), zgf_ok rfl, Option.bind_some, zrp_ne (by decide), zdv_ok p0 (by omega) (by omega) (by omega), Option.bind_some, Option.bind_some, zrm_ok p0 (by omega) (by omega) (by omega), Option.bind_some, qbs_spot, Option.bind_some, zgr_ok (v := 3) rfl (by rw [zrp_ne (by decide)]; simp [hS']) (by decide), Option.bind_some, zga_ok (N := 256) rfl (by decide) (by omega) (by omega), Option.bind_some, zgr_ok (v := 39 + 2 * a) s1 (by rw [zrp_ne (by omega), b38]) (by omega), Option.bind_some, zga_ok (N := 256) s2 (by decide) (by omega) (by omega), Option.bind_some, zrp_at, zrp_ne (by omega), show p / M 2 1 * 16 + p % M 2 1 = 16 * (p / M 2 1) + p % M 2 1 by omega, zw_id (x := (Z p.toNat).2 (16 * (p / M 2 1) + p % M 2 1)) (by omega) (by omega), zw_id (x := M (39 + 2 * a) (b + p)) (by omega) (by omega)]
    simp only [Option.bind_some]
    rw [zga_ok (N := 256) s2 (by decide) (by omega) (by omega)]
    simp only [Option.bind_some]
    rw [zrp_ne (by omega), zpa_ok (N := 256) rfl (by decide) (by omega) (by omega), zrp_u, hZs p p0]
    by_cases q : (Z p.toNat).2 (16 * (p / M 2 1) + p % M 2 1) = M (39 + 2 * a) (b + p)
    · simp [q]
    · simp [q]
