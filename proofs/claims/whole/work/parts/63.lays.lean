theorem m_ga {M Q : zM} {n : Nat} {c : Int} {f : Int → Int} (hn : 1000000 ≤ n) (I : Iv M) {X : Int × (Int → Int)} (hX : X.1 = 3 ∨ X.1 = 62) (hQ : zsx X M Q) (c0 : 0 ≤ c) (c1 : c ≤ 64) (h : ∀ x, 0 ≤ x → x < c → Q 68 x = f x) (hf : ∀ x, 0 ≤ x → x < c → 0 ≤ f x ∧ f x < 17) : qmd_greatestAhead n zK0 Q 60 c = some (zgh f c.toNat) := by
  have g := (zsx.g I hX hQ)
  unfold zPt at g
  have g14 : zgr zK0 Q 12 49 60 14 = some 68 := by simp only [g]
  unfold qmd_greatestAhead
  refine zwh_eq (fun s => 0 ≤ s.2 ∧ s.2 ≤ c ∧ s.1 = zgh f s.2.toNat) (fun s => (c - s.2).toNat) ?_ n _ ⟨by simp, by simp; omega, rfl⟩ (by simp; omega)
  rintro ⟨a, d⟩ ⟨d0, d1, hd⟩
  dsimp only at d0 d1 hd ⊢
  have gr := zgh_rg (f := f) (m := 17) d.toNat (fun x x0 x1 => hf x x0 (by omega)) (by omega)
  rw [zw_id (x := c) (by omega) (by omega), zw_id (x := d) (by omega) (by omega)]
  by_cases e : c ≤ d
  · right
    have : d = c := by omega
    rw [if_pos e, hd, this]
  · left
    have hx := hf d d0 (by omega)
    rw [if_neg e, g14, Option.bind_some, zga_ok (N := 64) rfl (by decide) d0 (by omega), Option.bind_some, h d d0 (by omega), zw_id (x := f d) (by omega) (by omega), zw_id (x := a) (by omega) (by omega)]
    refine ⟨(zgh f (d + 1).toNat, d + 1), ?_, ⟨by dsimp only; omega, by dsimp only; omega, rfl⟩, by dsimp only; omega⟩
    rw [zgh_s d0, ← hd]
    unfold zmx
    by_cases w : f d ≤ a
    · rw [if_pos w, Option.bind_some, if_neg (by omega)]
    · rw [if_neg w, Option.bind_some, zga_ok (N := 64) rfl (by decide) d0 (by omega), Option.bind_some, h d d0 (by omega), Option.bind_some, if_pos (by omega)]
theorem m_alone {M Q : zM} {n : Nat} {c v : Int} {f : Int → Int} (hn : 1000000 ≤ n) (I : Iv M) {X : Int × (Int → Int)} (hX : X.1 = 3 ∨ X.1 = 62) (hQ : zsx X M Q) (h67 : Q 67 c = zrv M c) (c0 : 0 ≤ c) (c1 : c < 64) (v0 : 0 ≤ v) (v1 : v < 17) (h : ∀ x, 0 ≤ x → x < c → Q 68 x = f x) (hf : ∀ x, 0 ≤ x → x < c → 0 ≤ f x ∧ f x < 17) : qmd_isAlone n zK0 Q 60 c v = some (if zln1 (zrv M) f c v then 1 else 0) := by
  have g := (zsx.g I hX hQ)
  unfold zPt at g
  have g13 : zgr zK0 Q 12 49 60 13 = some 67 := by simp only [g]
  have g14 : zgr zK0 Q 12 49 60 14 = some 68 := by simp only [g]
  unfold qmd_isAlone zln1
  obtain ⟨G, hG⟩ : ∃ G : Int → Bool, (fun d : Int => !(zbi (zrv M c) d.toNat && decide (f d = v))) = G := ⟨_, rfl⟩
  have hGe : ∀ d : Int, (!(zbi (zrv M c) d.toNat && decide (f d = v))) = G d := fun d => by rw [← hG]
  rw [hG]
  refine zwh_eq (fun s => 0 ≤ s.2 ∧ s.2 ≤ c ∧ ∃ b : Bool, zal G s.2.toNat = b ∧ s.1 = if b then 1 else 0) (fun s => (c - s.2).toNat) ?_ n _ ⟨by simp, by simp; omega, true, rfl, rfl⟩ (by simp; omega)
  rintro ⟨a, d⟩ ⟨d0, d1, b, hb, ha⟩
  dsimp only at d0 d1 hb ha ⊢
  rw [zw_id (x := c) (by omega) (by omega), zw_id (x := d) (by omega) (by omega)]
  have hs := zal_s (G := G) d0
  rw [hb] at hs
  by_cases e : c ≤ d
  · right
    have : d = c := by omega
    rw [this] at hb
    rw [if_pos e, ha, hb]
    cases b
    · rfl
    · rfl
  · rw [if_neg e]
    cases b with
    | false =>
      right
      rw [ha, zal_dn (s := d.toNat) (by omega) hb]
      rfl
    | true =>
      left
      have hx := hf d d0 (by omega)
      rw [Bool.true_and, ← hGe] at hs
      rw [ha, if_pos rfl, if_neg (by decide), g13, Option.bind_some, zga_ok (N := 64) rfl (by decide) c0 (by omega), Option.bind_some, h67]
      by_cases w : zbi (zrv M c) d.toNat = false
      · rw [if_pos ((zshr_z d0 (by omega)).2 w)]
        rw [w, Bool.false_and, Bool.not_false] at hs
        exact ⟨(1, d + 1), rfl, ⟨by dsimp only; omega, by dsimp only; omega, true, hs, rfl⟩, by dsimp only; omega⟩
      · rw [if_neg (fun q => w ((zshr_z d0 (by omega)).1 q)), g14, Option.bind_some, zga_ok (N := 64) rfl (by decide) d0 (by omega), Option.bind_some, h d d0 (by omega), zw_id (x := f d) (by omega) (by omega), zw_id (x := v) (by omega) (by omega)]
        have w' : zbi (zrv M c) d.toNat = true := by simpa using w
        rw [w', Bool.true_and] at hs
        by_cases y : f d = v
        · rw [if_pos y]
          rw [decide_eq_true y] at hs
          exact ⟨(0, d + 1), rfl, ⟨by dsimp only; omega, by dsimp only; omega, false, hs, rfl⟩, by dsimp only; omega⟩
        · rw [if_neg y]
          rw [decide_eq_false y] at hs
          exact ⟨(1, d + 1), rfl, ⟨by dsimp only; omega, by dsimp only; omega, true, hs, rfl⟩, by dsimp only; omega⟩
def zMb (X : Int × (Int → Int)) (M Q : zM) : Prop := zsx X M Q ∧ ∀ x, 0 ≤ x → x < 64 → Q 67 x = zrv M x
/-- the reference stands at cell c, its last try in it told -/
def zMc (X : Int × (Int → Int)) (M Q : zM) (N m : Int) (rs : Int × Int × Int × (Int → Int) → Int × (Int → Int)) (r0 : Int × (Int → Int)) (f : Int → Int) (c : Int) : Prop := zMb X M Q ∧ (∀ x, 0 ≤ x → x < c → Q 68 x = f x) ∧ zfI N m (c, Q 68 c + 1, Q 60 15, f) ∧ rs (c, Q 68 c + 1, Q 60 15, f) = r0
def zMd (X : Int × (Int → Int)) (M Q : zM) (N : Int) (r0 : Int × (Int → Int)) : Prop := zMb X M Q ∧ r0.1 = Q 60 15 ∧ 0 < Q 60 15 ∧ Q 60 15 ≤ 20000 ∧ ∀ x, 0 ≤ x → x < N → Q 68 x = r0.2 x
/-- behind the tries of a cell -/
def zMe (X : Int × (Int → Int)) (M Q : zM) (N m : Int) (rs : Int × Int × Int × (Int → Int) → Int × (Int → Int)) (r0 : Int × (Int → Int)) (c : Int) : Prop := (c + 1 = N ∧ zMd X M Q N r0) ∨ (c + 1 < N ∧ zMb X M Q ∧ ∃ f, (∀ x, 0 ≤ x → x < c + 1 → Q 68 x = f x) ∧ zfI N m (c + 1, 0, Q 60 15, f) ∧ rs (c + 1, 0, Q 60 15, f) = r0)
theorem m_laysFree {M T : zM} {n : Nat} {m N : Int} (hn : 1000000 ≤ n) (I : Iv M) {X : Int × (Int → Int)} (hX : X.1 = 3 ∨ X.1 = 62) (hT : zsx X M T) (hN : M 2 0 * M 2 1 = N) (N1 : N ≤ 64) (m0 : 1 ≤ m) (m1 : m ≤ 17) : ∃ Q, qmd_laysFree n zK0 T 60 m = some ((zrs N m (zrv M) (0, 0, 0, fun _ => 0)).1, Q) ∧ zsx X M Q ∧ (0 < (zrs N m (zrv M) (0, 0, 0, fun _ => 0)).1 → ∀ x, 0 ≤ x → x < N → Q 68 x = (zrs N m (zrv M) (0, 0, 0, fun _ => 0)).2 x) := by
  have ht := I.2.1
  unfold IvT at ht
  have hrc := zrc (R := M 2 0) (C := M 2 1) (by omega) (by omega) (by omega) (by omega)
  have hbk : ∀ (c v t : Int) (f : Int → Int), zfI N m (c, v, t, f) → ¬ v ≤ zlst m f c → c ≠ 0 → zrs N m (zrv M) (c - 1, f (c - 1) + 1, t, f) = zrs N m (zrv M) (c, v, t, f) ∧ zfI N m (c - 1, f (c - 1) + 1, t, f) := fun c v t f h1 h2 h3 => zrs_back m0 h1 h2 h3
  have hno : ∀ (v t : Int) (f : Int → Int), ¬ v ≤ zlst m f 0 → (zrs N m (zrv M) (0, v, t, f)).1 = -4 := fun v t f h => zrs_none h
  have hdo : ∀ (c v t : Int) (f : Int → Int), v ≤ zlst m f c → zln1 (zrv M) f c v = true → c + 1 = N → zrs N m (zrv M) (c, v, t, f) = (t + 1, zup f c v) := fun c v t f h1 h2 h3 => zrs_done h1 h2 h3
  have hsp : ∀ (c v t : Int) (f : Int → Int), v ≤ zlst m f c → ¬ (zln1 (zrv M) f c v = true ∧ c + 1 = N) → t + 1 = 20000 → (zrs N m (zrv M) (c, v, t, f)).1 = -6 := fun c v t f h1 h2 h3 => zrs_spent h1 h2 h3
  have hon : ∀ (c v t : Int) (f : Int → Int), zfI N m (c, v, t, f) → v ≤ zlst m f c → zln1 (zrv M) f c v = true → c + 1 ≠ N → t + 1 ≠ 20000 → zrs N m (zrv M) (c + 1, 0, t + 1, zup f c v) = zrs N m (zrv M) (c, v, t, f) ∧ zfI N m (c + 1, 0, t + 1, zup f c v) := fun c v t f h1 h2 h3 h4 h5 => zrs_on m0 h1 h2 h3 h4 h5
  have hnx : ∀ (c v t : Int) (f : Int → Int), zfI N m (c, v, t, f) → v ≤ zlst m f c → ¬ zln1 (zrv M) f c v = true → t + 1 ≠ 20000 → zrs N m (zrv M) (c, v + 1, t + 1, f) = zrs N m (zrv M) (c, v, t, f) ∧ zfI N m (c, v + 1, t + 1, f) := fun c v t f h1 h2 h3 h4 => zrs_next m0 h1 h2 h3 h4
  obtain ⟨rs, hrs⟩ : ∃ rs, zrs N m (zrv M) = rs := ⟨_, rfl⟩
  rw [hrs] at hbk hno hdo hsp hon hnx ⊢
  obtain ⟨r0, hr0⟩ : ∃ r, rs (0, 0, 0, fun _ => 0) = r := ⟨_, rfl⟩
  rw [hr0]
  obtain ⟨Q1, e1, e2, e3⟩ := m_clash hn I hX hT (by omega)
  have g1 := (zsx.g I hX e2)
  unfold zPt at g1
  have a14 : zgr zK0 Q1 12 49 60 14 = some 68 := by simp only [g1]
  have hRC : ∀ Q, zsx X M Q → Q 60 0 = M 2 0 ∧ Q 60 1 = M 2 1 := fun Q hQ => ⟨(hQ.1 60 0 rfl (by omega)).trans ht.2.2.2.2.2.2.2.2.2.2.2.2.1, (hQ.1 60 1 rfl (by omega)).trans ht.2.2.2.2.2.2.2.2.2.2.2.2.2.1⟩
  unfold qmd_laysFree
  rw [zgk_ok rfl, Option.bind_some, e1, Option.bind_some, zpf_ok rfl, Option.bind_some, zgr_u (Or.inr (by decide)), a14, Option.bind_some, zpa_ok (N := 64) rfl (by decide) (by decide) (by decide), Option.bind_some]
  have key : ∀ (F : Int × zM → Option ((Int × zM) ⊕ (Int × zM))) (s0 : Int × zM), (∃ r, zwh F n s0 = some r ∧ r.1 = r0.1 ∧ zsx X M r.2 ∧ (0 < r0.1 → ∀ x, 0 ≤ x → x < N → r.2 68 x = r0.2 x)) → ∃ Q, zwh F n s0 = some (r0.1, Q) ∧ zsx X M Q ∧ (0 < r0.1 → ∀ x, 0 ≤ x → x < N → Q 68 x = r0.2 x) := by
    rintro F s0 ⟨⟨r1, r2⟩, e1, e2, e3, e4⟩
    dsimp only at e2 e3 e4
    subst e2
    exact ⟨_, e1, e3, e4⟩
  refine key _ _ (zwh_inv (fun s => (0 ≤ s.1 ∧ s.1 < N ∧ ∃ f, zMc X M s.2 N m rs r0 f s.1) ∨ (s.1 = -1 ∧ r0.1 = -4 ∧ zsx X M s.2 ∧ 0 ≤ s.2 60 15 ∧ s.2 60 15 ≤ 20000) ∨ (s.1 = N ∧ zMd X M s.2 N r0)) (fun s => (2 * (20000 - s.2 60 15) + s.1 + 5).toNat) _ ?_ n _ (Or.inl ⟨by simp, by dsimp only; omega, fun _ => 0, ⟨(e2.up rfl).up rfl, fun x x0 x1 => ?_⟩, fun x x0 x1 => ?_, ?_, ?_⟩) ?_)
  rotate_left
  · dsimp only
    rw [zu_n (by decide), zu_n (by decide), e3 x x0 x1]
  · dsimp only at x1
    omega
  · dsimp only
    rw [zu_e, zu_n (by decide), zu_e]
    exact ⟨by simp, by dsimp only; omega, by simp, by simp, by simp, by dsimp only; omega, fun x x0 x1 => by dsimp only at x1; omega⟩
  · dsimp only
    rw [zu_e, zu_n (by decide), zu_e]
    exact hr0
  · dsimp only
    rw [zu_n (by decide), zu_e]
    omega
  rintro ⟨c, Q⟩ hI
  dsimp only at hI ⊢
  rcases hI with ⟨c0, c1, f, hm⟩ | ⟨rfl, h1, h2, h3, h4⟩ | ⟨rfl, hd⟩
  rotate_left
  · right
    rw [if_pos (by decide)]
    unfold zesc
    dsimp only
    rw [if_neg (by decide)]
    exact ⟨_, rfl, h1.symm, h2, fun q => by omega⟩
  · right
    obtain ⟨d1, d2, d3, d4, d5⟩ := hd
    have hq := hRC Q d1.1
    rw [zw_id (x := c) (by omega) (by omega), if_neg (by omega), zgf_ok rfl, Option.bind_some, zgf_ok rfl, Option.bind_some, hq.1, hq.2, hN, zw_id (x := c) (by omega) (by omega), if_pos (by omega)]
    unfold zesc
    dsimp only
    rw [if_pos (by omega), zgf_ok rfl, Option.bind_some]
    exact ⟨_, rfl, d2.symm, d1.1, fun _ => d5⟩
  obtain ⟨h1, h2, h3, h4⟩ := id hm
  obtain ⟨f1, f2, f3, f4, f5, f6, f7⟩ := id h3
  dsimp only at f1 f2 f3 f4 f5 f6 f7
  have hq := hRC Q h1.1
  have gh := zgh_rg (f := f) (m := m) c.toNat (fun x x0 x1 => f7 x x0 (by omega)) m0
  have lr : -1 ≤ zlst m f c ∧ zlst m f c ≤ m - 1 := by unfold zlst; split <;> omega
  have hlst : (if zw (m - 1) ≤ zw (zgh f c.toNat + 1) then some (m - 1) else some (zgh f c.toNat + 1)) = some (zlst m f c) := by
    rw [zw_id (x := m - 1) (by omega) (by omega), zw_id (x := zgh f c.toNat + 1) (by omega) (by omega)]
    unfold zlst
    by_cases w : zgh f c.toNat + 1 < m - 1
    · rw [if_pos w, if_neg (by omega)]
    · rw [if_neg w, if_pos (by omega)]
  rw [zw_id (x := c) (by omega) (by omega), if_neg (by omega), zgf_ok rfl, Option.bind_some, zgf_ok rfl, Option.bind_some, hq.1, hq.2, hN, zw_id (x := N) (by omega) (by omega), if_neg (by omega), Option.bind_some, m_ga (f := f) hn I hX h1.1 f1 (by omega) h2 (fun x x0 x1 => by have := f7 x x0 x1; omega), Option.bind_some, Option.bind_some, hlst, Option.bind_some]
  have key2 : ∀ (F : Int × zM → Option ((Int × zM) ⊕ ((Int × zM) ⊕ (Unit ⊕ ((Int × zM) ⊕ (Int × zM)))))) (Cx : Int × zM → Option (Unit ⊕ ((Int × zM) ⊕ (Int × zM)))) (Y : Unit → Option ((Int × zM) ⊕ (Int × zM))), (∃ r : (Int × zM) ⊕ (Unit ⊕ ((Int × zM) ⊕ (Int × zM))), zwh F n (0, Q) = some r ∧ ((∃ Q', r = Sum.inl (0, Q') ∧ zMc X M Q' N m rs r0 f c ∧ ¬ (Q' 68 c + 1 ≤ zlst m f c) ∧ Q 60 15 ≤ Q' 60 15) ∨ (∃ Q', r = Sum.inl (1, Q') ∧ zMe X M Q' N m rs r0 c ∧ Q 60 15 < Q' 60 15) ∨ (∃ Q', r = Sum.inr (Sum.inr (Sum.inr (-6, Q'))) ∧ r0.1 = -6 ∧ zsx X M Q'))) → (∀ Q', zMc X M Q' N m rs r0 f c → ¬ (Q' 68 c + 1 ≤ zlst m f c) → Q 60 15 ≤ Q' 60 15 → ∃ s', Cx (0, Q') = some (.inr (.inl s')) ∧ ((0 ≤ s'.1 ∧ s'.1 < N ∧ ∃ f, zMc X M s'.2 N m rs r0 f s'.1) ∨ (s'.1 = -1 ∧ r0.1 = -4 ∧ zsx X M s'.2 ∧ 0 ≤ s'.2 60 15 ∧ s'.2 60 15 ≤ 20000) ∨ (s'.1 = N ∧ zMd X M s'.2 N r0)) ∧ (2 * (20000 - s'.2 60 15) + s'.1 + 5).toNat < (2 * (20000 - Q 60 15) + c + 5).toNat) → (∀ Q', zMe X M Q' N m rs r0 c → Q 60 15 < Q' 60 15 → ∃ s', Cx (1, Q') = some (.inr (.inl s')) ∧ ((0 ≤ s'.1 ∧ s'.1 < N ∧ ∃ f, zMc X M s'.2 N m rs r0 f s'.1) ∨ (s'.1 = -1 ∧ r0.1 = -4 ∧ zsx X M s'.2 ∧ 0 ≤ s'.2 60 15 ∧ s'.2 60 15 ≤ 20000) ∨ (s'.1 = N ∧ zMd X M s'.2 N r0)) ∧ (2 * (20000 - s'.2 60 15) + s'.1 + 5).toNat < (2 * (20000 - Q 60 15) + c + 5).toNat) → (∃ s', zesc (zesc (zwh F n (0, Q)) Cx) Y = some (.inl s') ∧ ((0 ≤ s'.1 ∧ s'.1 < N ∧ ∃ f, zMc X M s'.2 N m rs r0 f s'.1) ∨ (s'.1 = -1 ∧ r0.1 = -4 ∧ zsx X M s'.2 ∧ 0 ≤ s'.2 60 15 ∧ s'.2 60 15 ≤ 20000) ∨ (s'.1 = N ∧ zMd X M s'.2 N r0)) ∧ (2 * (20000 - s'.2 60 15) + s'.1 + 5).toNat < (2 * (20000 - Q 60 15) + c + 5).toNat) ∨ (∃ r, zesc (zesc (zwh F n (0, Q)) Cx) Y = some (.inr r) ∧ r.1 = r0.1 ∧ zsx X M r.2 ∧ (0 < r0.1 → ∀ x, 0 ≤ x → x < N → r.2 68 x = r0.2 x)) := by
    rintro F Cx Y ⟨r, e1, e2⟩ hX0 hX1
    rcases e2 with ⟨Q', rfl, q1, q2, q3⟩ | ⟨Q', rfl, q1, q2⟩ | ⟨Q', rfl, q1, q2⟩
    · obtain ⟨s', k1, k2⟩ := hX0 Q' q1 q2 q3
      left
      refine ⟨s', ?_, k2⟩
      rw [e1]
      show zesc (Cx (0, Q')) Y = _
      rw [k1]
      rfl
    · obtain ⟨s', k1, k2⟩ := hX1 Q' q1 q2
      left
      refine ⟨s', ?_, k2⟩
      rw [e1]
      show zesc (Cx (1, Q')) Y = _
      rw [k1]
      rfl
    · right
      refine ⟨(-6, Q'), by rw [e1]; rfl, q1.symm, q2, fun q => by omega⟩
  refine key2 _ _ _ (zwh_inv (fun s => (s.1 = 0 ∧ zMc X M s.2 N m rs r0 f c ∧ Q 60 15 ≤ s.2 60 15) ∨ (s.1 = 1 ∧ zMe X M s.2 N m rs r0 c ∧ Q 60 15 < s.2 60 15 ∧ s.2 60 15 ≤ 20000)) (fun s => (20001 - s.2 60 15).toNat) _ ?_ n _ (Or.inl ⟨rfl, hm, by simp⟩) (by dsimp only; omega)) ?_ ?_
  · rintro ⟨b, E⟩ hI
    dsimp only at hI ⊢
    rcases hI with ⟨rfl, hE, ht0⟩ | ⟨rfl, hE, ht0, ht1⟩
    rotate_left
    · right
      rw [if_neg (by decide)]
      exact ⟨_, rfl, Or.inr (Or.inl ⟨E, rfl, hE, ht0⟩)⟩
    obtain ⟨k1, k2, k3, k4⟩ := id hE
    obtain ⟨l1, l2, l3, l4, l5, l6, l7⟩ := id k3
    dsimp only at l1 l2 l3 l4 l5 l6 l7
    have g := (zsx.g I hX k1.1)
    unfold zPt at g
    have b14 : zgr zK0 E 12 49 60 14 = some 68 := by simp only [g]
    rw [if_pos (by decide), b14, Option.bind_some, zga_ok (N := 64) rfl (by decide) c0 (by omega), Option.bind_some, zw_id (x := zlst m f c) (by omega) (by omega), zw_id (x := E 68 c) (by omega) (by omega)]
    by_cases w : zlst m f c ≤ E 68 c
    · right
      rw [if_pos w]
      exact ⟨_, rfl, Or.inl ⟨E, rfl, hE, by omega, ht0⟩⟩
    rw [if_neg w, zgf_ok rfl, Option.bind_some, zpf_ok rfl, Option.bind_some, zgr_u (Or.inr (by decide)), b14, Option.bind_some, zga_ok (N := 64) rfl (by decide) c0 (by omega), Option.bind_some, zpa_ok (N := 64) rfl (by decide) c0 (by omega), Option.bind_some, zgr_u (Or.inl (by decide)), zgr_u (Or.inr (by decide)), b14, Option.bind_some, zga_ok (N := 64) rfl (by decide) c0 (by omega), Option.bind_some, zu_n (show (68 : Int) ≠ 60 by decide), zu_e]
    have z1 : zsx X M (zu (zu E 60 15 (E 60 15 + 1)) 68 c (E 68 c + 1)) := (k1.1.up rfl).up rfl
    have z2 : zu (zu E 60 15 (E 60 15 + 1)) 68 c (E 68 c + 1) 60 15 = E 60 15 + 1 := by rw [zu_n (by decide), zu_e]
    have z3 : ∀ x, 0 ≤ x → x < c → zu (zu E 60 15 (E 60 15 + 1)) 68 c (E 68 c + 1) 68 x = f x := fun x x0 x1 => by rw [zu_m (by omega), zu_n (by decide), k2 x x0 x1]
    have z4 : zu (zu E 60 15 (E 60 15 + 1)) 68 c (E 68 c + 1) 68 c = E 68 c + 1 := by rw [zu_e]
    have z5 : ∀ x, 0 ≤ x → x < 64 → zu (zu E 60 15 (E 60 15 + 1)) 68 c (E 68 c + 1) 67 x = zrv M x := fun x x0 x1 => by rw [zu_n (by decide), zu_n (by decide), k1.2 x x0 x1]
    obtain ⟨E2, hE2⟩ : ∃ E2, zu (zu E 60 15 (E 60 15 + 1)) 68 c (E 68 c + 1) = E2 := ⟨_, rfl⟩
    rw [hE2] at z1 z2 z3 z4 z5 ⊢
    have hq2 := hRC E2 z1
    rw [Option.bind_some, m_alone (f := f) hn I hX z1 (z5 c c0 (by omega)) c0 (by omega) l5 (by omega) z3 (fun x x0 x1 => by have := l7 x x0 x1; omega), Option.bind_some, zgf_ok rfl, Option.bind_some, z2, zw_id (x := E 60 15 + 1) (by omega) (by omega), zw_id (x := 20000) (by decide) (by decide)]
    have succ1 : zln1 (zrv M) f c (E 68 c + 1) = true → (c + 1 = N ∨ E 60 15 + 1 ≠ 20000) → zMe X M E2 N m rs r0 c := by
      intro a hh
      by_cases e : c + 1 = N
      · left
        have k := hdo c (E 68 c + 1) (E 60 15) f (by omega) a e
        rw [k4] at k
        refine ⟨e, ⟨z1, z5⟩, by rw [k, z2], by omega, by omega, fun x x0 x1 => ?_⟩
        rw [k]
        dsimp only
        unfold zup
        by_cases y : x = c
        · rw [if_pos y, y, z4]
        · rw [if_neg y]; exact z3 x x0 (by omega)
      · right
        obtain ⟨n1, n2⟩ := hon c (E 68 c + 1) (E 60 15) f k3 (by omega) a e (by omega)
        refine ⟨by omega, ⟨z1, z5⟩, zup f c (E 68 c + 1), fun x x0 x1 => ?_, by rw [z2]; exact n2, by rw [z2]; exact n1.trans k4⟩
        unfold zup
        by_cases y : x = c
        · rw [if_pos y, y, z4]
        · rw [if_neg y]; exact z3 x x0 (by omega)
    by_cases u : E 60 15 + 1 = 20000
    · rw [if_pos u]
      by_cases a : zln1 (zrv M) f c (E 68 c + 1) = true
      · rw [a, if_pos rfl, if_neg (by decide), zgf_ok rfl, Option.bind_some, zgf_ok rfl, Option.bind_some, hq2.1, hq2.2, hN, zw_id (x := N - 1) (by omega) (by omega)]
        by_cases e : c + 1 = N
        · left
          rw [if_pos (by omega)]
          exact ⟨_, rfl, Or.inr ⟨rfl, succ1 a (Or.inl e), by dsimp only; omega, by dsimp only; omega⟩, by dsimp only; omega⟩
        · right
          rw [if_neg (by omega)]
          refine ⟨_, rfl, Or.inr (Or.inr ⟨_, rfl, ?_, z1⟩)⟩
          rw [← k4]
          exact hsp _ _ _ _ (by omega) (fun q => e q.2) u
      · have a' : zln1 (zrv M) f c (E 68 c + 1) = false := by simpa using a
        right
        rw [a', if_pos (by decide)]
        refine ⟨_, rfl, Or.inr (Or.inr ⟨_, rfl, ?_, z1⟩)⟩
        rw [← k4]
        exact hsp _ _ _ _ (by omega) (fun q => a q.1) u
    · rw [if_neg u]
      left
      by_cases a : zln1 (zrv M) f c (E 68 c + 1) = true
      · rw [a]
        exact ⟨_, rfl, Or.inr ⟨rfl, succ1 a (Or.inr u), by dsimp only; omega, by dsimp only; omega⟩, by dsimp only; omega⟩
      · have a' : zln1 (zrv M) f c (E 68 c + 1) = false := by simpa using a
        rw [a']
        obtain ⟨n1, n2⟩ := hnx c (E 68 c + 1) (E 60 15) f k3 (by omega) a u
        refine ⟨_, rfl, Or.inl ⟨rfl, ⟨⟨z1, z5⟩, z3, ?_, ?_⟩, by dsimp only; omega⟩, by dsimp only; omega⟩
        · dsimp only
          rw [z2, z4]
          exact n2
        · dsimp only
          rw [z2, z4]
          exact n1.trans k4
  · intro Q' hE hv ht0
    obtain ⟨k1, k2, k3, k4⟩ := id hE
    obtain ⟨l1, l2, l3, l4, l5, l6, l7⟩ := id k3
    dsimp only at l1 l2 l3 l4 l5 l6 l7
    dsimp only
    rw [if_pos (show zw 0 = 0 by decide), Option.bind_some, Option.bind_some, if_pos (show zw 0 = 0 by decide), Option.bind_some]
    refine ⟨_, rfl, ?_, by dsimp only; omega⟩
    dsimp only
    by_cases e : c = 0
    · subst e
      right; left
      refine ⟨rfl, ?_, k1.1, by omega, by omega⟩
      rw [← k4]
      exact hno _ _ _ hv
    · left
      obtain ⟨n1, n2⟩ := hbk c (Q' 68 c + 1) (Q' 60 15) f k3 hv e
      refine ⟨by omega, by omega, f, k1, fun x x0 x1 => k2 x x0 (by omega), ?_, ?_⟩
      · rw [show c + -1 = c - 1 by omega, k2 (c - 1) (by omega) (by omega)]
        exact n2
      · rw [show c + -1 = c - 1 by omega, k2 (c - 1) (by omega) (by omega)]
        exact n1.trans k4
  · intro Q' hE ht0
    dsimp only
    rw [if_neg (show ¬ zw 1 = 0 by decide), Option.bind_some, Option.bind_some, if_neg (show ¬ zw 1 = 0 by decide)]
    rcases hE with ⟨e, hd⟩ | ⟨e, hb, f', k2, k3, k4⟩
    · have hq2 := hRC Q' hd.1.1
      have d3 := hd.2.2.2.1
      rw [zgf_ok rfl, Option.bind_some, zgf_ok rfl, Option.bind_some, hq2.1, hq2.2, hN, zw_id (x := N) (by omega) (by omega), zw_id (x := c + 1) (by omega) (by omega), if_pos (by omega), Option.bind_some]
      exact ⟨_, rfl, Or.inr (Or.inr ⟨e, hd⟩), by dsimp only; omega⟩
    · have hq2 := hRC Q' hb.1
      obtain ⟨l1, l2, l3, l4, l5, l6, l7⟩ := id k3
      dsimp only at l1 l2 l3 l4 l5 l6 l7
      have g := (zsx.g I hX hb.1)
      unfold zPt at g
      have b14 : zgr zK0 Q' 12 49 60 14 = some 68 := by simp only [g]
      rw [zgf_ok rfl, Option.bind_some, zgf_ok rfl, Option.bind_some, hq2.1, hq2.2, hN, zw_id (x := N) (by omega) (by omega), zw_id (x := c + 1) (by omega) (by omega), if_neg (by omega), b14, Option.bind_some, zpa_ok (N := 64) rfl (by decide) (by omega) (by omega), Option.bind_some, Option.bind_some]
      have y1 : zu Q' 68 (c + 1) (-1) 60 15 = Q' 60 15 := zu_n (by decide)
      refine ⟨_, rfl, Or.inl ⟨by dsimp only; omega, by dsimp only; omega, f', ⟨hb.1.up rfl, fun x x0 x1 => by dsimp only; rw [zu_n (by decide), hb.2 x x0 x1]⟩, fun x x0 x1 => ?_, ?_, ?_⟩, ?_⟩
      · dsimp only at x1 ⊢
        rw [zu_m (by omega)]
        exact k2 x x0 (by omega)
      · dsimp only
        rw [y1, zu_e]
        exact k3
      · dsimp only
        rw [y1, zu_e]
        exact k4
      · dsimp only
        rw [y1]
        omega
