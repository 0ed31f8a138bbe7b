def zCb (M P : zM) (N : Int) : Prop := zsa M P ∧ P 16 4 = N ∧ ∀ x, 0 ≤ x → x < 64 → P 17 x = zrv M x
/-- the program's cells stand for a search at cell c -/
def zCm (M P : zM) (N : Int) (f : Int → Int) (c : Int) : Prop := zCb M P N ∧ (∀ x, 0 ≤ x → x < c → P 19 x = f x) ∧ (∀ x : Int, 0 ≤ x → x ≤ c → x < N → P 20 x = zgh f x.toNat) ∧ ∀ b, 0 ≤ b → b < 17 → ∀ d : Nat, d < 64 → zbi (P 18 b) d = decide ((d : Int) < c ∧ f d = b)
theorem c_seek {M P0 : zM} {n : Nat} {m N : Int} (hn : 1000000 ≤ n) (I : Iv M) (N0 : 1 ≤ N) (N1 : N ≤ 64) (m0 : 1 ≤ m) (m1 : m ≤ 17) (h0 : zCb M P0 N) : ∃ P, qfs_seek n zK0 P0 16 m = some ((zrs N m (zrv M) (0, 0, 0, fun _ => 0)).1, P) ∧ zCb M P N ∧ (0 < (zrs N m (zrv M) (0, 0, 0, fun _ => 0)).1 → ∀ x, 0 ≤ x → x < N → P 19 x = (zrs N m (zrv M) (0, 0, 0, fun _ => 0)).2 x) := by
  have hbk : ∀ (c v t : Int) (f : Int → Int), zfI N m (c, v, t, f) → ¬ v ≤ zlst m f c → c ≠ 0 → zrs N m (zrv M) (c - 1, f (c - 1) + 1, t, f) = zrs N m (zrv M) (c, v, t, f) ∧ zfI N m (c - 1, f (c - 1) + 1, t, f) := fun c v t f h1 h2 h3 => zrs_back m0 h1 h2 h3
  have hno : ∀ (v t : Int) (f : Int → Int), ¬ v ≤ zlst m f 0 → (zrs N m (zrv M) (0, v, t, f)).1 = -4 := fun v t f h => zrs_none h
  have hdo : ∀ (c v t : Int) (f : Int → Int), v ≤ zlst m f c → zln1 (zrv M) f c v = true → c + 1 = N → zrs N m (zrv M) (c, v, t, f) = (t + 1, zup f c v) := fun c v t f h1 h2 h3 => zrs_done h1 h2 h3
  have hsp : ∀ (c v t : Int) (f : Int → Int), v ≤ zlst m f c → ¬ (zln1 (zrv M) f c v = true ∧ c + 1 = N) → t + 1 = 20000 → (zrs N m (zrv M) (c, v, t, f)).1 = -6 := fun c v t f h1 h2 h3 => zrs_spent h1 h2 h3
  have hon : ∀ (c v t : Int) (f : Int → Int), zfI N m (c, v, t, f) → v ≤ zlst m f c → zln1 (zrv M) f c v = true → c + 1 ≠ N → t + 1 ≠ 20000 → zrs N m (zrv M) (c + 1, 0, t + 1, zup f c v) = zrs N m (zrv M) (c, v, t, f) ∧ zfI N m (c + 1, 0, t + 1, zup f c v) := fun c v t f h1 h2 h3 h4 h5 => zrs_on m0 h1 h2 h3 h4 h5
  have hnx : ∀ (c v t : Int) (f : Int → Int), zfI N m (c, v, t, f) → v ≤ zlst m f c → ¬ zln1 (zrv M) f c v = true → t + 1 ≠ 20000 → zrs N m (zrv M) (c, v + 1, t + 1, f) = zrs N m (zrv M) (c, v, t, f) ∧ zfI N m (c, v + 1, t + 1, f) := fun c v t f h1 h2 h3 h4 => zrs_next m0 h1 h2 h3 h4
  obtain ⟨rs, hrs⟩ : ∃ rs, zrs N m (zrv M) = rs := ⟨_, rfl⟩
  rw [hrs] at hbk hno hdo hsp hon hnx ⊢
  obtain ⟨r0, hr0⟩ : ∃ r, rs (0, 0, 0, fun _ => 0) = r := ⟨_, rfl⟩
  rw [hr0]
  have g0 := (I.keep h0.1).g
  unfold zPt at g0
  have a1 : zgr zK0 P0 0 5 16 1 = some 18 := by simp only [g0]
  have a3 : zgr zK0 P0 0 5 16 3 = some 20 := by simp only [g0]
  unfold qfs_seek
  rw [a1, Option.bind_some, zfillJ (N := 17) rfl (by decide) (by omega), Option.bind_some, zgr_fl (by decide), a3, Option.bind_some, zpa_ok (N := 64) rfl (by decide) (by decide) (by decide), Option.bind_some]
  have key : ∀ (F : Int × Int × Int × zM → Option ((Int × Int × Int × zM) ⊕ (Int × zM))) (s0 : Int × Int × Int × zM), (∃ r, zwh F n s0 = some r ∧ r.1 = r0.1 ∧ zCb M r.2 N ∧ (0 < r0.1 → ∀ x, 0 ≤ x → x < N → r.2 19 x = r0.2 x)) → ∃ P, zwh F n s0 = some (r0.1, P) ∧ zCb M P N ∧ (0 < r0.1 → ∀ x, 0 ≤ x → x < N → P 19 x = r0.2 x) := by
    rintro F s0 ⟨⟨r1, r2⟩, e1, e2, e3, e4⟩
    dsimp only at e2 e3 e4
    subst e2
    exact ⟨_, e1, e3, e4⟩
  refine key _ _ (zwh_inv (fun s => (1 ≤ s.2.2.1 ∧ s.2.2.1 ≤ 20000 ∧ ∃ f, zCm M s.2.2.2 N f s.1 ∧ zfI N m (s.1, s.2.1, s.2.2.1 - 1, f) ∧ rs (s.1, s.2.1, s.2.2.1 - 1, f) = r0) ∨ (s.2.2.1 = 20001 ∧ r0.1 = -6 ∧ zCb M s.2.2.2 N)) (fun s => (20002 - s.2.2.1).toNat) _ ?_ n _ (Or.inl ⟨by simp, by simp, fun _ => 0, ⟨⟨(h0.1.fl (fun _ => rfl)).up rfl, ?_, fun x x0 x1 => ?_⟩, fun x x0 x1 => ?_, fun x x0 x1 x2 => ?_, fun b b0 b1 d hd => ?_⟩, ⟨by simp, by dsimp only; omega, by simp, by simp, by simp, by dsimp only; omega, fun x x0 x1 => by dsimp only at x1; omega⟩, hr0⟩) (by dsimp only; omega))
  rotate_left
  · dsimp only
    rw [zu_n (by decide), zfl_n (by decide), h0.2.1]
  · dsimp only
    rw [zu_n (by decide), zfl_n (by decide), h0.2.2 x x0 x1]
  · dsimp only at x1
    omega
  · dsimp only at x1 ⊢
    have : x = 0 := by omega
    subst this
    rw [zu_e]
    rfl
  · dsimp only
    rw [zu_n (by decide), zfl_e b0 (by exact b1), zbi_0]
    symm
    apply decide_eq_false
    rintro ⟨q, _⟩
    omega
  rintro ⟨c, v, tr, P⟩ hI
  dsimp only at hI ⊢
  rw [zw_id (x := 20000) (by decide) (by decide)]
  rcases hI with ⟨t0, t1, f, hc, hf, hz⟩ | ⟨t0, t1, hb⟩
  rotate_left
  · right
    rw [t0, zw_id (x := 20001) (by decide) (by decide), if_pos (by decide)]
    exact ⟨_, rfl, t1.symm, hb, fun q => by omega⟩
  rw [zw_id (x := tr) (by omega) (by omega), if_neg (by omega)]
  have inner : ∀ F : Int × Int × zM → Option ((Int × Int × zM) ⊕ (Int × Int × zM)), (∀ c v P, ((∃ f, zCm M P N f c ∧ zfI N m (c, v, tr - 1, f) ∧ rs (c, v, tr - 1, f) = r0) ∨ (c = -1 ∧ r0.1 = -4 ∧ zCb M P N)) → (∃ s', F (c, v, P) = some (.inl s') ∧ ((∃ f, zCm M s'.2.2 N f s'.1 ∧ zfI N m (s'.1, s'.2.1, tr - 1, f) ∧ rs (s'.1, s'.2.1, tr - 1, f) = r0) ∨ (s'.1 = -1 ∧ r0.1 = -4 ∧ zCb M s'.2.2 N)) ∧ s'.1 = c - 1 ∧ 0 ≤ c) ∨ (∃ r, F (c, v, P) = some (.inr r) ∧ ((∃ f, zCm M r.2.2 N f r.1 ∧ zfI N m (r.1, r.2.1, tr - 1, f) ∧ rs (r.1, r.2.1, tr - 1, f) = r0 ∧ r.2.1 ≤ zlst m f r.1) ∨ (r.1 = -1 ∧ r0.1 = -4 ∧ zCb M r.2.2 N)))) → ∃ r, zwh F n (c, v, P) = some r ∧ ((∃ f, zCm M r.2.2 N f r.1 ∧ zfI N m (r.1, r.2.1, tr - 1, f) ∧ rs (r.1, r.2.1, tr - 1, f) = r0 ∧ r.2.1 ≤ zlst m f r.1) ∨ (r.1 = -1 ∧ r0.1 = -4 ∧ zCb M r.2.2 N)) := by
    intro F hF
    refine zwh_inv (fun s => ((∃ f, zCm M s.2.2 N f s.1 ∧ zfI N m (s.1, s.2.1, tr - 1, f) ∧ rs (s.1, s.2.1, tr - 1, f) = r0) ∨ (s.1 = -1 ∧ r0.1 = -4 ∧ zCb M s.2.2 N)) ∧ s.1 < 64) (fun s => (s.1 + 1).toNat) _ ?_ n _ ⟨Or.inl ⟨f, hc, hf, hz⟩, by have := hf.2.1; dsimp only at this ⊢; omega⟩ (by have := hf.2.1; dsimp only at this ⊢; omega)
    rintro ⟨c, v, P⟩ ⟨q, q2⟩
    dsimp only at q q2 ⊢
    rcases hF c v P q with ⟨s', e1, e2, e3, e4⟩ | ⟨r, e1, e2⟩
    · left
      exact ⟨s', e1, ⟨e2, by omega⟩, by omega⟩
    · right
      exact ⟨r, e1, e2⟩
  have key2 : ∀ (F : Int × Int × zM → Option ((Int × Int × zM) ⊕ (Int × Int × zM))) (X : Int × Int × zM → Option ((Int × Int × Int × zM) ⊕ (Int × zM))), (∃ r, zwh F n (c, v, P) = some r ∧ ((∃ f, zCm M r.2.2 N f r.1 ∧ zfI N m (r.1, r.2.1, tr - 1, f) ∧ rs (r.1, r.2.1, tr - 1, f) = r0 ∧ r.2.1 ≤ zlst m f r.1) ∨ (r.1 = -1 ∧ r0.1 = -4 ∧ zCb M r.2.2 N))) → (∀ c v P f, zCm M P N f c → zfI N m (c, v, tr - 1, f) → rs (c, v, tr - 1, f) = r0 → v ≤ zlst m f c → (∃ s', X (c, v, P) = some (.inl s') ∧ ((1 ≤ s'.2.2.1 ∧ s'.2.2.1 ≤ 20000 ∧ ∃ f, zCm M s'.2.2.2 N f s'.1 ∧ zfI N m (s'.1, s'.2.1, s'.2.2.1 - 1, f) ∧ rs (s'.1, s'.2.1, s'.2.2.1 - 1, f) = r0) ∨ (s'.2.2.1 = 20001 ∧ r0.1 = -6 ∧ zCb M s'.2.2.2 N)) ∧ (20002 - s'.2.2.1).toNat < (20002 - tr).toNat) ∨ (∃ r, X (c, v, P) = some (.inr r) ∧ r.1 = r0.1 ∧ zCb M r.2 N ∧ (0 < r0.1 → ∀ x, 0 ≤ x → x < N → r.2 19 x = r0.2 x))) → (∀ v P, zCb M P N → X (-1, v, P) = some (.inr (-4, P))) → (∃ s', ((zwh F n (c, v, P)).bind X) = some (.inl s') ∧ ((1 ≤ s'.2.2.1 ∧ s'.2.2.1 ≤ 20000 ∧ ∃ f, zCm M s'.2.2.2 N f s'.1 ∧ zfI N m (s'.1, s'.2.1, s'.2.2.1 - 1, f) ∧ rs (s'.1, s'.2.1, s'.2.2.1 - 1, f) = r0) ∨ (s'.2.2.1 = 20001 ∧ r0.1 = -6 ∧ zCb M s'.2.2.2 N)) ∧ (20002 - s'.2.2.1).toNat < (20002 - tr).toNat) ∨ (∃ r, ((zwh F n (c, v, P)).bind X) = some (.inr r) ∧ r.1 = r0.1 ∧ zCb M r.2 N ∧ (0 < r0.1 → ∀ x, 0 ≤ x → x < N → r.2 19 x = r0.2 x)) := by
    rintro F X ⟨⟨c', v', P'⟩, e1, e2⟩ h1 h2
    rw [e1, Option.bind_some]
    rcases e2 with ⟨f, e2, e3, e4, e5⟩ | ⟨e2, e3, e4⟩
    · exact h1 c' v' P' f e2 e3 e4 e5
    · right
      dsimp only at e2 e4
      subst e2
      exact ⟨_, h2 v' P' e4, e3.symm, e4, fun q => by omega⟩
  clear hc hf hz f
  refine key2 _ _ (inner _ ?_) ?_ ?_
  · intro c v P hq
    dsimp only
    rcases hq with ⟨f, hc, hf, hz⟩ | ⟨rfl, q2, q3⟩
    rotate_left
    · right
      rw [if_pos (by decide)]
      exact ⟨_, rfl, Or.inr ⟨rfl, q2, q3⟩⟩
    obtain ⟨f1, f2, f3, f4, f5, f6, f7⟩ := id hf
    obtain ⟨c1, c2, c3, c4⟩ := id hc
    dsimp only at f1 f2 f3 f4 f5 f6 f7
    have g := (I.keep c1.1).g
    unfold zPt at g
    have b1 : zgr zK0 P 0 5 16 1 = some 18 := by simp only [g]
    have b2 : zgr zK0 P 0 5 16 2 = some 19 := by simp only [g]
    have b3 : zgr zK0 P 0 5 16 3 = some 20 := by simp only [g]
    have gh := zgh_rg (f := f) (m := m) c.toNat (fun x x0 x1 => f7 x x0 (by omega)) m0
    have lst : qfs_lastToAsk zK0 P 16 c m = some (zlst m f c) := by
      unfold qfs_lastToAsk
      rw [b3, Option.bind_some, zga_ok (N := 64) rfl (by decide) f1 (by omega), Option.bind_some, c3 c f1 (by omega) f2, zmin_ok (by omega) (by omega) (by omega) (by omega)]
      rfl
    have lr : -1 ≤ zlst m f c ∧ zlst m f c ≤ 16 := by unfold zlst; split <;> omega
    rw [zw_id (x := c) (by omega) (by omega), if_neg (by omega), zgk_ok rfl, Option.bind_some, lst, Option.bind_some, zw_id (x := v) (by omega) (by omega), zw_id (x := zlst m f c) (by omega) (by omega)]
    by_cases d : v ≤ zlst m f c
    · right
      rw [if_pos d]
      exact ⟨_, rfl, Or.inl ⟨f, hc, hf, hz, d⟩⟩
    · left
      rw [if_neg d, zw_id (x := c + -1) (by omega) (by omega)]
      by_cases e : c = 0
      · subst e
        rw [if_pos (by decide), Option.bind_some]
        refine ⟨_, rfl, Or.inr ⟨rfl, ?_, c1⟩, rfl, by omega⟩
        rw [← hz]
        exact hno _ _ _ d
      · rw [if_neg (by omega), show c + -1 = c - 1 by omega, Option.bind_some]
        have fr := f7 (c - 1) (by omega) (by omega)
        have lift : qfs_lift zK0 P 16 (c - 1) = some (f (c - 1), zu P 18 (f (c - 1)) (zland (P 18 (f (c - 1))) (zlxor (zlshl 1 (c - 1)) (-1)))) := by
          unfold qfs_lift
          rw [b2, Option.bind_some, zga_ok (N := 64) rfl (by decide) (by omega) (by omega), Option.bind_some, b1, Option.bind_some, c2 (c - 1) (by omega) (by omega), zga_ok (N := 17) rfl (by decide) (by omega) (by omega), Option.bind_some, zpa_ok (N := 17) rfl (by decide) (by omega) (by omega), Option.bind_some]
        obtain ⟨k1, k2⟩ := hbk _ _ _ _ hf d e
        rw [lift, Option.bind_some, Option.bind_some]
        refine ⟨_, rfl, Or.inl ⟨f, ⟨⟨c1.1.up rfl, ?_, fun x x0 x1 => ?_⟩, fun x x0 x1 => ?_, fun x x0 x1 x2 => ?_, fun b b0 b1 d hd => ?_⟩, k2, k1.trans hz⟩, rfl, f1⟩
        · dsimp only
          rw [zu_n (by decide), c1.2.1]
        · dsimp only
          rw [zu_n (by decide), c1.2.2 x x0 x1]
        · dsimp only at x1 ⊢
          rw [zu_n (by decide)]
          exact c2 x x0 (by omega)
        · dsimp only at x1 ⊢
          rw [zu_n (by decide)]
          exact c3 x x0 (by omega) x2
        · dsimp only
          by_cases w : b = f (c - 1)
          · subst w
            rw [zu_e, zbi_and, zbi_xor, zbi_m1 d hd, zbi_shl (by omega) (by omega) d hd, c4 _ b0 b1 d hd]
            by_cases y : (d : Int) = c - 1
            · rw [decide_eq_true y, show (true ^^ true) = false from rfl, Bool.and_false]
              symm
              exact decide_eq_false (by omega)
            · rw [decide_eq_false y, show (false ^^ true) = true from rfl, Bool.and_true]
              by_cases z : (d : Int) < c ∧ f d = f (c - 1)
              · rw [decide_eq_true z, decide_eq_true ⟨by omega, z.2⟩]
              · rw [decide_eq_false z, decide_eq_false (fun q => z ⟨by omega, q.2⟩)]
          · rw [zu_m w, c4 b b0 b1 d hd]
            by_cases z : (d : Int) < c ∧ f d = b
            · have : (d : Int) ≠ c - 1 := fun q => w (by rw [← q]; exact z.2.symm)
              rw [decide_eq_true z, decide_eq_true ⟨by omega, z.2⟩]
            · rw [decide_eq_false z, decide_eq_false (fun q => z ⟨by omega, q.2⟩)]
  · intro c v P f hc hf hz hv
    dsimp only
    obtain ⟨f1, f2, f3, f4, f5, f6, f7⟩ := id hf
    obtain ⟨c1, c2, c3, c4⟩ := id hc
    dsimp only at f1 f2 f3 f4 f5 f6 f7
    have g := (I.keep c1.1).g
    unfold zPt at g
    have b0 : zgr zK0 P 0 5 16 0 = some 17 := by simp only [g]
    have b1 : zgr zK0 P 0 5 16 1 = some 18 := by simp only [g]
    have b2 : zgr zK0 P 0 5 16 2 = some 19 := by simp only [g]
    have b3 : zgr zK0 P 0 5 16 3 = some 20 := by simp only [g]
    have gh := zgh_rg (f := f) (m := m) c.toNat (fun x x0 x1 => f7 x x0 (by omega)) m0
    have lr : zlst m f c ≤ m - 1 := by unfold zlst; split <;> omega
    have al : zw (zlcmp (zland (P 18 v) (zrv M c)) 0) = 0 ↔ zln1 (zrv M) f c v = true := by
      rw [zand_z, zln1_iff]
      constructor
      · intro h d d0 d1 ⟨q1, q2⟩
        refine h d.toNat (by omega) ⟨?_, q1⟩
        rw [c4 v f5 (by omega) d.toNat (by omega)]
        apply decide_eq_true
        rw [show ((d.toNat : Nat) : Int) = d by omega]
        exact ⟨d1, q2⟩
      · intro h d hd ⟨q1, q2⟩
        rw [c4 v f5 (by omega) d hd] at q1
        have q3 := of_decide_eq_true q1
        exact h d (by omega) q3.1 ⟨by rw [Int.toNat_natCast]; exact q2, q3.2⟩
    rw [zw_id (x := c) (by omega) (by omega), if_pos f1, b1, Option.bind_some, zga_ok (N := 17) rfl (by decide) f5 (by omega), Option.bind_some, b0, Option.bind_some, zga_ok (N := 64) rfl (by decide) f1 (by omega), Option.bind_some, c1.2.2 c f1 (by omega)]
    by_cases a : zln1 (zrv M) f c v = true
    · rw [if_pos (al.2 a), zgk_ok rfl, Option.bind_some]
      have hup : ∀ x, x ≠ c → zup f c v x = f x := fun x hx => by unfold zup; rw [if_neg hx]
      have huc : zup f c v c = v := by unfold zup; rw [if_pos rfl]
      have q1 : zsa M (zu (zu P 19 c v) 18 v (zlor (P 18 v) (zlshl 1 c))) := (c1.1.up rfl).up rfl
      have q2 : ∀ Z : zM, (∀ k i, k ≠ 20 → Z k i = zu (zu P 19 c v) 18 v (zlor (P 18 v) (zlshl 1 c)) k i) → Z 16 4 = N ∧ (∀ x, 0 ≤ x → x < 64 → Z 17 x = zrv M x) ∧ (∀ x, 0 ≤ x → x < c + 1 → Z 19 x = zup f c v x) ∧ ∀ b, 0 ≤ b → b < 17 → ∀ d : Nat, d < 64 → zbi (Z 18 b) d = decide ((d : Int) < c + 1 ∧ zup f c v d = b) := by
        intro Z hZ
        refine ⟨?_, fun x x0 x1 => ?_, fun x x0 x1 => ?_, fun b b0 b1 d hd => ?_⟩
        · rw [hZ 16 4 (by decide), zu_n (by decide), zu_n (by decide), c1.2.1]
        · rw [hZ 17 x (by decide), zu_n (by decide), zu_n (by decide), c1.2.2 x x0 x1]
        · rw [hZ 19 x (by decide), zu_n (by decide)]
          by_cases w : x = c
          · rw [w, zu_e, huc]
          · rw [zu_m w, hup x w]
            exact c2 x x0 (by omega)
        · rw [hZ 18 b (by decide)]
          by_cases w : b = v
          · subst w
            rw [zu_e, zbi_or, c4 b b0 b1 d hd, zbi_shl f1 (by omega) d hd]
            by_cases y : (d : Int) = c
            · rw [decide_eq_true y, Bool.or_true]
              symm
              apply decide_eq_true
              rw [y, huc]
              exact ⟨by omega, rfl⟩
            · rw [decide_eq_false y, Bool.or_false, hup _ y]
              by_cases z : (d : Int) < c ∧ f d = b
              · rw [decide_eq_true z, decide_eq_true ⟨by omega, z.2⟩]
              · rw [decide_eq_false z, decide_eq_false (fun q => z ⟨by omega, q.2⟩)]
          · rw [zu_m w, zu_n (by decide), c4 b b0 b1 d hd]
            by_cases y : (d : Int) = c
            · rw [decide_eq_false (by omega), y, huc]
              symm
              exact decide_eq_false (fun q => w q.2.symm)
            · rw [hup _ y]
              by_cases z : (d : Int) < c ∧ f d = b
              · rw [decide_eq_true z, decide_eq_true ⟨by omega, z.2⟩]
              · rw [decide_eq_false z, decide_eq_false (fun q => z ⟨by omega, q.2⟩)]
      have put1 : qfs_put zK0 P 16 c v = some (if N ≤ c + 1 then zu (zu P 19 c v) 18 v (zlor (P 18 v) (zlshl 1 c)) else zu (zu (zu P 19 c v) 18 v (zlor (P 18 v) (zlshl 1 c))) 20 (c + 1) (zmx (zgh f c.toNat) v)) := by
        unfold qfs_put
        rw [b2, Option.bind_some, zpa_ok (N := 64) rfl (by decide) f1 (by omega), Option.bind_some, zgr_u (Or.inl (by decide)), b1, Option.bind_some, zga_ok (N := 17) rfl (by decide) f5 (by omega), Option.bind_some, zpa_ok (N := 17) rfl (by decide) f5 (by omega), Option.bind_some, zu_n (show (18 : Int) ≠ 19 by decide), zgf_ok rfl, Option.bind_some, zu_n (by decide), zu_n (by decide), c1.2.1, zw_id (x := N) (by omega) (by omega), zw_id (x := c + 1) (by omega) (by omega)]
        by_cases w : N ≤ c + 1
        · rw [if_pos w, if_pos w]
        · rw [if_neg w, if_neg w, zgr_u (Or.inl (by decide)), zgr_u (Or.inl (by decide)), b3, Option.bind_some, Option.bind_some, zga_ok (N := 64) rfl (by decide) f1 (by omega), Option.bind_some, zpa_ok (N := 64) rfl (by decide) (by omega) (by omega), Option.bind_some, zu_n (by decide), zu_n (by decide), c3 c f1 (by omega) f2, zmax_ok (by omega) (by omega) (by omega) (by omega)]
          rfl
      rw [put1, Option.bind_some]
      by_cases e : c + 1 = N
      · right
        rw [if_pos (by omega), zgf_ok rfl, Option.bind_some]
        obtain ⟨z1, z2, z3, z4⟩ := q2 _ (fun _ _ _ => rfl)
        rw [z1, zw_id (x := c + 1) (by omega) (by omega), zw_id (x := N) (by omega) (by omega), if_neg (by omega)]
        have k := hdo _ _ (tr - 1) _ hv a e
        rw [hz] at k
        refine ⟨_, rfl, ?_, ⟨q1, z1, z2⟩, fun _ x x0 x1 => ?_⟩
        · rw [k]; dsimp only; omega
        · rw [k]
          exact z3 x x0 (by omega)
      · left
        rw [if_neg (by omega), zgf_ok rfl, Option.bind_some]
        obtain ⟨z1, z2, z3, z4⟩ := q2 (zu (zu (zu P 19 c v) 18 v (zlor (P 18 v) (zlshl 1 c))) 20 (c + 1) (zmx (zgh f c.toNat) v)) (fun k i hk => zu_n hk)
        rw [z1, zw_id (x := c + 1) (by omega) (by omega), zw_id (x := N) (by omega) (by omega), if_pos (by omega)]
        refine ⟨_, rfl, ?_, by dsimp only; omega⟩
        dsimp only
        by_cases u : tr = 20000
        · right
          refine ⟨by omega, ?_, q1.up rfl, z1, z2⟩
          rw [← hz]
          exact hsp _ _ _ _ hv (fun q => e q.2) (by omega)
        · left
          obtain ⟨k1, k2⟩ := hon _ _ _ _ hf hv a e (by omega)
          refine ⟨by omega, by omega, zup f c v, ⟨⟨q1.up rfl, z1, z2⟩, z3, fun x x0 x1 x2 => ?_, z4⟩, ?_, ?_⟩
          · by_cases w : x = c + 1
            · rw [w, zu_e, zgh_s f1, huc, zgh_cg (f := zup f c v) (g := f) c.toNat (fun y y0 y1 => hup y (by omega))]
            · rw [zu_m w, zu_n (by decide), zu_n (by decide), c3 x x0 (by omega) x2, zgh_cg (f := zup f c v) (g := f) x.toNat (fun y y0 y1 => hup y (by omega))]
          · rw [show tr + 1 - 1 = tr - 1 + 1 by omega]; exact k2
          · rw [show tr + 1 - 1 = tr - 1 + 1 by omega]; exact k1.trans hz
    · rw [if_neg (fun q => a (al.1 q))]
      left
      refine ⟨_, rfl, ?_, by dsimp only; omega⟩
      dsimp only
      by_cases e : tr = 20000
      · right
        refine ⟨by omega, ?_, c1⟩
        rw [← hz]
        exact hsp _ _ _ _ hv (fun q => a q.1) (by omega)
      · left
        obtain ⟨k1, k2⟩ := hnx _ _ _ _ hf hv a (by omega)
        refine ⟨by omega, by omega, f, hc, ?_, ?_⟩
        · rw [show tr + 1 - 1 = tr - 1 + 1 by omega]; exact k2
        · rw [show tr + 1 - 1 = tr - 1 + 1 by omega]; exact k1.trans hz
  · intro v P hb
    dsimp only
    rw [if_neg (by decide)]
