def zsm (f : Int → Int) : Nat → Int
  | 0 => 0
  | k + 1 => zsm f k + f k
theorem zsm_up {f g : Int → Int} {w : Int} (h : ∀ j, j ≠ w → g j = f j) (w0 : 0 ≤ w) : ∀ k : Nat, zsm g k = zsm f k + (if w < k then g w - f w else 0) := by
  intro k
  induction k with
  | zero => simp [zsm]; omega
  | succ k ih =>
    rw [zsm, zsm, ih]
    by_cases e : (k : Int) = w
    · subst e
      rw [if_neg (by omega), if_pos (by omega)]
      omega
    · rw [h k e]
      by_cases l : w < k
      · rw [if_pos l, if_pos (by omega)]
        omega
      · rw [if_neg l, if_neg (by omega)]
        omega
theorem zsm_ge {f : Int → Int} : ∀ k : Nat, (∀ j : Int, 0 ≤ j → j < k → 0 ≤ f j) → 0 ≤ zsm f k ∧ ∀ w : Int, 0 ≤ w → w < k → f w ≤ zsm f k := by
  intro k
  induction k with
  | zero => intro _; refine ⟨by simp [zsm], fun w _ _ => by omega⟩
  | succ k ih =>
    intro h
    obtain ⟨i1, i2⟩ := ih (fun j j0 j1 => h j j0 (by omega))
    have hk := h k (by omega) (by omega)
    rw [zsm]
    refine ⟨by omega, fun w w0 w1 => ?_⟩
    by_cases e : w = k
    · subst e; omega
    · have := i2 w w0 (by omega); omega
theorem zsm_pos {f : Int → Int} : ∀ k : Nat, 0 < zsm f k → ∃ w : Int, 0 ≤ w ∧ w < k ∧ 0 < f w := by
  intro k
  induction k with
  | zero => intro h; simp [zsm] at h
  | succ k ih =>
    intro h
    rw [zsm] at h
    by_cases c : 0 < f k
    · exact ⟨k, by omega, by omega, c⟩
    · obtain ⟨w, w0, w1, w2⟩ := ih (by omega)
      exact ⟨w, w0, by omega, w2⟩
/-- both sides' banks that rest and their queues -/
def zJq (M T P Q : zM) (b : Int) : Prop := zsa M P ∧ zsa M Q ∧ (∀ y, Q 62 y = zlN T 62 y) ∧ ∀ j, 0 ≤ j → j < 17 → Q 69 j = P 22 j ∧ 0 ≤ P 22 j ∧ P 22 j ≤ b + 12 ∧ Q 70 j = P 23 j ∧ 0 ≤ P 23 j ∧ P 23 j ≤ 8
theorem j_take {M T P0 Q0 : zM} {n : Nat} {b tk ls S : Int} (hn : 1000000 ≤ n) (I : Iv M) (b0 : 0 ≤ b) (b1 : b ≤ 10000) (J0 : zJq M T P0 Q0 b) (hS : zsm (P0 23) 17 = S) : ∃ c P ls' w Q, qsm_takeFirsts n zK0 P0 21 (M 2 2) (M 1 14) b = some (c, P) ∧ (zwh (σ := Int × Int × Int × zM) (ρ := Int × Int × Int × zM) (fun s11 =>
                (zgf zK0 s11.2.2.2 12 49 60 2).bind fun v25 =>
                if zw v25 ≤ zw s11.2.2.1 then
                  some (.inr (s11.1, s11.2.1, s11.2.2.1, s11.2.2.2))
                else
                  (zgr zK0 s11.2.2.2 12 49 60 18).bind fun r26 =>
                  (zga zK0 s11.2.2.2 100 r26 s11.2.2.1).bind fun v27 =>
                  (if zw v27 ≤ 0 then
                    some (s11.1, s11.2.1, s11.2.2.2)
                  else
                    (zgr zK0 s11.2.2.2 12 49 60 17).bind fun r29 =>
                    (zga zK0 s11.2.2.2 100 r29 s11.2.2.1).bind fun v30 =>
                    if zw b < zw v30 then
                      some (s11.1, s11.2.1, s11.2.2.2)
                    else
                      (zgr zK0 s11.2.2.2 12 49 60 18).bind fun r31 =>
                      (zga zK0 s11.2.2.2 100 r31 s11.2.2.1).bind fun v32 =>
                      (zpa zK0 s11.2.2.2 100 r31 s11.2.2.1 (v32 - 1)).bind fun M33 =>
                      (zgr zK0 M33 12 49 60 17).bind fun r34 =>
                      (zgf zK0 M33 12 49 60 16).bind fun v35 =>
                      (zpa zK0 M33 100 r34 s11.2.2.1 (b + v35)).bind fun M36 =>
                      some (s11.1 + 1, b, M36) : Option (Int × Int × zM)).bind fun j28 =>
                  some (.inl (j28.1, j28.2.1, s11.2.2.1 + 1, j28.2.2))) n (tk, ls, 0, Q0)) = some (tk + c, ls', w, Q) ∧
    0 ≤ c ∧ zJq M T P Q b ∧ zsm (P 23) 17 = S - c ∧ P 21 3 = P0 21 3 ∧ P 21 4 = P0 21 4 ∧ ((c = 0 ∧ P = P0 ∧ ls' = ls ∧ ∀ j, 0 ≤ j → j < M 2 2 → P0 23 j ≤ 0 ∨ b < P0 22 j) ∨ (0 < c ∧ P 21 2 = ls' + M 1 14)) ∧ ∀ j, P0 23 j = 0 → P 23 j = 0 := by
  have hr := I.2.2.1
  unfold IvR at hr
  have ht := I.2.1
  unfold IvT at ht
  have key : ∀ (F : Int × Int × zM → Option ((Int × Int × zM) ⊕ (Int × zM))) (G : Int × Int × Int × zM → Option ((Int × Int × Int × zM) ⊕ (Int × Int × Int × zM))) (Z : Int → zM → Int → zM → Prop), (∃ x y, zwh F n (0, 0, P0) = some x ∧ zwh G n (tk, ls, 0, Q0) = some y ∧ y.1 = tk + x.1 ∧ Z x.1 x.2 y.2.1 y.2.2.2) → ∃ c P ls' w Q, zwh F n (0, 0, P0) = some (c, P) ∧ zwh G n (tk, ls, 0, Q0) = some (tk + c, ls', w, Q) ∧ Z c P ls' Q := by
    rintro F G Z ⟨⟨x1, x2⟩, ⟨y1, y2, y3, y4⟩, e1, e2, e3, e4⟩
    dsimp only at e3 e4
    subst e3
    exact ⟨_, _, _, _, _, e1, e2, e4⟩
  unfold qsm_takeFirsts
  refine key _ _ (fun c P ls' Q => 0 ≤ c ∧ zJq M T P Q b ∧ zsm (P 23) 17 = S - c ∧ P 21 3 = P0 21 3 ∧ P 21 4 = P0 21 4 ∧ ((c = 0 ∧ P = P0 ∧ ls' = ls ∧ ∀ j, 0 ≤ j → j < M 2 2 → P0 23 j ≤ 0 ∨ b < P0 22 j) ∨ (0 < c ∧ P 21 2 = ls' + M 1 14)) ∧ ∀ j, P0 23 j = 0 → P 23 j = 0) (zwh2 (n := n) (R := fun (s : Int × Int × zM) (t : Int × Int × Int × zM) => t.1 = tk + s.1 ∧ t.2.2.1 = s.2.1 ∧ 0 ≤ s.2.1 ∧ s.2.1 ≤ M 2 2 ∧ 0 ≤ s.1 ∧ zJq M T s.2.2 t.2.2.2 b ∧ zsm (s.2.2 23) 17 = S - s.1 ∧ s.2.2 21 3 = P0 21 3 ∧ s.2.2 21 4 = P0 21 4 ∧ ((s.1 = 0 ∧ s.2.2 = P0 ∧ t.2.1 = ls ∧ ∀ j, 0 ≤ j → j < s.2.1 → P0 23 j ≤ 0 ∨ b < P0 22 j) ∨ (0 < s.1 ∧ s.2.2 21 2 = t.2.1 + M 1 14)) ∧ ∀ j, P0 23 j = 0 → s.2.2 23 j = 0) (fun s => (M 2 2 - s.2.1).toNat) _ ?_ _ _ ?_ ?_)
  · rintro ⟨k, i, P⟩ ⟨tk', ls', i', Q⟩ ⟨q1, q2, q3, q4, q5, J, q6, q7, q8, q9, q10⟩
    dsimp only at q1 q2 q3 q4 q5 J q6 q7 q8 q9 q10 ⊢
    subst q1 q2
    obtain ⟨J1, J2, J3, J4⟩ := id J
    have gP := (I.keep J1).g
    have gQ := (I.keep J2).g
    unfold zPt at gP gQ
    have hb := (J2 60 2 rfl).trans ht.2.2.2.2.2.2.2.2.2.2.2.2.2.2.1
    have hq := (J2 60 16 rfl).trans hr.2.2
    simp only [zPf, Option.bind_some, hb]
    rw [zw_id (x := M 2 2) (by omega) (by omega), zw_id (x := i') (by omega) (by omega)]
    by_cases c : M 2 2 ≤ i'
    · right
      rw [if_pos c, if_pos c]
      have : i' = M 2 2 := by omega
      subst this
      exact ⟨_, _, rfl, rfl, rfl, q5, J, q6, q7, q8, q9, q10⟩
    · left
      rw [if_neg c, if_neg c]
      obtain ⟨r1, r2, r3, r4, r5, r6⟩ := J4 i' q3 (by omega)
      simp (disch := omega) only [Option.bind_some, zPf, zPa, zgr_u, zgr_fl, gP, gQ, r4]
      rw [zw_id (x := P 23 i') (by omega) (by omega)]
      by_cases d : P 23 i' ≤ 0
      · rw [if_pos d, if_pos d]
        simp only [Option.bind_some]
        refine ⟨_, _, rfl, rfl, ⟨rfl, rfl, by dsimp only; omega, by dsimp only; omega, q5, J, q6, q7, q8, ?_, q10⟩, by dsimp only; omega⟩
        rcases q9 with ⟨k1, k2, k3, k4⟩ | q9
        · left
          refine ⟨k1, k2, k3, fun j j0 j1 => ?_⟩
          dsimp only at j1
          by_cases e : j = i'
          · subst e; left; rw [← k2]; exact d
          · exact k4 j j0 (by omega)
        · exact Or.inr q9
      · rw [if_neg d, if_neg d]
        simp (disch := omega) only [Option.bind_some, zPf, zPa, zgr_u, zgr_fl, gP, gQ, r1, r4]
        rw [zw_id (x := P 22 i') (by omega) (by omega), zw_id (x := b) (by omega) (by omega)]
        by_cases e : b < P 22 i'
        · rw [if_pos e, if_pos e]
          simp only [Option.bind_some]
          refine ⟨_, _, rfl, rfl, ⟨rfl, rfl, by dsimp only; omega, by dsimp only; omega, q5, J, q6, q7, q8, ?_, q10⟩, by dsimp only; omega⟩
          rcases q9 with ⟨k1, k2, k3, k4⟩ | q9
          · left
            refine ⟨k1, k2, k3, fun j j0 j1 => ?_⟩
            dsimp only at j1
            by_cases e : j = i'
            · subst e; right; rw [← k2]; assumption
            · exact k4 j j0 (by omega)
          · exact Or.inr q9
        · rw [if_neg e, if_neg e]
          simp (disch := omega) only [Option.bind_some, zPf, zPa, zgr_u, zgr_fl, gP, gQ, r1, r4, hq, zu_n (show (60 : Int) ≠ 70 by decide)]
          refine ⟨_, _, rfl, rfl, ⟨by dsimp only; omega, rfl, by dsimp only; omega, by dsimp only; omega, by dsimp only; omega, ⟨((J1.up rfl).up rfl).up rfl, (J2.up rfl).up rfl, fun y => ?_, fun j j0 j1 => ?_⟩, ?_, ?_, ?_, ?_, fun j hj => ?_⟩, by dsimp only; omega⟩
          · dsimp only
            rw [zu_n (by decide), zu_n (by decide)]
            exact J3 y
          · dsimp only
            by_cases f : j = i'
            · subst f
              simp only [zu_n (show (22 : Int) ≠ 21 by decide), zu_n (show (23 : Int) ≠ 21 by decide), zu_n (show (23 : Int) ≠ 22 by decide), zu_n (show (70 : Int) ≠ 69 by decide), zu_e, true_and]
              omega
            · have := J4 j j0 j1
              simp only [zu_n (show (22 : Int) ≠ 21 by decide), zu_n (show (23 : Int) ≠ 21 by decide), zu_m f]
              exact this
          · dsimp only
            rw [zsm_up (f := P 23) (w := i') (fun j hj => by rw [zu_n (by decide), zu_n (by decide), zu_m hj]) q3, if_pos (by omega), zu_n (by decide), zu_n (by decide), zu_e, q6]
            omega
          · dsimp only
            rw [zu_m (by decide), zu_n (by decide), zu_n (by decide), q7]
          · dsimp only
            rw [zu_m (by decide), zu_n (by decide), zu_n (by decide), q8]
          · right
            exact ⟨by dsimp only; omega, by dsimp only; rw [zu_e]⟩
          · dsimp only
            by_cases f : j = i'
            · subst f
              have := q10 j hj
              omega
            · rw [zu_n (by decide), zu_n (by decide), zu_m f]
              exact q10 j hj
  · dsimp only
    refine ⟨by omega, rfl, by omega, by omega, by omega, J0, by omega, rfl, rfl, Or.inl ⟨rfl, rfl, rfl, fun j j0 j1 => by omega⟩, fun j hj => hj⟩
  · dsimp only
    omega

theorem zadr_lt {M : zM} (I : Iv M) {x : Int} : 0 ≤ zadr M x ∧ zadr M x < M 2 2 := by
  have h := I.la
  have hrc := zrc h.2.2.2.1 h.2.2.2.2.1 h.2.2.2.2.2.1 h.2.2.2.2.2.2.1
  have m0 := Int.emod_nonneg x (show M 2 0 * M 2 1 ≠ 0 by omega)
  have m1 := Int.emod_lt_of_pos x (show 0 < M 2 0 * M 2 1 by omega)
  exact (la_at h m0 m1).2.2.2
