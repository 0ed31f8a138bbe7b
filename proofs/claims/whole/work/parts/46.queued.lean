theorem mqz {M : zM} {n : Nat} (hn : 1000000 ≤ n) (h18 : M 60 18 = 70) : (zwh (σ := Int × zM) (ρ := Int × zM) (fun s6 =>
            if zw 17 ≤ zw s6.1 then
              some (.inr (s6.1, s6.2))
            else
              (zgr zK0 s6.2 12 49 60 18).bind fun r37 =>
              (zpa zK0 s6.2 100 r37 s6.1 0).bind fun M38 =>
              some (.inl (s6.1 + 1, M38))) n (0, M)) = some (17, zfl M 70 17 0) := by
  refine zwh_eq (fun s => 0 ≤ s.1 ∧ s.1 ≤ 17 ∧ s.2 = zfl M 70 s.1 0) (fun s => (17 - s.1).toNat) ?_ n _ ⟨by simp, by simp, by simp [zfl_0]⟩ (by simp; omega)
  intro ⟨j, Q⟩ ⟨h1, h2, h3⟩
  dsimp only at h1 h2 h3 ⊢
  subst h3
  rw [zw_id (x := 17) (by decide) (by decide), zw_id (x := j) (by omega) (by omega)]
  by_cases c : 17 ≤ j
  · right
    rw [if_pos c, show j = 17 by omega]
  · left
    rw [if_neg c, zgr_ok (v := 70) rfl (by rw [zfl_n (by decide), h18]) (by decide), Option.bind_some, zpa_ok (N := 17) rfl (by decide) h1 (by omega), Option.bind_some]
    exact ⟨_, rfl, ⟨by dsimp only; omega, by dsimp only; omega, zfl_s h1⟩, by dsimp only; omega⟩
/-- how far both sides are, asks through queues -/
def zRq (M T : zM) (a3 : Int) (s : Int × Int × Int × zM) (t : Int × Int × Int × Int × Int × Int × zM) : Prop :=
  ∃ ent tk b P rf mq ls Q, s = (ent, tk, b, P) ∧ t = (ent, tk, rf, mq, ls, b, Q) ∧ 0 ≤ tk ∧ tk ≤ ent ∧ ent ≤ a3 ∧ 0 ≤ b ∧ zJq M T P Q b ∧ P 21 3 = rf ∧ P 21 4 = mq ∧ 0 ≤ mq ∧ mq ≤ 8 ∧ (tk = 0 ∨ P 21 2 = ls + M 1 14) ∧ zsm (P 23) 17 = ent - tk ∧ (∀ j, M 2 2 ≤ j → j < 17 → P 23 j = 0) ∧
    ∃ D, 0 ≤ D ∧ D ≤ 12 ∧ b + 13 * (a3 - ent) + 13 * (a3 - tk) + D ≤ 5300 ∧ ((∃ w, 0 ≤ w ∧ w < M 2 2 ∧ 0 < P 23 w ∧ P 22 w ≤ b + D) ∨ ent = tk)
theorem o_queued {M : zM} {n : Nat} {a1 a2 a3 a4 a5 : Int} (hn : 1000000 ≤ n) (I : Iv M) (g1 : zrg a1) (g2 : zrg a2) (g3 : zrg a3) (g4 : zrg a4) (g5 : zrg a5) : ∃ r M1 r' M2, qbs_queued n zK0 M 1 a1 a2 a3 a4 a5 = some (r, M1) ∧ qmd_queued n zK0 M1 60 a1 a2 a3 a4 a5 = some (r', M2) ∧ zw r = zw r' ∧ Iv M2 := by
  refine zjn (d := fun T => qmd_queued n zK0 T 60 a1 a2 a3 a4 a5) I (fun T hT => ?_)
  try dsimp only
  unfold qbs_queued qmd_queued qbs_isStream qmd_isStream
  rw [zw_id g1.1 g1.2, zw_id g2.1 g2.2, zw_id g3.1 g3.2, zw_id g4.1 g4.2, zw_id g5.1 g5.2, zwit g1 (by decide) (by decide), zwit g2 (by decide) (by decide), zwit g3 (by decide) (by decide), zwit g4 (by decide) (by decide), zwit g5 (by decide) (by decide), zinn g1 (by decide) (by decide), zinn g2 (by decide) (by decide), zinn g3 (by decide) (by decide), zinn g4 (by decide) (by decide), zinn g5 (by decide) (by decide)]
  rw [Option.bind_some, Option.bind_some]
  have s1 : ¬ (1 : Int) = 0 := by decide
  by_cases c1 : 0 ≤ a1 ∧ a1 ≤ 999
  rotate_left
  · simp only [if_neg c1, zwl, if_true, Option.bind_some]
    exact ⟨_, _, _, _, rfl, rfl, rfl, zsa.rf M, hT⟩
  by_cases c2 : 1 ≤ a2 ∧ a2 ≤ 99
  rotate_left
  · simp only [if_pos c1, if_neg c2, zwl, if_true, Option.bind_some, if_neg s1]
    exact ⟨_, _, _, _, rfl, rfl, rfl, zsa.rf M, hT⟩
  by_cases c3 : 1 ≤ a3 ∧ a3 ≤ 200
  rotate_left
  · simp only [if_pos c1, if_pos c2, if_neg c3, zwl, if_true, Option.bind_some, if_neg s1]
    exact ⟨_, _, _, _, rfl, rfl, rfl, zsa.rf M, hT⟩
  by_cases c4 : 1 ≤ a4 ∧ a4 ≤ 8
  rotate_left
  · simp only [if_pos c1, if_pos c2, if_pos c3, if_neg c4, zwl, if_true, Option.bind_some, if_neg s1]
    exact ⟨_, _, _, _, rfl, rfl, rfl, zsa.rf M, hT⟩
  by_cases c5 : 0 ≤ a5 ∧ a5 ≤ 2
  rotate_left
  · simp only [if_pos c1, if_pos c2, if_pos c3, if_pos c4, if_neg c5, zwl, if_true, Option.bind_some, if_neg s1]
    exact ⟨_, _, _, _, rfl, rfl, rfl, zsa.rf M, hT⟩
  have IT := I.keep hT
  have gM := I.g
  unfold zPt at gM
  have hr := I.2.2.1
  unfold IvR at hr
  have ht := I.2.1
  unfold IvT at ht
  have z1 : zw 1 = 1 := zwl.2.2.2.2.2.2.2.1
  simp only [if_pos c1, if_pos c2, if_pos c3, if_pos c4, if_pos c5, z1, Option.bind_some, if_neg s1]
  unfold qsm_runQueues
  rw [mbegins hn IT]
  simp only [gM, zPf, Option.bind_some]
  rw [zfillI (N := 17) rfl (by decide) (by omega), Option.bind_some, mqz hn (by rw [zfl_n (by decide), zlN_ne (by decide)]; have := IT.1; unfold zSR at this; simp [this])]
  simp only [zgr_fl (show (21 : Int) ≠ 22 by decide), gM, Option.bind_some]
  rw [zfillI (N := 17) rfl (by decide) (by omega)]
  simp only [zPf, Option.bind_some, zw_id g3.1 g3.2]
  have key : ∀ (F : Int × Int × Int × zM → Option ((Int × Int × Int × zM) ⊕ zM)) (G : Int × Int × Int × Int × Int × Int × zM → Option ((Int × Int × Int × Int × Int × Int × zM) ⊕ (Int × Int × Int × Int × Int × Int × zM))) (s0 : Int × Int × Int × zM) (t0 : Int × Int × Int × Int × Int × Int × zM), (∃ x y, zwh F n s0 = some x ∧ zwh G n t0 = some y ∧ zsa M x ∧ zsa M y.2.2.2.2.2.2 ∧ x 21 2 = y.2.2.2.2.1 + M 1 14 ∧ x 21 3 = y.2.2.1 ∧ x 21 4 = y.2.2.2.1) → ∃ r P r' Q, ((zwh F n s0).bind fun M8 => if a5 = 0 then
            (zgr zK0 M8 11 15 1 7).bind fun r9 =>
            (zgf zK0 M8 8 5 r9 2).bind fun v10 =>
            some (v10, M8)
          else
            if a5 = 1 then
              (zgr zK0 M8 11 15 1 7).bind fun r11 =>
              (zgf zK0 M8 8 5 r11 3).bind fun v12 =>
              some (v12, M8)
            else
              (zgr zK0 M8 11 15 1 7).bind fun r13 =>
              (zgf zK0 M8 8 5 r13 4).bind fun v14 =>
              some (v14, M8)) = some (r, P) ∧ ((zwh G n t0).bind fun e9 => if a5 = 0 then
            some (e9.2.2.2.2.1 + e9.2.2.2.2.2.2 60 16, e9.2.2.2.2.2.2)
          else
            if a5 = 1 then
              some (e9.2.2.1, e9.2.2.2.2.2.2)
            else
              some (e9.2.2.2.1, e9.2.2.2.2.2.2)) = some (r', Q) ∧ zw r = zw r' ∧ zsa M P ∧ zsa M Q := by
    rintro F G s0 t0 ⟨x, y, e1, e2, e3, e4, e5, e6, e7⟩
    have gx := (I.keep e3).g
    unfold zPt at gx
    rw [e1, e2, Option.bind_some, Option.bind_some]
    have h16 := (e4 60 16 rfl).trans hr.2.2
    by_cases d0 : a5 = 0
    · simp only [if_pos d0, gx, zPf, Option.bind_some]
      exact ⟨_, _, _, _, rfl, rfl, by rw [h16, e5], e3, e4⟩
    · by_cases d1 : a5 = 1
      · simp only [if_neg d0, if_pos d1, gx, zPf, Option.bind_some]
        exact ⟨_, _, _, _, rfl, rfl, by rw [e6], e3, e4⟩
      · simp only [if_neg d0, if_neg d1, gx, zPf, Option.bind_some]
        exact ⟨_, _, _, _, rfl, rfl, by rw [e7], e3, e4⟩
  refine key _ _ _ _ (zwh2 (n := n) (R := zRq M T a3) (fun s => (10000 - s.2.2.1).toNat) _ ?_ _ _ ?_ ?_)
  · rintro s t ⟨ent, tk, b, P, rf, mq, ls, Q, rfl, rfl, q1, q2, q3, q4, J, q5, q6, q7, q8, q9, q10, q11, D, D0, D1, D2, D3⟩
    dsimp only
    rw [zw_id (x := 10000) (by decide) (by decide), zw_id (x := b) (by omega) (by omega), if_neg (by omega), zw_id (x := tk) (by omega) (by omega)]
    obtain ⟨J1, J2, J3, J4⟩ := id J
    by_cases c : a3 ≤ tk
    · right
      rw [if_pos c, if_pos c]
      refine ⟨_, _, rfl, rfl, J1, J2, ?_, q5, q6⟩
      rcases q9 with q9 | q9
      · omega
      · exact q9
    left
    rw [if_neg c, if_neg c]
    obtain ⟨k, P', ls', w', Q', e1, e2, k0, J', k1, k2, k3, k4, k5⟩ := j_take (tk := tk) (ls := ls) (S := ent - tk) hn I q4 (by omega) J q10
    rw [show P 2 2 = M 2 2 from J1 2 2 rfl, e1, Option.bind_some]
    rw [zw_id (x := b) (by omega) (by omega)] at e2
    simp only [zPf, Option.bind_some] at e2
    rw [e2, Option.bind_some]
    dsimp only
    obtain ⟨J1', J2', J3', J4'⟩ := id J'
    have IP := I.keep J1'
    have IQ := I.keep J2'
    have gP := IP.g
    have gQ := IQ.g
    unfold zPt at gP gQ
    have n0 := (zsm_ge (f := P' 23) 17 (fun j j0 j1 => (J4' j j0 j1).2.2.2.2.1))
    rw [k1] at n0
    have k9 : tk + k = 0 ∨ P' 21 2 = ls' + M 1 14 := by
      rcases k4 with ⟨u1, u2, u3, u4⟩ | ⟨u1, u2⟩
      · rw [u2, u3, u1]
        rcases q9 with q9 | q9
        · left; omega
        · right; exact q9
      · right; exact u2
    have q11' : ∀ j, M 2 2 ≤ j → j < 17 → P' 23 j = 0 := fun j j0 j1 => k5 j (q11 j j0 j1)
    have hD : ∀ (ent2 : Int) (P2 : zM), (ent2 = ent ∨ ent2 = ent + 1) → (∀ j, 0 ≤ j → j < 17 → 0 ≤ P2 23 j ∧ P2 22 j ≤ b + 12) → zsm (P2 23) 17 = ent2 - (tk + k) → (∀ j, M 2 2 ≤ j → j < 17 → P2 23 j = 0) → (ent2 = ent → k = 0 → (∀ j, P2 23 j = P 23 j ∧ P2 22 j = P 22 j) ∧ ent ≠ tk) → ∃ D, 0 ≤ D ∧ D ≤ 12 ∧ b + 1 + 13 * (a3 - ent2) + 13 * (a3 - (tk + k)) + D ≤ 5300 ∧ ((∃ w, 0 ≤ w ∧ w < M 2 2 ∧ 0 < P2 23 w ∧ P2 22 w ≤ b + 1 + D) ∨ ent2 = tk + k) := by
      intro ent2 P2 f1 f2 f3 f4 f5
      by_cases h : k = 0 ∧ ent2 = ent
      · obtain ⟨f6, f7⟩ := f5 h.2 h.1
        rcases D3 with ⟨w, w0, w1, w2, w3⟩ | D3
        · rcases k4 with ⟨u1, u2, u3, u4⟩ | ⟨u1, u2⟩
          · have := u4 w w0 w1
            refine ⟨D - 1, by omega, by omega, by omega, Or.inl ⟨w, w0, w1, ?_, ?_⟩⟩
            · rw [(f6 w).1]; exact w2
            · rw [(f6 w).2]; omega
          · omega
        · omega
      · by_cases e : ent2 = tk + k
        · exact ⟨12, by omega, by omega, by omega, Or.inr e⟩
        · have m0 := (zsm_ge (f := P2 23) 17 (fun j j0 j1 => (f2 j j0 j1).1)).1
          obtain ⟨w, w0, w1, w2⟩ := zsm_pos (f := P2 23) 17 (by omega)
          refine ⟨12, by omega, by omega, by omega, Or.inl ⟨w, w0, ?_, w2, ?_⟩⟩
          · by_cases l : w < M 2 2
            · exact l
            · have := f4 w (by omega) (by omega)
              omega
          · have := (f2 w w0 (by omega)).2
            omega
    have Jn : ∀ {A B : zM}, zJq M T A B b → zJq M T A B (b + 1) := by
      rintro A B ⟨j1, j2, j3, j4⟩
      refine ⟨j1, j2, j3, fun j j0 j1 => ?_⟩
      have := j4 j j0 j1
      omega
    rw [zw_id (x := ent) (by omega) (by omega)]
    by_cases d : a3 ≤ ent
    · rw [if_pos d, if_pos d]
      simp only [Option.bind_some]
      refine ⟨_, _, rfl, rfl, ⟨ent, tk + k, b + 1, P', rf, mq, ls', Q', rfl, rfl, by omega, by omega, q3, by omega, Jn J', by rw [k2, q5], by rw [k3, q6], q7, q8, k9, by rw [k1]; omega, q11', ?_⟩, by dsimp only; omega⟩
      refine hD ent P' (Or.inl rfl) (fun j j0 j1 => ⟨(J4' j j0 j1).2.2.2.2.1, (J4' j j0 j1).2.2.1⟩) (by rw [k1]; omega) q11' (fun _ e => ⟨?_, by omega⟩)
      rcases k4 with ⟨u1, u2, u3, u4⟩ | ⟨u1, u2⟩
      · rw [u2]; exact fun j => ⟨rfl, rfl⟩
      · omega
    · rw [if_neg d, if_neg d]
      have m0 : 0 ≤ ent * a2 := Int.mul_nonneg (by omega) (by omega)
      have m1 : ent * a2 ≤ 200 * 99 := Int.mul_le_mul (by omega) c2.2 (by omega) (by omega)
      obtain ⟨z1, z2, z3⟩ := la_addr IP.la (x := a1 + ent * a2) (by omega) (by omega)
      have z4 := md_addr IT (Q := Q') ((J2' 60 0 rfl).trans ((hT 60 0 rfl).symm.trans IT.2.1.2.2.2.2.2.2.2.2.2.2.2.2.1)) ((J2' 60 1 rfl).trans ((hT 60 1 rfl).symm.trans IT.2.1.2.2.2.2.2.2.2.2.2.2.2.2.2.1)) ((J2' 60 7 rfl).trans (by have := I.1; unfold zSR at this; simp [this])) J3' (x := a1 + ent * a2) (by omega) (by omega)
      have z5 := (zadr_lt I (x := a1 + ent * a2)).2
      rw [zadr.cg J1'] at z1 z2 z3
      rw [zadr.cg hT] at z4
      obtain ⟨w, hw⟩ : ∃ w, zadr M (a1 + ent * a2) = w := ⟨_, rfl⟩
      rw [hw] at z1 z2 z3 z4 z5
      obtain ⟨r1, r2, r3, r4, r5, r6⟩ := J4' w z2 z3
      have n1 := n0.2 w z2 (by omega)
      unfold qsm_enter
      simp (disch := omega) only [Option.bind_some, zPf, zPa, zgr_u, zgr_fl, gP, gQ, z1, z4, r4]
      rw [zw_id (x := P' 23 w) (by omega) (by omega), zw_id (x := a4) g4.1 g4.2]
      by_cases e : P' 23 w < a4
      · rw [if_pos e, if_neg (by omega)]
        simp (disch := omega) only [Option.bind_some, zPf, zPa, zgr_u, zgr_fl, gP, gQ, r4]
        simp only [zu_e, zu_n (show (21 : Int) ≠ 23 by decide), k3, q6, r4]
        rw [zmax_ok (by omega) (by omega) (by omega) (by omega), zw_id (x := mq) (by omega) (by omega), zw_id (x := P' 23 w + 1) (by omega) (by omega)]
        have fin : ∀ v, (v = mq ∨ v = P' 23 w + 1) → zRq M T a3 (ent + 1, tk + k, b + 1, zu (zu P' 23 w (P' 23 w + 1)) 21 4 v) (ent + 1, tk + k, rf, v, ls', b + 1, zu Q' 70 w (P' 23 w + 1)) := by
          intro v hv
          have hz : zsm (zu (zu P' 23 w (P' 23 w + 1)) 21 4 v 23) 17 = ent + 1 - (tk + k) := by
            rw [zsm_up (f := P' 23) (w := w) (fun j hj => by rw [zu_n (by decide), zu_m hj]) z2, if_pos (by omega), zu_n (by decide), zu_e, k1]
            omega
          have hq : ∀ j, M 2 2 ≤ j → j < 17 → zu (zu P' 23 w (P' 23 w + 1)) 21 4 v 23 j = 0 := by
            intro j j0 j1
            rw [zu_n (by decide), zu_m (by omega)]
            exact q11' j j0 j1
          have hJ : ∀ j, 0 ≤ j → j < 17 → zu Q' 70 w (P' 23 w + 1) 69 j = zu (zu P' 23 w (P' 23 w + 1)) 21 4 v 22 j ∧ 0 ≤ zu (zu P' 23 w (P' 23 w + 1)) 21 4 v 22 j ∧ zu (zu P' 23 w (P' 23 w + 1)) 21 4 v 22 j ≤ b + 12 ∧ zu Q' 70 w (P' 23 w + 1) 70 j = zu (zu P' 23 w (P' 23 w + 1)) 21 4 v 23 j ∧ 0 ≤ zu (zu P' 23 w (P' 23 w + 1)) 21 4 v 23 j ∧ zu (zu P' 23 w (P' 23 w + 1)) 21 4 v 23 j ≤ 8 := by
            intro j j0 j1
            have := J4' j j0 j1
            simp only [zu_n (show (69 : Int) ≠ 70 by decide), zu_n (show (22 : Int) ≠ 21 by decide), zu_n (show (22 : Int) ≠ 23 by decide), zu_n (show (23 : Int) ≠ 21 by decide)]
            by_cases f : j = w
            · subst f
              simp only [zu_e, true_and]
              omega
            · rw [zu_m f, zu_m f]
              exact this
          refine ⟨ent + 1, tk + k, b + 1, _, rf, v, ls', _, rfl, rfl, by omega, by omega, by omega, by omega, Jn ⟨(J1'.up rfl).up rfl, J2'.up rfl, fun y => by rw [zu_n (by decide)]; exact J3' y, hJ⟩, ?_, zu_e _ _ _ _, by omega, by omega, ?_, hz, hq, ?_⟩
          · rw [zu_m (by decide), zu_n (by decide), k2, q5]
          · rw [zu_m (by decide), zu_n (by decide)]; exact k9
          · exact hD (ent + 1) _ (Or.inr rfl) (fun j j0 j1 => ⟨(hJ j j0 j1).2.2.2.2.1, (hJ j j0 j1).2.2.1⟩) hz hq (fun e => by omega)
        by_cases f : P' 23 w + 1 ≤ mq
        · rw [if_pos f, if_neg (by omega)]
          simp only [Option.bind_some]
          exact ⟨_, _, rfl, rfl, fin mq (Or.inl rfl), by dsimp only; omega⟩
        · rw [if_neg f, if_pos (by omega)]
          simp (disch := omega) only [Option.bind_some, zPf, zPa, zgr_u, zgr_fl, gQ, zu_e]
          exact ⟨_, _, rfl, rfl, fin _ (Or.inr rfl), by dsimp only; omega⟩
      · rw [if_neg e, if_pos (by omega)]
        simp only [zPf, Option.bind_some, k2, q5, Int.add_zero]
        refine ⟨_, _, rfl, rfl, ⟨ent, tk + k, b + 1, zu P' 21 3 (rf + 1), rf + 1, mq, ls', Q', rfl, rfl, by omega, by omega, q3, by omega, Jn ⟨J1'.up rfl, J2', J3', fun j j0 j1 => ?_⟩, zu_e _ _ _ _, ?_, q7, q8, ?_, ?_, ?_, ?_⟩, by dsimp only; omega⟩
        · rw [zu_n (by decide), zu_n (by decide)]
          exact J4' j j0 j1
        · rw [zu_m (by decide), k3, q6]
        · rw [zu_m (by decide)]; exact k9
        · rw [show zu P' 21 3 (rf + 1) 23 = P' 23 from funext fun j => zu_n (by decide), k1]; omega
        · intro j j0 j1
          rw [zu_n (by decide)]
          exact q11' j j0 j1
        · refine hD ent _ (Or.inl rfl) (fun j j0 j1 => ?_) ?_ ?_ ?_
          · rw [zu_n (by decide), zu_n (by decide)]
            exact ⟨(J4' j j0 j1).2.2.2.2.1, (J4' j j0 j1).2.2.1⟩
          · rw [show zu P' 21 3 (rf + 1) 23 = P' 23 from funext fun j => zu_n (by decide), k1]; omega
          · intro j j0 j1
            rw [zu_n (by decide)]
            exact q11' j j0 j1
          · intro _ kz
            rcases k4 with ⟨u1, u2, u3, u4⟩ | ⟨u1, u2⟩
            · refine ⟨fun j => ?_, by omega⟩
              rw [zu_n (by decide), zu_n (by decide), u2]
              exact ⟨rfl, rfl⟩
            · omega
  · have e22 : ∀ j, 0 ≤ j → j < 17 → zu (zu (zu (zfl (zfl M 22 (17 : Nat) 0) 23 (17 : Nat) 0) 21 2 0) 21 3 0) 21 4 0 22 j = 0 := by
      intro j j0 j1
      rw [zu_n (by decide), zu_n (by decide), zu_n (by decide), zfl_n (by decide), zfl_e j0 (by omega)]
    have e23 : ∀ j, 0 ≤ j → j < 17 → zu (zu (zu (zfl (zfl M 22 (17 : Nat) 0) 23 (17 : Nat) 0) 21 2 0) 21 3 0) 21 4 0 23 j = 0 := by
      intro j j0 j1
      rw [zu_n (by decide), zu_n (by decide), zu_n (by decide), zfl_e j0 (by omega)]
    refine ⟨0, 0, 0, _, 0, 0, 0, _, rfl, rfl, by omega, by omega, by omega, by omega, ⟨(((((zsa.rf M).fl (fun _ => rfl)).fl (fun _ => rfl)).up rfl).up rfl).up rfl, (hT.ly.fl (fun _ => rfl)).fl (fun _ => rfl), fun y => ?_, fun j j0 j1 => ?_⟩, ?_, zu_e _ _ _ _, by omega, by omega, Or.inl rfl, ?_, fun j j0 j1 => e23 j (by omega) j1, 0, by omega, by omega, by omega, Or.inr rfl⟩
    · rw [zfl_n (by decide), zfl_n (by decide)]
    · rw [e22 j j0 j1, e23 j j0 j1, zfl_n (by decide), zfl_e j0 j1, zfl_e j0 j1]
      omega
    · rw [zu_m (by decide), zu_e]
    · have : ∀ k : Nat, k ≤ 17 → zsm (zu (zu (zu (zfl (zfl M 22 (17 : Nat) 0) 23 (17 : Nat) 0) 21 2 0) 21 3 0) 21 4 0 23) k = 0 := by
        intro k
        induction k with
        | zero => intro _; rfl
        | succ k ih => intro h; rw [zsm, ih (by omega), e23 k (by omega) (by omega)]; rfl
      rw [this 17 (by omega)]
      rfl
  · dsimp only
    omega
