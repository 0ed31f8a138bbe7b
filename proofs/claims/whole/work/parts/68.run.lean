theorem mz3 {M : zM} {n : Nat} (hn : 1000000 ≤ n) (h45 : M 60 45 = 84) : (zwh (σ := Int × zM) (ρ := Int × zM) (fun s3 =>
    if zw 3 ≤ zw s3.1 then
      some (.inr (s3.1, s3.2))
    else
      (zgr zK0 s3.2 12 49 60 45).bind fun r11 =>
      (zpa zK0 s3.2 100 r11 s3.1 0).bind fun M12 =>
      some (.inl (s3.1 + 1, M12))) n (0, M)) = some (3, zfl M 84 3 0) := by
  refine zwh_eq (fun s => 0 ≤ s.1 ∧ s.1 ≤ 3 ∧ s.2 = zfl M 84 s.1 0) (fun s => (3 - s.1).toNat) ?_ n _ ⟨by simp, by simp, by simp [zfl_0]⟩ (by simp; omega)
  intro ⟨j, Q⟩ ⟨h1, h2, h3⟩
  dsimp only at h1 h2 h3 ⊢
  subst h3
  rw [zw_id (x := 3) (by decide) (by decide), zw_id (x := j) (by omega) (by omega)]
  by_cases c : 3 ≤ j
  · right
    rw [if_pos c, show j = 3 by omega]
  · left
    rw [if_neg c, zgr_ok (v := 84) rfl (by rw [zfl_n (by decide), h45]) (by decide), Option.bind_some, zpa_ok (N := 3) rfl (by decide) h1 (by omega), Option.bind_some]
    exact ⟨_, rfl, ⟨by dsimp only; omega, by dsimp only; omega, zfl_s h1⟩, by dsimp only; omega⟩
theorem mz17 {M : zM} {n : Nat} (hn : 1000000 ≤ n) (h17 : M 60 17 = 69) : (zwh (σ := Int × zM) (ρ := Int × zM) (fun s1 =>
    if zw 17 ≤ zw s1.1 then
      some (.inr (s1.1, s1.2))
    else
      (zgr zK0 s1.2 12 49 60 17).bind fun r13 =>
      (zpa zK0 s1.2 100 r13 s1.1 0).bind fun M14 =>
      some (.inl (s1.1 + 1, M14))) n (0, M)) = some (17, zfl M 69 17 0) := by
  refine zwh_eq (fun s => 0 ≤ s.1 ∧ s.1 ≤ 17 ∧ s.2 = zfl M 69 s.1 0) (fun s => (17 - s.1).toNat) ?_ n _ ⟨by simp, by simp, by simp [zfl_0]⟩ (by simp; omega)
  intro ⟨j, Q⟩ ⟨h1, h2, h3⟩
  dsimp only at h1 h2 h3 ⊢
  subst h3
  rw [zw_id (x := 17) (by decide) (by decide), zw_id (x := j) (by omega) (by omega)]
  by_cases c : 17 ≤ j
  · right
    rw [if_pos c, show j = 17 by omega]
  · left
    rw [if_neg c, zgr_ok (v := 69) rfl (by rw [zfl_n (by decide), h17]) (by decide), Option.bind_some, zpa_ok (N := 17) rfl (by decide) h1 (by omega), Option.bind_some]
    exact ⟨_, rfl, ⟨by dsimp only; omega, by dsimp only; omega, zfl_s h1⟩, by dsimp only; omega⟩
theorem zVC.fl {M P : zM} {A : Int → Int} {r m v : Int} (h : zVC M A P) (hs : ∀ i, zste r i = false) (hr : r ≠ 4) : zVC M A (zfl P r m v) := ⟨h.1.fl hs, fun j => by rw [zfl_n (Ne.symm hr)]; exact h.2 j⟩
theorem zVM.fl {M Q : zM} {D : Int → Int} {r m v : Int} (h : zVM M D Q) (hs : ∀ i, zste r i = false) (hr : r ≠ 62) : zVM M D (zfl Q r m v) := ⟨h.1.fl hs, fun j => by rw [zfl_n (Ne.symm hr)]; exact h.2 j⟩
theorem j_run {M P0 Q0 : zM} {n : Nat} {p l a L : Int} {A D bk : Int → Int} (hn : 1000000 ≤ n) (I : Iv M) (hp : zPr M p) (hL : zkd zK0 L = some (2, 7)) (hbC : ∀ P, zVC M A P → ∀ x, 0 ≤ x → x ≤ 1000000 → qla_bankOfAddress zK0 P L x = some (bk x)) (hbM : ∀ Q, zVM M D Q → ∀ x, 0 ≤ x → x ≤ 1000000 → qmd_bankAt zK0 Q 60 x = some (bk x)) (hbk : ∀ x, 0 ≤ bk x ∧ bk x < 17) (l0 : 1 ≤ l) (l1 : l ≤ 64) (hC : zVC M A P0) (hM : zVM M D Q0) : ∃ P lat Q, qtm_run n zK0 P0 32 L (M 1 14) p l a = some P ∧ qmd_runs n zK0 Q0 60 l a = some (lat, Q) ∧ zVC M A P ∧ zVM M D Q ∧ P 32 4 = lat ∧ 0 ≤ lat ∧ lat ≤ 20000 ∧ zTR P Q l (M p 6) 0 0 ∧ ∀ i, 0 ≤ i → i < M p 6 → 0 ≤ P 34 i ∧ P 34 i ≤ 12 := by
  obtain ⟨p0, p1, p2, p3, p4, p5⟩ := id hp
  obtain ⟨y1, y2, -⟩ := zprK p0
  have hr := I.2.2.1
  unfold IvR at hr
  have gP := (I.keep hC.1).g
  unfold zPt at gP
  have hS' := (I.keep hM.1).1
  unfold zSR at hS'
  have st6 : ∀ P, zsa M P → P p 6 = M p 6 := by
    intro P hP
    refine hP p 6 ?_
    rcases p0 with rfl | rfl <;> rfl
  unfold qtm_run qmd_runs
  rw [show zgr zK0 P0 9 5 32 2 = some 35 by simp only [gP], Option.bind_some, zfillI (N := 3) rfl (by decide) (by omega), Option.bind_some, zgr_fl (by decide), show zgr zK0 P0 9 5 32 3 = some 36 by simp only [gP], Option.bind_some, zfillI (N := 17) rfl (by decide) (by omega), Option.bind_some, zpf_ok rfl, Option.bind_some]
  rw [mz17 hn (by simp [hS']), Option.bind_some]
  dsimp only
  rw [mz3 hn (by rw [zfl_n (by decide)]; simp [hS']), Option.bind_some]
  dsimp only
  have vC : zVC M A (zu (zfl (zfl P0 35 (3 : Nat) 0) 36 (17 : Nat) 0) 32 4 0) := ((hC.fl (fun _ => rfl) (by decide)).fl (fun _ => rfl) (by decide)).up rfl (by decide)
  have vM : zVM M D (zfl (zfl Q0 69 17 0) 84 3 0) := (hM.fl (fun _ => rfl) (by decide)).fl (fun _ => rfl) (by decide)
  have key : ∀ (F : Int × zM → Option ((Int × zM) ⊕ zM)) (G : Int × Int × zM → Option ((Int × Int × zM) ⊕ (Int × zM))) (s0 : Int × zM) (t0 : Int × Int × zM), (∃ x y, zwh F n s0 = some x ∧ zwh G n t0 = some y ∧ zVC M A x ∧ zVM M D y.2 ∧ x 32 4 = y.1 ∧ 0 ≤ y.1 ∧ y.1 ≤ 20000 ∧ zTR x y.2 l (M p 6) 0 0 ∧ ∀ i, 0 ≤ i → i < M p 6 → 0 ≤ x 34 i ∧ x 34 i ≤ 12) → ∃ P lat Q, zwh F n s0 = some P ∧ zwh G n t0 = some (lat, Q) ∧ zVC M A P ∧ zVM M D Q ∧ P 32 4 = lat ∧ 0 ≤ lat ∧ lat ≤ 20000 ∧ zTR P Q l (M p 6) 0 0 ∧ ∀ i, 0 ≤ i → i < M p 6 → 0 ≤ P 34 i ∧ P 34 i ≤ 12 := by
    rintro F G s0 t0 ⟨x, ⟨y1, y2⟩, e1, e2, e3, e4, e5, e6, e7, e8, e9⟩
    exact ⟨x, y1, y2, e1, e2, e3, e4, e5, e6, e7, e8, e9⟩
  refine key _ _ _ _ (zwh2 (n := n) (R := fun (s : Int × zM) (t : Int × Int × zM) => s.1 = t.2.1 ∧ 0 ≤ s.1 ∧ s.1 ≤ M p 6 ∧ zVC M A s.2 ∧ zVM M D t.2.2 ∧ s.2 32 4 = t.1 ∧ 0 ≤ t.1 ∧ t.1 ≤ 13 * (64 * s.1) ∧ zTR s.2 t.2.2 l s.1 0 0) (fun s => (M p 6 - s.1).toNat) _ ?_ _ _ ⟨rfl, by simp, by dsimp only; omega, vC, vM, by dsimp only; rw [zu_e], by simp, by simp, ?_⟩ (by dsimp only; omega))
  · rintro ⟨k, P⟩ ⟨lat, k', Q⟩ ⟨r1, r2, r3, r4, r5, r6, r7, r8, r9⟩
    dsimp only at r1 r2 r3 r4 r5 r6 r7 r8 r9 ⊢
    subst r1
    obtain ⟨t1, t2, t3, t4, t5⟩ := id r9
    rw [zgf_ok y1, Option.bind_some, st6 P r4.1, zgf_ok rfl, Option.bind_some, show Q 60 24 = M p 6 from (r5.1 60 24 rfl).trans p4, zw_id (x := M p 6) (by omega) (by omega), zw_id (x := k) (by omega) (by omega)]
    by_cases c : M p 6 ≤ k
    · right
      rw [if_pos c, if_pos c]
      have : k = M p 6 := by omega
      subst this
      exact ⟨_, _, rfl, rfl, r4, r5, r6, r7, by dsimp only; omega, r9, t4⟩
    left
    rw [if_neg c, if_neg c]
    obtain ⟨l2, -⟩ := p5 k r2 (by omega)
    obtain ⟨c1, c2, -⟩ := l2
    have gP := (I.keep r4.1).g
    have gp := zprG gP p0
    unfold zPt at gP
    have hkd : P (p + 1) k = M (p + 1) k := r4.1 _ _ (zstq p0 (by omega) (by omega))
    have hdl : 0 ≤ zdl (M 1 14) (M (p + 1) k) ∧ zdl (M 1 14) (M (p + 1) k) ≤ 12 := by unfold zdl; split <;> (try split) <;> omega
    have hun : 0 ≤ zun (M (p + 1) k) ∧ zun (M (p + 1) k) < 3 := by unfold zun; split <;> (try split) <;> omega
    obtain ⟨P', Q', e1, e2, e3, e4, e5, e6, e7⟩ := j_line (P0 := zu P 34 k (zdl (M 1 14) (M (p + 1) k))) (Q0 := Q) (a := a) hn I hp hL hbC hbM hbk r2 (by omega) l0 l1 (r4.up rfl (by decide)) r5 (zu_e _ _ _ _) (by
      refine ⟨fun j j0 j1 => ?_, fun j j0 j1 => ?_, fun i x i0 x0 x1 hx => ?_, fun i i0 i1 => ?_, fun x x0 x1 => by omega⟩
      · rw [zu_n (by decide)]; exact t1 j j0 j1
      · rw [zu_n (by decide)]; exact t2 j j0 j1
      · have := t3 i x i0 x0 x1 hx
        rw [zu_n (by decide), zu_m (by omega)]
        refine ⟨this.1, this.2.1, this.2.2.1, this.2.2.2.1, fun y q1 q2 q3 => ?_⟩
        rw [zu_n (by decide)]
        exact this.2.2.2.2 y q1 q2 q3
      · rw [zu_m (by omega)]; exact t4 i i0 i1)
    obtain ⟨v1, v2, v3, v4, v5⟩ := id e5
    have e6k : P' 34 k = zdl (M 1 14) (M (p + 1) k) := by rw [e6 k, zu_e]
    have e6i : ∀ i, i ≠ k → P' 34 i = P 34 i := fun i hi => by rw [e6 i, zu_m hi]
    obtain ⟨w1, w2, w3, w4, w5⟩ := v3 k (l - 1) r2 (by omega) (by omega) (Or.inr ⟨rfl, by omega⟩)
    have gP' := (I.keep e3.1).g
    unfold zPt at gP'
    have a0 : zgr zK0 P' 9 5 32 0 = some 33 := by simp only [gP']
    have a1 : zgr zK0 P' 9 5 32 1 = some 34 := by simp only [gP']
    have hS2 := (I.keep e4.1).1
    unfold zSR at hS2
    have th : qtm_thereAt zK0 P' 32 k (l - 1) = some (P' 33 (64 * k + (l - 1)) + P' 34 k) := by
      unfold qtm_thereAt qtm_goesAt
      rw [zgk_ok rfl, Option.bind_some, a0, Option.bind_some, show k * 64 + (l - 1) = 64 * k + (l - 1) by omega, zga_ok (N := 1024) rfl (by decide) (by omega) (by omega), Option.bind_some, Option.bind_some, a1, Option.bind_some, zga_ok (N := 16) rfl (by decide) r2 (by omega), Option.bind_some]
    rw [show zgr zK0 P 9 5 32 1 = some 34 by simp only [gP], Option.bind_some, gp.1, Option.bind_some, zga_ok (N := 16) y2 (by decide) r2 (by omega), Option.bind_some, hkd, c_delay c1 c2, Option.bind_some, zpa_ok (N := 16) rfl (by decide) r2 (by omega), Option.bind_some, zgk_ok (r := 32) (ci := 9) (N := 5) rfl, Option.bind_some, e1, Option.bind_some, zgf_ok rfl, Option.bind_some, Option.bind_some, th, Option.bind_some, zpf_ok rfl, Option.bind_some]
    rw [zgk_ok (r := 60) (ci := 12) (N := 49) rfl, Option.bind_some, e2, Option.bind_some, zgr_ok (v := 83) rfl (by simp [hS2]) (by decide), Option.bind_some, zga_ok (N := 1024) rfl (by decide) (by omega) (by omega), Option.bind_some, show 64 * k + l - 1 = 64 * k + (l - 1) by omega, w2, md_more (by unfold zrg; omega) (by unfold zrg; omega), Option.bind_some]
    have e7' : P' 32 4 = lat := by rw [e7, zu_n (by decide), r6]
    have mr := zmx_rg (a := lat) (b := P' 33 (64 * k + (l - 1)) + P' 34 k) (lo := 0) (hi := 13 * (64 * k + l)) (by omega) (by omega)
    refine ⟨_, _, rfl, rfl, ⟨rfl, by dsimp only; omega, by dsimp only; omega, e3.up rfl (by decide), e4, ?_, mr.1, by dsimp only; omega, ?_⟩, by dsimp only; omega⟩
    · dsimp only
      rw [zu_e, e7', zmax_x (by unfold zrg; omega) (by unfold zrg; omega)]
    · dsimp only
      refine ⟨fun j j0 j1 => ?_, fun j j0 j1 => ?_, fun i x i0 x0 x1 hx => ?_, fun i i0 i1 => ?_, fun x x0 x1 => by omega⟩
      · rw [zu_n (by decide)]
        have := v1 j j0 j1
        omega
      · rw [zu_n (by decide)]
        have := v2 j j0 j1
        omega
      · have := v3 i x i0 x0 x1 (by omega)
        rw [zu_n (by decide), zu_n (by decide)]
        refine ⟨this.1, this.2.1, this.2.2.1, by omega, fun y q1 q2 q3 => ?_⟩
        rw [zu_n (by decide)]
        exact this.2.2.2.2 y q1 q2 (by omega)
      · rw [zu_n (by decide)]
        by_cases w : i = k
        · rw [w, e6k]; exact hdl
        · rw [e6i i w]; exact t4 i i0 (by omega)
  · dsimp only
    refine ⟨fun j j0 j1 => ?_, fun j j0 j1 => ?_, fun i x i0 x0 x1 hx => by omega, fun i i0 i1 => by omega, fun x x0 x1 => by omega⟩
    · rw [zfl_n (by decide), zu_n (by decide), zfl_e j0 j1, zfl_e j0 (by exact j1)]
      omega
    · rw [zfl_e j0 j1, zu_n (by decide), zfl_n (by decide), zfl_e j0 (by exact j1)]
      omega
