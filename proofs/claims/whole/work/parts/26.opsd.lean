theorem msheet {M : zM} {n : Nat} {a1 : Int} (h : M 60 48 = 87) (hn : 1000000 ≤ n) (c1 : 0 ≤ a1 ∧ a1 ≤ 3) : zwh (σ := Int × zM) (fun s6 =>
          if zw 256 ≤ zw s6.1 then
            some (.inr ((1 : Int), s6.2))
          else
            (zgr zK0 s6.2 12 49 60 48).bind fun r7 =>
            (zpa zK0 s6.2 100 r7 ((256 * a1) + s6.1) 0).bind fun M8 =>
            some (.inl (s6.1 + 1, M8))) n (0, M) = some (1, zsp M 87 (256 * a1) 256 (fun _ => 0)) := by
  obtain ⟨x, hx, rfl⟩ : ∃ x, _ = some x ∧ x = ((1 : Int), zsp M 87 (256 * a1) 256 (fun _ => 0)) := by
    refine zwh_inv (fun s => 0 ≤ s.1 ∧ s.1 ≤ 256 ∧ s.2 = zsp M 87 (256 * a1) s.1 (fun _ => 0)) (fun s => (256 - s.1).toNat) (fun x => x = ((1 : Int), zsp M 87 (256 * a1) 256 (fun _ => 0))) ?_ n (0, M) ⟨by simp, by simp, by simp [zsp_0]⟩ (by simp; omega)
    intro s ⟨h1, h2, h3⟩
    dsimp only
    rw [zw_id (by omega) (by omega), zw_id (by omega) (by omega)]
    by_cases hc : 256 ≤ s.1
    · right
      rw [if_pos hc]
      exact ⟨_, rfl, by rw [h3, show s.1 = 256 by omega]⟩
    · left
      have e : s.2 60 48 = 87 := by rw [h3, zsp_ne (by decide)]; exact h
      rw [if_neg hc, zgr_ok (v := 87) rfl e (by decide), Option.bind_some, zpa_ok (N := 1024) rfl (by decide) (by omega) (by omega)]
      refine ⟨_, rfl, ⟨?_, ?_, ?_⟩, ?_⟩
      · dsimp only; omega
      · dsimp only; omega
      · dsimp only; rw [h3]; exact zsp_s h1 rfl
      · dsimp only; omega
  exact hx
theorem IvS.new {M : zM} {k l N : Int} (h : IvS M) (k0 : 0 ≤ k) (k1 : k < 4) (l0 : 0 ≤ l) (l1 : l ≤ 2) (N0 : 0 ≤ N) (N1 : N ≤ 256) : IvS (zsp (zu (zu (zfl (zu (zu M (38 + 2 * k) 2 l) (38 + 2 * k) 1 N) (39 + 2 * k) 256 0) 85 k l) 86 k N) 87 (256 * k) 256 (fun _ => 0)) := by
  intro i i0 i1
  by_cases q : i = k
  · subst q
    right
    refine ⟨?_, ?_, ?_, ?_, ?_, ?_, fun x x0 x1 => ?_⟩
    all_goals simp only [zsp, zfl, zu_at]
    · rw [if_neg (by omega), if_neg (by omega), if_neg (by omega), if_neg (by omega), if_pos (by omega)]; exact N0
    · rw [if_neg (by omega), if_neg (by omega), if_neg (by omega), if_neg (by omega), if_pos (by omega)]; exact N1
    · rw [if_neg (by omega), if_pos (by omega), if_neg (by omega), if_neg (by omega), if_neg (by omega), if_neg (by omega), if_pos (by omega)]
    · rw [if_neg (by omega), if_neg (by omega), if_neg (by omega), if_neg (by omega), if_neg (by omega), if_pos (by omega)]; exact l0
    · rw [if_neg (by omega), if_neg (by omega), if_neg (by omega), if_neg (by omega), if_neg (by omega), if_pos (by omega)]; exact l1
    · rw [if_neg (by omega), if_neg (by omega), if_pos (by omega), if_neg (by omega), if_neg (by omega), if_neg (by omega), if_neg (by omega), if_neg (by omega), if_pos (by omega)]
    · rw [if_pos (by omega), if_neg (by omega), if_neg (by omega), if_neg (by omega), if_pos (by omega)]
      exact ⟨rfl, by decide, by decide⟩
  · have e : ∀ c x, c ≠ 38 + 2 * k → c ≠ 39 + 2 * k → ¬ (c = 85 ∧ x = k) → ¬ (c = 86 ∧ x = k) → ¬ (c = 87 ∧ 256 * k ≤ x ∧ x < 256 * k + 256) → (zsp (zu (zu (zfl (zu (zu M (38 + 2 * k) 2 l) (38 + 2 * k) 1 N) (39 + 2 * k) 256 0) 85 k l) 86 k N) 87 (256 * k) 256 (fun _ => 0)) c x = M c x := by
      intro c x h1 h2 h3 h4 h5
      simp only [zsp, zfl, zu_at]
      rw [if_neg h5, if_neg h4, if_neg h3, if_neg (fun q => h2 q.1), if_neg (fun q => h1 q.1), if_neg (fun q => h1 q.1)]
    rw [e (38 + 2 * i) 1 (by omega) (by omega) (by omega) (by omega) (by omega), e (38 + 2 * i) 2 (by omega) (by omega) (by omega) (by omega) (by omega), e 85 i (by omega) (by omega) (by omega) (by omega) (by omega), e 86 i (by omega) (by omega) (by omega) (by omega) (by omega)]
    rcases h i i0 i1 with a | ⟨b1, b2, b3, b4, b5, b6, b7⟩
    · exact Or.inl a
    · refine Or.inr ⟨b1, b2, b3, b4, b5, b6, fun x x0 x1 => ?_⟩
      rw [e 87 (256 * i + x) (by omega) (by omega) (by omega) (by omega) (by omega), e (39 + 2 * i) x (by omega) (by omega) (by omega) (by omega) (by omega)]
      exact b7 x x0 x1
theorem o_sheet {M : zM} {n : Nat} (hn : 1000000 ≤ n) (I : Iv M) {a1 a2 a3 : Int} (g1 : zrg a1) (g2 : zrg a2) (g3 : zrg a3) : ∃ r M1 r' M2, qbs_sheet n zK0 M 1 a1 a2 a3 = some (r, M1) ∧ qmd_sheet n zK0 M1 60 a1 a2 a3 = some (r', M2) ∧ zw r = zw r' ∧ Iv M2 := by
  obtain ⟨hS, hT, hR, hW, hP, hL, hSh⟩ := id I
  have hS' := hS
  unfold zSR at hS'
  have e3 : zw a3 = a3 := zw_in g3
  unfold qbs_sheet qmd_sheet qst_renew
  simp only [zsht g1 g2, zwit g1 (show zrg 0 by decide) (show zrg 3 by decide), zwit g2 (show zrg 0 by decide) (show zrg 2 by decide)]
  by_cases c1 : 0 ≤ a1 ∧ a1 ≤ 3
  · by_cases c2 : 0 ≤ a2 ∧ a2 ≤ 2
    · by_cases c3 : a3 ≤ 256
      · by_cases c4 : 0 ≤ a3
        · obtain ⟨b37, b38⟩ := zs_37 hS c1.1 (by omega)
          obtain ⟨s1, s2, s3, s4, s5, s6⟩ := zs_c c1.1 (show a1 < 4 by omega)
          have z1 : zgq zK0 M 104 37 a1 = some (38 + 2 * a1) := zgq_ok (N := 4) rfl (by decide) c1.1 (by omega) b37 (by omega)
          have zr : ∀ Q : zM, Q (38 + 2 * a1) 0 = 39 + 2 * a1 → zgr zK0 Q 7 3 (38 + 2 * a1) 0 = some (39 + 2 * a1) := fun Q h => zgr_ok s1 h (by omega)
          refine ⟨1, zfl (zu (zu M (38 + 2 * a1) 2 a2) (38 + 2 * a1) 1 a3) (39 + 2 * a1) 256 0, 1, _, ?_, ?_, rfl, ?_⟩
          · simp [c1, c2, c3, c4, e3, zwl, zPo, hS', z1, zgk_ok s1, zpf_ok s1]
            rw [zr _ (by simp [zu_at, b38]), Option.bind_some, zfillI s2 (by decide) (by omega)]
            simp
          · have n60 : ¬ (60 : Int) = 38 + 2 * a1 := by omega
            have n61 : ¬ (60 : Int) = 39 + 2 * a1 := by omega
            have p1 : ∀ (Q : zM) (v : Int), zpa zK0 Q 100 85 a1 v = some (zu Q 85 a1 v) := fun Q v => zpa_ok (N := 4) rfl (by decide) c1.1 (by omega)
            have p2 : ∀ (Q : zM) (v : Int), zpa zK0 Q 100 86 a1 v = some (zu Q 86 a1 v) := fun Q v => zpa_ok (N := 4) rfl (by decide) c1.1 (by omega)
            simp only [c1, c2, and_self, if_true, Option.bind_some, zwl, c3, c4, e3, one_ne_zero, if_false]
            rw [zgr_ok (v := 85) rfl (by simp [zfl, zu_at, n60, n61, hS']) (by decide), Option.bind_some, p1, Option.bind_some, zgr_ok (v := 86) rfl (by simp [zfl, zu_at, n60, n61, hS']) (by decide), Option.bind_some, p2, Option.bind_some]
            have := msheet (M := zu (zu (zfl (zu (zu M (38 + 2 * a1) 2 a2) (38 + 2 * a1) 1 a3) (39 + 2 * a1) 256 0) 85 a1 a2) 86 a1 a3) (n := n) (a1 := a1) (by simp [zfl, zu_at, n60, n61, hS']) hn c1
            simp only [zwl] at this
            exact this
          · refine ⟨hS.keep ?_, hT.keep ?_, hR.keep ?_, hW.keep ?_, hP.keep ?_, hL.keep ?_, hSh.new c1.1 (by omega) c2.1 c2.2 c4 c3⟩
            · exact ((((((zkp.rf _ _).up (s3 2 (by decide))).up (s3 1 (by decide))).fl s4).up rfl).up rfl).go (fun _ => rfl)
            · exact ((((((zkp.rf _ _).up (s5 _).1).up (s5 _).1).fl (fun i => (s6 i).1)).up rfl).up rfl).go (fun _ => rfl)
            · exact ((((((zkp.rf _ _).up (s5 _).2.1).up (s5 _).2.1).fl (fun i => (s6 i).2.1)).up rfl).up rfl).go (fun _ => rfl)
            · exact ((((((zkp.rf _ _).up (s5 _).2.2.2.2).up (s5 _).2.2.2.2).fl (fun i => (s6 i).2.2.2.2)).up rfl).up rfl).go (fun _ => rfl)
            · exact ((((((zkp.rf _ _).up (s5 _).2.2.1).up (s5 _).2.2.1).fl (fun i => (s6 i).2.2.1)).up rfl).up rfl).go (fun _ => rfl)
            · exact ((((((zkp.rf _ _).up (s5 _).2.2.2.1).up (s5 _).2.2.2.1).fl (fun i => (s6 i).2.2.2.1)).up rfl).up rfl).go (fun _ => rfl)
        · exact ⟨-14, M, -14, M, by simp [c1, c2, c3, c4, e3, zwl], by simp [c1, c2, c3, c4, e3, zwl], rfl, I⟩
      · exact ⟨-1, M, -1, M, by simp [c1, c2, c3, e3, zwl], by simp [c1, c2, c3, e3, zwl], rfl, I⟩
    · exact ⟨-1, M, -1, M, by simp [c1, c2, zwl], by simp [c1, c2, zwl], rfl, I⟩
  · exact ⟨-1, M, -1, M, by simp [c1, zwl], by simp [c1, zwl], rfl, I⟩

theorem zb8_i64 (b : BitVec 64) : zb8 b.toInt = (b.setWidth 8).toInt := by
  rw [BitVec.toInt_setWidth, zb8, BitVec.toInt_eq_toNat_bmod]
  exact Int.bmod_bmod_of_dvd (by decide)
theorem zbit (a : Int) {k : Int} (h0 : 0 ≤ k) (h1 : k < 8) : zb8 (zb8 (zlushr a (56 - 8 * k))) = zb8 (zland (zlshr a (56 - 8 * k)) 255) ∧ 0 ≤ zland (zlshr a (56 - 8 * k)) 255 ∧ zland (zlshr a (56 - 8 * k)) 255 ≤ 255 := by
  have hb : ∀ x, zb8 (zb8 x) = zb8 x := fun x => by unfold zb8; exact Int.bmod_bmod
  rw [hb]
  have key : ∀ s : Nat, s ≤ 56 → zlushr a (s : Int) = ((Int64.ofInt a).toBitVec >>> s).toInt ∧ zland (zlshr a (s : Int)) 255 = ((Int64.ofInt a).toBitVec.sshiftRight s &&& 255#64).toInt := by
    sorry
  sorry
