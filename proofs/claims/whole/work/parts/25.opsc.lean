/-- the cells lo .. lo + m - 1 of r hold f -/
def zsp (M : zM) (r lo m : Int) (f : Int → Int) : zM := fun c i => if c = r ∧ lo ≤ i ∧ i < lo + m then f (i - lo) else M c i
theorem zsp_0 (M : zM) (r lo : Int) (f : Int → Int) : zsp M r lo 0 f = M := by
  funext c i
  unfold zsp
  rw [if_neg (by omega)]
theorem zsp_s {M : zM} {r lo m v : Int} {f : Int → Int} (h : 0 ≤ m) (hv : v = f m) : zu (zsp M r lo m f) r (lo + m) v = zsp M r lo (m + 1) f := by
  subst hv
  funext c i
  unfold zsp zu
  dsimp only
  by_cases h1 : c = r ∧ i = lo + m
  · rw [if_pos h1, if_pos ⟨h1.1, by omega, by omega⟩, h1.2]
    congr 1
    omega
  · rw [if_neg h1]
    by_cases h2 : c = r ∧ lo ≤ i ∧ i < lo + m
    · rw [if_pos h2, if_pos ⟨h2.1, by omega, by omega⟩]
    · rw [if_neg h2, if_neg]
      intro q
      by_cases h3 : i = lo + m
      · exact h1 ⟨q.1, h3⟩
      · exact h2 ⟨q.1, q.2.1, by omega⟩
theorem zsp_ne {M : zM} {r lo m c i : Int} {f : Int → Int} (h : c ≠ r) : zsp M r lo m f c i = M c i := by
  unfold zsp
  rw [if_neg (fun q => h q.1)]
theorem zkp.go {P : Int → Int → Bool} {M M1 : zM} {r lo m : Int} {f : Int → Int} (h : zkp P M M1) (hs : ∀ i, P r i = false) : zkp P M (zsp M1 r lo m f) := by
  intro c i hc
  unfold zsp
  rw [if_neg (fun q => by rw [q.1, hs] at hc; cases hc)]
  exact h c i hc
theorem zwb_inv {σ ρ τ : Type} {f : σ → Option (σ ⊕ ρ)} {g : ρ → Option τ} {Q : τ → Prop} (I : σ → Prop) (μ : σ → Nat) (Q' : ρ → Prop) (h : ∀ s, I s → (∃ s', f s = some (.inl s') ∧ I s' ∧ μ s' < μ s) ∨ (∃ r, f s = some (.inr r) ∧ Q' r)) (n : Nat) (s : σ) (h0 : I s) (hm : μ s < n) (hg : ∀ x, Q' x → ∃ r, g x = some r ∧ Q r) : ∃ r, (zwh f n s).bind g = some r ∧ Q r := by
  obtain ⟨x, hx, hq⟩ := zwh_inv I μ Q' h n s h0 hm
  rw [hx]
  exact hg x hq
theorem zw_in {x : Int} (h : zrg x) : zw x = x := zw_id h.1 h.2

theorem zshp {K : zK} {M : zM} {a b c : Int} (g1 : zrg a) (g2 : zrg b) (g3 : zrg c) : qbs_isShape K M a b c = some (if (0 ≤ a ∧ a ≤ 4) ∧ (1 ≤ b ∧ b ≤ 16) ∧ 1 ≤ c ∧ c ≤ 8 then 1 else 0) := by
  unfold qbs_isShape
  rw [zwit g1 (by decide) (by decide), zwit g2 (by decide) (by decide), zwit g3 (by decide) (by decide)]
  by_cases c1 : 0 ≤ a ∧ a ≤ 4
  · by_cases c2 : 1 ≤ b ∧ b ≤ 16
    · by_cases c3 : 1 ≤ c ∧ c ≤ 8
      · simp [c1, c2, c3, zwl]
      · simp [c1, c2, c3, zwl]
    · simp [c1, c2, zwl]
  · simp [c1, zwl]
theorem zcut {K : zK} {M : zM} {a b c : Int} (g1 : zrg a) (g2 : zrg b) (g3 : zrg c) : qmd_isCut K M a b c = some (if (0 ≤ a ∧ a ≤ 4) ∧ (1 ≤ b ∧ b ≤ 16) ∧ 1 ≤ c ∧ c ≤ 8 then 1 else 0) := by
  unfold qmd_isCut
  rw [zw_in g1, zw_in g2, zw_in g3, zinn g1 (by decide) (by decide), zinn g2 (by decide) (by decide), zinn g3 (by decide) (by decide)]
  by_cases c1 : 0 ≤ a ∧ a ≤ 4
  · by_cases c2 : 1 ≤ b ∧ b ≤ 16
    · by_cases c3 : 1 ≤ c ∧ c ≤ 8
      · simp [c1, c2, c3, zwl]
      · simp [c1, c2, c3, zwl]
    · simp [c1, c2, zwl]
  · simp [c1, zwl]
theorem o_wish {M : zM} (I : Iv M) {a1 a2 a3 : Int} (g1 : zrg a1) (g2 : zrg a2) (g3 : zrg a3) : ∃ r M1 r' M2, qbs_wish zK0 M 1 a1 a2 a3 = some (r, M1) ∧ qmd_wish zK0 M1 60 a1 a2 a3 = some (r', M2) ∧ zw r = zw r' ∧ Iv M2 := by
  obtain ⟨hS, hT, hR, hW, hP, hL, hSh⟩ := id I
  have hS' := hS
  unfold zSR at hS'
  unfold qbs_wish qmd_wish qwi_add qsh_become
  simp only [zshp g1 g2 g3, zcut g1 g2 g3]
  obtain ⟨u1, u2, u3, u4⟩ := hW
  by_cases c : (0 ≤ a1 ∧ a1 ≤ 4) ∧ (1 ≤ a2 ∧ a2 ≤ 16) ∧ 1 ≤ a3 ∧ a3 ≤ 8
  · obtain ⟨k, hk⟩ : ∃ k, M 7 1 = k := ⟨_, rfl⟩
    rw [hk] at u1 u2 u3 u4
    have ek : zw k = k := zw_id (by omega) (by omega)
    by_cases d : k < 6
    · obtain ⟨s1, s2, s3, s4, s5, s6, s7⟩ := zw_c u1 d
      have b8 := zw_8 hS u1 d
      refine ⟨k, zu (zu (zu (zu M (9 + k) 0 a1) (9 + k) 1 a2) (9 + k) 2 a3) 7 1 (k + 1), k, zu (zu (zu (zu (zu (zu (zu (zu M (9 + k) 0 a1) (9 + k) 1 a2) (9 + k) 2 a3) 7 1 (k + 1)) 64 k a1) 65 k a2) 66 k a3) 60 9 (k + 1), ?_, ?_, rfl, ?_⟩
      · simp [c, zwl, zPo, hS', hk, ek, d]
        rw [zgq_ok (v := 9 + k) (N := 6) rfl (by decide) u1 (by omega) b8 (by omega)]
        have n7 : ¬ (7 : Int) = 9 + k := by omega
        simp [zgk_ok s1, zpf_ok s1, zu_at, n7, hk, zPo]
      · have n60 : ¬ (60 : Int) = 9 + k := by omega
        simp [c, zwl, zPo, hS', zu_at, n60, u3, ek, show ¬ k = 6 by omega]
        rw [zpa_ok (N := 6) rfl (by decide) (by omega) (by omega)]
        simp [zu_at, n60, u3, hS', zPo]
        rw [zpa_ok (N := 6) rfl (by decide) (by omega) (by omega)]
        simp [zu_at, n60, u3, hS', zPo]
        rw [zpa_ok (N := 6) rfl (by decide) (by omega) (by omega)]
        simp [zu_at, n60, u3, hS', zPo]
      · refine ⟨hS.keep ?_, hT.keep ?_, hR.keep ?_, ?_, hP.keep ?_, hL.keep ?_, hSh.keep ?_⟩
        · exact ((((((((zkp.rf _ _).up (s2 _)).up (s2 _)).up (s2 _)).up rfl).up rfl).up rfl).up rfl).up rfl
        · exact ((((((((zkp.rf _ _).up (s3 _)).up (s3 _)).up (s3 _)).up rfl).up rfl).up rfl).up rfl).up rfl
        · exact ((((((((zkp.rf _ _).up (s4 _)).up (s4 _)).up (s4 _)).up rfl).up rfl).up rfl).up rfl).up rfl
        · have n60 : ¬ (60 : Int) = 9 + k := by omega
          have n7 : ¬ (7 : Int) = 9 + k := by omega
          refine ⟨by simp [zu_at] <;> omega, by simp [zu_at] <;> omega, by simp [zu_at], fun j j0 j1 => ?_⟩
          simp [zu_at] at j1
          have m1 : ¬ 9 + j = 7 := by omega
          have m2 : ¬ 9 + j = 60 := by omega
          have m3 : ¬ 9 + j = 64 := by omega
          have m4 : ¬ 9 + j = 65 := by omega
          have m5 : ¬ 9 + j = 66 := by omega
          by_cases jk : j = k
          · subst jk
            simp [zu_at, m1, m2, m3, m4, m5, c]
          · have := u4 j j0 (by omega)
            have n1 : ¬ 9 + j = 9 + k := by omega
            have n2 : ¬ (64 : Int) = 9 + k := by omega
            have n3 : ¬ (65 : Int) = 9 + k := by omega
            have n4 : ¬ (66 : Int) = 9 + k := by omega
            simp [zu_at, m1, m2, m3, m4, m5, jk, n1, n2, n3, n4, this]
        · exact ((((((((zkp.rf _ _).up (s5 _)).up (s5 _)).up (s5 _)).up rfl).up rfl).up rfl).up rfl).up rfl
        · exact ((((((((zkp.rf _ _).up (s6 _)).up (s6 _)).up (s6 _)).up rfl).up rfl).up rfl).up rfl).up rfl
        · exact ((((((((zkp.rf _ _).up (s7 _)).up (s7 _)).up (s7 _)).up rfl).up rfl).up rfl).up rfl).up rfl
    · refine ⟨-3, M, -3, M, ?_, ?_, rfl, I⟩
      · simp [c, zwl, zPo, hS', hk, ek, d]
      · simp [c, zwl, zPo, u3, ek, show k = 6 by omega]
  · refine ⟨-1, M, -1, M, ?_, ?_, rfl, I⟩
    · simp [c, zwl]
    · simp [c, zwl]

theorem zb8_rg (x : Int) : -128 ≤ zb8 x ∧ zb8 x ≤ 127 := by
  unfold zb8
  have h1 := Int.le_bmod (x := x) (m := 256) (by decide)
  have h2 := Int.bmod_lt (x := x) (m := 256) (by decide)
  omega
theorem zb16_rg (x : Int) : -32768 ≤ zb16 x ∧ zb16 x ≤ 32767 := by
  unfold zb16
  have h1 := Int.le_bmod (x := x) (m := 65536) (by decide)
  have h2 := Int.bmod_lt (x := x) (m := 65536) (by decide)
  omega
theorem zsht {K : zK} {M : zM} {a b : Int} (g1 : zrg a) (g2 : zrg b) : qmd_isSheet K M a b = some (if (0 ≤ a ∧ a ≤ 3) ∧ 0 ≤ b ∧ b ≤ 2 then 1 else 0) := by
  unfold qmd_isSheet
  rw [zw_in g1, zw_in g2, zinn g1 (by decide) (by decide), zinn g2 (by decide) (by decide)]
  by_cases c1 : 0 ≤ a ∧ a ≤ 3
  · by_cases c2 : 0 ≤ b ∧ b ≤ 2
    · simp [c1, c2, zwl]
    · simp [c1, c2, zwl]
  · simp [c1, zwl]
theorem IvS.put {M : zM} {k j v : Int} (h : IvS M) (k0 : 0 ≤ k) (k1 : k < 4) (j0 : 0 ≤ j) (j1 : j < 256) (g : zrg v) : IvS (zu (zu M (39 + 2 * k) j v) 87 (256 * k + j) v) := by
  intro i i0 i1
  have e : ∀ c x, c ≠ 39 + 2 * k → c ≠ 87 → zu (zu M (39 + 2 * k) j v) 87 (256 * k + j) v c x = M c x := by
    intro c x h1 h2
    rw [zu_at, if_neg (fun q => h2 q.1), zu_at, if_neg (fun q => h1 q.1)]
  rw [e (38 + 2 * i) 1 (by omega) (by omega), e (38 + 2 * i) 2 (by omega) (by omega), e 85 i (by omega) (by omega), e 86 i (by omega) (by omega)]
  rcases h i i0 i1 with a | ⟨b1, b2, b3, b4, b5, b6, b7⟩
  · exact Or.inl a
  · refine Or.inr ⟨b1, b2, b3, b4, b5, b6, fun x x0 x1 => ?_⟩
    have := b7 x x0 x1
    unfold zrg at g
    by_cases q : i = k ∧ x = j
    · obtain ⟨rfl, rfl⟩ := q
      rw [zu_at, if_pos ⟨rfl, rfl⟩, zu_at, if_neg (by omega), zu_at, if_pos ⟨rfl, rfl⟩]
      exact ⟨rfl, g.1, g.2⟩
    · rw [zu_at, if_neg (by omega), zu_at, if_neg (by omega), zu_at, if_neg (by omega), zu_at, if_neg (by omega)]
      exact this
theorem o_write {M : zM} (I : Iv M) {a1 a2 a3 : Int} (g1 : zrg a1) (g2 : zrg a2) (g3 : zrg a3) : ∃ r M1 r' M2, qbs_write zK0 M 1 a1 a2 a3 = some (r, M1) ∧ qmd_write zK0 M1 60 a1 a2 a3 = some (r', M2) ∧ zw r = zw r' ∧ Iv M2 := by
  obtain ⟨hS, hT, hR, hW, hP, hL, hSh⟩ := id I
  have hS' := hS
  unfold zSR at hS'
  have e2 : zw a2 = a2 := zw_in g2
  unfold qbs_write qmd_write qst_isNothing qst_has qst_put
  simp only [zsht g1 (show zrg 0 by decide), zwit g1 (show zrg 0 by decide) (show zrg 3 by decide)]
  by_cases c1 : 0 ≤ a1 ∧ a1 ≤ 3
  · obtain ⟨b37, b38⟩ := zs_37 hS c1.1 (by omega)
    obtain ⟨s1, s2, s3, s4, s5, s6⟩ := zs_c c1.1 (show a1 < 4 by omega)
    have z1 : zgq zK0 M 104 37 a1 = some (38 + 2 * a1) := zgq_ok (N := 4) rfl (by decide) c1.1 (by omega) b37 (by omega)
    have zr : ∀ Q : zM, Q (38 + 2 * a1) 0 = 39 + 2 * a1 → zgr zK0 Q 7 3 (38 + 2 * a1) 0 = some (39 + 2 * a1) := fun Q h => zgr_ok s1 h (by omega)
    have z2 : ∀ Q : zM, zga zK0 Q 100 85 a1 = some (Q 85 a1) := fun Q => zga_ok (N := 4) rfl (by decide) c1.1 (by omega)
    have z3 : ∀ Q : zM, zga zK0 Q 100 86 a1 = some (Q 86 a1) := fun Q => zga_ok (N := 4) rfl (by decide) c1.1 (by omega)
    rcases hSh a1 c1.1 (by omega) with ⟨q1, q2⟩ | ⟨q1, q2, q3, q4, q5, q6, q7⟩
    · refine ⟨-11, M, -11, M, ?_, ?_, rfl, I⟩
      · simp [c1, zwl, zPo, hS', z1, zgk_ok s1, zgf_ok s1, q1]
      · simp [c1, zwl, zPo, hS', z2, q2]
    · have y1 : zw (M (38 + 2 * a1) 1) = M (38 + 2 * a1) 1 := zw_id (by omega) (by omega)
      have y2 : zw (M (38 + 2 * a1) 2) = M (38 + 2 * a1) 2 := zw_id (by omega) (by omega)
      have y3 : zw (M (38 + 2 * a1) 1 - 1) = M (38 + 2 * a1) 1 - 1 := zw_id (by omega) (by omega)
      have w2 := fun Q => zwit (K := zK0) (M := Q) g2 (show zrg 0 by decide) (show zrg (M (38 + 2 * a1) 1 - 1) by unfold zrg; omega)
      have v2 := fun Q => zinn (K := zK0) (M := Q) g2 (show zrg 0 by decide) (show zrg (M (38 + 2 * a1) 1 - 1) by unfold zrg; omega)
      have n4 : ¬ M (38 + 2 * a1) 2 = -4 := by omega
      by_cases c2 : 0 ≤ a2 ∧ a2 ≤ M (38 + 2 * a1) 1 - 1
      · have fin : ∀ v, zrg v → Iv (zu (zu M (39 + 2 * a1) a2 v) 87 (256 * a1 + a2) v) := by
          intro v gv
          refine ⟨hS.keep ?_, hT.keep ?_, hR.keep ?_, hW.keep ?_, hP.keep ?_, hL.keep ?_, hSh.put c1.1 (by omega) c2.1 (by omega) gv⟩
          · exact ((zkp.rf _ _).up (s4 _)).up rfl
          · exact ((zkp.rf _ _).up (s6 _).1).up rfl
          · exact ((zkp.rf _ _).up (s6 _).2.1).up rfl
          · exact ((zkp.rf _ _).up (s6 _).2.2.2.2).up rfl
          · exact ((zkp.rf _ _).up (s6 _).2.2.1).up rfl
          · exact ((zkp.rf _ _).up (s6 _).2.2.2.1).up rfl
        have za : ∀ (Q : zM) (v : Int), zpa zK0 Q 100 (39 + 2 * a1) a2 v = some (zu Q (39 + 2 * a1) a2 v) := fun Q v => zpa_ok (N := 256) s2 (by decide) c2.1 (by omega)
        have zb : ∀ (Q : zM) (v : Int), zpa zK0 Q 100 87 (256 * a1 + a2) v = some (zu Q 87 (256 * a1 + a2) v) := fun Q v => zpa_ok (N := 1024) rfl (by decide) (by omega) (by omega)
        have n85 : ¬ (85 : Int) = 39 + 2 * a1 := by omega
        have n86 : ¬ (86 : Int) = 39 + 2 * a1 := by omega
        have n60 : ¬ (60 : Int) = 39 + 2 * a1 := by omega
        by_cases d0 : M (38 + 2 * a1) 2 = 0
        · refine ⟨1, zu M (39 + 2 * a1) a2 (zb8 a3), 1, _, ?_, ?_, rfl, fin (zb8 a3) (by have := zb8_rg a3; unfold zrg; omega)⟩
          · simp [c1, zwl, zPo, hS', z1, zgk_ok s1, zgf_ok s1, y1, q1, w2, c2, zbr, d0, zr M b38, za]
          · simp [c1, zwl, zPo, hS', z2, z3, zu_at, n85, n86, n60, q6, q3, y2, y3, n4, e2, v2, c2, d0, zb]
        · by_cases d1 : M (38 + 2 * a1) 2 = 1
          · refine ⟨1, zu M (39 + 2 * a1) a2 (zb16 a3), 1, _, ?_, ?_, rfl, fin (zb16 a3) (by have := zb16_rg a3; unfold zrg; omega)⟩
            · simp [c1, zwl, zPo, hS', z1, zgk_ok s1, zgf_ok s1, y1, q1, w2, c2, zbr, d1, zr M b38, za]
            · simp [c1, zwl, zPo, hS', z2, z3, zu_at, n85, n86, n60, q6, q3, y2, y3, n4, e2, v2, c2, d1, zb]
          · refine ⟨1, zu M (39 + 2 * a1) a2 a3, 1, _, ?_, ?_, rfl, fin a3 g3⟩
            · simp [c1, zwl, zPo, hS', z1, zgk_ok s1, zgf_ok s1, y1, y2, q1, w2, c2, zbr, d0, d1, zr M b38, za]
            · simp [c1, zwl, zPo, hS', z2, z3, zu_at, n85, n86, n60, q6, q3, y2, y3, n4, e2, v2, c2, d0, d1, zb]
      · refine ⟨-12, M, -12, M, ?_, ?_, rfl, I⟩
        · simp [c1, zwl, zPo, hS', z1, zgk_ok s1, zgf_ok s1, y1, q1, w2, c2, zbr]
        · simp [c1, zwl, zPo, hS', z2, z3, q6, q3, y2, y3, n4, e2, v2, c2]
  · refine ⟨-1, M, -1, M, ?_, ?_, rfl, I⟩
    · simp [c1, zwl]
    · simp [c1, zwl]
