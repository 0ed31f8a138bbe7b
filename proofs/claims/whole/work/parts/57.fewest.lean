/-- the fewest banks: none up to 17, or l -/
def zFn (M : zM) (k : Int) : Prop := ∀ m, zlc0 M ≤ m → m ≤ 17 → zcn (zgr1 M k m) (m * m).toNat = 0
def zFy (M : zM) (k l : Int) : Prop := zlc0 M ≤ l ∧ l ≤ 17 ∧ 0 < zcn (zgr1 M k l) (l * l).toNat ∧ ∀ m, zlc0 M ≤ m → m < l → zcn (zgr1 M k m) (m * m).toNat = 0
theorem zFy_un {M : zM} {k l l' : Int} (h : zFy M k l) (h' : zFy M k l') : l = l' := by
  obtain ⟨a1, a2, a3, a4⟩ := h
  obtain ⟨b1, b2, b3, b4⟩ := h'
  by_cases c : l < l'
  · have := b4 l a1 c; omega
  · by_cases d : l' < l
    · have := a4 l' b1 d; omega
    · omega
theorem zFy_no {M : zM} {k l : Int} (h : zFy M k l) (h' : zFn M k) : False := by
  obtain ⟨a1, a2, a3, a4⟩ := h
  have := h' l a1 a2
  omega
theorem zwq_0 {M P : zM} {k m : Int} (h1 : zsa M P) (h2 : P 4 0 = M 2 0) (h3 : P 4 1 = M 2 1) (h4 : P 15 0 = 0) : zWg M k m P 0 := ⟨h1, h2, h3, h4, fun h => by simp [zcn] at h⟩
theorem o_fewest {M : zM} {n : Nat} {a1 a2 : Int} (hn : 1000000 ≤ n) (I : Iv M) (g1 : zrg a1) (g2 : zrg a2) : ∃ r M1 r' M2, qbs_fewest n zK0 M 1 a1 a2 = some (r, M1) ∧ qmd_fewest n zK0 M1 60 a1 a2 = some (r', M2) ∧ zw r = zw r' ∧ Iv M2 := by
  refine zjn (d := fun T => qmd_fewest n zK0 T 60 a1 a2) I (fun T hT => ?_)
  try dsimp only
  have s1 : ¬ (1 : Int) = 0 := by decide
  have z0 : zw 0 = 0 := zwl.2.2.2.2.2.2.1
  have z1 : zw 1 = 1 := zwl.2.2.2.2.2.2.2.1
  unfold qbs_fewest qmd_fewest
  rw [zw_id g1.1 g1.2, zw_id g2.1 g2.2, zwit g1 (by decide) (by decide), zinn g1 (by decide) (by decide), zwit g2 (by decide) (by decide), zinn g2 (by decide) (by decide)]
  rw [Option.bind_some, Option.bind_some]
  by_cases c1 : 0 ≤ a1 ∧ a1 ≤ 1
  rotate_left
  · simp only [if_neg c1, z0, if_true]
    exact ⟨_, _, _, _, rfl, rfl, rfl, zsa.rf M, hT⟩
  by_cases c2 : 0 ≤ a2 ∧ a2 ≤ 3
  rotate_left
  · simp only [if_pos c1, if_neg c2, z1, z0, if_true, if_neg s1, Option.bind_some]
    exact ⟨_, _, _, _, rfl, rfl, rfl, zsa.rf M, hT⟩
  rw [if_pos c1, if_pos c2, z1, if_neg s1, if_neg s1, Option.bind_some, Option.bind_some, z1, if_neg s1, if_neg s1]
  have g := I.g
  unfold zPt at g
  have M7 : zsa M (zu (zu (zu M 4 0 (M 2 0)) 4 1 (M 2 1)) 15 0 0) := (((zsa.rf M).up rfl).up rfl).up rfl
  obtain ⟨P7, hP7⟩ : ∃ P7, zu (zu (zu M 4 0 (M 2 0)) 4 1 (M 2 1)) 15 0 0 = P7 := ⟨_, rfl⟩
  rw [hP7] at M7
  have I7 := I.keep M7
  have bv := bd_val hn I7
  rw [zlc0_cg I M7] at bv
  have g7 := I7.g
  unfold zPt at g7
  unfold qla_takeTable
  simp only [g, zPf, Option.bind_some, zgr_u (show (1 : Int) ≠ 4 ∨ (5 : Int) ≠ 1 from Or.inl (by decide)), zgr_u (show (1 : Int) ≠ 4 ∨ (5 : Int) ≠ 0 from Or.inl (by decide)), zu_n (show (2 : Int) ≠ 4 by decide), hP7]
  simp only [g7, zPf, Option.bind_some, bv.1]
  have key : ∀ (F : Int × Int × zM → Option ((Int × Int × zM) ⊕ (Int × Int × zM))) (H : Int × zM → Option ((Int × zM) ⊕ ((Int × Int × Int × zM) ⊕ (Int × zM)))) (s0 : Int × Int × zM) (t0 : Int × zM),
      (∃ x, zwh F n s0 = some x ∧ zsa M x.2.2 ∧ ((zFn M a1 ∧ x.2.2 15 0 = 0) ∨ ∃ l, zFy M a1 l ∧ x.1 = l ∧ zWg M a1 l x.2.2 (l * l))) →
      (∃ y, zwh H n t0 = some y ∧ ((zFn M a1 ∧ ∃ E, y = .inr (-4, E) ∧ zsa M E) ∨ ∃ l f E, zFy M a1 l ∧ y = .inl (l, zcn (zgr1 M a1 l) (l * l).toNat, f, E) ∧ zsa M E ∧ f = zfi (zgr1 M a1 l) (fun c => c) (l * l).toNat)) →
      ∃ r P r' Q, ((zwh F n s0).bind fun e12 =>
      (zgr zK0 e12.2.2 11 15 1 5).bind fun r13 =>
      (zgf zK0 e12.2.2 1 3 r13 0).bind fun v14 =>
      if zw v14 = 0 then
        some ((-4), e12.2.2)
      else
        if a2 = 0 then
          some (e12.1, e12.2.2)
        else if a2 = 1 then
          (zgr zK0 e12.2.2 11 15 1 5).bind fun r17 =>
          (zgf zK0 e12.2.2 1 3 r17 0).bind fun v18 =>
          some (v18, e12.2.2)
        else if a2 = 2 then
          (zgr zK0 e12.2.2 11 15 1 5).bind fun r19 =>
          (zgf zK0 e12.2.2 1 3 r19 1).bind fun v20 =>
          some (v20, e12.2.2)
        else 
          (zgr zK0 e12.2.2 11 15 1 5).bind fun r15 =>
          (zgf zK0 e12.2.2 1 3 r15 2).bind fun v16 =>
          some (v16, e12.2.2)) = some (r, P) ∧ (zesc (zwh H n t0) fun e4 =>
      if a2 = 0 then
        some (e4.1, e4.2.2.2)
      else
        if a2 = 1 then
          some (e4.2.1, e4.2.2.2)
        else
          if a2 = zw 2 then
            (zdv e4.2.2.1 e4.1).bind fun v5 =>
            some (v5, e4.2.2.2)
          else
            (zrm e4.2.2.1 e4.1).bind fun v6 =>
            some (v6, e4.2.2.2)) = some (r', Q) ∧ zw r = zw r' ∧ zsa M P ∧ zsa M Q := by
    rintro F H s0 t0 ⟨⟨x1, x2, X⟩, e1, e2, e3⟩ ⟨y, f1, f2⟩
    dsimp only at e2 e3
    have gX := (I.keep e2).g
    unfold zPt at gX
    rw [e1, f1, Option.bind_some]
    simp only [gX, zPf, Option.bind_some]
    rcases e3 with ⟨e3, e4⟩ | ⟨l, e3, rfl, e4⟩
    · rcases f2 with ⟨f2, E, rfl, f3⟩ | ⟨l, f, E, f2, _⟩
      · rw [e4, z0, if_pos rfl]
        exact ⟨_, _, _, _, rfl, rfl, rfl, e2, f3⟩
      · exact absurd e3 (fun q => zFy_no f2 q)
    · rcases f2 with ⟨f2, E, rfl, f3⟩ | ⟨l', f, E, f2, rfl, f3, f4⟩
      · exact absurd f2 (fun q => zFy_no e3 q)
      · have := zFy_un e3 f2
        subst this
        obtain ⟨b1, b2, b3, b4⟩ := e3
        obtain ⟨w1, w2, w3, w4, w5⟩ := e4
        have cr := zcn_rg (zgr1 M a1 x1) (x1 * x1).toNat
        have cf := zcf (zgr1 M a1 x1) (x1 * x1).toNat
        have mm : x1 * x1 ≤ 17 * 17 := Int.mul_le_mul (by omega) (by omega) (by omega) (by omega)
        obtain ⟨w6, w7⟩ := w5 b3
        rw [← f4] at w6 w7 cf
        rw [w4, w6, w7, zw_id (x := zcn (zgr1 M a1 x1) (x1 * x1).toNat) (by omega) (by omega), if_neg (by omega), zw_id (x := 2) (by decide) (by decide)]
        unfold zesc
        dsimp only
        rw [zdv_ok (by omega) (by omega) (by omega) (by omega), zrm_ok (by omega) (by omega) (by omega) (by omega)]
        by_cases d0 : a2 = 0
        · rw [if_pos d0, if_pos d0]
          exact ⟨_, _, _, _, rfl, rfl, rfl, e2, f3⟩
        · rw [if_neg d0, if_neg d0]
          by_cases d1 : a2 = 1
          · rw [if_pos d1, if_pos d1]
            exact ⟨_, _, _, _, rfl, rfl, rfl, e2, f3⟩
          · rw [if_neg d1, if_neg d1]
            by_cases d2 : a2 = 2
            · rw [if_pos d2, if_pos d2]
              exact ⟨_, _, _, _, rfl, rfl, rfl, e2, f3⟩
            · rw [if_neg d2, if_neg d2]
              exact ⟨_, _, _, _, rfl, rfl, rfl, e2, f3⟩
  have p40 : P7 4 0 = M 2 0 := by rw [← hP7, zu_n (by decide), zu_m (by decide), zu_e]
  have p41 : P7 4 1 = M 2 1 := by rw [← hP7, zu_n (by decide), zu_e]
  have p15 : P7 15 0 = 0 := by rw [← hP7, zu_e]
  refine key _ _ _ _ (zwh_inv (fun s => zsa M s.2.2 ∧ s.2.2 4 0 = M 2 0 ∧ s.2.2 4 1 = M 2 1 ∧ zlc0 M ≤ s.2.1 ∧ s.2.1 ≤ 200 ∧ ((s.2.2 15 0 = 0 ∧ ∀ m, zlc0 M ≤ m → m < s.2.1 → zcn (zgr1 M a1 m) (m * m).toNat = 0) ∨ (zFy M a1 s.1 ∧ zWg M a1 s.1 s.2.2 (s.1 * s.1)))) (fun s => (200 - s.2.1).toNat) _ ?_ n _ ⟨M7, p40, p41, by simp, by dsimp only; omega, Or.inl ⟨p15, fun m h1 h2 => by dsimp only at h2; omega⟩⟩ (by dsimp only; omega)) (zwh_inv (fun s => zsa M s.2 ∧ 1 ≤ s.1 ∧ s.1 ≤ 18 ∧ ∀ m, zlc0 M ≤ m → m < s.1 → zcn (zgr1 M a1 m) (m * m).toNat = 0) (fun s => (18 - s.1).toNat) _ ?_ n _ ⟨hT, by simp, by simp, fun m h1 h2 => by dsimp only at h2; omega⟩ (by dsimp only; omega))
  · rintro ⟨lst, m, P⟩ ⟨h1, h2, h3, h4, h5, h6⟩
    dsimp only at h1 h2 h3 h4 h5 h6 ⊢
    rw [zw_id (x := 17) (by decide) (by decide), zw_id (x := m) (by omega) (by omega)]
    by_cases c : 17 < m
    · right
      rw [if_pos c]
      refine ⟨_, rfl, h1, ?_⟩
      rcases h6 with ⟨h6, h7⟩ | ⟨h6, h7⟩
      · exact Or.inl ⟨fun m' q1 q2 => h7 m' q1 (by omega), h6⟩
      · exact Or.inr ⟨_, h6, rfl, h7⟩
    rw [if_neg c]
    have gP := (I.keep h1).g
    unfold zPt at gP
    simp only [gP, zPf, Option.bind_some]
    rcases h6 with ⟨h6, h7⟩ | ⟨h6, h7⟩
    · left
      obtain ⟨P', e1, e2⟩ := c_weigh (k := a1) (m := m) hn I c1.1 c1.2 (by omega) (by omega) (zwq_0 h1 h2 h3 h6)
      rw [h6, z0, if_pos rfl, e1, Option.bind_some]
      obtain ⟨w1, w2, w3, w4, w5⟩ := id e2
      refine ⟨_, rfl, ⟨w1, w2, w3, by dsimp only; omega, by dsimp only; omega, ?_⟩, by dsimp only; omega⟩
      dsimp only
      by_cases d : zcn (zgr1 M a1 m) (m * m).toNat = 0
      · left
        refine ⟨by rw [w4, d], fun m' q1 q2 => ?_⟩
        by_cases f : m' = m
        · rw [f]; exact d
        · exact h7 m' q1 (by omega)
      · right
        have cr := zcn_rg (zgr1 M a1 m) (m * m).toNat
        exact ⟨⟨h4, by omega, by omega, h7⟩, e2⟩
    · right
      obtain ⟨b1, b2, b3, b4⟩ := id h6
      have cr := zcn_rg (zgr1 M a1 lst) (lst * lst).toNat
      have mm : lst * lst ≤ 17 * 17 := Int.mul_le_mul (by omega) (by omega) (by omega) (by omega)
      rw [h7.2.2.2.1, zw_id (x := zcn (zgr1 M a1 lst) (lst * lst).toNat) (by omega) (by omega), if_neg (by omega)]
      exact ⟨_, rfl, h1, Or.inr ⟨_, h6, rfl, h7⟩⟩
  · rintro ⟨m, Q⟩ ⟨h1, h2, h3, h4⟩
    dsimp only at h1 h2 h3 h4 ⊢
    rw [zw_id (x := 17) (by decide) (by decide)]
    by_cases c : 17 < m
    · right
      rw [zw_id (x := m) (by omega) (by omega), if_pos c]
      exact ⟨_, rfl, Or.inl ⟨fun m' q1 q2 => h4 m' q1 (by omega), _, rfl, h1⟩⟩
    rw [zw_id (x := m) (by omega) (by omega), if_neg c]
    by_cases d : m < zlc0 M
    · have e := m_weigh0 (k := a1) (m := m) hn I h1 h2 (by omega) d
      rw [zw_id (x := m) (by omega) (by omega)] at e
      left
      simp only [zPf, Option.bind_some] at e
      rw [e, Option.bind_some]
      dsimp only
      rw [z0, if_pos (by decide)]
      exact ⟨_, rfl, ⟨h1, by dsimp only; omega, by dsimp only; omega, fun m' q1 q2 => by dsimp only at q2; omega⟩, by dsimp only; omega⟩
    · obtain ⟨f, Q', e, e2, e3⟩ := m_weigh (k := a1) (m := m) hn I h1 c1.1 c1.2 h2 (by omega) (by omega)
      rw [zw_id (x := m) (by omega) (by omega)] at e
      simp only [zPf, Option.bind_some] at e
      rw [e, Option.bind_some]
      dsimp only
      have cr := zcn_rg (zgr1 M a1 m) (m * m).toNat
      have mm : m * m ≤ 17 * 17 := Int.mul_le_mul (by omega) (by omega) (by omega) (by omega)
      rw [zw_id (x := zcn (zgr1 M a1 m) (m * m).toNat) (by omega) (by omega)]
      by_cases z : zcn (zgr1 M a1 m) (m * m).toNat ≤ 0
      · left
        rw [if_pos z]
        refine ⟨_, rfl, ⟨e2, by dsimp only; omega, by dsimp only; omega, fun m' q1 q2 => ?_⟩, by dsimp only; omega⟩
        dsimp only at q2
        by_cases f : m' = m
        · rw [f]; omega
        · exact h4 m' q1 (by omega)
      · right
        rw [if_neg z]
        exact ⟨_, rfl, Or.inr ⟨m, f, Q', ⟨by omega, by omega, by omega, h4⟩, rfl, e2, e3 (by omega)⟩⟩
