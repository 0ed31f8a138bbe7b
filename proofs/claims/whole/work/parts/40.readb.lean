/-- the first refusal among the first p -/
def zff (bad : Int → Option Int) : Nat → Option Int
  | 0 => none
  | p + 1 => match zff bad p with
    | some v => some v
    | none => bad p
theorem zff_s {bad : Int → Option Int} {p : Int} (h : 0 ≤ p) (hn : zff bad p.toNat = none) : zff bad (p + 1).toNat = bad p := by
  rw [show (p + 1).toNat = p.toNat + 1 by omega, zff, hn, show ((p.toNat : Nat) : Int) = p by omega]
theorem zff_up {bad : Int → Option Int} {s t : Nat} {v : Int} (h : s ≤ t) (hs : zff bad s = some v) : zff bad t = some v := by
  induction t with
  | zero => rw [show s = 0 by omega] at hs; exact hs
  | succ t ih =>
    by_cases e : s = t + 1
    · rw [← e]; exact hs
    · rw [zff, ih (by omega)]
theorem zff_no {bad : Int → Option Int} {t : Nat} (h : zff bad t = none) {p : Int} (p0 : 0 ≤ p) (p1 : p < t) : bad p = none := by
  have h2 : zff bad p.toNat = none := by
    cases q : zff bad p.toNat with
    | none => rfl
    | some v => rw [zff_up (s := p.toNat) (by omega) q] at h; cases h
  have h3 := zff_s p0 h2
  cases q : bad p with
  | none => rfl
  | some v =>
    rw [q] at h3
    rw [zff_up (s := (p + 1).toNat) (by omega) h3] at h
    cases h
def zbd (s : Int → Int) (b L N p : Int) : Option Int := if 0 ≤ b + p ∧ b + p ≤ L - 1 then (if 0 ≤ s (b + p) ∧ s (b + p) ≤ N - 1 then none else some (-1000 - p)) else some (-12)
theorem crefuse {M : zM} {n : Nat} {a b : Int} (hn : 1000000 ≤ n) (I : Iv M) (a0 : 0 ≤ a) (a1 : a < 4) (gb : zrg b) (h0 : 0 ≤ M (38 + 2 * a) 1) (h1 : M (38 + 2 * a) 1 ≤ 256) (hsr : ∀ x, 0 ≤ x → x < 256 → zrg (M (39 + 2 * a) x)) : qst_refusal n zK0 M (38 + 2 * a) 2 b = some ((zff (zbd (M (39 + 2 * a)) b (M (38 + 2 * a) 1) (M 2 2)) (M 2 0 * M 2 1).toNat).getD 0) := by
  have hla := I.la
  obtain ⟨b37, b38⟩ := zs_37 I.1 a0 a1
  obtain ⟨s1, s2, s3, s4, s5, s6⟩ := zs_c a0 a1
  have tt := I.2.1
  unfold IvT at tt
  have hrc := zrc tt.1 tt.2.1 tt.2.2.1 tt.2.2.2.1
  obtain ⟨T, hT⟩ : ∃ T, M 2 0 * M 2 1 = T := ⟨_, rfl⟩
  have hcc := la_count hla
  rw [hT] at hrc hcc ⊢
  obtain ⟨L, hL⟩ : ∃ L, M (38 + 2 * a) 1 = L := ⟨_, rfl⟩
  rw [hL] at h0 h1 ⊢
  obtain ⟨bad, hbad⟩ : ∃ bad, zbd (M (39 + 2 * a)) b L (M 2 2) = bad := ⟨_, rfl⟩
  rw [hbad]
  unfold qst_refusal qst_has
  refine zwh_eq (fun p => 0 ≤ p ∧ p ≤ T ∧ zff bad p.toNat = none) (fun p => (T - p).toNat) ?_ n _ ⟨by omega, by omega, rfl⟩ (by omega)
  intro p ⟨p0, p1, hp⟩
  try dsimp only
  rw [zgk_ok rfl, Option.bind_some, hcc, Option.bind_some, zw_id (by omega) (by omega), zw_id (x := p) (by omega) (by omega)]
  by_cases c : T ≤ p
  · right
    rw [if_pos c, ← show p = T by omega, hp]
    rfl
  · have hb : p = 0 ∨ (0 ≤ b ∧ b < 256) := by
      by_cases q : p = 0
      · exact Or.inl q
      · right
        have := zff_no hp (p := 0) (by omega) (by omega)
        rw [← hbad, zbd] at this
        by_cases q2 : 0 ≤ b + 0 ∧ b + 0 ≤ L - 1
        · omega
        · rw [if_neg q2] at this; cases this
    unfold zrg at gb
    have e := zff_s p0 hp
    have e2 : bad p = zbd (M (39 + 2 * a)) b L (M 2 2) p := by rw [hbad]
    rw [e2, zbd] at e
    rw [if_neg c, zgk_ok s1, Option.bind_some, zgf_ok s1, Option.bind_some, hL, zwit (by unfold zrg; omega) (by decide) (by unfold zrg; omega)]
    by_cases c1 : 0 ≤ b + p ∧ b + p ≤ L - 1
    · rw [if_pos c1] at e
      have r := hsr (b + p) (by omega) (by omega)
      rw [if_pos c1, Option.bind_some, show zbr 1 = some 1 from rfl, Option.bind_some, Option.bind_some, if_neg (by decide), zgr_ok (v := 39 + 2 * a) s1 b38 (by omega), Option.bind_some, zga_ok (N := 256) s2 (by decide) (by omega) (by omega), Option.bind_some, zgf_ok rfl, Option.bind_some, zwit r (by decide) (by unfold zrg; omega), Option.bind_some]
      by_cases c2 : 0 ≤ M (39 + 2 * a) (b + p) ∧ M (39 + 2 * a) (b + p) ≤ M 2 2 - 1
      · left
        rw [if_pos c2] at e
        rw [if_pos c2, if_neg (by decide)]
        exact ⟨p + 1, rfl, ⟨by omega, by omega, e⟩, by omega⟩
      · right
        rw [if_neg c2] at e
        rw [if_neg c2, if_pos (by decide), zff_up (s := (p + 1).toNat) (by omega) e]
        rfl
    · right
      rw [if_neg c1] at e
      rw [if_neg c1, Option.bind_some, show zbr 0 = some 0 from rfl, Option.bind_some, Option.bind_some, if_pos (by decide), zff_up (s := (p + 1).toNat) (by omega) e]
      rfl
