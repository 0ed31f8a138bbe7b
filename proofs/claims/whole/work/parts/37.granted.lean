theorem zor_rg (x y : Int) : zrg (zor x y) := by
  have e : zor x y = ((Int32.ofInt x).toBitVec ||| (Int32.ofInt y).toBitVec).toInt := rfl
  have r1 := BitVec.toInt_lt (x := (Int32.ofInt x).toBitVec ||| (Int32.ofInt y).toBitVec)
  have r2 := BitVec.le_toInt (x := (Int32.ofInt x).toBitVec ||| (Int32.ofInt y).toBitVec)
  unfold zrg
  rw [e]
  omega
theorem zor_0 {x : Int} (h : zrg x) : zor x 0 = x := by
  unfold zrg at h
  have e : zor x 0 = ((Int32.ofInt x).toBitVec ||| 0#32).toInt := rfl
  rw [e, BitVec.or_zero]
  show (BitVec.ofInt 32 x).toInt = x
  rw [BitVec.toInt_ofInt]
  exact Int.bmod_eq_of_le (by omega) (by omega)
/-- the bits of those of the first w that have it -/
def zgm (G : Int → Bool) : Nat → Int
  | 0 => 0
  | w + 1 => if G w then zor (zgm G w) (zshl 1 w) else zgm G w
theorem zgm_s {G : Int → Bool} {w : Int} (h : 0 ≤ w) : zgm G (w + 1).toNat = if G w then zor (zgm G w.toNat) (zshl 1 w) else zgm G w.toNat := by
  rw [show (w + 1).toNat = w.toNat + 1 by omega, zgm, show ((w.toNat : Nat) : Int) = w by omega]
theorem zgm_rg (G : Int → Bool) (w : Nat) : zrg (zgm G w) := by
  induction w with
  | zero => exact ⟨by simp [zgm], by simp [zgm]⟩
  | succ w ih =>
    rw [zgm]
    split
    · exact zor_rg _ _
    · exact ih
theorem zw_sM {M : zM} (I : Iv M) {w : Int} (w0 : 0 ≤ w) (w1 : w < M 7 1) : zsM M (9 + w) := by
  obtain ⟨u1, u2, u3, u4⟩ := I.2.2.2.1
  obtain ⟨v1, v2, v3, v4, v5, v6, v7, v8, v9⟩ := u4 w w0 w1
  exact ⟨(zw_c w0 (by omega)).1, v4, v5, v6, v7, v8, v9⟩
theorem o_granted {M : zM} {n : Nat} (hn : 1000000 ≤ n) (I : Iv M) : ∃ r r' M2, qbs_granted n zK0 M 1 = some r ∧ qmd_granted n zK0 M 60 = some (r', M2) ∧ zw r = zw r' ∧ Iv M2 := by
  obtain ⟨G, hG⟩ : ∃ G : Int → Bool, (fun w => zal (zgG M 2 (M (9 + w) 0) (M (9 + w) 1) (M (9 + w) 2)) (M 2 0 * M 2 1).toNat) = G := ⟨_, rfl⟩
  have hGe : ∀ w, zal (zgG M 2 (M (9 + w) 0) (M (9 + w) 1) (M (9 + w) 2)) (M 2 0 * M 2 1).toNat = G w := fun w => by rw [← hG]
  have hc : ∀ w, 0 ≤ w → w < M 7 1 → qsh_isGrantedBy n zK0 M (9 + w) 2 = some (if G w then 1 else 0) := fun w w0 w1 => by rw [sh_granted hn I.la (zw_sM I w0 w1), hGe]
  have hm : ∀ w, 0 ≤ w → w < M 7 1 → qmd_grants n zK0 (zlN M) 60 w = some (if G w then 1 else 0) := fun w w0 w1 => by rw [md_grants hn I w0 w1, hGe]
  have h8 := fun {w : Int} => zw_8 I.1 (k := w)
  have hS' := I.1
  unfold zSR at hS'
  obtain ⟨u1, u2, u3, u4⟩ := I.2.2.2.1
  have f9 : zlN M 60 9 = M 7 1 := by rw [zlN_ne (by decide), u3]
  refine ⟨zgm G (M 7 1).toNat, zgm G (M 7 1).toNat, zlN M, ?_, ?_, rfl, I.ly⟩
  · unfold qbs_granted qwi_grantedBy
    have e : zwh (σ := Int × Int) (fun s1 =>
    (zgf zK0 M 10 2 7 1).bind fun v2 =>
    if zw v2 ≤ zw s1.2 then
      some (.inr s1.1)
    else
      (zgr zK0 M 10 2 7 0).bind fun r3 =>
      (zgq zK0 M 103 r3 s1.2).bind fun r4 =>
      (zgk zK0 r4 6 3).bind fun _ => (qsh_isGrantedBy n zK0 M r4 2).bind fun v5 =>
      (if zw v5 = 0 then
        some s1.1
      else
        (some (zor s1.1 (zshl 1 s1.2))).bind fun x7 =>
        some x7 : Option (Int)).bind fun j6 =>
      some (.inl (j6, s1.2 + 1))) n (0, 0) = some (zgm G (M 7 1).toNat) := by
      refine zwh_eq (fun s => 0 ≤ s.2 ∧ s.2 ≤ M 7 1 ∧ s = (zgm G s.2.toNat, s.2)) (fun s => (M 7 1 - s.2).toNat) ?_ n _ ⟨by simp, by simp; omega, rfl⟩ (by simp; omega)
      intro s ⟨w0, w1, hs⟩
      obtain ⟨w, hw⟩ : ∃ w, s.2 = w := ⟨_, rfl⟩
      rw [hw] at w0 w1 hs
      subst hs
      try dsimp only
      rw [zgf_ok rfl, Option.bind_some, zw_id (by omega) (by omega), zw_id (x := w) (by omega) (by omega)]
      by_cases c : M 7 1 ≤ w
      · right
        rw [if_pos c, show w = M 7 1 by omega]
      · left
        rw [if_neg c, zgr_ok (v := 8) rfl (by simp [hS']) (by decide), Option.bind_some, zgq_ok (v := 9 + w) (N := 6) rfl (by decide) w0 (by omega) (h8 w0 (by omega)) (by omega), Option.bind_some, zgk_ok (zw_c w0 (by omega)).1, Option.bind_some, hc w w0 (by omega), Option.bind_some]
        refine ⟨(zgm G (w + 1).toNat, w + 1), ?_, ⟨by dsimp only; omega, by dsimp only; omega, rfl⟩, by dsimp only; omega⟩
        rw [zgm_s w0]
        by_cases d : G w = true
        · simp [d, zwl]
        · simp [d, zwl]
    rw [zgr_ok (v := 7) rfl (by simp [hS']) (by decide), Option.bind_some, zgr_ok (v := 2) rfl (by simp [hS']) (by decide), Option.bind_some, zgk_ok rfl, Option.bind_some, e]
    rfl
  · unfold qmd_granted
    rw [zgk_ok rfl, Option.bind_some, mlaysNow hn I, Option.bind_some]
    refine zwh_eq (fun s => 0 ≤ s.2 ∧ s.2 ≤ M 7 1 ∧ s = (zgm G s.2.toNat, s.2)) (fun s => (M 7 1 - s.2).toNat) ?_ n _ ⟨by simp, by simp; omega, rfl⟩ (by simp; omega)
    intro s ⟨w0, w1, hs⟩
    obtain ⟨w, hw⟩ : ∃ w, s.2 = w := ⟨_, rfl⟩
    rw [hw] at w0 w1 hs
    subst hs
    try dsimp only
    rw [zgf_ok rfl, Option.bind_some, f9, zw_id (by omega) (by omega), zw_id (x := w) (by omega) (by omega)]
    by_cases c : M 7 1 ≤ w
    · right
      rw [if_pos c, show w = M 7 1 by omega]
    · left
      rw [if_neg c, Option.bind_some, hm w w0 (by omega), Option.bind_some]
      refine ⟨(zgm G (w + 1).toNat, w + 1), ?_, ⟨by dsimp only; omega, by dsimp only; omega, rfl⟩, by dsimp only; omega⟩
      rw [zgm_s w0]
      by_cases d : G w = true
      · simp [d, zwl]
      · simp [d, zwl, zor_0 (zgm_rg G w.toNat)]
