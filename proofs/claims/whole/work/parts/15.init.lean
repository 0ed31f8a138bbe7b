def zK0 : zK := [(11, 15), (2, 7), (100, 256), (2, 7), (6, 3), (100, 17), (10, 2), (103, 6), (6, 3), (6, 3), (6, 3), (6, 3), (6, 3), (6, 3), (1, 3), (0, 5), (102, 64), (102, 17), (100, 64), (100, 64), (8, 5), (100, 17), (100, 17), (4, 7), (100, 17), (102, 64), (100, 64), (100, 64), (5, 9), (101, 240), (100, 8), (9, 5), (100, 1024), (100, 16), (100, 3), (100, 17), (104, 4), (7, 3), (100, 256), (7, 3), (100, 256), (7, 3), (100, 256), (7, 3), (100, 256), (3, 7), (100, 16), (100, 16), (100, 16), (100, 16), (100, 16), (100, 16), (3, 7), (100, 16), (100, 16), (100, 16), (100, 16), (100, 16), (100, 16), (12, 49), (100, 256), (100, 256), (100, 17), (100, 6), (100, 6), (100, 6), (102, 64), (100, 64), (100, 17), (100, 17), (100, 1105), (100, 65), (100, 16), (100, 16), (100, 16), (100, 16), (100, 16), (100, 16), (100, 16), (100, 16), (100, 240), (100, 1024), (100, 1024), (100, 3), (100, 4), (100, 4), (100, 1024)]
/-- what the two objects hold at first -/
def zI0 : List (Int × Int × Int) := [(1, 0, 2), (1, 1, 4), (1, 2, 5), (1, 3, 6), (1, 4, 7), (1, 5, 15), (1, 6, 16), (1, 7, 21), (1, 8, 24), (1, 9, 29), (1, 10, 32), (1, 11, 37), (1, 12, 46), (1, 13, 53), (1, 14, 4), (2, 0, 8), (2, 1, 8), (2, 2, 8), (2, 3, 0), (2, 4, 0), (2, 5, 1), (2, 6, 3), (4, 0, 8), (4, 1, 8), (4, 2, 8), (4, 3, 0), (4, 4, 0), (4, 5, 1), (4, 6, 3), (5, 0, 0), (5, 1, 1), (5, 2, 1), (7, 0, 8), (7, 1, 0), (8, 0, 9), (8, 1, 10), (8, 2, 11), (8, 3, 12), (8, 4, 13), (8, 5, 14), (9, 0, 0), (9, 1, 1), (9, 2, 1), (10, 0, 0), (10, 1, 1), (10, 2, 1), (11, 0, 0), (11, 1, 1), (11, 2, 1), (12, 0, 0), (12, 1, 1), (12, 2, 1), (13, 0, 0), (13, 1, 1), (13, 2, 1), (14, 0, 0), (14, 1, 1), (14, 2, 1), (15, 0, 0), (15, 1, 0), (15, 2, 0), (16, 0, 17), (16, 1, 18), (16, 2, 19), (16, 3, 20), (16, 4, 0), (21, 0, 22), (21, 1, 23), (21, 2, 0), (21, 3, 0), (21, 4, 0), (24, 0, 25), (24, 1, 26), (24, 2, 27), (24, 3, 28), (24, 4, 0), (24, 5, 0), (24, 6, 0), (29, 0, 30), (29, 1, 31), (29, 2, 0), (29, 3, 0), (29, 4, 0), (29, 5, 0), (29, 6, 0), (29, 7, 0), (29, 8, 0), (32, 0, 33), (32, 1, 34), (32, 2, 35), (32, 3, 36), (32, 4, 0), (37, 0, 38), (37, 1, 40), (37, 2, 42), (37, 3, 44), (38, 0, 39), (38, 1, (-1)), (38, 2, 0), (40, 0, 41), (40, 1, (-1)), (40, 2, 0), (42, 0, 43), (42, 1, (-1)), (42, 2, 0), (44, 0, 45), (44, 1, (-1)), (44, 2, 0), (46, 0, 47), (46, 1, 48), (46, 2, 49), (46, 3, 50), (46, 4, 51), (46, 5, 52), (46, 6, 0), (53, 0, 54), (53, 1, 55), (53, 2, 56), (53, 3, 57), (53, 4, 58), (53, 5, 59), (53, 6, 0), (60, 0, 8), (60, 1, 8), (60, 2, 8), (60, 3, 0), (60, 4, 0), (60, 5, 1), (60, 6, 61), (60, 7, 62), (60, 8, 63), (60, 9, 0), (60, 10, 64), (60, 11, 65), (60, 12, 66), (60, 13, 67), (60, 14, 68), (60, 15, 0), (60, 16, 4), (60, 17, 69), (60, 18, 70), (60, 19, 71), (60, 20, 72), (60, 21, 0), (60, 22, 0), (60, 23, 0), (60, 24, 0), (60, 25, 73), (60, 26, 74), (60, 27, 75), (60, 28, 76), (60, 29, 0), (60, 30, 77), (60, 31, 78), (60, 32, 79), (60, 33, 80), (60, 34, 0), (60, 35, 81), (60, 36, 0), (60, 37, 0), (60, 38, 0), (60, 39, 0), (60, 40, 0), (60, 41, 0), (60, 42, 0), (60, 43, 82), (60, 44, 83), (60, 45, 84), (60, 46, 85), (60, 47, 86), (60, 48, 87), (85, 0, (-4)), (85, 1, (-4)), (85, 2, (-4)), (85, 3, (-4))]
def zchk (M : zM) : Bool := zI0.all (fun q => decide (M q.1 q.2.1 = q.2.2)) && (List.range 256).all (fun i => decide (M 3 (i : Int) = 0) && decide (M 61 (i : Int) = 0))
def zX0 : Int × (Int → Int) := (0, fun _ => 0)
def zpre1 : Option zRes := zrun zX0 zT znl 1000 88 (0, zent (znl 88) [zr 1], [], zclr (fun _ _ => 0) 1, [(11, 15)])
def zpre2 (M : zM) (K : zK) : Option zRes := zrun zX0 zT znl 1000 128 (0, zent (znl 128) [zr ((K.length : Int) + 1)], [], zclr M ((K.length : Int) + 1), K ++ [(12, 49)])
def zpreok : Bool := match zpre1 with
  | some (none, M1, K1) => match zpre2 M1 K1 with
    | some (none, M2, K2) => decide (K1.length = 59) && decide (K2 = zK0) && zchk M2
    | _ => false
  | _ => false
set_option maxRecDepth 100000 in
theorem zpreok_t : zpreok = true := by decide +kernel
def znoX (t : List zE) : Bool := t.all (fun e => decide (e.1 ≠ 45) && decide (e.1 ≠ 46) && (decide (e.2.2.2.1.toNat ≠ 205) || !(decide (e.1 = 36) || decide (e.1 = 37) || decide (e.1 = 38) || decide (e.1 = 53))))
set_option maxRecDepth 100000 in
theorem znoX_t : (zTs.take 205).all znoX = true := by decide +kernel
theorem znoX_k {k : Nat} (h : k ≠ 205) : znoX (zT k) = true := by
  by_cases hk : k < 205
  · have h1 := List.all_eq_true.mp znoX_t
    refine h1 _ ?_
    have hl : zTs.length = 206 := rfl
    rw [zT, List.getD_eq_getElem?_getD, List.getElem?_eq_getElem (by omega)]
    exact List.mem_take_iff_getElem.mpr ⟨k, by omega, rfl⟩
  · rw [zT, List.getD_eq_getElem?_getD, List.getElem?_eq_none (by have hl : zTs.length = 206 := rfl; omega)]
    rfl
theorem zstp_X {X X' : Int × (Int → Int)} {en : zE} {ls st : List zV} {M : zM} {K : zK} (h1 : en.1 ≠ 45) (h2 : en.1 ≠ 46) : zstp X en ls st M K = zstp X' en ls st M K := by
  obtain ⟨op, pc, nx, a, b, l⟩ := en
  unfold zstp
  dsimp only at h1 h2 ⊢
  split <;> first | rfl | exact absurd rfl h1 | exact absurd rfl h2
theorem zcall_to {X : Int × (Int → Int)} {en : zE} {ls st : List zV} {M : zM} {K : zK} {k' nx' : Nat} {as ls' st' : List zV} (h : zstp X en ls st M K = some (.inr (.inl (k', as, nx', ls', st')))) : k' = en.2.2.2.1.toNat ∧ (en.1 = 36 ∨ en.1 = 37 ∨ en.1 = 38 ∨ en.1 = 53) := by
  obtain ⟨op, pc, nx, a, b, l⟩ := en
  simp only [zstp, zgo] at h
  split at h
  all_goals (repeat' (split at h))
  all_goals first
    | (cases h; done)
    | (cases h; exact ⟨rfl, by simp⟩)
    | (obtain ⟨v, -, h⟩ := Option.bind_eq_some_iff.mp h; cases h; done)
theorem zrun_X {X X' : Int × (Int → Int)} : ∀ (n k : Nat) (c : zC), k ≠ 205 → zrun X zT znl n k c = zrun X' zT znl n k c := by
  intro n
  induction n with
  | zero => intro k c hk; rfl
  | succ n ih =>
    intro k c hk
    obtain ⟨nd, ls, st, M, K⟩ := c
    rw [zrun, zrun]
    have hno := List.all_eq_true.mp (znoX_k hk)
    split
    · rfl
    · rename_i en hen
      have h0 := hno en (List.mem_of_getElem? hen)
      simp only [Bool.and_eq_true, decide_eq_true_eq, Bool.or_eq_true, Bool.not_eq_true', Bool.or_eq_false_iff, decide_eq_false_iff_not] at h0
      rw [zstp_X (X' := X') h0.1.1 h0.1.2]
      split
      · rfl
      · exact ih _ _ hk
      · rfl
      · rename_i k' as nx' ls' st' hs
        obtain ⟨e1, e2⟩ := zcall_to hs
        have hk' : k' ≠ 205 := by
          rw [e1]
          rcases h0.2 with q | q
          · exact q
          · omega
        rw [ih _ _ hk']
        split
        · split
          · rfl
          · exact ih _ _ hk
        · rfl
/-- the law up to its loop: both objects made -/
theorem zprefix (X : Int × (Int → Int)) : ∃ M2, zchk M2 = true ∧ ∀ P, zG X 205 (10, [zr (-1), zr 1, zr 60, zi 0], [], M2, zK0) P → zG X 205 (0, [zr (-1), zU, zU, zU], [], fun _ _ => 0, []) P := by
  have h := zpreok_t
  unfold zpreok at h
  split at h
  · rename_i M1 K1 h1
    split at h
    · rename_i M2 K2 h2
      simp only [Bool.and_eq_true, decide_eq_true_eq] at h
      obtain ⟨⟨e1, e2⟩, e3⟩ := h
      subst e2
      refine ⟨M2, e3, fun P hP => ?_⟩
      unfold zpre1 at h1
      unfold zpre2 at h2
      rw [zrun_X (X' := X) _ _ _ (by decide)] at h1 h2
      rw [e1] at h2
      have hT : zT 205 = zt205 := rfl
      refine zG.step hT rfl rfl ?_
      refine zG.step hT rfl rfl ?_
      refine zG.call hT rfl rfl (Nat.le_of_ble_eq_true rfl) rfl ⟨_, _, h1, rfl⟩ ?_
      refine zG.step hT rfl rfl ?_
      refine zG.step hT rfl rfl ?_
      refine zG.step hT rfl rfl ?_
      have e4 : ((K1.length : Int) + 1) = 60 := by omega
      rw [e4]
      refine zG.call (as := [zr 60]) hT rfl rfl (Nat.le_of_ble_eq_true rfl) rfl ⟨_, _, h2, rfl⟩ ?_
      refine zG.step hT rfl rfl ?_
      refine zG.step hT rfl rfl ?_
      refine zG.step hT rfl rfl ?_
      exact hP
    · cases h
  · cases h
