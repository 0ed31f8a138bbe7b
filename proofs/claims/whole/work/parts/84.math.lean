/-- a call that leaves both sides alike -/
def zAlk {α : Type} (X : Option (zM ⊕ α)) : Prop := ∃ M2, X = some (.inl M2) ∧ Iv M2
theorem zif {α : Type} {c : Prop} [Decidable c] {A B : Option (zM ⊕ α)} (hA : zAlk A) (hB : zAlk B) : zAlk (if c then A else B) := by
  by_cases h : c
  · rw [if_pos h]; exact hA
  · rw [if_neg h]; exact hB
theorem zscr_ok {X : Int × (Int → Int)} {i : Int} (h0 : 0 ≤ i) (h1 : i < X.1) (h2 : i < 2147483648) : zscr X i = some (X.2 i) := by
  unfold zscr
  rw [zw_id (by omega) h2, if_pos ⟨h0, h1⟩]
theorem zbl (v : Int) : ∃ j, (if zw v = 0 then some (0 : Int) else some 1) = some j := by
  by_cases c : zw v = 0
  · exact ⟨0, by rw [if_pos c]⟩
  · exact ⟨1, by rw [if_neg c]⟩
theorem zmath (X : Int × (Int → Int)) (M : zM) (hc : zchk M = true) (x0 : 0 ≤ X.1) (x1 : X.1 ≤ 3072) (hX : ∀ i, zrg (X.2 i)) : ∃ n M', qlw_law X n zK0 M 1 60 0 = some (1, M') := by
  obtain ⟨n, hn⟩ : ∃ n : Nat, 1000000 ≤ n := ⟨1000000, Nat.le_refl _⟩
  refine ⟨n, ?_⟩
  have I0 := Iv.first hc
  unfold qlw_law
  have key : ∀ F : Int × zM → Option ((Int × zM) ⊕ (Int × zM)), (∃ r, zwh F n (0, M) = some r ∧ r.1 = 1) → ∃ M', zwh F n (0, M) = some (1, M') := by
    rintro F ⟨⟨r1, r2⟩, e1, e2⟩
    dsimp only at e2
    subst e2
    exact ⟨_, e1⟩
  refine key _ (zwh_inv (fun s => 0 ≤ s.1 ∧ s.1 ≤ X.1 + 6 ∧ Iv s.2) (fun s => (X.1 - s.1).toNat) _ ?_ n _ ⟨by simp, by dsimp only; omega, I0⟩ (by dsimp only; omega))
  clear key I0 hc
  rintro ⟨i, M⟩ ⟨i0, i1, I⟩
  dsimp only at i0 i1 I ⊢
  rw [zw_id (x := X.1 - 6) (by omega) (by omega), zw_id (x := i) (by omega) (by omega)]
  by_cases c : X.1 - 6 < i
  · right
    rw [if_pos c]
    exact ⟨_, rfl, rfl⟩
  left
  have z0 : zscr X i = some (X.2 i) := zscr_ok i0 (by omega) (by omega)
  have z1 : zscr X (i + 1) = some (X.2 (i + 1)) := zscr_ok (by omega) (by omega) (by omega)
  have z2 : zscr X (i + 2) = some (X.2 (i + 2)) := zscr_ok (by omega) (by omega) (by omega)
  have z3 : zscr X (i + 3) = some (X.2 (i + 3)) := zscr_ok (by omega) (by omega) (by omega)
  have z4 : zscr X (i + 4) = some (X.2 (i + 4)) := zscr_ok (by omega) (by omega) (by omega)
  have z5 : zscr X (i + 5) = some (X.2 (i + 5)) := zscr_ok (by omega) (by omega) (by omega)
  rw [if_neg c, z0, Option.bind_some]
  have step : ∀ Y : Option (zM ⊕ ((Int × zM) ⊕ (Int × zM))), zAlk Y → ∃ s' : Int × zM, zesc Y (fun j3 => some (.inl (i + 6, j3))) = some (.inl s') ∧ (0 ≤ s'.1 ∧ s'.1 ≤ X.1 + 6 ∧ Iv s'.2) ∧ (X.1 - s'.1).toNat < (X.1 - i).toNat := by
    rintro Y ⟨M2, rfl, I2⟩
    exact ⟨_, rfl, ⟨by dsimp only; omega, by dsimp only; omega, I2⟩, by dsimp only; omega⟩
  refine step _ ?_
  clear step
  generalize zw (zand (X.2 i) 63) = op
  refine zif ?_ ?_
  · -- table
    obtain ⟨r, M1, rq, M2, e1, e2, e3, I2⟩ := o_table (a1 := (X.2 (i + 1))) (a2 := (X.2 (i + 2))) hn I (hX _) (hX _)
    rw [z1, Option.bind_some, z2, Option.bind_some, zgk_ok (r := 1) (ci := 11) (N := 15) rfl, Option.bind_some, e1, Option.bind_some]
    try dsimp only
    rw [Option.bind_some, Option.bind_some, zgk_ok (r := 60) (ci := 12) (N := 49) rfl, Option.bind_some, e2, Option.bind_some]
    try dsimp only
    rw [if_pos e3]
    exact ⟨_, rfl, I2⟩
  refine zif ?_ ?_
  · -- banks
    obtain ⟨r, M1, rq, M2, e1, e2, e3, I2⟩ := o_banks (a1 := (X.2 (i + 1))) hn I (hX _)
    rw [z1, Option.bind_some, zgk_ok (r := 1) (ci := 11) (N := 15) rfl, Option.bind_some, e1, Option.bind_some]
    try dsimp only
    rw [Option.bind_some, zgk_ok (r := 60) (ci := 12) (N := 49) rfl, Option.bind_some, e2, Option.bind_some]
    try dsimp only
    rw [if_pos e3]
    exact ⟨_, rfl, I2⟩
  refine zif ?_ ?_
  · -- law
    obtain ⟨r, M1, rq, M2, e1, e2, e3, I2⟩ := o_law (a1 := (X.2 (i + 1))) (a2 := (X.2 (i + 2))) (a3 := (X.2 (i + 3))) I (hX _) (hX _) (hX _)
    rw [z1, Option.bind_some, z2, Option.bind_some, z3, Option.bind_some, zgk_ok (r := 1) (ci := 11) (N := 15) rfl, Option.bind_some, e1, Option.bind_some]
    try dsimp only
    rw [Option.bind_some, Option.bind_some, Option.bind_some, zgk_ok (r := 60) (ci := 12) (N := 49) rfl, Option.bind_some, e2, Option.bind_some]
    try dsimp only
    rw [if_pos e3]
    exact ⟨_, rfl, I2⟩
  refine zif ?_ ?_
  · -- lay
    obtain ⟨r, M1, rq, M2, e1, e2, e3, I2⟩ := o_lay (a1 := (X.2 (i + 1))) (a2 := (X.2 (i + 2))) (a3 := (X.2 (i + 3))) I (hX _) (hX _) (hX _)
    rw [z1, Option.bind_some, z2, Option.bind_some, z3, Option.bind_some, zgk_ok (r := 1) (ci := 11) (N := 15) rfl, Option.bind_some, e1, Option.bind_some]
    try dsimp only
    rw [Option.bind_some, Option.bind_some, Option.bind_some, zgk_ok (r := 60) (ci := 12) (N := 49) rfl, Option.bind_some, e2, Option.bind_some]
    try dsimp only
    rw [if_pos e3]
    exact ⟨_, rfl, I2⟩
  refine zif ?_ ?_
  · -- cell
    obtain ⟨r, rq, M2, e1, e2, e3, I2⟩ := o_cell (a1 := (X.2 (i + 1))) (a2 := (X.2 (i + 2))) (a3 := (X.2 (i + 3))) hn I (hX _) (hX _) (hX _)
    rw [z1, Option.bind_some, z2, Option.bind_some, z3, Option.bind_some, zgk_ok (r := 1) (ci := 11) (N := 15) rfl, Option.bind_some, e1, Option.bind_some]
    try dsimp only
    rw [Option.bind_some, Option.bind_some, Option.bind_some, zgk_ok (r := 60) (ci := 12) (N := 49) rfl, Option.bind_some, e2, Option.bind_some]
    try dsimp only
    rw [if_pos e3]
    exact ⟨_, rfl, I2⟩
  refine zif ?_ ?_
  · -- bank
    obtain ⟨r, rq, M2, e1, e2, e3, I2⟩ := o_bank (a1 := (X.2 (i + 1))) (a2 := (X.2 (i + 2))) hn I (hX _) (hX _)
    rw [z1, Option.bind_some, z2, Option.bind_some, zgk_ok (r := 1) (ci := 11) (N := 15) rfl, Option.bind_some, e1, Option.bind_some]
    try dsimp only
    rw [Option.bind_some, Option.bind_some, zgk_ok (r := 60) (ci := 12) (N := 49) rfl, Option.bind_some, e2, Option.bind_some]
    try dsimp only
    rw [if_pos e3]
    exact ⟨_, rfl, I2⟩
  refine zif ?_ ?_
  · -- cut
    obtain ⟨r, M1, rq, M2, e1, e2, e3, I2⟩ := o_cut (a1 := (X.2 (i + 1))) (a2 := (X.2 (i + 2))) (a3 := (X.2 (i + 3))) (a4 := (X.2 (i + 4))) (a5 := (X.2 (i + 5))) hn I (hX _) (hX _) (hX _) (hX _) (hX _)
    rw [z1, Option.bind_some, z2, Option.bind_some, z3, Option.bind_some, z4, Option.bind_some, z5, Option.bind_some, zgk_ok (r := 1) (ci := 11) (N := 15) rfl, Option.bind_some, e1, Option.bind_some]
    try dsimp only
    rw [Option.bind_some, Option.bind_some, Option.bind_some, Option.bind_some, Option.bind_some, zgk_ok (r := 60) (ci := 12) (N := 49) rfl, Option.bind_some, e2, Option.bind_some]
    try dsimp only
    rw [if_pos e3]
    exact ⟨_, rfl, I2⟩
  refine zif ?_ ?_
  · -- cuts
    obtain ⟨r, M1, rq, M2, e1, e2, e3, I2⟩ := o_cuts (a1 := (X.2 (i + 1))) (a2 := (X.2 (i + 2))) (a3 := (X.2 (i + 3))) (a4 := (X.2 (i + 4))) hn I (hX _) (hX _) (hX _) (hX _)
    rw [z1, Option.bind_some, z2, Option.bind_some, z3, Option.bind_some, z4, Option.bind_some, zgk_ok (r := 1) (ci := 11) (N := 15) rfl, Option.bind_some, e1, Option.bind_some]
    try dsimp only
    rw [Option.bind_some, Option.bind_some, Option.bind_some, Option.bind_some, zgk_ok (r := 60) (ci := 12) (N := 49) rfl, Option.bind_some, e2, Option.bind_some]
    try dsimp only
    rw [if_pos e3]
    exact ⟨_, rfl, I2⟩
  refine zif ?_ ?_
  · -- wish
    obtain ⟨r, M1, rq, M2, e1, e2, e3, I2⟩ := o_wish (a1 := (X.2 (i + 1))) (a2 := (X.2 (i + 2))) (a3 := (X.2 (i + 3))) I (hX _) (hX _) (hX _)
    rw [z1, Option.bind_some, z2, Option.bind_some, z3, Option.bind_some, zgk_ok (r := 1) (ci := 11) (N := 15) rfl, Option.bind_some, e1, Option.bind_some]
    try dsimp only
    rw [Option.bind_some, Option.bind_some, Option.bind_some, zgk_ok (r := 60) (ci := 12) (N := 49) rfl, Option.bind_some, e2, Option.bind_some]
    try dsimp only
    rw [if_pos e3]
    exact ⟨_, rfl, I2⟩
  refine zif ?_ ?_
  · -- forget
    obtain ⟨r, M1, rq, M2, e1, e2, e3, I2⟩ := o_forget  I
    rw [zgk_ok (r := 1) (ci := 11) (N := 15) rfl, Option.bind_some, e1, Option.bind_some]
    try dsimp only
    rw [zgk_ok (r := 60) (ci := 12) (N := 49) rfl, Option.bind_some, e2, Option.bind_some]
    try dsimp only
    rw [if_pos e3]
    exact ⟨_, rfl, I2⟩
  refine zif ?_ ?_
  · -- granted
    obtain ⟨r, rq, M2, e1, e2, e3, I2⟩ := o_granted  hn I
    rw [zgk_ok (r := 1) (ci := 11) (N := 15) rfl, Option.bind_some, e1, Option.bind_some]
    try dsimp only
    rw [zgk_ok (r := 60) (ci := 12) (N := 49) rfl, Option.bind_some, e2, Option.bind_some]
    try dsimp only
    rw [if_pos e3]
    exact ⟨_, rfl, I2⟩
  refine zif ?_ ?_
  · -- fewest
    obtain ⟨r, M1, rq, M2, e1, e2, e3, I2⟩ := o_fewest (a1 := (X.2 (i + 1))) (a2 := (X.2 (i + 2))) hn I (hX _) (hX _)
    rw [z1, Option.bind_some, z2, Option.bind_some, zgk_ok (r := 1) (ci := 11) (N := 15) rfl, Option.bind_some, e1, Option.bind_some]
    try dsimp only
    rw [Option.bind_some, Option.bind_some, zgk_ok (r := 60) (ci := 12) (N := 49) rfl, Option.bind_some, e2, Option.bind_some]
    try dsimp only
    rw [if_pos e3]
    exact ⟨_, rfl, I2⟩
  refine zif ?_ ?_
  · -- bound
    obtain ⟨r, rq, e1, e2, e3⟩ := o_bound  hn I
    rw [zgk_ok (r := 1) (ci := 11) (N := 15) rfl, Option.bind_some, e1, Option.bind_some]
    try dsimp only
    rw [zgk_ok (r := 60) (ci := 12) (N := 49) rfl, Option.bind_some, e2, Option.bind_some]
    try dsimp only
    rw [if_pos e3]
    exact ⟨_, rfl, I⟩
  refine zif ?_ ?_
  · -- free
    obtain ⟨r, M1, rq, M2, e1, e2, e3, I2⟩ := o_free  hn I
    rw [zgk_ok (r := 1) (ci := 11) (N := 15) rfl, Option.bind_some, e1, Option.bind_some]
    try dsimp only
    rw [zgk_ok (r := 60) (ci := 12) (N := 49) rfl, Option.bind_some, e2, Option.bind_some]
    try dsimp only
    rw [if_pos e3]
    exact ⟨_, rfl, I2⟩
  refine zif ?_ ?_
  · -- freeBanks
    obtain ⟨r, M1, rq, M2, e1, e2, e3, I2⟩ := o_freeBanks  hn I
    rw [zgk_ok (r := 1) (ci := 11) (N := 15) rfl, Option.bind_some, e1, Option.bind_some]
    try dsimp only
    rw [zgk_ok (r := 60) (ci := 12) (N := 49) rfl, Option.bind_some, e2, Option.bind_some]
    try dsimp only
    rw [if_pos e3]
    exact ⟨_, rfl, I2⟩
  refine zif ?_ ?_
  · -- rest
    obtain ⟨r, M1, rq, M2, e1, e2, e3, I2⟩ := o_rest (a1 := (X.2 (i + 1))) I (hX _)
    rw [z1, Option.bind_some, zgk_ok (r := 1) (ci := 11) (N := 15) rfl, Option.bind_some, e1, Option.bind_some]
    try dsimp only
    rw [Option.bind_some, zgk_ok (r := 60) (ci := 12) (N := 49) rfl, Option.bind_some, e2, Option.bind_some]
    try dsimp only
    rw [if_pos e3]
    exact ⟨_, rfl, I2⟩
  refine zif ?_ ?_
  · -- inOrder
    obtain ⟨r, M1, rq, M2, e1, e2, e3, I2⟩ := o_inOrder (a1 := (X.2 (i + 1))) (a2 := (X.2 (i + 2))) (a3 := (X.2 (i + 3))) hn I (hX _) (hX _) (hX _)
    rw [z1, Option.bind_some, z2, Option.bind_some, z3, Option.bind_some, zgk_ok (r := 1) (ci := 11) (N := 15) rfl, Option.bind_some, e1, Option.bind_some]
    try dsimp only
    rw [Option.bind_some, Option.bind_some, Option.bind_some, zgk_ok (r := 60) (ci := 12) (N := 49) rfl, Option.bind_some, e2, Option.bind_some]
    try dsimp only
    rw [if_pos e3]
    exact ⟨_, rfl, I2⟩
  refine zif ?_ ?_
  · -- beat
    obtain ⟨r, M1, rq, M2, e1, e2, e3, I2⟩ := o_beat (a1 := (X.2 (i + 1))) (a2 := (X.2 (i + 2))) (a3 := (X.2 (i + 3))) hn I (hX _) (hX _) (hX _)
    rw [z1, Option.bind_some, z2, Option.bind_some, z3, Option.bind_some, zgk_ok (r := 1) (ci := 11) (N := 15) rfl, Option.bind_some, e1, Option.bind_some]
    try dsimp only
    rw [Option.bind_some, Option.bind_some, Option.bind_some, zgk_ok (r := 60) (ci := 12) (N := 49) rfl, Option.bind_some, e2, Option.bind_some]
    try dsimp only
    rw [if_pos e3]
    exact ⟨_, rfl, I2⟩
  refine zif ?_ ?_
  · -- queued
    obtain ⟨r, M1, rq, M2, e1, e2, e3, I2⟩ := o_queued (a1 := (X.2 (i + 1))) (a2 := (X.2 (i + 2))) (a3 := (X.2 (i + 3))) (a4 := (X.2 (i + 4))) (a5 := (X.2 (i + 5))) hn I (hX _) (hX _) (hX _) (hX _) (hX _)
    rw [z1, Option.bind_some, z2, Option.bind_some, z3, Option.bind_some, z4, Option.bind_some, z5, Option.bind_some, zgk_ok (r := 1) (ci := 11) (N := 15) rfl, Option.bind_some, e1, Option.bind_some]
    try dsimp only
    rw [Option.bind_some, Option.bind_some, Option.bind_some, Option.bind_some, Option.bind_some, zgk_ok (r := 60) (ci := 12) (N := 49) rfl, Option.bind_some, e2, Option.bind_some]
    try dsimp only
    rw [if_pos e3]
    exact ⟨_, rfl, I2⟩
  refine zif ?_ ?_
  · -- rate
    obtain ⟨r, M1, rq, M2, e1, e2, e3, I2⟩ := o_rate (a1 := (X.2 (i + 1))) (a2 := (X.2 (i + 2))) (a3 := (X.2 (i + 3))) hn I (hX _) (hX _) (hX _)
    rw [z1, Option.bind_some, z2, Option.bind_some, z3, Option.bind_some, zgk_ok (r := 1) (ci := 11) (N := 15) rfl, Option.bind_some, e1, Option.bind_some]
    try dsimp only
    rw [Option.bind_some, Option.bind_some, Option.bind_some, zgk_ok (r := 60) (ci := 12) (N := 49) rfl, Option.bind_some, e2, Option.bind_some]
    try dsimp only
    rw [if_pos e3]
    exact ⟨_, rfl, I2⟩
  refine zif ?_ ?_
  · -- steps
    obtain ⟨r, M1, rq, M2, e1, e2, e3, I2⟩ := o_steps (a1 := (X.2 (i + 1))) hn I (hX _)
    rw [z1, Option.bind_some, zgk_ok (r := 1) (ci := 11) (N := 15) rfl, Option.bind_some, e1, Option.bind_some]
    try dsimp only
    rw [Option.bind_some, zgk_ok (r := 60) (ci := 12) (N := 49) rfl, Option.bind_some, e2, Option.bind_some]
    try dsimp only
    rw [if_pos e3]
    exact ⟨_, rfl, I2⟩
  refine zif ?_ ?_
  · -- feed
    obtain ⟨r, M1, rq, M2, e1, e2, e3, I2⟩ := o_feed (a1 := (zlor (zlshl (zw (X.2 (i + 1))) 32) (zland (zw (X.2 (i + 2))) 4294967295))) hn I
    rw [z1, Option.bind_some, z2, Option.bind_some, zgk_ok (r := 1) (ci := 11) (N := 15) rfl, Option.bind_some, e1, Option.bind_some]
    try dsimp only
    rw [Option.bind_some, Option.bind_some, zgk_ok (r := 60) (ci := 12) (N := 49) rfl, Option.bind_some, e2, Option.bind_some]
    try dsimp only
    rw [if_pos e3]
    exact ⟨_, rfl, I2⟩
  refine zif ?_ ?_
  · -- end
    obtain ⟨r, M1, rq, M2, e1, e2, e3, I2⟩ := o_end (a1 := (X.2 (i + 1))) I (hX _)
    rw [z1, Option.bind_some, zgk_ok (r := 1) (ci := 11) (N := 15) rfl, Option.bind_some, e1, Option.bind_some]
    try dsimp only
    rw [Option.bind_some, zgk_ok (r := 60) (ci := 12) (N := 49) rfl, Option.bind_some, e2, Option.bind_some]
    try dsimp only
    rw [if_pos e3]
    exact ⟨_, rfl, I2⟩
  refine zif ?_ ?_
  · -- program
    obtain ⟨r, M1, rq, M2, e1, e2, e3, I2⟩ := o_program  hn I
    rw [zgk_ok (r := 1) (ci := 11) (N := 15) rfl, Option.bind_some, e1, Option.bind_some]
    try dsimp only
    rw [zgk_ok (r := 60) (ci := 12) (N := 49) rfl, Option.bind_some, e2, Option.bind_some]
    try dsimp only
    rw [if_pos e3]
    exact ⟨_, rfl, I2⟩
  refine zif ?_ ?_
  · -- fault
    obtain ⟨r, rq, e1, e2, e3⟩ := o_fault  I
    rw [zgk_ok (r := 1) (ci := 11) (N := 15) rfl, Option.bind_some, e1, Option.bind_some]
    try dsimp only
    rw [zgk_ok (r := 60) (ci := 12) (N := 49) rfl, Option.bind_some, e2, Option.bind_some]
    try dsimp only
    rw [if_pos e3]
    exact ⟨_, rfl, I⟩
  refine zif ?_ ?_
  · -- line
    obtain ⟨r, rq, e1, e2, e3⟩ := o_line (a1 := (X.2 (i + 1))) (a2 := (X.2 (i + 2))) I (hX _) (hX _)
    rw [z1, Option.bind_some, z2, Option.bind_some, zgk_ok (r := 1) (ci := 11) (N := 15) rfl, Option.bind_some, e1, Option.bind_some]
    try dsimp only
    rw [Option.bind_some, Option.bind_some, zgk_ok (r := 60) (ci := 12) (N := 49) rfl, Option.bind_some, e2, Option.bind_some]
    try dsimp only
    rw [if_pos e3]
    exact ⟨_, rfl, I⟩
  refine zif ?_ ?_
  · -- time
    obtain ⟨j, hj⟩ := zbl (X.2 (i + 2))
    obtain ⟨r, M1, rq, M2, e1, e2, e3, I2⟩ := o_time (a1 := (X.2 (i + 1))) (a2 := (j)) (a3 := (X.2 (i + 3))) hn I (hX _) (hX _)
    rw [z1, Option.bind_some, z2, Option.bind_some, hj, Option.bind_some, z3, Option.bind_some, zgk_ok (r := 1) (ci := 11) (N := 15) rfl, Option.bind_some, e1, Option.bind_some]
    try dsimp only
    rw [Option.bind_some, Option.bind_some, hj, Option.bind_some, Option.bind_some, zgk_ok (r := 60) (ci := 12) (N := 49) rfl, Option.bind_some, e2, Option.bind_some]
    try dsimp only
    rw [if_pos e3]
    exact ⟨_, rfl, I2⟩
  refine zif ?_ ?_
  · -- when
    obtain ⟨j, hj⟩ := zbl (X.2 (i + 2))
    obtain ⟨r, M1, rq, M2, e1, e2, e3, I2⟩ := o_when (a1 := (X.2 (i + 1))) (a2 := (j)) (a3 := (X.2 (i + 3))) (a4 := (X.2 (i + 4))) (a5 := (X.2 (i + 5))) hn I (hX _) (hX _) (hX _) (hX _)
    rw [z1, Option.bind_some, z2, Option.bind_some, hj, Option.bind_some, z3, Option.bind_some, z4, Option.bind_some, z5, Option.bind_some, zgk_ok (r := 1) (ci := 11) (N := 15) rfl, Option.bind_some, e1, Option.bind_some]
    try dsimp only
    rw [Option.bind_some, Option.bind_some, hj, Option.bind_some, Option.bind_some, Option.bind_some, Option.bind_some, zgk_ok (r := 60) (ci := 12) (N := 49) rfl, Option.bind_some, e2, Option.bind_some]
    try dsimp only
    rw [if_pos e3]
    exact ⟨_, rfl, I2⟩
  refine zif ?_ ?_
  · -- used
    obtain ⟨j, hj⟩ := zbl (X.2 (i + 2))
    obtain ⟨r, M1, rq, M2, e1, e2, e3, I2⟩ := o_used (a1 := (X.2 (i + 1))) (a2 := (j)) (a3 := (X.2 (i + 3))) (a4 := (X.2 (i + 4))) hn I (hX _) (hX _) (hX _)
    rw [z1, Option.bind_some, z2, Option.bind_some, hj, Option.bind_some, z3, Option.bind_some, z4, Option.bind_some, zgk_ok (r := 1) (ci := 11) (N := 15) rfl, Option.bind_some, e1, Option.bind_some]
    try dsimp only
    rw [Option.bind_some, Option.bind_some, hj, Option.bind_some, Option.bind_some, Option.bind_some, zgk_ok (r := 60) (ci := 12) (N := 49) rfl, Option.bind_some, e2, Option.bind_some]
    try dsimp only
    rw [if_pos e3]
    exact ⟨_, rfl, I2⟩
  refine zif ?_ ?_
  · -- tuned
    obtain ⟨j, hj⟩ := zbl (X.2 (i + 2))
    obtain ⟨r, M1, rq, M2, e1, e2, e3, I2⟩ := o_tuned (a1 := (X.2 (i + 1))) (a2 := (j)) (a3 := (X.2 (i + 3))) hn I (hX _) (hX _)
    rw [z1, Option.bind_some, z2, Option.bind_some, hj, Option.bind_some, z3, Option.bind_some, zgk_ok (r := 1) (ci := 11) (N := 15) rfl, Option.bind_some, e1, Option.bind_some]
    try dsimp only
    rw [Option.bind_some, Option.bind_some, hj, Option.bind_some, Option.bind_some, zgk_ok (r := 60) (ci := 12) (N := 49) rfl, Option.bind_some, e2, Option.bind_some]
    try dsimp only
    rw [if_pos e3]
    exact ⟨_, rfl, I2⟩
  refine zif ?_ ?_
  · -- sheet
    obtain ⟨r, M1, rq, M2, e1, e2, e3, I2⟩ := o_sheet (a1 := (X.2 (i + 1))) (a2 := (X.2 (i + 2))) (a3 := (X.2 (i + 3))) hn I (hX _) (hX _) (hX _)
    rw [z1, Option.bind_some, z2, Option.bind_some, z3, Option.bind_some, zgk_ok (r := 1) (ci := 11) (N := 15) rfl, Option.bind_some, e1, Option.bind_some]
    try dsimp only
    rw [Option.bind_some, Option.bind_some, Option.bind_some, zgk_ok (r := 60) (ci := 12) (N := 49) rfl, Option.bind_some, e2, Option.bind_some]
    try dsimp only
    rw [if_pos e3]
    exact ⟨_, rfl, I2⟩
  refine zif ?_ ?_
  · -- write
    obtain ⟨r, M1, rq, M2, e1, e2, e3, I2⟩ := o_write (a1 := (X.2 (i + 1))) (a2 := (X.2 (i + 2))) (a3 := (X.2 (i + 3))) I (hX _) (hX _) (hX _)
    rw [z1, Option.bind_some, z2, Option.bind_some, z3, Option.bind_some, zgk_ok (r := 1) (ci := 11) (N := 15) rfl, Option.bind_some, e1, Option.bind_some]
    try dsimp only
    rw [Option.bind_some, Option.bind_some, Option.bind_some, zgk_ok (r := 60) (ci := 12) (N := 49) rfl, Option.bind_some, e2, Option.bind_some]
    try dsimp only
    rw [if_pos e3]
    exact ⟨_, rfl, I2⟩
  refine zif ?_ ?_
  · -- read
    obtain ⟨r, M1, rq, M2, e1, e2, e3, I2⟩ := o_read (a1 := (X.2 (i + 1))) (a2 := (X.2 (i + 2))) (a3 := (X.2 (i + 3))) hn I (hX _) (hX _) (hX _)
    rw [z1, Option.bind_some, z2, Option.bind_some, z3, Option.bind_some, zgk_ok (r := 1) (ci := 11) (N := 15) rfl, Option.bind_some, e1, Option.bind_some]
    try dsimp only
    rw [Option.bind_some, Option.bind_some, Option.bind_some, zgk_ok (r := 60) (ci := 12) (N := 49) rfl, Option.bind_some, e2, Option.bind_some]
    try dsimp only
    rw [if_pos e3]
    exact ⟨_, rfl, I2⟩
  refine zif ?_ ?_
  · -- count
    obtain ⟨r, rq, e1, e2, e3⟩ := o_count (a1 := (X.2 (i + 1))) I (hX _)
    rw [z1, Option.bind_some, zgk_ok (r := 1) (ci := 11) (N := 15) rfl, Option.bind_some, e1, Option.bind_some]
    try dsimp only
    rw [Option.bind_some, zgk_ok (r := 60) (ci := 12) (N := 49) rfl, Option.bind_some, e2, Option.bind_some]
    try dsimp only
    rw [if_pos e3]
    exact ⟨_, rfl, I⟩
  exact ⟨M, rfl, I⟩
/-- the claim's start, out of the run of the law's loop -/
theorem zwhole2 {p : Program} {e : Env} {s : State} {m : MethodId} {below : List Frame} {meth : Method} {c : Code} (l : Launch) {b L : Nat} {xs : Nat → Int32} (hL : L ≤ 3072) (Z : State → Prop) (hall : ∀ k y cc nL ret fr lo, zMs[k]? = some (y, cc, nL, ret, fr, lo) → zOKp k y cc nL ret fr lo)
    (hmath : ∀ (X : Int × (Int → Int)) (M : zM), zchk M = true → 0 ≤ X.1 → X.1 ≤ 3072 → (∀ i, zrg (X.2 i)) → ∃ n M', qlw_law X n zK0 M 1 60 0 = some (1, M'))
    (hx : p.tables.exec = Jvm.exec) (hb : c.code = code) (hml : c.maxLocals = 4) (hown : s.vm.findClass "BankStoreLaw" = some m.cls) (hts : ∀ w ∈ lw_tbl, w.before #[Value.ref b] s = true) (hX : va_X b L xs s s.heap) (hbl : b < s.heap.size) (hgv : (Jvm.Cond.and given_1 narrow_1).before #[Value.ref b] s = true)
    (hend : ∀ (H' : Heap) (lsA' : Array Slot) (pc' : Nat), decode code pc' = .ok (.ireturn, 1) → W p l e room_1 s m #[Value.ref b] below meth c H' [] 600000 7302249 Z (F0 m pc' lsA' [.int 1])) :
    W p l e room_1 s m #[Value.ref b] below meth c s.heap [] 0 0 Z (entryFrame m ([Value.ref b] : List Value).toArray 4) := by
  obtain ⟨D, cA, sA, vF, hst, hsA⟩ := zstat_at (p := p) (m := m) (meth := meth) (c := c) hL hts hX hbl hgv
  have hvF := hst.2.2.2.2.2.2.2.2.1
  have hcat := zcv_cat (b0 := s.heap.size) (sA := sA) hvF
  obtain ⟨M2, hchk, hpre⟩ := zprefix ((L : Int), fun i => (xs i.toNat).toInt)
  obtain ⟨n, M3, hq⟩ := hmath ((L : Int), fun i => (xs i.toNat).toInt) M2 hchk (by show (0 : Int) ≤ (L : Int); omega) (by show (L : Int) ≤ 3072; omega) (fun i => by
    have r1 := BitVec.toInt_lt (x := (xs i.toNat).toBitVec)
    have r2 := BitVec.le_toInt (x := (xs i.toNat).toBitVec)
    show zrg ((xs i.toNat).toBitVec.toInt)
    unfold zrg
    omega)
  have hG := hpre (fun r => ∃ M4, r = (some (zi 1), M4, zK0)) (t_qlw_law _ n zK0 M2 1 60 0 (by decide) (by decide) _ hq _ ⟨M3, rfl⟩)
  obtain ⟨n2, r, hrun, M4, rfl⟩ := hG
  obtain ⟨o1, o2, o3⟩ := hall 205 _ _ _ _ _ _ zlaw_at
  have hlv := lv_entry ([.ref b]) (n := 4) (Nat.le_of_ble_eq_true rfl)
  have hmap : ([Value.ref b] : List Value) = [zr (-1)].map (zcv s.heap.size sA vF) := by
    show [Value.ref b] = [zcv s.heap.size sA vF (zr (-1))]
    rw [zcv_s (by decide) (by decide), hsA]
  rw [lg_entry_eq]
  have hlv2 : lv_has (lg_sl ([.ref b]) ++ List.replicate (4 - (lg_sl ([.ref b])).length) Slot.unset).toArray 4 (zlv (zcv s.heap.size sA vF) [zr (-1), zU, zU, zU]) := by
    have h1 := hlv
    rw [hmap] at h1 ⊢
    exact zent_in (n := 4) (as := [zr (-1)]) hcat h1
  refine zsound hall n2 205 0 [zr (-1), zU, zU, zU] [] (fun _ _ => 0) [] (some (zi 1)) M4 zK0 hrun _ _ _ _ _ _ zlaw_at p e room_1 s m _ below meth c s.heap [] 0 0 Z lw_tbl _ 0 ⟨hx, hb, hml, hown, hts, fun w h _ => h, hst, Nat.le_refl _, fun q => absurd q (by decide), Nat.le_refl _, Nat.le_refl _⟩ hlv2 o3 (fun k q hk => by simp [zws] at hk) va_S.rf (by simp) ⟨by decide, by decide⟩ ?_
  intro H' locs' lsA' pc' cells' slots' z1 z2 z3 z4 z5
  have e1 : cells' = 87 := z3
  have e2 : slots' = zsl zK0 := by rw [z4]; rfl
  subst e1
  subst e2
  refine va_forget z2.2.2 (W.widen (k := 600000) (n := 7302249) (by decide) (by decide) ?_)
  exact hend H' lsA' pc' z5.1
