theorem zrE_all {C : Int → Bool} {len : Int} : ∀ (k : Nat) (i j : Int), i ≤ j → j < zrE C len k i → C j = true := by
  intro k
  induction k with
  | zero => intro i j h1 h2; rw [zrE] at h2; omega
  | succ k ih =>
    intro i j h1 h2
    rw [zrE] at h2
    by_cases c : i < len ∧ C i = true
    · rw [if_pos c] at h2
      by_cases e : j = i
      · rw [e]; exact c.2
      · exact ih (i + 1) j (by omega) h2
    · rw [if_neg c] at h2; omega
theorem zxN_rg {t : Int → Int} {len s : Int} (hK : zxK t len s = 2) : 0 ≤ zxN t len s ∧ zxN t len s ≤ 9999 := by
  unfold zxN
  have hE : zxE t len s = zre (zyD t) len (zxS t len s) := by unfold zxE; rw [if_neg (by omega), if_neg (by omega), if_neg (by omega)]
  have := znm_rg (t := t) (S := zxS t len s) (zxE t len s - zxS t len s).toNat (fun i hi => by
    have := zrE_all (C := zyD t) (len := len) (len - zxS t len s).toNat (zxS t len s) (zxS t len s + i) (by omega) (by
      have e : zrE (zyD t) len (len - zxS t len s).toNat (zxS t len s) = zxE t len s := hE.symm
      rw [e]; omega)
    exact of_decide_eq_true this)
  omega
def zxo (t : Int → Int) (len s : Int) : Bool := decide (zxK t len s ≠ 2 ∨ (1 ≤ zxE t len s - zxS t len s ∧ zxE t len s - zxS t len s ≤ 4))
theorem zxo_t {t : Int → Int} {len s : Int} (h : zxo t len s = true) : zxO t len s := by
  unfold zxo at h
  have := of_decide_eq_true h
  unfold zxO
  intro q
  omega
theorem zxo_f {t : Int → Int} {len s : Int} (h : ¬ zxo t len s = true) : ¬ zxO t len s := by
  unfold zxo at h
  simp only [decide_eq_true_eq] at h
  unfold zxO
  intro q
  apply h
  by_cases c : zxK t len s = 2
  · right; exact q c
  · left; exact c
/-- the faults of a row, a number, a mark -/
def zfR (t : Int → Int) (len s : Int) (md : Int → Bool) : Int := if zxo t len s then (if (zxK t len s = 1 ∧ zxE t len s - zxS t len s = 1) ∧ 97 ≤ t (zxS t len s) ∧ t (zxS t len s) ≤ 104 then (if md (t (zxS t len s) - 97) then 0 else 4) else 2) else 1
def zfN (t : Int → Int) (len s lo hi : Int) : Int := if zxo t len s then (if zxK t len s = 2 then (if lo ≤ zxN t len s ∧ zxN t len s ≤ hi then 0 else 3) else 2) else 1
def zfM (t : Int → Int) (len s : Int) : Int := if zxo t len s then (if zxK t len s = 3 then 0 else 2) else 1
theorem c_refuse {P : zM} {k : Int} : qrd_refuse zK0 P 29 k = some (0, zu (zu P 29 3 k) 29 4 (P 29 7)) := by
  unfold qrd_refuse
  rw [zpf_ok rfl, Option.bind_some, zgf_ok rfl, Option.bind_some, zu_m (by decide), zpf_ok rfl, Option.bind_some]
def zIt (P P' : zM) (x f S E : Int) (V : Prop) : Prop := (∀ c i, ¬ (c = 29 ∧ 3 ≤ i ∧ i ≤ 8) → P' c i = P c i) ∧ (f = 0 → x = 1 ∧ V ∧ P' 29 5 = E ∧ P' 29 3 = P 29 3) ∧ (f ≠ 0 → x = 0 ∧ P' 29 3 = f ∧ P' 29 4 = S)
theorem zIt_r {P P1 : zM} {f S E : Int} {V : Prop} (hf : ∀ c i, ¬ (c = 29 ∧ 3 ≤ i ∧ i ≤ 8) → P1 c i = P c i) (f0 : f ≠ 0) (h7 : P1 29 7 = S) : zIt P (zu (zu P1 29 3 f) 29 4 (P1 29 7)) 0 f S E V := by
  refine ⟨fun c i h => ?_, fun q => absurd q f0, fun _ => ⟨rfl, ?_, ?_⟩⟩
  · rw [zu_at, if_neg (by omega), zu_at, if_neg (by omega)]; exact hf c i h
  · rw [zu_m (by decide), zu_e]
  · rw [zu_e, h7]
theorem c_row {P : zM} {n : Nat} {t : Int → Int} {len s a1 : Int} (hn : 1000000 ≤ n) (ht : ∀ i, 0 ≤ i → i < len → 0 ≤ t i ∧ t i ≤ 255) (l0 : 0 ≤ len) (l1 : len ≤ 240) (hT : zTP t len P) (hs : P 29 5 = s) (s0 : 0 ≤ s) (s1 : s ≤ len) (md : Int → Bool) (h31 : ∀ r, 0 ≤ r → r < 8 → -1 ≤ P 31 r ∧ P 31 r < 16) (hmd : ∀ r, 0 ≤ r → r < 8 → (md r = true ↔ (zw a1 = 0 ∨ 0 ≤ P 31 r))) : ∃ x P', qrd_takeRow n zK0 P 29 a1 = some (x, P') ∧ zIt P P' x (zfR t len s md) (zxS t len s) (zxE t len s) (P' 29 8 = t (zxS t len s) - 97) := by
  obtain ⟨q1, q2, q3, q4, q5, q6, q7⟩ := zxSE (t := t) s0 s1
  obtain ⟨x, P1, e1, e2, e3, e4, e5, e6, e7, e8⟩ := c_tok hn ht l0 l1 hT hs s0 s1
  unfold qrd_takeRow zfR
  rw [zgk_ok (r := 29) (ci := 5) (N := 9) rfl, Option.bind_some, e1, Option.bind_some]
  dsimp only
  by_cases o : zxo t len s = true
  rotate_left
  · obtain ⟨rfl, f1, f2⟩ := e8 (zxo_f o)
    rw [if_pos (by decide), if_neg o]
    exact ⟨_, _, rfl, e2, fun q => absurd q (by decide), fun _ => ⟨rfl, f1, f2⟩⟩
  obtain ⟨rfl, f1, f2⟩ := e7 (zxo_t o)
  have hT1 : zTP t len P1 := ⟨by rw [e2 29 0 (by omega), hT.1], by rw [e2 29 1 (by omega), hT.2.1], by rw [e2 29 2 (by omega), hT.2.2.1], fun i i0 i1 => by rw [e2 30 i (by omega), hT.2.2.2 i i0 i1]⟩
  rw [if_neg (by decide), if_pos o]
  rw [zgf_ok rfl, Option.bind_some, e5, zw_id (x := zxK t len s) (by omega) (by omega), zw_id (x := 1) (by decide) (by decide), zwit (a := -1) (by decide) (by decide) (by decide), c_refuse]
  have bad : ∀ X : Option (Unit ⊕ (Int × zM)), X = some (.inl ()) → ¬ ((zxK t len s = 1 ∧ zxE t len s - zxS t len s = 1) ∧ 97 ≤ t (zxS t len s) ∧ t (zxS t len s) ≤ 104) → ∀ Y : Unit → Option (Int × zM), Y () = some (0, zu (zu P1 29 3 2) 29 4 (P1 29 7)) → ∃ x P', zesc X Y = some (x, P') ∧ zIt P P' x (if (zxK t len s = 1 ∧ zxE t len s - zxS t len s = 1) ∧ 97 ≤ t (zxS t len s) ∧ t (zxS t len s) ≤ 104 then (if md (t (zxS t len s) - 97) then 0 else 4) else 2) (zxS t len s) (zxE t len s) (P' 29 8 = t (zxS t len s) - 97) := by
    rintro X rfl h Y hY
    rw [if_neg h]
    exact ⟨_, _, hY, zIt_r e2 (by decide) e4⟩
  by_cases c1 : zxK t len s = 1
  rotate_left
  · rw [if_neg c1]
    exact bad _ rfl (fun q => c1 q.1.1) _ rfl
  rw [if_pos c1, zgf_ok rfl, Option.bind_some, zgf_ok rfl, Option.bind_some, e3, e4, zw_id (x := zxE t len s - zxS t len s) (by omega) (by omega)]
  by_cases c2 : zxE t len s - zxS t len s = 1
  rotate_left
  · rw [if_neg c2]
    exact bad _ rfl (fun q => c2 q.1.2) _ (by rw [e4]; rfl)
  obtain ⟨S, hS⟩ : ∃ S, zxS t len s = S := ⟨_, rfl⟩
  rw [hS] at q1 q2 q4 q7 c2 e4 bad ⊢
  have hb := ht S (by omega) (by omega)
  have lt : 97 ≤ t S ∧ t S ≤ 122 := by
    have : zyL t S = true := by
      have hKd : zxK t len s = if len ≤ S then 0 else if t S = 59 then 3 else if zyL t S then 1 else 2 := by unfold zxK; rw [hS]
      rw [c1] at hKd
      by_cases w : zyL t S = true
      · exact w
      · rw [if_neg w] at hKd
        split at hKd
        · omega
        · split at hKd <;> omega
    exact of_decide_eq_true this
  have hb8 : zb8 (t S) = t S := by rw [zb8v hb.1 hb.2, if_pos (by omega)]
  rw [if_pos c2, hT1.g, Option.bind_some, Option.bind_some, zga_ok (N := 240) rfl (by decide) (by omega) (by omega), Option.bind_some, hT1.2.2.2 S (by omega) (by omega), hb8, Option.bind_some, zwit (by unfold zrg; omega) (by decide) (by decide), Option.bind_some]
  by_cases c3 : t S ≤ 104
  rotate_left
  · have hv : ¬ ((zxK t len s = 1 ∧ zxE t len s - S = 1) ∧ 97 ≤ t S ∧ t S ≤ 104) := fun q => c3 q.2.2
    rw [if_neg (show ¬ (0 ≤ t S - 97 ∧ t S - 97 ≤ 7) by omega), if_pos (show zw 0 = 0 by decide), if_neg hv]
    exact ⟨_, _, rfl, by have := zIt_r (V := (zu (zu P1 29 3 2) 29 4 S) 29 8 = t S - 97) (E := zxE t len s) e2 (show (2 : Int) ≠ 0 by decide) e4; rw [e4] at this; exact this⟩
  have hv : ((zxK t len s = 1 ∧ zxE t len s - S = 1) ∧ 97 ≤ t S ∧ t S ≤ 104) := ⟨⟨c1, c2⟩, lt.1, c3⟩
  rw [if_pos (show 0 ≤ t S - 97 ∧ t S - 97 ≤ 7 by omega), if_neg (show ¬ zw 1 = 0 by decide), if_pos hv]
  have m31 := h31 (t S - 97) (by omega) (by omega)
  have mm := hmd (t S - 97) (by omega) (by omega)
  by_cases c4 : zw a1 = 0
  · rw [if_pos c4, if_pos (mm.2 (Or.inl c4))]
    refine ⟨1, zu P1 29 8 (t S - 97), rfl, fun c i h => by rw [zu_at, if_neg (by omega)]; exact e2 c i h, fun _ => ⟨rfl, zu_e _ _ _ _, by rw [zu_m (by decide), e3], by rw [zu_m (by decide), f1]⟩, fun q => absurd rfl q⟩
  · rw [if_neg c4, hT1.g1, Option.bind_some, zga_ok (N := 8) rfl (by decide) (by omega) (by omega), Option.bind_some, e2 31 _ (by omega), zw_id (x := P 31 (t S - 97)) (by omega) (by omega)]
    by_cases c5 : 0 ≤ P 31 (t S - 97)
    · rw [if_pos c5, if_pos (mm.2 (Or.inr c5))]
      refine ⟨1, zu P1 29 8 (t S - 97), rfl, fun c i h => by rw [zu_at, if_neg (by omega)]; exact e2 c i h, fun _ => ⟨rfl, zu_e _ _ _ _, by rw [zu_m (by decide), e3], by rw [zu_m (by decide), f1]⟩, fun q => absurd rfl q⟩
    · have hm : ¬ md (t S - 97) = true := by
        intro q
        rcases mm.1 q with q | q
        · exact c4 q
        · exact c5 q
      rw [if_neg c5, if_neg hm]
      exact ⟨0, zu (zu P1 29 3 4) 29 4 (P1 29 7), by rw [c_refuse]; rfl, zIt_r e2 (by decide) e4⟩
theorem c_number {P : zM} {n : Nat} {t : Int → Int} {len s lo hi : Int} (hn : 1000000 ≤ n) (ht : ∀ i, 0 ≤ i → i < len → 0 ≤ t i ∧ t i ≤ 255) (l0 : 0 ≤ len) (l1 : len ≤ 240) (hT : zTP t len P) (hs : P 29 5 = s) (s0 : 0 ≤ s) (s1 : s ≤ len) (g1 : zrg lo) (g2 : zrg hi) : ∃ x P', qrd_takeNumber n zK0 P 29 lo hi = some (x, P') ∧ zIt P P' x (zfN t len s lo hi) (zxS t len s) (zxE t len s) (P' 29 8 = zxN t len s) := by
  obtain ⟨q1, q2, q3, q4, q5, q6, q7⟩ := zxSE (t := t) s0 s1
  obtain ⟨x, P1, e1, e2, e3, e4, e5, e6, e7, e8⟩ := c_tok hn ht l0 l1 hT hs s0 s1
  unfold qrd_takeNumber zfN
  rw [zgk_ok (r := 29) (ci := 5) (N := 9) rfl, Option.bind_some, e1, Option.bind_some]
  dsimp only
  by_cases o : zxo t len s = true
  rotate_left
  · obtain ⟨rfl, f1, f2⟩ := e8 (zxo_f o)
    rw [if_pos (by decide), if_neg o]
    exact ⟨_, _, rfl, e2, fun q => absurd q (by decide), fun _ => ⟨rfl, f1, f2⟩⟩
  obtain ⟨rfl, f1, f2⟩ := e7 (zxo_t o)
  rw [if_neg (by decide), if_pos o, zgf_ok rfl, Option.bind_some, e5, zw_id (x := zxK t len s) (by omega) (by omega), zw_id (x := 2) (by decide) (by decide)]
  by_cases c1 : zxK t len s = 2
  rotate_left
  · rw [if_neg c1, if_neg c1, Option.bind_some, c_refuse, Option.bind_some]
    exact ⟨0, zu (zu P1 29 3 2) 29 4 (P1 29 7), rfl, zIt_r e2 (by decide) e4⟩
  have nr := zxN_rg c1
  rw [if_pos c1, if_pos c1, zgf_ok rfl, Option.bind_some, e6 c1, zwit (by unfold zrg; omega) g1 g2, Option.bind_some]
  by_cases c2 : lo ≤ zxN t len s ∧ zxN t len s ≤ hi
  · rw [if_pos c2, if_pos c2, if_neg (by decide)]
    exact ⟨1, P1, rfl, e2, fun _ => ⟨rfl, e6 c1, e3, f1⟩, fun q => absurd rfl q⟩
  · rw [if_neg c2, if_neg c2, if_pos (by decide), Option.bind_some, c_refuse, Option.bind_some]
    exact ⟨0, zu (zu P1 29 3 3) 29 4 (P1 29 7), rfl, zIt_r e2 (by decide) e4⟩
theorem c_mark {P : zM} {n : Nat} {t : Int → Int} {len s : Int} (hn : 1000000 ≤ n) (ht : ∀ i, 0 ≤ i → i < len → 0 ≤ t i ∧ t i ≤ 255) (l0 : 0 ≤ len) (l1 : len ≤ 240) (hT : zTP t len P) (hs : P 29 5 = s) (s0 : 0 ≤ s) (s1 : s ≤ len) : ∃ x P', qrd_takeMark n zK0 P 29 = some (x, P') ∧ zIt P P' x (zfM t len s) (zxS t len s) (zxE t len s) True := by
  obtain ⟨q1, q2, q3, q4, q5, q6, q7⟩ := zxSE (t := t) s0 s1
  obtain ⟨x, P1, e1, e2, e3, e4, e5, e6, e7, e8⟩ := c_tok hn ht l0 l1 hT hs s0 s1
  unfold qrd_takeMark zfM
  rw [zgk_ok (r := 29) (ci := 5) (N := 9) rfl, Option.bind_some, e1, Option.bind_some]
  dsimp only
  by_cases o : zxo t len s = true
  rotate_left
  · obtain ⟨rfl, f1, f2⟩ := e8 (zxo_f o)
    rw [if_pos (by decide), if_neg o]
    exact ⟨_, _, rfl, e2, fun q => absurd q (by decide), fun _ => ⟨rfl, f1, f2⟩⟩
  obtain ⟨rfl, f1, f2⟩ := e7 (zxo_t o)
  rw [if_neg (by decide), if_pos o, zgf_ok rfl, Option.bind_some, e5, zw_id (x := zxK t len s) (by omega) (by omega), zw_id (x := 3) (by decide) (by decide)]
  by_cases c1 : zxK t len s = 3
  · rw [if_pos c1, if_pos c1]
    exact ⟨1, P1, rfl, e2, fun _ => ⟨rfl, trivial, e3, f1⟩, fun q => absurd rfl q⟩
  · rw [if_neg c1, if_neg c1, Option.bind_some, c_refuse, Option.bind_some]
    exact ⟨0, zu (zu P1 29 3 2) 29 4 (P1 29 7), rfl, zIt_r e2 (by decide) e4⟩
