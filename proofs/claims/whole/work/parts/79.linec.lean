/-- what the program keeps while it reads -/
def zFC (d : Int) (M P : zM) : Prop := ∀ c i, ¬ (c = 29 ∧ 3 ≤ i ∧ i ≤ 8) → c ≠ 31 → ¬ (c = d ∧ i = 6) → ¬ (d + 1 ≤ c ∧ c ≤ d + 6) → P c i = M c i
def zBC (t : Int → Int) (len d : Int) (M : zM) : Prop := zTP t len M ∧ (d = 46 ∨ d = 53) ∧ M d 0 = d + 1 ∧ M d 1 = d + 2 ∧ M d 2 = d + 3 ∧ M d 3 = d + 4 ∧ M d 4 = d + 5 ∧ M d 5 = d + 6
theorem zFC.tp {t : Int → Int} {len d : Int} {M P : zM} (hB : zBC t len d M) (h : zFC d M P) : zTP t len P := by
  obtain ⟨⟨h1, h2, h3, h4⟩, hd, -⟩ := hB
  exact ⟨by rw [h 29 0 (by omega) (by omega) (by omega) (by omega), h1], by rw [h 29 1 (by omega) (by omega) (by omega) (by omega), h2], by rw [h 29 2 (by omega) (by omega) (by omega) (by omega), h3], fun i i0 i1 => by rw [h 30 i (by omega) (by omega) (by omega) (by omega), h4 i i0 i1]⟩
theorem zFC.pt {t : Int → Int} {len d : Int} {M P : zM} (hB : zBC t len d M) (h : zFC d M P) : zgr zK0 P 3 7 d 0 = some (d + 1) ∧ zgr zK0 P 3 7 d 1 = some (d + 2) ∧ zgr zK0 P 3 7 d 2 = some (d + 3) ∧ zgr zK0 P 3 7 d 3 = some (d + 4) ∧ zgr zK0 P 3 7 d 4 = some (d + 5) ∧ zgr zK0 P 3 7 d 5 = some (d + 6) := by
  obtain ⟨-, hd, h0, h1, h2, h3, h4, h5⟩ := hB
  obtain ⟨y1, -⟩ := zprK hd
  have f : ∀ i, i ≠ 6 → P d i = M d i := fun i hi => h d i (by omega) (by omega) (by omega) (by omega)
  exact ⟨zgr_ok y1 (by rw [f 0 (by decide), h0]) (by omega), zgr_ok y1 (by rw [f 1 (by decide), h1]) (by omega), zgr_ok y1 (by rw [f 2 (by decide), h2]) (by omega), zgr_ok y1 (by rw [f 3 (by decide), h3]) (by omega), zgr_ok y1 (by rw [f 4 (by decide), h4]) (by omega), zgr_ok y1 (by rw [f 5 (by decide), h5]) (by omega)⟩
theorem zFC.it {d : Int} {M P P' : zM} (h : zFC d M P) (hf : ∀ c i, ¬ (c = 29 ∧ 3 ≤ i ∧ i ≤ 8) → P' c i = P c i) : zFC d M P' := by
  intro c i h1 h2 h3 h4
  rw [hf c i h1]
  exact h c i h1 h2 h3 h4
theorem zFC.up {d : Int} {M P : zM} {q k v : Int} (h : zFC d M P) (q0 : 1 ≤ q) (q1 : q ≤ 6) : zFC d M (zu P (d + q) k v) := by
  intro c i h1 h2 h3 h4
  rw [zu_at, if_neg (by omega)]
  exact h c i h1 h2 h3 h4
theorem zKr {kd : Int} (h0 : 0 ≤ kd) (h1 : kd ≤ 3) : zw kd = kd := zw_id (by omega) (by omega)
def zsA (kd m1 m2 : Int) : Int := if kd = 1 then m1 else if kd = 0 then -1 else m2
def zsB (kd m3 : Int) : Int := if kd ≤ 1 then -1 else m3
/-- what a line leaves -/
def zLn (d k : Int) (P P' : zM) (kd w1 w2 w3 sA sB e4 : Int) : Prop := P' 29 5 = e4 ∧ P' 29 3 = P 29 3 ∧ P' (d + 1) k = kd ∧ P' (d + 2) k = w1 ∧ P' (d + 3) k = w2 ∧ P' (d + 4) k = w3 ∧ P' (d + 5) k = sA ∧ P' (d + 6) k = sB ∧ ∀ q i, 1 ≤ q → q ≤ 6 → i ≠ k → P' (d + q) i = P (d + q) i
/-- an item as the program reads it -/
def zIc (t : Int → Int) (len : Int) (mk : Int → Int) (it : zM → Option (Int × zM)) (s f w : Int) : Prop := ∀ P, zTP t len P → (∀ r, P 31 r = mk r) → P 29 5 = s → ∃ x P', it P = some (x, P') ∧ zIt P P' x f (zxS t len s) (zxE t len s) (P' 29 8 = w)
theorem c_lineM {t : Int → Int} {len d kd k s1 f1 f2 f3 w1 w2 w3 : Int} {mk : Int → Int} {M P : zM} {n : Nat} (hn : 1000000 ≤ n) (ht : ∀ i, 0 ≤ i → i < len → 0 ≤ t i ∧ t i ≤ 255) (l0 : 0 ≤ len) (l1 : len ≤ 240) (hB : zBC t len d M) (hP : zFC d M P) (k0 : 0 ≤ k) (k1 : k < 16) (d0 : 0 ≤ kd) (d1 : kd ≤ 1) (s0 : 0 ≤ s1) (s1' : s1 ≤ len) (h5 : P 29 5 = s1) (h31 : ∀ r, P 31 r = mk r) (w1r : f1 = 0 → 0 ≤ w1 ∧ w1 < 8)
    (i1 : zIc t len mk (fun P => qrd_takeRow n zK0 P 29 (if kd = 1 then 1 else 0)) s1 f1 w1) (i2 : zIc t len mk (fun P => qrd_takeNumber n zK0 P 29 0 999) (zxE t len s1) f2 w2) (i3 : zIc t len mk (fun P => qrd_takeNumber n zK0 P 29 1 99) (zxE t len (zxE t len s1)) f3 w3) :
    ∃ x P', qrd_readLine n zK0 P 29 d kd k = some (x, P') ∧ zFC d M P' ∧ (∀ r, P' 31 r = mk r) ∧ P' d 6 = P d 6 ∧
      (f1 = 0 → f2 = 0 → f3 = 0 → zfM t len (zxE t len (zxE t len (zxE t len s1))) = 0 → x = 1 ∧ zLn d k P P' kd w1 w2 w3 (zsA kd (mk w1) (mk w2)) (zsB kd (mk w3)) (zxE t len (zxE t len (zxE t len (zxE t len s1))))) ∧
      ∀ f S, zFst f1 f2 f3 (zfM t len (zxE t len (zxE t len (zxE t len s1)))) (zxS t len s1) (zxS t len (zxE t len s1)) (zxS t len (zxE t len (zxE t len s1))) (zxS t len (zxE t len (zxE t len (zxE t len s1)))) f S → x = 0 ∧ P' 29 3 = f ∧ P' 29 4 = S := by
  obtain ⟨a1, a2, a3, -, -, -, -⟩ := zxSE (t := t) s0 s1'
  obtain ⟨b1, b2, b3, -, -, -, -⟩ := zxSE (t := t) (s := zxE t len s1) (by omega) a3
  obtain ⟨c1, c2, c3, -, -, -, -⟩ := zxSE (t := t) (s := zxE t len (zxE t len s1)) (by omega) b3
  have hd := hB.2.1
  obtain ⟨y1, y2, y3, y4, y5, y6, y7⟩ := zprK hd
  unfold qrd_readLine
  have hX : (if zw kd = 0 then (some (.inl ()) : Option (Unit ⊕ (Int × zM))) else if zw kd = zw 1 then some (.inl ()) else none) = some (.inl ()) := by
    rw [zKr d0 (by omega), zw_id (x := 1) (by decide) (by decide)]
    by_cases w : kd = 0
    · rw [if_pos w]
    · rw [if_neg w, if_pos (by omega)]
  have hJ : (if kd = 1 then some (1 : Int) else some 0) = some (if kd = 1 then 1 else 0) := by
    by_cases w : kd = 1
    · rw [if_pos w, if_pos w]
    · rw [if_neg w, if_neg w]
  have hz : ∀ (X : Option (Unit ⊕ (Int × zM))) (Y : Unit → Option (Int × zM)), zesc (if zw kd = 0 then some (.inl ()) else if zw kd = zw 1 then some (.inl ()) else X) Y = Y () := by
    intro X Y
    rw [zKr d0 (by omega), zw_id (x := 1) (by decide) (by decide)]
    by_cases w : kd = 0
    · rw [if_pos w]; rfl
    · rw [if_neg w, if_pos (by omega)]; rfl
  rw [hz, zKr d0 (by omega), zw_id (x := 1) (by decide) (by decide), hJ, Option.bind_some, zgk_ok (r := 29) (ci := 5) (N := 9) rfl, Option.bind_some]
  obtain ⟨x1, P1, e1, r1, r2, r3⟩ := i1 P (hP.tp hB) h31 h5
  dsimp only at e1
  have f1' := hP.it r1
  have m1 : ∀ r, P1 31 r = mk r := fun r => by rw [r1 31 r (by omega), h31 r]
  rw [e1, Option.bind_some]
  dsimp only
  by_cases z1 : f1 = 0
  rotate_left
  · obtain ⟨rfl, q1, q2⟩ := r3 z1
    rw [if_pos (show zw 0 = 0 by decide)]
    refine ⟨0, P1, rfl, f1', m1, r1 d 6 (by omega), fun q => absurd q z1, ?_⟩
    rintro f S (⟨-, rfl, rfl⟩ | ⟨q, -⟩ | ⟨q, -⟩ | ⟨q, -⟩)
    · exact ⟨rfl, q1, q2⟩
    all_goals exact absurd q z1
  obtain ⟨rfl, q1, q2, q3⟩ := r2 z1
  have w1r' := w1r z1
  have g1 := f1'.pt hB
  have g1b := (f1'.up (q := 1) (k := k) (v := kd) (by omega) (by omega))
  have g1c := (g1b.up (q := 2) (k := k) (v := w1) (by omega) (by omega))
  have hj10 : (if kd = 1 then
      (zgr zK0 (zu (zu P1 (d + 1) k kd) (d + 2) k w1) 5 9 29 1).bind fun r41 =>
      (zgf zK0 (zu (zu P1 (d + 1) k kd) (d + 2) k w1) 5 9 29 8).bind fun v42 =>
      (zga zK0 (zu (zu P1 (d + 1) k kd) (d + 2) k w1) 100 r41 v42).bind fun v43 =>
      some v43
    else
      some (-1) : Option (Int)) = some (if kd = 1 then mk w1 else -1) := by
    by_cases w : kd = 1
    · rw [if_pos w, if_pos w, (g1c.tp hB).g1, Option.bind_some, zgf_ok rfl, Option.bind_some, zu_n (by omega), zu_n (by omega), q1, zga_ok (N := 8) rfl (by decide) w1r'.1 (by omega), Option.bind_some, zu_n (by omega), zu_n (by omega), m1]
    · rw [if_neg w, if_neg w]
  have g1d := (g1c.up (q := 5) (k := k) (v := (if kd = 1 then mk w1 else -1)) (by omega) (by omega))
  have g1e := (g1d.up (q := 6) (k := k) (v := -1) (by omega) (by omega))
  rw [if_neg (show ¬ zw 1 = 0 by decide), g1.1, Option.bind_some, zpa_ok (N := 16) y2 (by decide) k0 (by omega), Option.bind_some, (g1b.pt hB).2.1, Option.bind_some, zgf_ok rfl, Option.bind_some, zu_n (show (29 : Int) ≠ d + 1 by omega), q1, zpa_ok (N := 16) y3 (by decide) k0 (by omega), Option.bind_some, (g1c.pt hB).2.2.2.2.1, Option.bind_some, hj10, Option.bind_some, zpa_ok (N := 16) y6 (by decide) k0 (by omega), Option.bind_some, (g1d.pt hB).2.2.2.2.2, Option.bind_some, zpa_ok (N := 16) y7 (by decide) k0 (by omega), Option.bind_some]
  have A5 : zu (zu (zu (zu P1 (d + 1) k kd) (d + 2) k w1) (d + 5) k (if kd = 1 then mk w1 else -1)) (d + 6) k (-1) 29 5 = zxE t len s1 := by rw [zu_n (by omega), zu_n (by omega), zu_n (by omega), zu_n (by omega), q2]
  have A3 : zu (zu (zu (zu P1 (d + 1) k kd) (d + 2) k w1) (d + 5) k (if kd = 1 then mk w1 else -1)) (d + 6) k (-1) 29 3 = P 29 3 := by rw [zu_n (by omega), zu_n (by omega), zu_n (by omega), zu_n (by omega), q3]
  have A31 : ∀ r, zu (zu (zu (zu P1 (d + 1) k kd) (d + 2) k w1) (d + 5) k (if kd = 1 then mk w1 else -1)) (d + 6) k (-1) 31 r = mk r := fun r => by rw [zu_n (by omega), zu_n (by omega), zu_n (by omega), zu_n (by omega), m1]
  have Ad : zu (zu (zu (zu P1 (d + 1) k kd) (d + 2) k w1) (d + 5) k (if kd = 1 then mk w1 else -1)) (d + 6) k (-1) d 6 = P d 6 := by rw [zu_n (by omega), zu_n (by omega), zu_n (by omega), zu_n (by omega), r1 d 6 (by omega)]
  have A1 : zu (zu (zu (zu P1 (d + 1) k kd) (d + 2) k w1) (d + 5) k (if kd = 1 then mk w1 else -1)) (d + 6) k (-1) (d + 1) k = kd := by rw [zu_n (by omega), zu_n (by omega), zu_n (by omega), zu_e]
  have A2 : zu (zu (zu (zu P1 (d + 1) k kd) (d + 2) k w1) (d + 5) k (if kd = 1 then mk w1 else -1)) (d + 6) k (-1) (d + 2) k = w1 := by rw [zu_n (by omega), zu_n (by omega), zu_e]
  have A5k : zu (zu (zu (zu P1 (d + 1) k kd) (d + 2) k w1) (d + 5) k (if kd = 1 then mk w1 else -1)) (d + 6) k (-1) (d + 5) k = (if kd = 1 then mk w1 else -1) := by rw [zu_n (by omega), zu_e]
  have A6k : zu (zu (zu (zu P1 (d + 1) k kd) (d + 2) k w1) (d + 5) k (if kd = 1 then mk w1 else -1)) (d + 6) k (-1) (d + 6) k = -1 := by rw [zu_e]
  have Ai : ∀ q i, 1 ≤ q → q ≤ 6 → i ≠ k → zu (zu (zu (zu P1 (d + 1) k kd) (d + 2) k w1) (d + 5) k (if kd = 1 then mk w1 else -1)) (d + 6) k (-1) (d + q) i = P (d + q) i := fun q i _ _ hi => by rw [zu_m hi, zu_m hi, zu_m hi, zu_m hi, r1 (d + q) i (by omega)]
  obtain ⟨A, hA⟩ : ∃ A, zu (zu (zu (zu P1 (d + 1) k kd) (d + 2) k w1) (d + 5) k (if kd = 1 then mk w1 else -1)) (d + 6) k (-1) = A := ⟨_, rfl⟩
  rw [hA] at g1e A5 A3 A31 Ad A1 A2 A5k A6k Ai ⊢
  obtain ⟨x2, P2, e2, u1, u2, u3⟩ := i2 A (g1e.tp hB) A31 A5
  dsimp only at e2
  have f2' := g1e.it u1
  have m2 : ∀ r, P2 31 r = mk r := fun r => by rw [u1 31 r (by omega), A31 r]
  rw [if_neg (show ¬ (1 : Int) = 0 by decide), Option.bind_some, e2, Option.bind_some]
  dsimp only
  by_cases z2 : f2 = 0
  rotate_left
  · obtain ⟨rfl, v1, v2⟩ := u3 z2
    rw [if_pos (show zw 0 = 0 by decide)]
    refine ⟨0, P2, rfl, f2', m2, by rw [u1 d 6 (by omega), Ad], fun _ q => absurd q z2, ?_⟩
    rintro f S (⟨q, -⟩ | ⟨-, -, rfl, rfl⟩ | ⟨-, q, -⟩ | ⟨-, q, -⟩)
    · exact absurd z1 q
    · exact ⟨rfl, v1, v2⟩
    all_goals exact absurd q z2
  obtain ⟨rfl, v1, v2, v3⟩ := u2 z2
  have g2 := (f2'.up (q := 3) (k := k) (v := w2) (by omega) (by omega))
  rw [if_neg (show ¬ zw 1 = 0 by decide)]
  unfold zesc
  dsimp only
  rw [(f2'.pt hB).2.2.1, Option.bind_some, zgf_ok rfl, Option.bind_some, v1, zpa_ok (N := 16) y4 (by decide) k0 (by omega), Option.bind_some]
  have B5 : zu P2 (d + 3) k w2 29 5 = zxE t len (zxE t len s1) := by rw [zu_n (by omega), v2]
  have B3 : zu P2 (d + 3) k w2 29 3 = P 29 3 := by rw [zu_n (by omega), v3, A3]
  have B31 : ∀ r, zu P2 (d + 3) k w2 31 r = mk r := fun r => by rw [zu_n (by omega), m2]
  have Bd : zu P2 (d + 3) k w2 d 6 = P d 6 := by rw [zu_n (by omega), u1 d 6 (by omega), Ad]
  have Bq : ∀ q i, 1 ≤ q → q ≤ 6 → (q ≠ 3 ∨ i ≠ k) → zu P2 (d + 3) k w2 (d + q) i = A (d + q) i := fun q i _ _ hi => by
    rw [zu_at, if_neg (by omega), u1 (d + q) i (by omega)]
  have B3k : zu P2 (d + 3) k w2 (d + 3) k = w2 := zu_e _ _ _ _
  obtain ⟨B, hBB⟩ : ∃ B, zu P2 (d + 3) k w2 = B := ⟨_, rfl⟩
  rw [hBB] at g2 B5 B3 B31 Bd Bq B3k ⊢
  obtain ⟨x3, P3, e3, t1, t2, t3⟩ := i3 B (g2.tp hB) B31 B5
  dsimp only at e3
  have f3' := g2.it t1
  have m3 : ∀ r, P3 31 r = mk r := fun r => by rw [t1 31 r (by omega), B31 r]
  rw [if_neg (show ¬ (1 : Int) = 0 by decide), Option.bind_some, e3, Option.bind_some]
  dsimp only
  by_cases z3 : f3 = 0
  rotate_left
  · obtain ⟨rfl, o1, o2⟩ := t3 z3
    rw [if_pos (show zw 0 = 0 by decide)]
    refine ⟨0, P3, rfl, f3', m3, by rw [t1 d 6 (by omega), Bd], fun _ _ q => absurd q z3, ?_⟩
    rintro f S (⟨q, -⟩ | ⟨-, q, -⟩ | ⟨-, -, -, rfl, rfl⟩ | ⟨-, -, q, -⟩)
    · exact absurd z1 q
    · exact absurd z2 q
    · exact ⟨rfl, o1, o2⟩
    · exact absurd q z3
  obtain ⟨rfl, o1, o2, o3⟩ := t2 z3
  have g3 := (f3'.up (q := 4) (k := k) (v := w3) (by omega) (by omega))
  rw [if_neg (show ¬ zw 1 = 0 by decide)]
  dsimp only
  rw [(f3'.pt hB).2.2.2.1, Option.bind_some, zgf_ok rfl, Option.bind_some, o1, zpa_ok (N := 16) y5 (by decide) k0 (by omega), Option.bind_some]
  have C5 : zu P3 (d + 4) k w3 29 5 = zxE t len (zxE t len (zxE t len s1)) := by rw [zu_n (by omega), o2]
  have C3 : zu P3 (d + 4) k w3 29 3 = P 29 3 := by rw [zu_n (by omega), o3, B3]
  have C31 : ∀ r, zu P3 (d + 4) k w3 31 r = mk r := fun r => by rw [zu_n (by omega), m3]
  have Cd : zu P3 (d + 4) k w3 d 6 = P d 6 := by rw [zu_n (by omega), t1 d 6 (by omega), Bd]
  have Cq : ∀ q i, 1 ≤ q → q ≤ 6 → (q ≠ 4 ∨ i ≠ k) → zu P3 (d + 4) k w3 (d + q) i = B (d + q) i := fun q i _ _ hi => by
    rw [zu_at, if_neg (by omega), t1 (d + q) i (by omega)]
  have C4k : zu P3 (d + 4) k w3 (d + 4) k = w3 := zu_e _ _ _ _
  obtain ⟨C, hCC⟩ : ∃ C, zu P3 (d + 4) k w3 = C := ⟨_, rfl⟩
  rw [hCC] at g3 C5 C3 C31 Cd Cq C4k ⊢
  have hD : zFC d M C ∧ C 29 5 = zxE t len (zxE t len (zxE t len s1)) ∧ C 29 3 = P 29 3 ∧ (∀ r, C 31 r = mk r) ∧ C d 6 = P d 6 ∧ C (d + 1) k = kd ∧ C (d + 2) k = w1 ∧ C (d + 3) k = w2 ∧ C (d + 4) k = w3 ∧ C (d + 5) k = zsA kd (mk w1) (mk w2) ∧ C (d + 6) k = zsB kd (mk w3) ∧ ∀ q i, 1 ≤ q → q ≤ 6 → i ≠ k → C (d + q) i = P (d + q) i := by
    refine ⟨g3, C5, C3, C31, Cd, by rw [Cq 1 k (by omega) (by omega) (Or.inl (by decide)), Bq 1 k (by omega) (by omega) (Or.inl (by decide)), A1], by rw [Cq 2 k (by omega) (by omega) (Or.inl (by decide)), Bq 2 k (by omega) (by omega) (Or.inl (by decide)), A2], by rw [Cq 3 k (by omega) (by omega) (Or.inl (by decide)), B3k], C4k, ?_, ?_, fun q i q0 q1 hi => by rw [Cq q i q0 q1 (Or.inr hi), Bq q i q0 q1 (Or.inr hi), Ai q i q0 q1 hi]⟩
    · rw [Cq 5 k (by omega) (by omega) (Or.inl (by decide)), Bq 5 k (by omega) (by omega) (Or.inl (by decide)), A5k]
      unfold zsA
      by_cases w : kd = 1
      · rw [if_pos w, if_pos w]
      · rw [if_neg w, if_neg w, if_pos (by omega)]
    · rw [Cq 6 k (by omega) (by omega) (Or.inl (by decide)), Bq 6 k (by omega) (by omega) (Or.inl (by decide)), A6k]
      unfold zsB
      rw [if_pos d1]
  rw [if_neg (show ¬ (1 : Int) = 0 by decide), Option.bind_some, Option.bind_some]
  obtain ⟨D0, D5, D3, D31, Dd, D1, D2, D3', D4, D5', D6, Dq⟩ := hD
  obtain ⟨x4, P4, e4, v1', v2', v3'⟩ := c_mark hn ht l0 l1 (D0.tp hB) D5 (by omega) c3
  rw [e4, Option.bind_some]
  dsimp only
  have f4' := D0.it v1'
  have m4 : ∀ r, P4 31 r = mk r := fun r => by rw [v1' 31 r (by omega), D31 r]
  have d4 : P4 d 6 = P d 6 := by rw [v1' d 6 (by omega), Dd]
  by_cases z4 : zfM t len (zxE t len (zxE t len (zxE t len s1))) = 0
  · obtain ⟨rfl, -, p2, p3⟩ := v2' z4
    refine ⟨1, P4, rfl, f4', m4, d4, fun _ _ _ _ => ⟨rfl, p2, by rw [p3, D3], by rw [v1' _ k (by omega), D1], by rw [v1' _ k (by omega), D2], by rw [v1' _ k (by omega), D3'], by rw [v1' _ k (by omega), D4], by rw [v1' _ k (by omega), D5'], by rw [v1' _ k (by omega), D6], fun q i q0 q1 hi => by rw [v1' _ i (by omega), Dq q i q0 q1 hi]⟩, ?_⟩
    rintro f S (⟨q, -⟩ | ⟨-, q, -⟩ | ⟨-, -, q, -⟩ | ⟨-, -, -, q, -⟩)
    · exact absurd z1 q
    · exact absurd z2 q
    · exact absurd z3 q
    · exact absurd z4 q
  · obtain ⟨rfl, p2, p3⟩ := v3' z4
    refine ⟨0, P4, rfl, f4', m4, d4, fun _ _ _ q => absurd q z4, ?_⟩
    rintro f S (⟨q, -⟩ | ⟨-, q, -⟩ | ⟨-, -, q, -⟩ | ⟨-, -, -, -, rfl, rfl⟩)
    · exact absurd z1 q
    · exact absurd z2 q
    · exact absurd z3 q
    · exact ⟨rfl, p2, p3⟩
theorem c_lineA {t : Int → Int} {len d kd k s1 f1 f2 f3 w1 w2 w3 : Int} {mk : Int → Int} {M P : zM} {n : Nat} (hn : 1000000 ≤ n) (ht : ∀ i, 0 ≤ i → i < len → 0 ≤ t i ∧ t i ≤ 255) (l0 : 0 ≤ len) (l1 : len ≤ 240) (hB : zBC t len d M) (hP : zFC d M P) (k0 : 0 ≤ k) (k1 : k < 16) (d0 : 2 ≤ kd) (d1 : kd ≤ 3) (s0 : 0 ≤ s1) (s1' : s1 ≤ len) (h5 : P 29 5 = s1) (h31 : ∀ r, P 31 r = mk r) (w1r : f1 = 0 → 0 ≤ w1 ∧ w1 < 8) (w2r : f2 = 0 → 0 ≤ w2 ∧ w2 < 8) (w3r : f3 = 0 → 0 ≤ w3 ∧ w3 < 8)
    (i1 : zIc t len mk (fun P => qrd_takeRow n zK0 P 29 0) s1 f1 w1) (i2 : zIc t len mk (fun P => qrd_takeRow n zK0 P 29 1) (zxE t len s1) f2 w2) (i3 : zIc t len mk (fun P => qrd_takeRow n zK0 P 29 1) (zxE t len (zxE t len s1)) f3 w3) :
    ∃ x P', qrd_readLine n zK0 P 29 d kd k = some (x, P') ∧ zFC d M P' ∧ (∀ r, P' 31 r = mk r) ∧ P' d 6 = P d 6 ∧
      (f1 = 0 → f2 = 0 → f3 = 0 → zfM t len (zxE t len (zxE t len (zxE t len s1))) = 0 → x = 1 ∧ zLn d k P P' kd w1 w2 w3 (zsA kd (mk w1) (mk w2)) (zsB kd (mk w3)) (zxE t len (zxE t len (zxE t len (zxE t len s1))))) ∧
      ∀ f S, zFst f1 f2 f3 (zfM t len (zxE t len (zxE t len (zxE t len s1)))) (zxS t len s1) (zxS t len (zxE t len s1)) (zxS t len (zxE t len (zxE t len s1))) (zxS t len (zxE t len (zxE t len (zxE t len s1)))) f S → x = 0 ∧ P' 29 3 = f ∧ P' 29 4 = S := by
  obtain ⟨a1, a2, a3, -, -, -, -⟩ := zxSE (t := t) s0 s1'
  obtain ⟨b1, b2, b3, -, -, -, -⟩ := zxSE (t := t) (s := zxE t len s1) (by omega) a3
  obtain ⟨c1, c2, c3, -, -, -, -⟩ := zxSE (t := t) (s := zxE t len (zxE t len s1)) (by omega) b3
  have hd := hB.2.1
  obtain ⟨y1, y2, y3, y4, y5, y6, y7⟩ := zprK hd
  unfold qrd_readLine
  rw [zKr (by omega) d1, zw_id (x := 1) (by decide) (by decide), if_neg (show ¬ kd = 0 by omega), if_neg (show ¬ kd = 1 by omega), if_neg (show ¬ kd = 1 by omega), Option.bind_some, zgk_ok (r := 29) (ci := 5) (N := 9) rfl, Option.bind_some]
  obtain ⟨x1, P1, e1, r1, r2, r3⟩ := i1 P (hP.tp hB) h31 h5
  dsimp only at e1
  have f1' := hP.it r1
  have m1 : ∀ r, P1 31 r = mk r := fun r => by rw [r1 31 r (by omega), h31 r]
  rw [e1, Option.bind_some]
  dsimp only
  by_cases z1 : f1 = 0
  rotate_left
  · obtain ⟨rfl, q1, q2⟩ := r3 z1
    rw [if_pos (show zw 0 = 0 by decide)]
    refine ⟨0, P1, rfl, f1', m1, r1 d 6 (by omega), fun q => absurd q z1, ?_⟩
    rintro f S (⟨-, rfl, rfl⟩ | ⟨q, -⟩ | ⟨q, -⟩ | ⟨q, -⟩)
    · exact ⟨rfl, q1, q2⟩
    all_goals exact absurd q z1
  obtain ⟨rfl, q1, q2, q3⟩ := r2 z1
  have w1r' := w1r z1
  have g1 := f1'.pt hB
  have g1b := (f1'.up (q := 1) (k := k) (v := kd) (by omega) (by omega))
  have g1c := (g1b.up (q := 2) (k := k) (v := w1) (by omega) (by omega))
  have g1d := (g1c.up (q := 5) (k := k) (v := (-1)) (by omega) (by omega))
  have g1e := (g1d.up (q := 6) (k := k) (v := -1) (by omega) (by omega))
  rw [if_neg (show ¬ zw 1 = 0 by decide), g1.1, Option.bind_some, zpa_ok (N := 16) y2 (by decide) k0 (by omega), Option.bind_some, (g1b.pt hB).2.1, Option.bind_some, zgf_ok rfl, Option.bind_some, zu_n (show (29 : Int) ≠ d + 1 by omega), q1, zpa_ok (N := 16) y3 (by decide) k0 (by omega), Option.bind_some, (g1c.pt hB).2.2.2.2.1, Option.bind_some, if_neg (show ¬ kd = 1 by omega), Option.bind_some, zpa_ok (N := 16) y6 (by decide) k0 (by omega), Option.bind_some, (g1d.pt hB).2.2.2.2.2, Option.bind_some, zpa_ok (N := 16) y7 (by decide) k0 (by omega), Option.bind_some]
  have A5 : zu (zu (zu (zu P1 (d + 1) k kd) (d + 2) k w1) (d + 5) k (-1)) (d + 6) k (-1) 29 5 = zxE t len s1 := by rw [zu_n (by omega), zu_n (by omega), zu_n (by omega), zu_n (by omega), q2]
  have A3 : zu (zu (zu (zu P1 (d + 1) k kd) (d + 2) k w1) (d + 5) k (-1)) (d + 6) k (-1) 29 3 = P 29 3 := by rw [zu_n (by omega), zu_n (by omega), zu_n (by omega), zu_n (by omega), q3]
  have A31 : ∀ r, zu (zu (zu (zu P1 (d + 1) k kd) (d + 2) k w1) (d + 5) k (-1)) (d + 6) k (-1) 31 r = mk r := fun r => by rw [zu_n (by omega), zu_n (by omega), zu_n (by omega), zu_n (by omega), m1]
  have Ad : zu (zu (zu (zu P1 (d + 1) k kd) (d + 2) k w1) (d + 5) k (-1)) (d + 6) k (-1) d 6 = P d 6 := by rw [zu_n (by omega), zu_n (by omega), zu_n (by omega), zu_n (by omega), r1 d 6 (by omega)]
  have A1 : zu (zu (zu (zu P1 (d + 1) k kd) (d + 2) k w1) (d + 5) k (-1)) (d + 6) k (-1) (d + 1) k = kd := by rw [zu_n (by omega), zu_n (by omega), zu_n (by omega), zu_e]
  have A2 : zu (zu (zu (zu P1 (d + 1) k kd) (d + 2) k w1) (d + 5) k (-1)) (d + 6) k (-1) (d + 2) k = w1 := by rw [zu_n (by omega), zu_n (by omega), zu_e]
  have A5k : zu (zu (zu (zu P1 (d + 1) k kd) (d + 2) k w1) (d + 5) k (-1)) (d + 6) k (-1) (d + 5) k = (-1) := by rw [zu_n (by omega), zu_e]
  have A6k : zu (zu (zu (zu P1 (d + 1) k kd) (d + 2) k w1) (d + 5) k (-1)) (d + 6) k (-1) (d + 6) k = -1 := by rw [zu_e]
  have Ai : ∀ q i, 1 ≤ q → q ≤ 6 → i ≠ k → zu (zu (zu (zu P1 (d + 1) k kd) (d + 2) k w1) (d + 5) k (-1)) (d + 6) k (-1) (d + q) i = P (d + q) i := fun q i _ _ hi => by rw [zu_m hi, zu_m hi, zu_m hi, zu_m hi, r1 (d + q) i (by omega)]
  obtain ⟨A, hA⟩ : ∃ A, zu (zu (zu (zu P1 (d + 1) k kd) (d + 2) k w1) (d + 5) k (-1)) (d + 6) k (-1) = A := ⟨_, rfl⟩
  rw [hA] at g1e A5 A3 A31 Ad A1 A2 A5k A6k Ai ⊢
  obtain ⟨x2, P2, e2, u1, u2, u3⟩ := i2 A (g1e.tp hB) A31 A5
  dsimp only at e2
  have f2' := g1e.it u1
  have m2 : ∀ r, P2 31 r = mk r := fun r => by rw [u1 31 r (by omega), A31 r]
  rw [if_pos (show zw 0 = 0 by decide), Option.bind_some, e2, Option.bind_some]
  dsimp only
  by_cases z2 : f2 = 0
  rotate_left
  · obtain ⟨rfl, v1, v2⟩ := u3 z2
    rw [if_pos (show zw 0 = 0 by decide)]
    refine ⟨0, P2, rfl, f2', m2, by rw [u1 d 6 (by omega), Ad], fun _ q => absurd q z2, ?_⟩
    rintro f S (⟨q, -⟩ | ⟨-, -, rfl, rfl⟩ | ⟨-, q, -⟩ | ⟨-, q, -⟩)
    · exact absurd z1 q
    · exact ⟨rfl, v1, v2⟩
    all_goals exact absurd q z2
  obtain ⟨rfl, v1, v2, v3⟩ := u2 z2
  have g2 := (f2'.up (q := 3) (k := k) (v := w2) (by omega) (by omega))
  rw [if_neg (show ¬ zw 1 = 0 by decide)]
  unfold zesc
  dsimp only
  rw [(f2'.pt hB).2.2.1, Option.bind_some, zgf_ok rfl, Option.bind_some, v1, zpa_ok (N := 16) y4 (by decide) k0 (by omega), Option.bind_some]
  have B5 : zu P2 (d + 3) k w2 29 5 = zxE t len (zxE t len s1) := by rw [zu_n (by omega), v2]
  have B3 : zu P2 (d + 3) k w2 29 3 = P 29 3 := by rw [zu_n (by omega), v3, A3]
  have B31 : ∀ r, zu P2 (d + 3) k w2 31 r = mk r := fun r => by rw [zu_n (by omega), m2]
  have Bd : zu P2 (d + 3) k w2 d 6 = P d 6 := by rw [zu_n (by omega), u1 d 6 (by omega), Ad]
  have Bq : ∀ q i, 1 ≤ q → q ≤ 6 → (q ≠ 3 ∨ i ≠ k) → zu P2 (d + 3) k w2 (d + q) i = A (d + q) i := fun q i _ _ hi => by
    rw [zu_at, if_neg (by omega), u1 (d + q) i (by omega)]
  have B3k : zu P2 (d + 3) k w2 (d + 3) k = w2 := zu_e _ _ _ _
  obtain ⟨B, hBB⟩ : ∃ B, zu P2 (d + 3) k w2 = B := ⟨_, rfl⟩
  rw [hBB] at g2 B5 B3 B31 Bd Bq B3k ⊢
  obtain ⟨x3, P3, e3, t1, t2, t3⟩ := i3 B (g2.tp hB) B31 B5
  dsimp only at e3
  have f3' := g2.it t1
  have m3 : ∀ r, P3 31 r = mk r := fun r => by rw [t1 31 r (by omega), B31 r]
  rw [if_pos (show zw 0 = 0 by decide), Option.bind_some, e3, Option.bind_some]
  dsimp only
  by_cases z3 : f3 = 0
  rotate_left
  · obtain ⟨rfl, o1, o2⟩ := t3 z3
    rw [if_pos (show zw 0 = 0 by decide)]
    refine ⟨0, P3, rfl, f3', m3, by rw [t1 d 6 (by omega), Bd], fun _ _ q => absurd q z3, ?_⟩
    rintro f S (⟨q, -⟩ | ⟨-, q, -⟩ | ⟨-, -, -, rfl, rfl⟩ | ⟨-, -, q, -⟩)
    · exact absurd z1 q
    · exact absurd z2 q
    · exact ⟨rfl, o1, o2⟩
    · exact absurd q z3
  obtain ⟨rfl, o1, o2, o3⟩ := t2 z3
  have g3 := (f3'.up (q := 4) (k := k) (v := w3) (by omega) (by omega))
  rw [if_neg (show ¬ zw 1 = 0 by decide)]
  dsimp only
  rw [(f3'.pt hB).2.2.2.1, Option.bind_some, zgf_ok rfl, Option.bind_some, o1, zpa_ok (N := 16) y5 (by decide) k0 (by omega), Option.bind_some]
  have C5 : zu P3 (d + 4) k w3 29 5 = zxE t len (zxE t len (zxE t len s1)) := by rw [zu_n (by omega), o2]
  have C3 : zu P3 (d + 4) k w3 29 3 = P 29 3 := by rw [zu_n (by omega), o3, B3]
  have C31 : ∀ r, zu P3 (d + 4) k w3 31 r = mk r := fun r => by rw [zu_n (by omega), m3]
  have Cd : zu P3 (d + 4) k w3 d 6 = P d 6 := by rw [zu_n (by omega), t1 d 6 (by omega), Bd]
  have Cq : ∀ q i, 1 ≤ q → q ≤ 6 → (q ≠ 4 ∨ i ≠ k) → zu P3 (d + 4) k w3 (d + q) i = B (d + q) i := fun q i _ _ hi => by
    rw [zu_at, if_neg (by omega), t1 (d + q) i (by omega)]
  have C4k : zu P3 (d + 4) k w3 (d + 4) k = w3 := zu_e _ _ _ _
  obtain ⟨C, hCC⟩ : ∃ C, zu P3 (d + 4) k w3 = C := ⟨_, rfl⟩
  rw [hCC] at g3 C5 C3 C31 Cd Cq C4k ⊢
  have w2r' := w2r z2
  have w3r' := w3r z3
  have C3k : C (d + 3) k = w2 := by rw [Cq 3 k (by omega) (by omega) (Or.inl (by decide)), B3k]
  have g4 := (g3.up (q := 5) (k := k) (v := mk w2) (by omega) (by omega))
  have g5 := (g4.up (q := 6) (k := k) (v := mk w3) (by omega) (by omega))
  rw [if_pos (show zw 0 = 0 by decide), (g3.pt hB).2.2.2.2.1, Option.bind_some, (g3.tp hB).g1, Option.bind_some, (g3.pt hB).2.2.1, Option.bind_some, zga_ok (N := 16) y4 (by decide) k0 (by omega), Option.bind_some, C3k, zga_ok (N := 8) rfl (by decide) w2r'.1 (by omega), Option.bind_some, C31, zpa_ok (N := 16) y6 (by decide) k0 (by omega), Option.bind_some, (g4.pt hB).2.2.2.2.2, Option.bind_some, (g4.tp hB).g1, Option.bind_some, (g4.pt hB).2.2.2.1, Option.bind_some, zga_ok (N := 16) y5 (by decide) k0 (by omega), Option.bind_some, zu_n (show d + 4 ≠ d + 5 by omega), C4k, zga_ok (N := 8) rfl (by decide) w3r'.1 (by omega), Option.bind_some, zu_n (show (31 : Int) ≠ d + 5 by omega), C31, zpa_ok (N := 16) y7 (by decide) k0 (by omega), Option.bind_some, Option.bind_some, Option.bind_some]
  have hD : zFC d M (zu (zu C (d + 5) k (mk w2)) (d + 6) k (mk w3)) ∧ zu (zu C (d + 5) k (mk w2)) (d + 6) k (mk w3) 29 5 = zxE t len (zxE t len (zxE t len s1)) ∧ zu (zu C (d + 5) k (mk w2)) (d + 6) k (mk w3) 29 3 = P 29 3 ∧ (∀ r, zu (zu C (d + 5) k (mk w2)) (d + 6) k (mk w3) 31 r = mk r) ∧ zu (zu C (d + 5) k (mk w2)) (d + 6) k (mk w3) d 6 = P d 6 ∧ zu (zu C (d + 5) k (mk w2)) (d + 6) k (mk w3) (d + 1) k = kd ∧ zu (zu C (d + 5) k (mk w2)) (d + 6) k (mk w3) (d + 2) k = w1 ∧ zu (zu C (d + 5) k (mk w2)) (d + 6) k (mk w3) (d + 3) k = w2 ∧ zu (zu C (d + 5) k (mk w2)) (d + 6) k (mk w3) (d + 4) k = w3 ∧ zu (zu C (d + 5) k (mk w2)) (d + 6) k (mk w3) (d + 5) k = zsA kd (mk w1) (mk w2) ∧ zu (zu C (d + 5) k (mk w2)) (d + 6) k (mk w3) (d + 6) k = zsB kd (mk w3) ∧ ∀ q i, 1 ≤ q → q ≤ 6 → i ≠ k → zu (zu C (d + 5) k (mk w2)) (d + 6) k (mk w3) (d + q) i = P (d + q) i := by
    have G : ∀ c i, c ≠ d + 5 → c ≠ d + 6 → zu (zu C (d + 5) k (mk w2)) (d + 6) k (mk w3) c i = C c i := fun c i h1 h2 => by rw [zu_n h2, zu_n h1]
    refine ⟨g5, by rw [G 29 5 (by omega) (by omega), C5], by rw [G 29 3 (by omega) (by omega), C3], fun r => by rw [G 31 r (by omega) (by omega), C31], by rw [G d 6 (by omega) (by omega), Cd], by rw [G _ k (by omega) (by omega), Cq 1 k (by omega) (by omega) (Or.inl (by decide)), Bq 1 k (by omega) (by omega) (Or.inl (by decide)), A1], by rw [G _ k (by omega) (by omega), Cq 2 k (by omega) (by omega) (Or.inl (by decide)), Bq 2 k (by omega) (by omega) (Or.inl (by decide)), A2], by rw [G _ k (by omega) (by omega), C3k], by rw [G _ k (by omega) (by omega), C4k], ?_, ?_, fun q i q0 q1 hi => by rw [zu_m hi, zu_m hi, Cq q i q0 q1 (Or.inr hi), Bq q i q0 q1 (Or.inr hi), Ai q i q0 q1 hi]⟩
    · rw [zu_n (by omega), zu_e]
      unfold zsA
      rw [if_neg (by omega), if_neg (by omega)]
    · rw [zu_e]
      unfold zsB
      rw [if_neg (by omega)]
  obtain ⟨C', hC'⟩ : ∃ C', zu (zu C (d + 5) k (mk w2)) (d + 6) k (mk w3) = C' := ⟨_, rfl⟩
  rw [hC'] at hD ⊢
  obtain ⟨D0, D5, D3, D31, Dd, D1, D2, D3', D4, D5', D6, Dq⟩ := hD
  obtain ⟨x4, P4, e4, v1', v2', v3'⟩ := c_mark hn ht l0 l1 (D0.tp hB) D5 (by omega) c3
  rw [e4, Option.bind_some]
  dsimp only
  have f4' := D0.it v1'
  have m4 : ∀ r, P4 31 r = mk r := fun r => by rw [v1' 31 r (by omega), D31 r]
  have d4 : P4 d 6 = P d 6 := by rw [v1' d 6 (by omega), Dd]
  by_cases z4 : zfM t len (zxE t len (zxE t len (zxE t len s1))) = 0
  · obtain ⟨rfl, -, p2, p3⟩ := v2' z4
    refine ⟨1, P4, rfl, f4', m4, d4, fun _ _ _ _ => ⟨rfl, p2, by rw [p3, D3], by rw [v1' _ k (by omega), D1], by rw [v1' _ k (by omega), D2], by rw [v1' _ k (by omega), D3'], by rw [v1' _ k (by omega), D4], by rw [v1' _ k (by omega), D5'], by rw [v1' _ k (by omega), D6], fun q i q0 q1 hi => by rw [v1' _ i (by omega), Dq q i q0 q1 hi]⟩, ?_⟩
    rintro f S (⟨q, -⟩ | ⟨-, q, -⟩ | ⟨-, -, q, -⟩ | ⟨-, -, -, q, -⟩)
    · exact absurd z1 q
    · exact absurd z2 q
    · exact absurd z3 q
    · exact absurd z4 q
  · obtain ⟨rfl, p2, p3⟩ := v3' z4
    refine ⟨0, P4, rfl, f4', m4, d4, fun _ _ _ q => absurd q z4, ?_⟩
    rintro f S (⟨q, -⟩ | ⟨-, q, -⟩ | ⟨-, -, q, -⟩ | ⟨-, -, -, -, rfl, rfl⟩)
    · exact absurd z1 q
    · exact absurd z2 q
    · exact absurd z3 q
    · exact ⟨rfl, p2, p3⟩
