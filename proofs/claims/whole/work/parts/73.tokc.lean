theorem c_let {M : zM} {x : Int} (h0 : 0 ≤ x) (h1 : x ≤ 255) : qrd_isLetter zK0 M (zb8 x) = some (if 97 ≤ x ∧ x ≤ 122 then 1 else 0) := by
  have e := zb8v h0 h1
  have r := zb8_rg x
  unfold qrd_isLetter
  rw [zw_id (x := zb8 x) (by omega) (by omega), zw_id (x := 97) (by decide) (by decide), zw_id (x := 122) (by decide) (by decide)]
  by_cases c : 97 ≤ x ∧ x ≤ 122
  · rw [if_pos c, if_neg (by rw [e]; split <;> omega), if_neg (by rw [e]; split <;> omega)]
  · rw [if_neg c]
    by_cases d : zb8 x < 97
    · rw [if_pos d]
    · rw [if_neg d, if_pos (by rw [e] at d ⊢; split at d <;> split <;> omega)]
theorem c_fig {M : zM} {x : Int} (h0 : 0 ≤ x) (h1 : x ≤ 255) : qrd_isFigure zK0 M (zb8 x) = some (if 48 ≤ x ∧ x ≤ 57 then 1 else 0) := by
  have e := zb8v h0 h1
  have r := zb8_rg x
  unfold qrd_isFigure
  rw [zw_id (x := zb8 x) (by omega) (by omega), zw_id (x := 48) (by decide) (by decide), zw_id (x := 57) (by decide) (by decide)]
  by_cases c : 48 ≤ x ∧ x ≤ 57
  · rw [if_pos c, if_neg (by rw [e]; split <;> omega), if_neg (by rw [e]; split <;> omega)]
  · rw [if_neg c]
    by_cases d : zb8 x < 48
    · rw [if_pos d]
    · rw [if_neg d, if_pos (by rw [e] at d ⊢; split at d <;> split <;> omega)]
/-- the program's tape -/
def zTP (t : Int → Int) (len : Int) (P : zM) : Prop := P 29 0 = 30 ∧ P 29 1 = 31 ∧ P 29 2 = len ∧ ∀ i, 0 ≤ i → i < len → P 30 i = zb8 (t i)
theorem zTP.up {t : Int → Int} {len : Int} {P : zM} {k v : Int} (h : zTP t len P) (hk : 3 ≤ k) : zTP t len (zu P 29 k v) := by
  obtain ⟨h1, h2, h3, h4⟩ := h
  refine ⟨by rw [zu_m (by omega), h1], by rw [zu_m (by omega), h2], by rw [zu_m (by omega), h3], fun i i0 i1 => by rw [zu_n (by decide), h4 i i0 i1]⟩
theorem zTP.g {t : Int → Int} {len : Int} {P : zM} (h : zTP t len P) : zgr zK0 P 5 9 29 0 = some 30 := zgr_ok (v := 30) rfl h.1 (by decide)
theorem zTP.g1 {t : Int → Int} {len : Int} {P : zM} (h : zTP t len P) : zgr zK0 P 5 9 29 1 = some 31 := zgr_ok (v := 31) rfl h.2.1 (by decide)
theorem zeq8 {x c : Int} (h0 : 0 ≤ x) (h1 : x ≤ 255) (c0 : 0 ≤ c) (c1 : c < 128) : (zw (zb8 x) = zw c) ↔ x = c := by
  have e := zb8v h0 h1
  have r := zb8_rg x
  rw [zw_id (x := zb8 x) (by omega) (by omega), zw_id (x := c) (by omega) (by omega), e]
  split <;> omega
theorem c_tok {P : zM} {n : Nat} {t : Int → Int} {len s : Int} (hn : 1000000 ≤ n) (ht : ∀ i, 0 ≤ i → i < len → 0 ≤ t i ∧ t i ≤ 255) (l0 : 0 ≤ len) (l1 : len ≤ 240) (hT : zTP t len P) (hs : P 29 5 = s) (s0 : 0 ≤ s) (s1 : s ≤ len) : ∃ x P', qrd_takeToken n zK0 P 29 = some (x, P') ∧ (∀ c i, ¬ (c = 29 ∧ 3 ≤ i ∧ i ≤ 8) → P' c i = P c i) ∧ P' 29 5 = zxE t len s ∧ P' 29 7 = zxS t len s ∧ P' 29 6 = zxK t len s ∧ (zxK t len s = 2 → P' 29 8 = zxN t len s) ∧ (zxO t len s → x = 1 ∧ P' 29 3 = P 29 3 ∧ P' 29 4 = P 29 4) ∧ (¬ zxO t len s → x = 0 ∧ P' 29 3 = 1 ∧ P' 29 4 = zxS t len s) := by
  obtain ⟨q1, q2, q3, q4, q5, q6, q7⟩ := zxSE (t := t) s0 s1
  have e1 := zlpr (n := n) (C := zyS t) (len := len) (F := fun s1 =>
    (zgf zK0 s1 5 9 29 5).bind fun v31 =>
    (zgf zK0 s1 5 9 29 2).bind fun v32 =>
    if zw v32 ≤ zw v31 then
      some (.inr s1)
    else
      (zgr zK0 s1 5 9 29 0).bind fun r33 =>
      (zgf zK0 s1 5 9 29 5).bind fun v34 =>
      (zga zK0 s1 101 r33 v34).bind fun v35 =>
      if zw v35 = zw 32 then
        (zgf zK0 s1 5 9 29 5).bind fun v36 =>
        (zpf zK0 s1 5 9 29 5 (v36 + 1)).bind fun M37 =>
        some (.inl M37)
      else
        some (.inr s1)) (fun j => zu P 29 5 j) (fun j => zu P 29 5 j) hn l1 s s0 s1 (by
      intro j j0 j1 hc
      have hT' := hT.up (k := 5) (v := j) (by decide)
      have hb := ht j (by omega) j1
      rw [zgf_ok rfl, Option.bind_some, zgf_ok rfl, Option.bind_some, zu_e, hT'.2.2.1, zw_id (x := len) (by omega) (by omega), zw_id (x := j) (by omega) (by omega), if_neg (by omega), hT'.g, Option.bind_some, Option.bind_some, zga_ok (N := 240) rfl (by decide) (by omega) (by omega), Option.bind_some, hT'.2.2.2 j (by omega) j1, if_pos ((zeq8 hb.1 hb.2 (by decide) (by decide)).2 (of_decide_eq_true hc)), Option.bind_some, zpf_ok rfl]
      show some (Sum.inl (zu (zu P 29 5 j) 29 5 (j + 1))) = _
      rw [zu_twice]) (by
      intro j j0 j1 hc
      have hT' := hT.up (k := 5) (v := j) (by decide)
      rw [zgf_ok rfl, Option.bind_some, zgf_ok rfl, Option.bind_some, zu_e, hT'.2.2.1, zw_id (x := len) (by omega) (by omega), zw_id (x := j) (by omega) (by omega)]
      by_cases c : len ≤ j
      · rw [if_pos c]
      · have hb := ht j (by omega) (by omega)
        rw [if_neg c, hT'.g, Option.bind_some, Option.bind_some, zga_ok (N := 240) rfl (by decide) (by omega) (by omega), Option.bind_some, hT'.2.2.2 j (by omega) (by omega), if_neg (fun q => hc ⟨by omega, decide_eq_true ((zeq8 hb.1 hb.2 (by decide) (by decide)).1 q)⟩)])
  rw [zu_self P 29 5 hs] at e1
  obtain ⟨S, hS⟩ : ∃ S, zxS t len s = S := ⟨_, rfl⟩
  rw [show zre (zyS t) len s = S from hS] at e1
  have hKd : zxK t len s = if len ≤ S then 0 else if t S = 59 then 3 else if zyL t S then 1 else 2 := by unfold zxK; rw [hS]
  have hEd : zxE t len s = if zxK t len s = 0 then S else if zxK t len s = 3 then S + 1 else if zxK t len s = 1 then zre (zyL t) len S else zre (zyD t) len S := by unfold zxE; rw [hS]
  have hNd : zxN t len s = znm t S (zxE t len s - S).toNat := by unfold zxN; rw [hS]
  have hOd : zxO t len s ↔ (zxK t len s = 2 → 1 ≤ zxE t len s - S ∧ zxE t len s - S ≤ 4) := by unfold zxO; rw [hS]
  rw [hS] at q1 q2 q4 q7 ⊢
  unfold qrd_takeToken
  have hT4 : zTP t len (zu (zu P 29 5 S) 29 7 S) := (hT.up (by decide)).up (by decide)
  have f5 : zu (zu P 29 5 S) 29 7 S 29 5 = S := by rw [zu_m (by decide), zu_e]
  have f7 : zu (zu P 29 5 S) 29 7 S 29 7 = S := by rw [zu_e]
  have ff : ∀ c i, ¬ (c = 29 ∧ 3 ≤ i ∧ i ≤ 8) → zu (zu P 29 5 S) 29 7 S c i = P c i := by
    intro c i h
    rw [zu_at, if_neg (by omega), zu_at, if_neg (by omega)]
  have f3 : zu (zu P 29 5 S) 29 7 S 29 3 = P 29 3 := by rw [zu_m (by decide), zu_m (by decide)]
  have f4 : zu (zu P 29 5 S) 29 7 S 29 4 = P 29 4 := by rw [zu_m (by decide), zu_m (by decide)]
  rw [e1, Option.bind_some, zgf_ok rfl, Option.bind_some, zu_e, zpf_ok rfl, Option.bind_some]
  obtain ⟨M4, hM4⟩ : ∃ M4, zu (zu P 29 5 S) 29 7 S = M4 := ⟨_, rfl⟩
  rw [hM4] at hT4 f5 f7 ff f3 f4 ⊢
  rw [zgf_ok rfl, Option.bind_some, f5, zgf_ok rfl, Option.bind_some, hT4.2.2.1, zw_id (x := S) (by omega) (by omega), zw_id (x := len) (by omega) (by omega)]
  by_cases c : S < len
  rotate_left
  · have hK : zxK t len s = 0 := by rw [hKd, if_pos (by omega)]
    have hE : zxE t len s = S := by rw [hEd, if_pos hK]
    rw [if_neg c, zpf_ok rfl, Option.bind_some]
    refine ⟨_, _, rfl, fun c i h => by rw [zu_at, if_neg (by omega)]; exact ff c i h, by rw [zu_m (by decide), f5, hE], by rw [zu_m (by decide), f7], by rw [zu_e, hK], fun h => by omega, fun _ => ⟨rfl, by rw [zu_m (by decide), f3], by rw [zu_m (by decide), f4]⟩, fun h => absurd (hOd.2 (fun q => by omega)) h⟩
  have hb := ht S (by omega) c
  rw [if_pos c, hT4.g, Option.bind_some, Option.bind_some, zga_ok (N := 240) rfl (by decide) (by omega) (by omega), Option.bind_some, hT4.2.2.2 S (by omega) c]
  by_cases c2 : t S = 59
  · have hK : zxK t len s = 3 := by rw [hKd, if_neg (by omega), if_pos c2]
    have hE : zxE t len s = S + 1 := by rw [hEd, if_neg (by omega), if_pos hK]
    rw [if_pos ((zeq8 hb.1 hb.2 (by decide) (by decide)).2 c2), Option.bind_some, zpf_ok rfl, Option.bind_some, zpf_ok rfl, Option.bind_some]
    refine ⟨_, _, rfl, fun c i h => by rw [zu_at, if_neg (by omega), zu_at, if_neg (by omega)]; exact ff c i h, by rw [zu_m (by decide), zu_e, hE], by rw [zu_m (by decide), zu_m (by decide), f7], by rw [zu_e, hK], fun h => by omega, fun _ => ⟨rfl, by rw [zu_m (by decide), zu_m (by decide), f3], by rw [zu_m (by decide), zu_m (by decide), f4]⟩, fun h => absurd (hOd.2 (fun q => by omega)) h⟩
  rw [if_neg (fun q => c2 ((zeq8 hb.1 hb.2 (by decide) (by decide)).1 q)), Option.bind_some, Option.bind_some, zga_ok (N := 240) rfl (by decide) (by omega) (by omega), Option.bind_some, hT4.2.2.2 S (by omega) c, c_let hb.1 hb.2, Option.bind_some]
  by_cases c3 : 97 ≤ t S ∧ t S ≤ 122
  · have hK : zxK t len s = 1 := by rw [hKd, if_neg (by omega), if_neg c2, if_pos (show zyL t S = true from decide_eq_true c3)]
    have hE : zxE t len s = zre (zyL t) len S := by rw [hEd, if_neg (by omega), if_neg (by omega), if_pos hK]
    rw [if_pos c3, if_neg (by decide)]
    have key : ∀ F : zM → Option (zM ⊕ (Int × zM)), zwh F n M4 = some (1, zu (zu M4 29 5 (zxE t len s)) 29 6 1) → ∃ x P', zwh F n M4 = some (x, P') ∧ (∀ c i, ¬ (c = 29 ∧ 3 ≤ i ∧ i ≤ 8) → P' c i = P c i) ∧ P' 29 5 = zxE t len s ∧ P' 29 7 = S ∧ P' 29 6 = zxK t len s ∧ (zxK t len s = 2 → P' 29 8 = zxN t len s) ∧ (zxO t len s → x = 1 ∧ P' 29 3 = P 29 3 ∧ P' 29 4 = P 29 4) ∧ (¬ zxO t len s → x = 0 ∧ P' 29 3 = 1 ∧ P' 29 4 = S) := by
      intro F hF
      refine ⟨_, _, hF, fun c i h => by rw [zu_at, if_neg (by omega), zu_at, if_neg (by omega)]; exact ff c i h, by rw [zu_m (by decide), zu_e], by rw [zu_m (by decide), zu_m (by decide), f7], by rw [zu_e, hK], fun h => by omega, fun _ => ⟨rfl, by rw [zu_m (by decide), zu_m (by decide), f3], by rw [zu_m (by decide), zu_m (by decide), f4]⟩, fun h => absurd (hOd.2 (fun q => by omega)) h⟩
    apply key
    rw [hE]
    have fin := fun (F : zM → Option (zM ⊕ (Int × zM))) h1 h2 => zlpr (n := n) (C := zyL t) (len := len) (F := F) (fun j => zu M4 29 5 j) (fun j => (1, zu (zu M4 29 5 j) 29 6 1)) hn l1 S (by omega) (by omega) h1 h2
    rw [zu_self M4 29 5 f5] at fin
    refine fin _ ?_ ?_
    · intro j j0 j1 hc
      have hT' := hT4.up (k := 5) (v := j) (by decide)
      have hb := ht j (by omega) j1
      have hl := of_decide_eq_true hc
      rw [zgf_ok rfl, Option.bind_some, zgf_ok rfl, Option.bind_some, zu_e, hT'.2.2.1, zw_id (x := len) (by omega) (by omega), zw_id (x := j) (by omega) (by omega), if_neg (by omega), hT'.g, Option.bind_some, Option.bind_some, zga_ok (N := 240) rfl (by decide) (by omega) (by omega), Option.bind_some, hT'.2.2.2 j (by omega) j1, c_let hb.1 hb.2, Option.bind_some, if_pos hl, if_neg (by decide), Option.bind_some, zpf_ok rfl]
      show some (Sum.inl (zu (zu M4 29 5 j) 29 5 (j + 1))) = _
      rw [zu_twice]
    · intro j j0 j1 hc
      have hT' := hT4.up (k := 5) (v := j) (by decide)
      rw [zgf_ok rfl, Option.bind_some, zgf_ok rfl, Option.bind_some, zu_e, hT'.2.2.1, zw_id (x := len) (by omega) (by omega), zw_id (x := j) (by omega) (by omega), zpf_ok rfl]
      by_cases c : len ≤ j
      · rw [if_pos c]
        rfl
      · have hb := ht j (by omega) (by omega)
        have hl : ¬ (97 ≤ t j ∧ t j ≤ 122) := fun q => hc ⟨by omega, decide_eq_true q⟩
        rw [if_neg c, hT'.g, Option.bind_some, Option.bind_some, zga_ok (N := 240) rfl (by decide) (by omega) (by omega), Option.bind_some, hT'.2.2.2 j (by omega) (by omega), c_let hb.1 hb.2, Option.bind_some, if_neg hl, if_pos (by decide)]
        rfl
  · have hK : zxK t len s = 2 := by rw [hKd, if_neg (by omega), if_neg c2, if_neg (by unfold zyL; simp only [decide_eq_true_eq]; exact c3)]
    have hE : zxE t len s = zre (zyD t) len S := by rw [hEd, if_neg (by omega), if_neg (by omega), if_neg (by omega)]
    have hEr := zre_rg (C := zyD t) (show S ≤ len by omega)
    rw [if_neg c3, if_pos (by decide), zgk_ok rfl, Option.bind_some]
    have hz : ∀ j, S ≤ j → znm t S (j + 1 - S).toNat = if j - S < 4 then znm t S (j - S).toNat * 10 + t j - 48 else znm t S (j - S).toNat := by
      intro j j0
      rw [show (j + 1 - S).toNat = (j - S).toNat + 1 by omega, znm, show S + ((j - S).toNat : Int) = j by omega]
      by_cases w : j - S < 4
      · rw [if_pos w, if_pos (by omega)]
      · rw [if_neg w, if_neg (by omega)]
    unfold qrd_takeFigures
    rw [zpf_ok rfl, Option.bind_some]
    have fin := fun (F : zM → Option (zM ⊕ zM)) h1 h2 => zlpr (n := n) (C := zyD t) (len := len) (F := F) (fun j => zu (zu M4 29 8 (znm t S (j - S).toNat)) 29 5 j) (fun j => zu (zu M4 29 8 (znm t S (j - S).toNat)) 29 5 j) hn l1 S (by omega) (by omega) h1 h2
    rw [show (S - S).toNat = 0 by omega, show znm t S 0 = 0 from rfl, zu_self (zu M4 29 8 0) 29 5 (by rw [zu_m (by decide), f5]), ← hE, ← hNd] at fin
    rw [fin]
    · have g5 : ∀ Z, zu (zu M4 29 8 (zxN t len s)) 29 5 (zxE t len s) = Z → zTP t len Z ∧ Z 29 5 = zxE t len s ∧ Z 29 7 = S ∧ Z 29 8 = zxN t len s ∧ Z 29 3 = P 29 3 ∧ Z 29 4 = P 29 4 ∧ ∀ c i, ¬ (c = 29 ∧ 3 ≤ i ∧ i ≤ 8) → Z c i = P c i := by
        rintro Z rfl
        exact ⟨(hT4.up (by decide)).up (by decide), zu_e _ _ _ _, by rw [zu_m (by decide), zu_m (by decide), f7], by rw [zu_m (by decide), zu_e], by rw [zu_m (by decide), zu_m (by decide), f3], by rw [zu_m (by decide), zu_m (by decide), f4], fun c i h => by rw [zu_at, if_neg (by omega), zu_at, if_neg (by omega)]; exact ff c i h⟩
      obtain ⟨Z, hZ⟩ : ∃ Z, zu (zu M4 29 8 (zxN t len s)) 29 5 (zxE t len s) = Z := ⟨_, rfl⟩
      obtain ⟨z1, z2, z3, z4, z5, z6, z7⟩ := g5 Z hZ
      rw [hZ, Option.bind_some, zpf_ok rfl, Option.bind_some, zgf_ok rfl, Option.bind_some, zgf_ok rfl, Option.bind_some, zu_m (by decide), zu_m (by decide), z2, z3, zwit (by unfold zrg; omega) (by decide) (by decide), Option.bind_some]
      by_cases w : 1 ≤ zxE t len s - S ∧ zxE t len s - S ≤ 4
      · have ho : zxO t len s := hOd.2 (fun _ => w)
        rw [if_pos w, if_neg (by decide)]
        refine ⟨1, zu Z 29 6 2, rfl, fun c i h => by rw [zu_at, if_neg (by omega)]; exact z7 c i h, by rw [zu_m (by decide), z2], by rw [zu_m (by decide), z3], by rw [zu_e, hK], fun _ => by rw [zu_m (by decide), z4], fun _ => ⟨rfl, by rw [zu_m (by decide), z5], by rw [zu_m (by decide), z6]⟩, fun h => absurd ho h⟩
      · have ho : ¬ zxO t len s := fun q => w (hOd.1 q hK)
        unfold qrd_refuse
        rw [if_neg w, if_pos (by decide), zgk_ok rfl, Option.bind_some, zpf_ok rfl, Option.bind_some, zgf_ok rfl, Option.bind_some, zpf_ok rfl, Option.bind_some, Option.bind_some, zu_m (show (7 : Int) ≠ 3 by decide), zu_m (show (7 : Int) ≠ 6 by decide), z3]
        refine ⟨0, zu (zu (zu Z 29 6 2) 29 3 1) 29 4 S, rfl, fun c i h => by rw [zu_at, if_neg (by omega), zu_at, if_neg (by omega), zu_at, if_neg (by omega)]; exact z7 c i h, by rw [zu_m (by decide), zu_m (by decide), zu_m (by decide), z2], by rw [zu_m (by decide), zu_m (by decide), zu_m (by decide), z3], by rw [zu_m (by decide), zu_m (by decide), zu_e, hK], fun _ => by rw [zu_m (by decide), zu_m (by decide), zu_m (by decide), z4], fun h => absurd h ho, fun _ => ⟨rfl, by rw [zu_m (by decide), zu_e], by rw [zu_e]⟩⟩
    · intro j j0 j1 hc
      have hT' := (hT4.up (k := 8) (v := znm t S (j - S).toNat) (by decide)).up (k := 5) (v := j) (by decide)
      have hb := ht j (by omega) j1
      have hl := of_decide_eq_true hc
      have hb8 : zb8 (t j) = t j := by rw [zb8v hb.1 hb.2, if_pos (by omega)]
      rw [zgf_ok rfl, Option.bind_some, zgf_ok rfl, Option.bind_some, zu_e, hT'.2.2.1, zw_id (x := len) (by omega) (by omega), zw_id (x := j) (by omega) (by omega), if_neg (by omega), hT'.g, Option.bind_some, Option.bind_some, zga_ok (N := 240) rfl (by decide) (by omega) (by omega), Option.bind_some, hT'.2.2.2 j (by omega) j1, c_fig hb.1 hb.2, Option.bind_some, if_pos hl, if_neg (by decide), Option.bind_some, zgf_ok rfl, Option.bind_some, zu_m (show (7 : Int) ≠ 5 by decide), zu_m (show (7 : Int) ≠ 8 by decide), f7, zw_id (x := 4) (by decide) (by decide), zw_id (x := j - S) (by omega) (by omega)]
      have hzj := hz j j0
      by_cases w : 4 ≤ j - S
      · rw [if_neg (by omega)] at hzj
        rw [if_pos w, Option.bind_some, zgf_ok rfl, Option.bind_some, zu_e, zpf_ok rfl, Option.bind_some, zu_twice, hzj]
      · rw [if_pos (by omega)] at hzj
        rw [if_neg w, zgf_ok rfl, Option.bind_some, Option.bind_some, Option.bind_some, zga_ok (N := 240) rfl (by decide) (by omega) (by omega), Option.bind_some, hT'.2.2.2 j (by omega) j1, hb8, zu_m (show (8 : Int) ≠ 5 by decide), zu_e, zpf_ok rfl, Option.bind_some, Option.bind_some, zgf_ok rfl, Option.bind_some, zu_m (show (5 : Int) ≠ 8 by decide), zu_e, zpf_ok rfl, Option.bind_some, hzj]
        rw [zu_comm (zu M4 29 8 (znm t S (j - S).toNat)) (r := 29) (k := 5) (r' := 29) (k' := 8) (by decide), zu_twice, zu_twice]
    · intro j j0 j1 hc
      have hT' := (hT4.up (k := 8) (v := znm t S (j - S).toNat) (by decide)).up (k := 5) (v := j) (by decide)
      rw [zgf_ok rfl, Option.bind_some, zgf_ok rfl, Option.bind_some, zu_e, hT'.2.2.1, zw_id (x := len) (by omega) (by omega), zw_id (x := j) (by omega) (by omega)]
      by_cases c : len ≤ j
      · rw [if_pos c]
      · have hb := ht j (by omega) (by omega)
        have hl : ¬ (48 ≤ t j ∧ t j ≤ 57) := fun q => hc ⟨by omega, decide_eq_true q⟩
        rw [if_neg c, hT'.g, Option.bind_some, Option.bind_some, zga_ok (N := 240) rfl (by decide) (by omega) (by omega), Option.bind_some, hT'.2.2.2 j (by omega) (by omega), c_fig hb.1 hb.2, Option.bind_some, if_neg hl, if_pos (by decide)]
