/-- the reference's tape -/
def zTM (t : Int → Int) (len : Int) (Q : zM) : Prop := Q 60 35 = 81 ∧ Q 60 36 = len ∧ ∀ i, 0 ≤ i → i < len → Q 81 i = t i
theorem zTM.up {t : Int → Int} {len : Int} {Q : zM} {k v : Int} (h : zTM t len Q) (hk : k ≠ 35 ∧ k ≠ 36) : zTM t len (zu Q 60 k v) := by
  obtain ⟨h1, h2, h3⟩ := h
  exact ⟨by rw [zu_m (Ne.symm hk.1), h1], by rw [zu_m (Ne.symm hk.2), h2], fun i i0 i1 => by rw [zu_n (by decide), h3 i i0 i1]⟩
theorem m_look {t : Int → Int} {len : Int} {Q : zM} (h : zTM t len Q) (l0 : 0 ≤ len) (l1 : len ≤ 240) {i : Int} (i0 : 0 ≤ i) (i1 : i < 1000) : qmd_look zK0 Q 60 i = some (if len ≤ i then -1 else t i) := by
  unfold qmd_look
  rw [zgf_ok rfl, Option.bind_some, h.2.1, zw_id (x := len) (by omega) (by omega), zw_id (x := i) (by omega) (by omega)]
  by_cases c : len ≤ i
  · rw [if_pos c, if_pos c]
  · rw [if_neg c, if_neg c, zgr_ok (v := 81) rfl h.1 (by decide), Option.bind_some, zga_ok (N := 240) rfl (by decide) i0 (by omega), Option.bind_some, h.2.2 i i0 (by omega)]
/-- the reference has looked at the token behind s -/
def zTK (t : Int → Int) (len s : Int) (Q : zM) : Prop := Q 60 38 = zxS t len s ∧ (zxO t len s → Q 60 37 = zxE t len s ∧ Q 60 39 = zxK t len s ∧ (zxK t len s = 2 → Q 60 40 = zxN t len s) ∧ Q 60 41 = 0) ∧ (¬ zxO t len s → Q 60 41 = 1 ∧ Q 60 42 = zxS t len s)
theorem m_tok {Q : zM} {n : Nat} {t : Int → Int} {len s : Int} (hn : 1000000 ≤ n) (ht : ∀ i, 0 ≤ i → i < len → 0 ≤ t i ∧ t i ≤ 255) (l0 : 0 ≤ len) (l1 : len ≤ 240) (hT : zTM t len Q) (hs : Q 60 37 = s) (h41 : Q 60 41 = 0) (s0 : 0 ≤ s) (s1 : s ≤ len) : ∃ Q', qmd_next n zK0 Q 60 = some Q' ∧ (∀ c i, ¬ (c = 60 ∧ 37 ≤ i ∧ i ≤ 42) → Q' c i = Q c i) ∧ zTK t len s Q' := by
  obtain ⟨q1, q2, q3, q4, q5, q6, q7⟩ := zxSE (t := t) s0 s1
  unfold qmd_next zTK
  rw [zgf_ok rfl, Option.bind_some, h41, zw_id (x := 0) (by decide) (by decide), if_pos (by decide)]
  have fin := fun (F : zM → Option (zM ⊕ zM)) h1 h2 => zlpr (n := n) (C := zyS t) (len := len) (F := F) (fun j => zu Q 60 37 j) (fun j => zu Q 60 37 j) hn l1 s s0 s1 h1 h2
  obtain ⟨S, hS⟩ : ∃ S, zxS t len s = S := ⟨_, rfl⟩
  rw [zu_self Q 60 37 hs, show zre (zyS t) len s = S from hS] at fin
  have hKd : zxK t len s = if len ≤ S then 0 else if t S = 59 then 3 else if zyL t S then 1 else 2 := by unfold zxK; rw [hS]
  have hEd : zxE t len s = if zxK t len s = 0 then S else if zxK t len s = 3 then S + 1 else if zxK t len s = 1 then zre (zyL t) len S else zre (zyD t) len S := by unfold zxE; rw [hS]
  have hNd : zxN t len s = znm t S (zxE t len s - S).toNat := by unfold zxN; rw [hS]
  have hOd : zxO t len s ↔ (zxK t len s = 2 → 1 ≤ zxE t len s - S ∧ zxE t len s - S ≤ 4) := by unfold zxO; rw [hS]
  rw [hS] at q1 q2 q4 q7 ⊢
  rw [fin]
  rotate_left
  · intro j j0 j1 hc
    have hl := of_decide_eq_true hc
    rw [zgf_ok rfl, Option.bind_some, zu_e, zgk_ok rfl, Option.bind_some, m_look (hT.up (by decide)) l0 l1 (by omega) (by omega), Option.bind_some, if_neg (show ¬ len ≤ j by omega), hl, if_pos rfl, Option.bind_some, zpf_ok rfl, Option.bind_some, zu_twice]
  · intro j j0 j1 hc
    rw [zgf_ok rfl, Option.bind_some, zu_e, zgk_ok rfl, Option.bind_some, m_look (hT.up (by decide)) l0 l1 (by omega) (by omega), Option.bind_some]
    by_cases w : len ≤ j
    · rw [if_pos w, if_neg (by decide)]
    · have hb := ht j (by omega) (by omega)
      have hl : ¬ t j = 32 := fun q => hc ⟨by omega, decide_eq_true q⟩
      rw [if_neg w, zw_id (x := t j) (by omega) (by omega), zw_id (x := 32) (by decide) (by decide), if_neg hl]
  have hT5 : zTM t len (zu (zu Q 60 37 S) 60 38 S) := (hT.up (by decide)).up (by decide)
  have f37 : zu (zu Q 60 37 S) 60 38 S 60 37 = S := by rw [zu_m (by decide), zu_e]
  have f38 : zu (zu Q 60 37 S) 60 38 S 60 38 = S := by rw [zu_e]
  have f41 : zu (zu Q 60 37 S) 60 38 S 60 41 = 0 := by rw [zu_m (by decide), zu_m (by decide), h41]
  have ff : ∀ c i, ¬ (c = 60 ∧ 37 ≤ i ∧ i ≤ 42) → zu (zu Q 60 37 S) 60 38 S c i = Q c i := by
    intro c i h
    rw [zu_at, if_neg (by omega), zu_at, if_neg (by omega)]
  rw [Option.bind_some, zgf_ok rfl, Option.bind_some, zu_e, zpf_ok rfl, Option.bind_some]
  obtain ⟨M5, hM5⟩ : ∃ M5, zu (zu Q 60 37 S) 60 38 S = M5 := ⟨_, rfl⟩
  rw [hM5] at hT5 f37 f38 f41 ff ⊢
  rw [zgf_ok rfl, Option.bind_some, f37, zgk_ok (r := 60) (ci := 12) (N := 49) rfl, Option.bind_some, m_look hT5 l0 l1 (by omega) (by omega), Option.bind_some]
  by_cases c : len ≤ S
  · have hK : zxK t len s = 0 := by rw [hKd, if_pos c]
    have hE : zxE t len s = S := by rw [hEd, if_pos hK]
    rw [if_pos c, if_neg (by decide), zpf_ok rfl, Option.bind_some]
    exact ⟨_, rfl, fun c i h => by rw [zu_at, if_neg (by omega)]; exact ff c i h, by rw [zu_m (by decide), f38], fun _ => ⟨by rw [zu_m (by decide), f37, hE], by rw [zu_e, hK], fun h => by omega, by rw [zu_m (by decide), f41]⟩, fun h => absurd (hOd.2 (fun q => by omega)) h⟩
  have hb := ht S (by omega) (by omega)
  rw [if_neg c, zw_id (x := t S) (by omega) (by omega), if_pos hb.1, zinn (by unfold zrg; omega) (by decide) (by decide), Option.bind_some]
  by_cases c3 : 97 ≤ t S ∧ t S ≤ 122
  · have hK : zxK t len s = 1 := by rw [hKd, if_neg c, if_neg (by omega), if_pos (show zyL t S = true from decide_eq_true c3)]
    have hE : zxE t len s = zre (zyL t) len S := by rw [hEd, if_neg (by omega), if_neg (by omega), if_pos hK]
    have hEr := zre_rg (C := zyL t) (show S ≤ len by omega)
    rw [if_pos c3, if_neg (by decide), zpf_ok rfl, Option.bind_some]
    have fin2 := fun (F : zM → Option (zM ⊕ zM)) h1 h2 => zlpr (n := n) (C := zyL t) (len := len) (F := F) (fun j => zu (zu M5 60 39 1) 60 37 j) (fun j => zu (zu M5 60 39 1) 60 37 j) hn l1 S (by omega) (by omega) h1 h2
    rw [zu_self (zu M5 60 39 1) 60 37 (by rw [zu_m (by decide), f37]), ← hE] at fin2
    rw [fin2]
    · exact ⟨_, rfl, fun c i h => by rw [zu_at, if_neg (by omega), zu_at, if_neg (by omega)]; exact ff c i h, by rw [zu_m (by decide), zu_m (by decide), f38], fun _ => ⟨by rw [zu_e], by rw [zu_m (by decide), zu_e, hK], fun h => by omega, by rw [zu_m (by decide), zu_m (by decide), f41]⟩, fun h => absurd (hOd.2 (fun q => by omega)) h⟩
    · intro j j0 j1 hc
      have hl := of_decide_eq_true hc
      rw [zgf_ok rfl, Option.bind_some, zu_e, Option.bind_some, m_look ((hT5.up (by decide)).up (by decide)) l0 l1 (by omega) (by omega), Option.bind_some, if_neg (show ¬ len ≤ j by omega), zw_id (x := t j) (by omega) (by omega), zinn (by unfold zrg; omega) (by decide) (by decide), Option.bind_some, if_pos hl, if_neg (by decide), Option.bind_some, zpf_ok rfl, Option.bind_some, zu_twice]
    · intro j j0 j1 hc
      rw [zgf_ok rfl, Option.bind_some, zu_e, Option.bind_some, m_look ((hT5.up (by decide)).up (by decide)) l0 l1 (by omega) (by omega), Option.bind_some]
      by_cases w : len ≤ j
      · rw [if_pos w, zw_id (x := -1) (by decide) (by decide), zinn (by decide) (by decide) (by decide), Option.bind_some, if_pos (by decide)]
      · have hb := ht j (by omega) (by omega)
        have hl : ¬ (97 ≤ t j ∧ t j ≤ 122) := fun q => hc ⟨by omega, decide_eq_true q⟩
        rw [if_neg w, zw_id (x := t j) (by omega) (by omega), zinn (by unfold zrg; omega) (by decide) (by decide), Option.bind_some, if_neg hl, if_pos (by decide)]
  rw [if_neg c3, if_pos (by decide), zinn (by unfold zrg; omega) (by decide) (by decide), Option.bind_some]
  by_cases c4 : 48 ≤ t S ∧ t S ≤ 57
  · have hK : zxK t len s = 2 := by rw [hKd, if_neg c, if_neg (by omega), if_neg (by unfold zyL; simp only [decide_eq_true_eq]; exact c3)]
    have hE : zxE t len s = zre (zyD t) len S := by rw [hEd, if_neg (by omega), if_neg (by omega), if_neg (by omega)]
    have hEr := zre_rg (C := zyD t) (show S ≤ len by omega)
    have hE1 := zre_lt (C := zyD t) (show S < len by omega) (decide_eq_true c4)
    rw [← hE] at hE1
    have hz : ∀ j, S ≤ j → znm t S (j + 1 - S).toNat = if j - S < 4 then znm t S (j - S).toNat * 10 + t j - 48 else znm t S (j - S).toNat := by
      intro j j0
      rw [show (j + 1 - S).toNat = (j - S).toNat + 1 by omega, znm, show S + ((j - S).toNat : Int) = j by omega]
      by_cases w : j - S < 4
      · rw [if_pos w, if_pos (by omega)]
      · rw [if_neg w, if_neg (by omega)]
    rw [if_pos c4, if_neg (by decide), zpf_ok rfl, Option.bind_some, zpf_ok rfl, Option.bind_some]
    have fin3 := fun (F : zM → Option (zM ⊕ zM)) h1 h2 => zlpr (n := n) (C := zyD t) (len := len) (F := F) (fun j => zu (zu (zu M5 60 39 2) 60 40 (znm t S (j - S).toNat)) 60 37 j) (fun j => zu (zu (zu M5 60 39 2) 60 40 (znm t S (j - S).toNat)) 60 37 j) hn l1 S (by omega) (by omega) h1 h2
    rw [show (S - S).toNat = 0 by omega, show znm t S 0 = 0 from rfl, zu_self (zu (zu M5 60 39 2) 60 40 0) 60 37 (by rw [zu_m (by decide), zu_m (by decide), f37]), ← hE, ← hNd] at fin3
    rw [fin3]
    · obtain ⟨Z, hZ⟩ : ∃ Z, zu (zu (zu M5 60 39 2) 60 40 (zxN t len s)) 60 37 (zxE t len s) = Z := ⟨_, rfl⟩
      have z37 : Z 60 37 = zxE t len s := by rw [← hZ, zu_e]
      have z38 : Z 60 38 = S := by rw [← hZ, zu_m (by decide), zu_m (by decide), zu_m (by decide), f38]
      have z39 : Z 60 39 = 2 := by rw [← hZ, zu_m (by decide), zu_m (by decide), zu_e]
      have z40 : Z 60 40 = zxN t len s := by rw [← hZ, zu_m (by decide), zu_e]
      have z41 : Z 60 41 = 0 := by rw [← hZ, zu_m (by decide), zu_m (by decide), zu_m (by decide), f41]
      have zf : ∀ c i, ¬ (c = 60 ∧ 37 ≤ i ∧ i ≤ 42) → Z c i = Q c i := by
        intro c i h
        rw [← hZ, zu_at, if_neg (by omega), zu_at, if_neg (by omega), zu_at, if_neg (by omega)]
        exact ff c i h
      rw [hZ, Option.bind_some, zgf_ok rfl, Option.bind_some, zgf_ok rfl, Option.bind_some, z37, z38, zw_id (x := 4) (by decide) (by decide), zw_id (x := zxE t len s - S) (by omega) (by omega)]
      unfold qmd_wants
      by_cases w : 4 < zxE t len s - S
      · have ho : ¬ zxO t len s := fun q => by have := hOd.1 q hK; omega
        rw [if_pos w, Option.bind_some, Option.bind_some, if_pos (by decide), zgf_ok rfl, Option.bind_some, z41, if_pos (by decide), zpf_ok rfl, Option.bind_some, zgf_ok rfl, Option.bind_some, zpf_ok rfl, Option.bind_some, Option.bind_some, zu_m (show (38 : Int) ≠ 41 by decide), z38]
        exact ⟨_, rfl, fun c i h => by rw [zu_at, if_neg (by omega), zu_at, if_neg (by omega)]; exact zf c i h, by rw [zu_m (by decide), zu_m (by decide), z38], fun h => absurd h ho, fun _ => ⟨by rw [zu_m (by decide), zu_e], by rw [zu_e]⟩⟩
      · have ho : zxO t len s := hOd.2 (fun _ => by omega)
        rw [if_neg w, Option.bind_some, Option.bind_some, if_neg (by decide), Option.bind_some]
        exact ⟨_, rfl, zf, z38, fun _ => ⟨z37, by rw [z39, hK], fun _ => z40, z41⟩, fun h => absurd ho h⟩
    · intro j j0 j1 hc
      have hl := of_decide_eq_true hc
      have hT' := ((hT5.up (k := 39) (v := 2) (by decide)).up (k := 40) (v := znm t S (j - S).toNat) (by decide)).up (k := 37) (v := j) (by decide)
      have hzj := hz j j0
      rw [zgf_ok rfl, Option.bind_some, zu_e, Option.bind_some, m_look hT' l0 l1 (by omega) (by omega), Option.bind_some, if_neg (show ¬ len ≤ j by omega), zw_id (x := t j) (by omega) (by omega), zinn (by unfold zrg; omega) (by decide) (by decide), Option.bind_some, if_pos hl, if_neg (by decide), Option.bind_some, zgf_ok rfl, Option.bind_some, zu_m (show (38 : Int) ≠ 37 by decide), zu_m (show (38 : Int) ≠ 40 by decide), zu_m (show (38 : Int) ≠ 39 by decide), f38, zw_id (x := 4) (by decide) (by decide), zw_id (x := j - S) (by omega) (by omega), zgf_ok rfl, Option.bind_some, zu_m (show (40 : Int) ≠ 37 by decide), zu_e]
      by_cases w : 4 ≤ j - S
      · rw [if_neg (by omega)] at hzj
        rw [if_pos w, Option.bind_some, zpf_ok rfl, Option.bind_some, zgf_ok rfl, Option.bind_some, zu_m (show (37 : Int) ≠ 40 by decide), zu_e, zpf_ok rfl, Option.bind_some, hzj]
        rw [zu_comm (zu (zu M5 60 39 2) 60 40 (znm t S (j - S).toNat)) (r := 60) (k := 37) (r' := 60) (k' := 40) (by decide), zu_twice, zu_twice]
      · rw [if_pos (by omega)] at hzj
        rw [if_neg w, Option.bind_some, Option.bind_some, Option.bind_some, m_look hT' l0 l1 (by omega) (by omega), Option.bind_some, if_neg (show ¬ len ≤ j by omega), Option.bind_some, zpf_ok rfl, Option.bind_some, zgf_ok rfl, Option.bind_some, zu_m (show (37 : Int) ≠ 40 by decide), zu_e, zpf_ok rfl, Option.bind_some, hzj, show 10 * znm t S (j - S).toNat + t j - 48 = znm t S (j - S).toNat * 10 + t j - 48 by omega]
        rw [zu_comm (zu (zu M5 60 39 2) 60 40 (znm t S (j - S).toNat)) (r := 60) (k := 37) (r' := 60) (k' := 40) (by decide), zu_twice, zu_twice]
    · intro j j0 j1 hc
      have hT' := ((hT5.up (k := 39) (v := 2) (by decide)).up (k := 40) (v := znm t S (j - S).toNat) (by decide)).up (k := 37) (v := j) (by decide)
      rw [zgf_ok rfl, Option.bind_some, zu_e, Option.bind_some, m_look hT' l0 l1 (by omega) (by omega), Option.bind_some]
      by_cases w : len ≤ j
      · rw [if_pos w, zw_id (x := -1) (by decide) (by decide), zinn (by decide) (by decide) (by decide), Option.bind_some, if_pos (by decide)]
      · have hb := ht j (by omega) (by omega)
        have hl : ¬ (48 ≤ t j ∧ t j ≤ 57) := fun q => hc ⟨by omega, decide_eq_true q⟩
        rw [if_neg w, zw_id (x := t j) (by omega) (by omega), zinn (by unfold zrg; omega) (by decide) (by decide), Option.bind_some, if_neg hl, if_pos (by decide)]
  · rw [if_neg c4, if_pos (by decide), zpf_ok rfl, Option.bind_some, zw_id (x := 59) (by decide) (by decide)]
    unfold qmd_wants
    by_cases c5 : t S = 59
    · have hK : zxK t len s = 3 := by rw [hKd, if_neg c, if_pos c5]
      have hE : zxE t len s = S + 1 := by rw [hEd, if_neg (by omega), if_pos hK]
      rw [if_pos c5, Option.bind_some, Option.bind_some, if_neg (by decide), Option.bind_some, zgf_ok rfl, Option.bind_some, zu_m (by decide), f37, zpf_ok rfl, Option.bind_some]
      exact ⟨_, rfl, fun c i h => by rw [zu_at, if_neg (by omega), zu_at, if_neg (by omega)]; exact ff c i h, by rw [zu_m (by decide), zu_m (by decide), f38], fun _ => ⟨by rw [zu_e, hE], by rw [zu_m (by decide), zu_e, hK], fun h => by omega, by rw [zu_m (by decide), zu_m (by decide), f41]⟩, fun h => absurd (hOd.2 (fun q => by omega)) h⟩
    · have hK : zxK t len s = 2 := by rw [hKd, if_neg c, if_neg c5, if_neg (by unfold zyL; simp only [decide_eq_true_eq]; exact c3)]
      have hE : zxE t len s = S := by
        rw [hEd, if_neg (by omega), if_neg (by omega), if_neg (by omega)]
        exact zre_e (fun q => c4 (of_decide_eq_true q.2))
      have ho : ¬ zxO t len s := fun q => by have := hOd.1 q hK; omega
      rw [if_neg c5, Option.bind_some, Option.bind_some, if_pos (by decide), zgf_ok rfl, Option.bind_some, zu_m (by decide), f41, if_pos (by decide), zpf_ok rfl, Option.bind_some, zgf_ok rfl, Option.bind_some, zpf_ok rfl, Option.bind_some, Option.bind_some, zgf_ok rfl, Option.bind_some, zpf_ok rfl, Option.bind_some]
      refine ⟨_, rfl, fun c i h => ?_, ?_, fun h => absurd h ho, fun _ => ⟨?_, ?_⟩⟩
      · rw [zu_at, if_neg (by omega), zu_at, if_neg (by omega), zu_at, if_neg (by omega), zu_at, if_neg (by omega)]; exact ff c i h
      · rw [zu_m (by decide), zu_m (by decide), zu_m (by decide), zu_m (by decide), f38]
      · rw [zu_m (by decide), zu_m (by decide), zu_e]
      · rw [zu_m (by decide), zu_e, zu_m (by decide), zu_m (by decide), f38]
