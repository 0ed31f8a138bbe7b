theorem md_more {K : zK} {M : zM} {a b : Int} (ha : zrg a) (hb : zrg b) : qmd_more K M a b = some (zmx a b) := by
  unfold qmd_more zmx
  rw [zw_id ha.1 ha.2, zw_id hb.1 hb.2]
  by_cases c : a < b
  · rw [if_pos c, if_pos (by omega)]
  · rw [if_neg c]
    by_cases d : a ≤ b
    · rw [if_pos d, show b = a by omega]
    · rw [if_neg d]
theorem zmax_x {a b : Int} (ha : zrg a) (hb : zrg b) : zmax a b = zmx a b := by
  rw [zmax_ok ha.1 ha.2 hb.1 hb.2]
  rfl
theorem zmx_rg {a b lo hi : Int} (h1 : lo ≤ a ∧ a ≤ hi) (h2 : lo ≤ b ∧ b ≤ hi) : lo ≤ zmx a b ∧ zmx a b ≤ hi ∧ a ≤ zmx a b ∧ b ≤ zmx a b := by
  unfold zmx
  split <;> omega
theorem zstq {p q i : Int} (hp : p = 46 ∨ p = 53) (q0 : 1 ≤ q) (q1 : q ≤ 6) : zste (p + q) i = true := by
  rcases hp with rfl | rfl
  · rcases (show q = 1 ∨ q = 2 ∨ q = 3 ∨ q = 4 ∨ q = 5 ∨ q = 6 by omega) with rfl | rfl | rfl | rfl | rfl | rfl <;> rfl
  · rcases (show q = 1 ∨ q = 2 ∨ q = 3 ∨ q = 4 ∨ q = 5 ∨ q = 6 by omega) with rfl | rfl | rfl | rfl | rfl | rfl <;> rfl
/-- the cells of a program -/
theorem zprK {p : Int} (hp : p = 46 ∨ p = 53) : zkd zK0 p = some (3, 7) ∧ zkd zK0 (p + 1) = some (100, 16) ∧ zkd zK0 (p + 2) = some (100, 16) ∧ zkd zK0 (p + 3) = some (100, 16) ∧ zkd zK0 (p + 4) = some (100, 16) ∧ zkd zK0 (p + 5) = some (100, 16) ∧ zkd zK0 (p + 6) = some (100, 16) := by
  rcases hp with rfl | rfl
  · exact ⟨rfl, rfl, rfl, rfl, rfl, rfl, rfl⟩
  · exact ⟨rfl, rfl, rfl, rfl, rfl, rfl, rfl⟩
theorem zprG {P : zM} {p : Int} (g : zPt P) (hp : p = 46 ∨ p = 53) : zgr zK0 P 3 7 p 0 = some (p + 1) ∧ zgr zK0 P 3 7 p 1 = some (p + 2) ∧ zgr zK0 P 3 7 p 2 = some (p + 3) ∧ zgr zK0 P 3 7 p 3 = some (p + 4) ∧ zgr zK0 P 3 7 p 4 = some (p + 5) ∧ zgr zK0 P 3 7 p 5 = some (p + 6) := by
  unfold zPt at g
  rcases hp with rfl | rfl
  · simp only [g]; decide
  · simp only [g]; decide
def zun (k : Int) : Int := if k = 2 then 1 else if k = 3 then 2 else 0
def zdl (q k : Int) : Int := if k = 2 then 3 else if k = 3 then 5 else q
theorem c_unit {M : zM} {k : Int} (k0 : 0 ≤ k) (k1 : k ≤ 3) : qpr_unitOf zK0 M k = some (zun k) := by
  unfold qpr_unitOf zun
  rw [zw_id (x := k) (by omega) (by omega), zw_id (x := 2) (by decide) (by decide), zw_id (x := 3) (by decide) (by decide)]
  split
  · rfl
  · split <;> rfl
theorem c_delay {M : zM} {k q : Int} (k0 : 0 ≤ k) (k1 : k ≤ 3) : qtm_delayOf zK0 M k q = some (zdl q k) := by
  unfold qtm_delayOf zdl
  rw [zw_id (x := k) (by omega) (by omega), zw_id (x := 2) (by decide) (by decide), zw_id (x := 3) (by decide) (by decide)]
  split
  · rfl
  · split <;> rfl
/-- the program as the reference has it -/
def zPr (M : zM) (p : Int) : Prop := (p = 46 ∨ p = 53) ∧ M 1 12 = p ∧ 0 ≤ M p 6 ∧ M p 6 ≤ 16 ∧ M 60 24 = M p 6 ∧ ∀ k, 0 ≤ k → k < M p 6 → zli M p k ∧ M 73 k = M (p + 1) k ∧ M 74 k = M (p + 2) k ∧ M 75 k = M (p + 3) k ∧ M 76 k = M (p + 4) k
theorem Iv.pr {M : zM} (I : Iv M) : ∃ p, zPr M p := by
  obtain ⟨a1, a2, a3, a4, a5⟩ := I.2.2.2.2.2.1
  refine ⟨M 1 12, ?_, rfl, a2, a3, a4, a5⟩
  rcases a1 with a1 | a1
  · exact Or.inl a1.1
  · exact Or.inr a1.1
theorem m_made {M Q : zM} {n : Nat} {p k r j : Int} (hn : 1000000 ≤ n) (I : Iv M) (hQ : zsa M Q) (hp : zPr M p) (k1 : k ≤ M p 6) (r0 : 0 ≤ r) (r1 : r ≤ 7) (h : zmk M p k r j) : qmd_madeBy n zK0 Q 60 k r = some j := by
  obtain ⟨j0, j1, j2, j3, j4⟩ := h
  obtain ⟨p0, p1, p2, p3, p4, p5⟩ := hp
  have g := (I.keep hQ).g
  unfold zPt at g
  have g25 : zgr zK0 Q 12 49 60 25 = some 73 := by simp only [g]
  have g26 : zgr zK0 Q 12 49 60 26 = some 74 := by simp only [g]
  unfold qmd_madeBy
  rw [Option.bind_some]
  refine zwh_eq (fun s => j ≤ s ∧ s < k) (fun s => (s - j).toNat) ?_ n _ ⟨by omega, by omega⟩ (by omega)
  rintro s ⟨s0, s1⟩
  obtain ⟨l1, l2, l3, l4, l5⟩ := p5 s (by omega) (by omega)
  unfold zli at l1
  rw [g25, Option.bind_some, zga_ok (N := 16) rfl (by decide) (by omega) (by omega), Option.bind_some, g26, Option.bind_some, zga_ok (N := 16) rfl (by decide) (by omega) (by omega), Option.bind_some, hQ 73 s rfl, hQ 74 s rfl, l2, l3, zw_id (x := M (p + 1) s) (by omega) (by omega), zw_id (x := 1) (by decide) (by decide), zw_id (x := M (p + 2) s) (by omega) (by omega), zw_id (x := r) (by omega) (by omega)]
  by_cases c : s = j
  · right
    rw [c, if_neg j2, if_pos j3]
    rfl
  · left
    refine ⟨s + -1, ?_, ⟨by omega, by omega⟩, by omega⟩
    rcases j4 s (by omega) s1 with q | q
    · rw [if_pos q]; rfl
    · by_cases d : M (p + 1) s = 1
      · rw [if_pos d]; rfl
      · rw [if_neg d, if_neg q]; rfl
theorem m_there {M Q : zM} {n : Nat} {i e l a : Int} (hn : 1000000 ≤ n) (I : Iv M) (hQ : zsa M Q) (i0 : 0 ≤ i) (i1 : i < 16) (e0 : 0 ≤ e) (e1 : e < l) (l1 : l ≤ 64) (hb : ∀ x, 0 ≤ x → x < l → 0 ≤ Q 83 (64 * i + x) ∧ Q 83 (64 * i + x) ≤ 100000) (hm : ∀ x y, 0 ≤ x → x ≤ y → y < l → Q 83 (64 * i + x) ≤ Q 83 (64 * i + y)) : qmd_thereAt n zK0 Q 60 i e l a = some (Q 83 (64 * i + (if zw a = 0 then l - 1 else e))) := by
  have g := (I.keep hQ).g
  unfold zPt at g
  have g44 : zgr zK0 Q 12 49 60 44 = some 83 := by simp only [g]
  unfold qmd_thereAt
  rw [g44, Option.bind_some, zga_ok (N := 1024) rfl (by decide) (by omega) (by omega), Option.bind_some]
  by_cases c : zw a = 0
  · rw [if_pos c]
    refine zwh_eq (fun s => 0 ≤ s.2 ∧ s.2 ≤ l ∧ s.1 ≤ Q 83 (64 * i + (l - 1)) ∧ 0 ≤ s.1 ∧ s.1 ≤ 100000 ∧ ∀ x, 0 ≤ x → x < s.2 → Q 83 (64 * i + x) ≤ s.1) (fun s => (l - s.2).toNat) ?_ n _ ⟨by simp, by dsimp only; omega, hm e (l - 1) e0 (by omega) (by omega), (hb e e0 e1).1, (hb e e0 e1).2, fun x x0 x1 => by dsimp only at x1; omega⟩ (by dsimp only; omega)
    rintro ⟨v, s⟩ ⟨s0, s1, s2, s3, s4, s5⟩
    dsimp only at s0 s1 s2 s3 s4 s5 ⊢
    rw [zw_id (x := l) (by omega) (by omega), zw_id (x := s) (by omega) (by omega)]
    by_cases d : l ≤ s
    · right
      have := s5 (l - 1) (by omega) (by omega)
      rw [if_pos d, show v = Q 83 (64 * i + (l - 1)) by omega]
    · left
      have b := hb s s0 (by omega)
      have b2 := hm s (l - 1) s0 (by omega) (by omega)
      rw [if_neg d, if_pos c, Option.bind_some, zga_ok (N := 1024) rfl (by decide) (by omega) (by omega), Option.bind_some, zw_id (x := Q 83 (64 * i + s)) (by omega) (by omega), zw_id (x := v) (by omega) (by omega)]
      by_cases f : Q 83 (64 * i + s) ≤ v
      · rw [if_pos f, Option.bind_some]
        refine ⟨_, rfl, ⟨by dsimp only; omega, by dsimp only; omega, s2, s3, s4, fun x x0 x1 => ?_⟩, by dsimp only; omega⟩
        dsimp only at x1 ⊢
        by_cases q : x = s
        · rw [q]; exact f
        · exact s5 x x0 (by omega)
      · rw [if_neg f, Option.bind_some, zga_ok (N := 1024) rfl (by decide) (by omega) (by omega), Option.bind_some, Option.bind_some]
        refine ⟨_, rfl, ⟨by dsimp only; omega, by dsimp only; omega, b2, b.1, b.2, fun x x0 x1 => ?_⟩, by dsimp only; omega⟩
        dsimp only at x1 ⊢
        exact hm x s x0 (by omega) (by omega)
  · rw [if_neg c]
    refine zwh_eq (fun s => s = (Q 83 (64 * i + e), 0)) (fun _ => 0) ?_ n _ rfl (by omega)
    rintro s rfl
    right
    dsimp only
    rw [zw_id (x := l) (by omega) (by omega), zw_id (x := 0) (by decide) (by decide), if_neg (by omega), if_neg c]
/-- both sides' tables of beats, e elements of line k done -/
def zTR (P Q : zM) (l k e u : Int) : Prop :=
  (∀ j, 0 ≤ j → j < 17 → Q 69 j = P 36 j ∧ 0 ≤ P 36 j ∧ P 36 j ≤ 13 * (64 * k + e)) ∧ (∀ j, 0 ≤ j → j < 3 → Q 84 j = P 35 j ∧ 0 ≤ P 35 j ∧ P 35 j ≤ 13 * (64 * k + e)) ∧
  (∀ i x, 0 ≤ i → 0 ≤ x → x < l → (i < k ∨ (i = k ∧ x < e)) → Q 82 (64 * i + x) = P 33 (64 * i + x) ∧ Q 83 (64 * i + x) = P 33 (64 * i + x) + P 34 i ∧ 0 ≤ P 33 (64 * i + x) ∧ P 33 (64 * i + x) + P 34 i ≤ 13 * (64 * k + e) ∧ ∀ y, x ≤ y → y < l → (i < k ∨ (i = k ∧ y < e)) → P 33 (64 * i + x) ≤ P 33 (64 * i + y)) ∧
  (∀ i, 0 ≤ i → i < k → 0 ≤ P 34 i ∧ P 34 i ≤ 12) ∧ ∀ x, 0 ≤ x → x < e → P 33 (64 * k + x) < P 35 u
theorem zTR_s {P Q P1 Q1 : zM} {l k e u b d : Int} (h : zTR P Q l k e u) (k0 : 0 ≤ k) (e0 : 0 ≤ e) (e1 : e < l) (l1 : l ≤ 64) (u0 : 0 ≤ u) (u1 : u < 3) (b0 : P 35 u ≤ b) (b1 : b ≤ 13 * (64 * k + e)) (hd : P 34 k = d) (d0 : 0 ≤ d) (d1 : d ≤ 12) (hP : ∀ c i, c ≠ 36 → P1 c i = P c i) (hQ : ∀ c i, c ≠ 69 → Q1 c i = Q c i) (hr : ∀ j, 0 ≤ j → j < 17 → Q1 69 j = P1 36 j ∧ 0 ≤ P1 36 j ∧ P1 36 j ≤ 13 * (64 * k + e) + 12) : zTR (zu (zu P1 33 (64 * k + e) b) 35 u (b + 1)) (zu (zu (zu Q1 82 (64 * k + e) b) 83 (64 * k + e) (b + d)) 84 u (b + 1)) l k (e + 1) u := by
  obtain ⟨h1, h2, h3, h4, h5⟩ := h
  have hu := h2 u u0 u1
  refine ⟨fun j j0 j1 => ?_, fun j j0 j1 => ?_, fun i x i0 x0 x1 hx => ?_, fun i i0 i1 => ?_, fun x x0 x1 => ?_⟩
  · rw [zu_n (by decide), zu_n (by decide), zu_n (by decide), zu_n (by decide), zu_n (by decide)]
    have := hr j j0 j1
    omega
  · by_cases w : j = u
    · rw [w, zu_e, zu_e]
      omega
    · rw [zu_m w, zu_m w, zu_n (by decide), zu_n (by decide), zu_n (by decide), hP 35 j (by decide), hQ 84 j (by decide)]
      have := h2 j j0 j1
      omega
  · rw [zu_n (show (82 : Int) ≠ 84 by decide), zu_n (show (82 : Int) ≠ 83 by decide), zu_n (show (83 : Int) ≠ 84 by decide), zu_n (show (33 : Int) ≠ 35 by decide), zu_n (show (34 : Int) ≠ 35 by decide), zu_n (show (34 : Int) ≠ 33 by decide), hP 34 i (by decide)]
    by_cases w : i = k ∧ x = e
    · obtain ⟨rfl, rfl⟩ := w
      rw [zu_e, zu_e, zu_e, hd]
      refine ⟨rfl, rfl, by omega, by omega, fun y y0 y1 y2 => ?_⟩
      have : y = x := by omega
      rw [zu_n (by decide), this, zu_e]
      omega
    · have ne : 64 * i + x ≠ 64 * k + e := by omega
      obtain ⟨a1, a2, a3, a4, a5⟩ := h3 i x i0 x0 x1 (by omega)
      simp only [zu_m ne, zu_n (show (83 : Int) ≠ 82 by decide)]
      rw [hQ 82 _ (by decide), hQ 83 _ (by decide), hP 33 _ (by decide)]
      refine ⟨a1, a2, a3, by omega, fun y y0 y1 y2 => ?_⟩
      rw [zu_n (by decide)]
      by_cases q : i = k ∧ y = e
      · obtain ⟨rfl, rfl⟩ := q
        rw [zu_e]
        have := h5 x x0 (by omega)
        omega
      · rw [zu_m (by omega), hP 33 _ (by decide)]
        exact a5 y y0 y1 (by omega)
  · rw [zu_n (by decide), zu_n (by decide), hP 34 i (by decide)]
    exact h4 i i0 i1
  · rw [zu_n (by decide), zu_e]
    by_cases w : x = e
    · rw [w, zu_e]; omega
    · rw [zu_m (by omega), hP 33 _ (by decide)]
      have := h5 x x0 (by omega)
      omega
