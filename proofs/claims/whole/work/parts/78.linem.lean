/-- a line of the reference behind its first word -/
def zRL (n : Nat) (v1 : Int) (it1 it2 it3 : zM → Option (Int × zM)) (M8 : zM) : Option zM :=
    (it1 M8).bind fun p10 =>
    (it2 p10.2).bind fun j11 =>
    (it3 j11.2).bind fun j12 =>
    (zgf zK0 j12.2 12 49 60 41).bind fun v13 =>
    (if zw v13 = 0 then
      (zgf zK0 j12.2 12 49 60 39).bind fun v33 =>
      (if zw v33 = zw 3 then
        some 1
      else
        some 0 : Option (Int)).bind fun j34 =>
      (zgk zK0 60 12 49).bind fun _ => (qmd_wants zK0 j12.2 60 j34 2).bind fun M35 =>
      some M35
    else
      some j12.2 : Option (zM)).bind fun j14 =>
    (zgr zK0 j14 12 49 60 30).bind fun r15 =>
    (zgf zK0 j14 12 49 60 29).bind fun v16 =>
    (zpa zK0 j14 100 r15 v16 v1).bind fun M17 =>
    (zgr zK0 M17 12 49 60 31).bind fun r18 =>
    (zgf zK0 M17 12 49 60 29).bind fun v19 =>
    (zpa zK0 M17 100 r18 v19 p10.1).bind fun M20 =>
    (zgr zK0 M20 12 49 60 32).bind fun r21 =>
    (zgf zK0 M20 12 49 60 29).bind fun v22 =>
    (zpa zK0 M20 100 r21 v22 j11.1).bind fun M23 =>
    (zgr zK0 M23 12 49 60 33).bind fun r24 =>
    (zgf zK0 M23 12 49 60 29).bind fun v25 =>
    (zpa zK0 M23 100 r24 v25 j12.1).bind fun M26 =>
    (zgf zK0 M26 12 49 60 34).bind fun v27 =>
    (if zw v1 = zw 1 then
      some 0
    else
      some (zshl 1 p10.1) : Option (Int)).bind fun j28 =>
    (zpf zK0 M26 12 49 60 34 (zor v27 j28)).bind fun M29 =>
    (zgf zK0 M29 12 49 60 29).bind fun v30 =>
    (zpf zK0 M29 12 49 60 29 (v30 + 1)).bind fun M31 =>
    (zgk zK0 60 12 49).bind fun _ => (qmd_next n zK0 M31 60).bind fun M32 =>
    some M32
/-- what the reference keeps while it reads -/
def zFM (T Q : zM) : Prop := ∀ c i, ¬ (c = 60 ∧ (i = 29 ∨ i = 34 ∨ (37 ≤ i ∧ i ≤ 42))) → ¬ (77 ≤ c ∧ c ≤ 80) → Q c i = T c i
def zTT (t : Int → Int) (len : Int) (T : zM) : Prop := zTM t len T ∧ T 60 30 = 77 ∧ T 60 31 = 78 ∧ T 60 32 = 79 ∧ T 60 33 = 80
theorem zFM.tm {t : Int → Int} {len : Int} {T Q : zM} (hT : zTT t len T) (h : zFM T Q) : zTM t len Q := by
  obtain ⟨⟨h1, h2, h3⟩, -⟩ := hT
  exact ⟨by rw [h 60 35 (by omega) (by omega), h1], by rw [h 60 36 (by omega) (by omega), h2], fun i i0 i1 => by rw [h 81 i (by omega) (by omega), h3 i i0 i1]⟩
theorem zFM.it {T Q Q' : zM} (h : zFM T Q) (hf : ∀ c i, ¬ (c = 60 ∧ 37 ≤ i ∧ i ≤ 42) → Q' c i = Q c i) : zFM T Q' := by
  intro c i h1 h2
  rw [hf c i (by omega)]
  exact h c i h1 h2
/-- the writes of a line -/
def zWr (Q : zM) (k v1 a b c j : Int) : zM := zu (zu (zu (zu (zu (zu Q 77 k v1) 78 k a) 79 k b) 80 k c) 60 34 (zor (Q 60 34) j)) 60 29 (k + 1)
theorem m_write {t : Int → Int} {len : Int} {T Q : zM} {n : Nat} {k v1 a b c : Int} (hT : zTT t len T) (hQ : zFM T Q) (k0 : 0 ≤ k) (k1 : k < 16) (h29 : Q 60 29 = k) (v0 : 0 ≤ v1) (v3 : v1 ≤ 3) : ((zgr zK0 Q 12 49 60 30).bind fun r15 =>
    (zgf zK0 Q 12 49 60 29).bind fun v16 =>
    (zpa zK0 Q 100 r15 v16 v1).bind fun M17 =>
    (zgr zK0 M17 12 49 60 31).bind fun r18 =>
    (zgf zK0 M17 12 49 60 29).bind fun v19 =>
    (zpa zK0 M17 100 r18 v19 a).bind fun M20 =>
    (zgr zK0 M20 12 49 60 32).bind fun r21 =>
    (zgf zK0 M20 12 49 60 29).bind fun v22 =>
    (zpa zK0 M20 100 r21 v22 b).bind fun M23 =>
    (zgr zK0 M23 12 49 60 33).bind fun r24 =>
    (zgf zK0 M23 12 49 60 29).bind fun v25 =>
    (zpa zK0 M23 100 r24 v25 c).bind fun M26 =>
    (zgf zK0 M26 12 49 60 34).bind fun v27 =>
    (if zw v1 = zw 1 then
      some 0
    else
      some (zshl 1 a) : Option (Int)).bind fun j28 =>
    (zpf zK0 M26 12 49 60 34 (zor v27 j28)).bind fun M29 =>
    (zgf zK0 M29 12 49 60 29).bind fun v30 =>
    (zpf zK0 M29 12 49 60 29 (v30 + 1)).bind fun M31 =>
    (zgk zK0 60 12 49).bind fun _ => (qmd_next n zK0 M31 60).bind fun M32 =>
    some M32) = qmd_next n zK0 (zWr Q k v1 a b c (if v1 = 1 then 0 else zshl 1 a)) 60 := by
  obtain ⟨h1, h2, h3, h4, h5⟩ := hT
  have p30 : zgr zK0 Q 12 49 60 30 = some 77 := zgr_ok (v := 77) rfl (by rw [hQ 60 30 (by omega) (by omega), h2]) (by decide)
  have p31 : zgr zK0 Q 12 49 60 31 = some 78 := zgr_ok (v := 78) rfl (by rw [hQ 60 31 (by omega) (by omega), h3]) (by decide)
  have p32 : zgr zK0 Q 12 49 60 32 = some 79 := zgr_ok (v := 79) rfl (by rw [hQ 60 32 (by omega) (by omega), h4]) (by decide)
  have p33 : zgr zK0 Q 12 49 60 33 = some 80 := zgr_ok (v := 80) rfl (by rw [hQ 60 33 (by omega) (by omega), h5]) (by decide)
  rw [p30, Option.bind_some, zgf_ok rfl, Option.bind_some, h29, zpa_ok (N := 16) rfl (by decide) k0 (by omega), Option.bind_some]
  rw [zgr_u (Or.inl (by decide)), p31, Option.bind_some, zgf_ok rfl, Option.bind_some, zu_n (by decide), h29, zpa_ok (N := 16) rfl (by decide) k0 (by omega), Option.bind_some]
  rw [zgr_u (Or.inl (by decide)), zgr_u (Or.inl (by decide)), p32, Option.bind_some, zgf_ok rfl, Option.bind_some, zu_n (by decide), zu_n (by decide), h29, zpa_ok (N := 16) rfl (by decide) k0 (by omega), Option.bind_some]
  rw [zgr_u (Or.inl (by decide)), zgr_u (Or.inl (by decide)), zgr_u (Or.inl (by decide)), p33, Option.bind_some, zgf_ok rfl, Option.bind_some, zu_n (by decide), zu_n (by decide), zu_n (by decide), h29, zpa_ok (N := 16) rfl (by decide) k0 (by omega), Option.bind_some]
  rw [zgf_ok rfl, Option.bind_some, zu_n (by decide), zu_n (by decide), zu_n (by decide), zu_n (by decide), zw_id (x := v1) (by omega) (by omega), zw_id (x := 1) (by decide) (by decide)]
  have e : (if v1 = 1 then some 0 else some (zshl 1 a)) = some (if v1 = 1 then 0 else zshl 1 a) := by
    by_cases w : v1 = 1
    · rw [if_pos w, if_pos w]
    · rw [if_neg w, if_neg w]
  rw [e, Option.bind_some, zpf_ok rfl, Option.bind_some, zgf_ok rfl, Option.bind_some, zu_m (by decide), zu_n (by decide), zu_n (by decide), zu_n (by decide), zu_n (by decide), h29, zpf_ok rfl, Option.bind_some, zgk_ok rfl, Option.bind_some]
  unfold zWr
  cases qmd_next n zK0 (zu (zu (zu (zu (zu (zu Q 77 k v1) 78 k a) 79 k b) 80 k c) 60 34 (zor (Q 60 34) (if v1 = 1 then 0 else zshl 1 a))) 60 29 (k + 1)) 60 with
  | none => rfl
  | some x => rfl
theorem zWr_f {T Q : zM} {k v1 a b c j : Int} (hQ : zFM T Q) : zFM T (zWr Q k v1 a b c j) := by
  intro x i h1 h2
  unfold zWr
  rw [zu_at, if_neg (by omega), zu_at, if_neg (by omega), zu_at, if_neg (by omega), zu_at, if_neg (by omega), zu_at, if_neg (by omega), zu_at, if_neg (by omega)]
  exact hQ x i h1 h2
theorem zWr_60 {Q : zM} {k v1 a b c j i : Int} (h1 : i ≠ 34) (h2 : i ≠ 29) : zWr Q k v1 a b c j 60 i = Q 60 i := by
  unfold zWr
  rw [zu_m h2, zu_m h1, zu_n (by decide), zu_n (by decide), zu_n (by decide), zu_n (by decide)]
/-- the first fault -/
def zFst (f1 f2 f3 f4 S1 S2 S3 S4 f S : Int) : Prop := (f1 ≠ 0 ∧ f = f1 ∧ S = S1) ∨ (f1 = 0 ∧ f2 ≠ 0 ∧ f = f2 ∧ S = S2) ∨ (f1 = 0 ∧ f2 = 0 ∧ f3 ≠ 0 ∧ f = f3 ∧ S = S3) ∨ (f1 = 0 ∧ f2 = 0 ∧ f3 = 0 ∧ f4 ≠ 0 ∧ f = f4 ∧ S = S4)
/-- an item as the reference reads it -/
def zIv (t : Int → Int) (len b34 : Int) (it : zM → Option (Int × zM)) (s f w : Int) : Prop := (∀ Q, zTM t len Q → Q 60 34 = b34 → zTK t len s Q → ∃ v Q', it Q = some (v, Q') ∧ zIm t len Q Q' f (zxS t len s) (zxE t len s) (v = w)) ∧ (∀ Q, zTM t len Q → 1 ≤ Q 60 41 → Q 60 41 ≤ 5 → 0 ≤ Q 60 38 → Q 60 38 ≤ 240 → ∃ v, it Q = some (v, Q)) ∧ 0 ≤ f ∧ f ≤ 5
theorem m_line {t : Int → Int} {len : Int} {T Q : zM} {n : Nat} {k v1 s1 f1 f2 f3 w1 w2 w3 b34 : Int} {it1 it2 it3 : zM → Option (Int × zM)} (hn : 1000000 ≤ n) (ht : ∀ i, 0 ≤ i → i < len → 0 ≤ t i ∧ t i ≤ 255) (l0 : 0 ≤ len) (l1 : len ≤ 240) (hT : zTT t len T) (hQ : zFM T Q) (k0 : 0 ≤ k) (k1 : k < 16) (h29 : Q 60 29 = k) (h34 : Q 60 34 = b34) (v0 : 0 ≤ v1) (v3 : v1 ≤ 3) (s0 : 0 ≤ s1) (s1' : s1 ≤ len) (hK : zTK t len s1 Q)
    (i1 : zIv t len b34 it1 s1 f1 w1) (i2 : zIv t len b34 it2 (zxE t len s1) f2 w2) (i3 : zIv t len b34 it3 (zxE t len (zxE t len s1)) f3 w3) :
    ∃ Q', zRL n v1 it1 it2 it3 Q = some Q' ∧ zFM T Q' ∧
      (f1 = 0 → f2 = 0 → f3 = 0 → zfM t len (zxE t len (zxE t len (zxE t len s1))) = 0 → zTK t len (zxE t len (zxE t len (zxE t len (zxE t len s1)))) Q' ∧ Q' 60 29 = k + 1 ∧ Q' 60 34 = zor b34 (if v1 = 1 then 0 else zshl 1 w1) ∧ Q' 77 k = v1 ∧ Q' 78 k = w1 ∧ Q' 79 k = w2 ∧ Q' 80 k = w3 ∧ ∀ c i, 77 ≤ c → c ≤ 80 → i ≠ k → Q' c i = Q c i) ∧
      ∀ f S, zFst f1 f2 f3 (zfM t len (zxE t len (zxE t len (zxE t len s1)))) (zxS t len s1) (zxS t len (zxE t len s1)) (zxS t len (zxE t len (zxE t len s1))) (zxS t len (zxE t len (zxE t len (zxE t len s1)))) f S → Q' 60 41 = f ∧ Q' 60 42 = S := by
  obtain ⟨a1, a2, a3, -, -, -, -⟩ := zxSE (t := t) s0 s1'
  obtain ⟨b1, b2, b3, -, -, -, -⟩ := zxSE (t := t) (s := zxE t len s1) (by omega) a3
  obtain ⟨c1, c2, c3, -, -, -, -⟩ := zxSE (t := t) (s := zxE t len (zxE t len s1)) (by omega) b3
  obtain ⟨d1, d2, d3, -, d5, d6, -⟩ := zxSE (t := t) (s := zxE t len (zxE t len (zxE t len s1))) (by omega) c3
  -- behind the items: a fault
  have flt : ∀ (Qc : zM) (x y z f S : Int), zFM T Qc → Qc 60 29 = k → 1 ≤ f → f ≤ 5 → Qc 60 41 = f → Qc 60 42 = S → ∃ Q', ((zgf zK0 Qc 12 49 60 41).bind fun v13 =>
    (if zw v13 = 0 then
      (zgf zK0 Qc 12 49 60 39).bind fun v33 =>
      (if zw v33 = zw 3 then
        some 1
      else
        some 0 : Option (Int)).bind fun j34 =>
      (zgk zK0 60 12 49).bind fun _ => (qmd_wants zK0 Qc 60 j34 2).bind fun M35 =>
      some M35
    else
      some Qc : Option (zM)).bind fun j14 =>
    (zgr zK0 j14 12 49 60 30).bind fun r15 =>
    (zgf zK0 j14 12 49 60 29).bind fun v16 =>
    (zpa zK0 j14 100 r15 v16 v1).bind fun M17 =>
    (zgr zK0 M17 12 49 60 31).bind fun r18 =>
    (zgf zK0 M17 12 49 60 29).bind fun v19 =>
    (zpa zK0 M17 100 r18 v19 x).bind fun M20 =>
    (zgr zK0 M20 12 49 60 32).bind fun r21 =>
    (zgf zK0 M20 12 49 60 29).bind fun v22 =>
    (zpa zK0 M20 100 r21 v22 y).bind fun M23 =>
    (zgr zK0 M23 12 49 60 33).bind fun r24 =>
    (zgf zK0 M23 12 49 60 29).bind fun v25 =>
    (zpa zK0 M23 100 r24 v25 z).bind fun M26 =>
    (zgf zK0 M26 12 49 60 34).bind fun v27 =>
    (if zw v1 = zw 1 then
      some 0
    else
      some (zshl 1 x) : Option (Int)).bind fun j28 =>
    (zpf zK0 M26 12 49 60 34 (zor v27 j28)).bind fun M29 =>
    (zgf zK0 M29 12 49 60 29).bind fun v30 =>
    (zpf zK0 M29 12 49 60 29 (v30 + 1)).bind fun M31 =>
    (zgk zK0 60 12 49).bind fun _ => (qmd_next n zK0 M31 60).bind fun M32 =>
    some M32) = some Q' ∧ zFM T Q' ∧ Q' 60 41 = f ∧ Q' 60 42 = S := by
    intro Qc x y z f S h1 h2 h3 h4 h5 h6
    rw [zgf_ok (r := 60) (ci := 12) (N := 49) (k := 41) rfl, Option.bind_some, h5, zw_id (x := f) (by omega) (by omega), if_neg (show ¬ f = 0 by omega), Option.bind_some, m_write hT h1 k0 k1 h2 v0 v3]
    have e41 : zWr Qc k v1 x y z (if v1 = 1 then 0 else zshl 1 x) 60 41 = f := by rw [zWr_60 (by decide) (by decide), h5]
    rw [m_nextF (by omega) (by omega)]
    exact ⟨_, rfl, zWr_f h1, e41, by rw [zWr_60 (by decide) (by decide), h6]⟩
  unfold zRL
  obtain ⟨va, Qa, e1, r1, r2, r3⟩ := i1.1 Q (hQ.tm hT) h34 hK
  have fa := hQ.it r1
  have a29 : Qa 60 29 = k := by rw [r1 60 29 (by omega), h29]
  have a34 : Qa 60 34 = b34 := by rw [r1 60 34 (by omega), h34]
  rw [e1, Option.bind_some]
  by_cases z1 : f1 = 0
  rotate_left
  · obtain ⟨y1, y2, y3⟩ := r3 z1
    have := i1.2.2
    obtain ⟨vb, e2⟩ := i2.2.1 Qa (fa.tm hT) (by omega) (by omega) (by omega) (by omega)
    obtain ⟨vc, e3⟩ := i3.2.1 Qa (fa.tm hT) (by omega) (by omega) (by omega) (by omega)
    rw [e2, Option.bind_some, e3, Option.bind_some]
    obtain ⟨Q', x1, x2, x3, x4⟩ := flt Qa va vb vc f1 _ fa a29 (by omega) (by omega) y1 y2
    refine ⟨Q', x1, x2, fun q => absurd q z1, ?_⟩
    rintro f S (⟨-, rfl, rfl⟩ | ⟨q, -⟩ | ⟨q, -⟩ | ⟨q, -⟩)
    · exact ⟨x3, x4⟩
    all_goals exact absurd q z1
  obtain ⟨rfl, ka⟩ := r2 z1
  obtain ⟨vb, Qb, e2, u1, u2, u3⟩ := i2.1 Qa (fa.tm hT) a34 ka
  have fb := fa.it u1
  have b29 : Qb 60 29 = k := by rw [u1 60 29 (by omega), a29]
  have b34' : Qb 60 34 = b34 := by rw [u1 60 34 (by omega), a34]
  dsimp only
  rw [e2, Option.bind_some]
  by_cases z2 : f2 = 0
  rotate_left
  · obtain ⟨y1, y2, y3⟩ := u3 z2
    have := i2.2.2
    obtain ⟨vc, e3⟩ := i3.2.1 Qb (fb.tm hT) (by omega) (by omega) (by omega) (by omega)
    rw [e3, Option.bind_some]
    obtain ⟨Q', x1, x2, x3, x4⟩ := flt Qb va vb vc f2 _ fb b29 (by omega) (by omega) y1 y2
    refine ⟨Q', x1, x2, fun _ q => absurd q z2, ?_⟩
    rintro f S (⟨q, -⟩ | ⟨-, -, rfl, rfl⟩ | ⟨-, q, -⟩ | ⟨-, q, -⟩)
    · exact absurd z1 q
    · exact ⟨x3, x4⟩
    all_goals exact absurd q z2
  obtain ⟨rfl, kb⟩ := u2 z2
  obtain ⟨vc, Qc, e3, g1, g2, g3⟩ := i3.1 Qb (fb.tm hT) b34' kb
  have fc := fb.it g1
  have c29 : Qc 60 29 = k := by rw [g1 60 29 (by omega), b29]
  have c34 : Qc 60 34 = b34 := by rw [g1 60 34 (by omega), b34']
  dsimp only
  rw [e3, Option.bind_some]
  by_cases z3 : f3 = 0
  rotate_left
  · obtain ⟨y1, y2, y3⟩ := g3 z3
    have := i3.2.2
    obtain ⟨Q', x1, x2, x3, x4⟩ := flt Qc va vb vc f3 _ fc c29 (by omega) (by omega) y1 y2
    refine ⟨Q', x1, x2, fun _ _ q => absurd q z3, ?_⟩
    rintro f S (⟨q, -⟩ | ⟨-, q, -⟩ | ⟨-, -, -, rfl, rfl⟩ | ⟨-, -, q, -⟩)
    · exact absurd z1 q
    · exact absurd z2 q
    · exact ⟨x3, x4⟩
    · exact absurd q z3
  obtain ⟨rfl, kc⟩ := g2 z3
  dsimp only
  obtain ⟨s4, hs4⟩ : ∃ s4, zxE t len (zxE t len (zxE t len s1)) = s4 := ⟨_, rfl⟩
  rw [hs4] at kc d1 d2 d3 d5 d6 ⊢
  obtain ⟨k1', k2, k3⟩ := id kc
  have nof : ∀ f S S1 S2 S3, zFst f1 f2 f3 (zfM t len s4) S1 S2 S3 (zxS t len s4) f S → zfM t len s4 ≠ 0 ∧ f = zfM t len s4 ∧ S = zxS t len s4 := by
    rintro f S S1 S2 S3 (⟨q, -⟩ | ⟨-, q, -⟩ | ⟨-, -, q, -⟩ | ⟨-, -, -, q1, q2, q3⟩)
    · exact absurd z1 q
    · exact absurd z2 q
    · exact absurd z3 q
    · exact ⟨q1, q2, q3⟩
  by_cases o : zxo t len s4 = true
  rotate_left
  · obtain ⟨y1, y2⟩ := k3 (zxo_f o)
    have hm : zfM t len s4 = 1 := by unfold zfM; rw [if_neg o]
    obtain ⟨Q', x1, x2, x3, x4⟩ := flt Qc va vb vc 1 _ fc c29 (by omega) (by omega) y1 y2
    refine ⟨Q', x1, x2, fun _ _ _ q => by omega, fun f S hF => ?_⟩
    obtain ⟨-, q2, q3⟩ := nof f S _ _ _ hF
    rw [q2, q3, hm]
    exact ⟨x3, x4⟩
  obtain ⟨k4, k5, k6, k7⟩ := k2 (zxo_t o)
  rw [zgf_ok (r := 60) (ci := 12) (N := 49) (k := 41) rfl, Option.bind_some, k7, if_pos (show zw 0 = 0 by decide), zgf_ok (r := 60) (ci := 12) (N := 49) (k := 39) rfl, Option.bind_some, k5, zw_id (x := zxK t len s4) (by omega) (by omega), zw_id (x := 3) (by decide) (by decide)]
  by_cases c : zxK t len s4 = 3
  · have hm : zfM t len s4 = 0 := by unfold zfM; rw [if_pos o, if_pos c]
    rw [if_pos c, Option.bind_some, zgk_ok (r := 60) (ci := 12) (N := 49) rfl, Option.bind_some, m_wants1, Option.bind_some, Option.bind_some]
    have mw := m_write (n := n) (a := va) (b := vb) (c := vc) hT fc k0 k1 c29 v0 v3
    rw [zgk_ok (r := 60) (ci := 12) (N := 49) rfl] at mw
    rw [mw]
    obtain ⟨Q', e4, h1, h2⟩ := m_tok (s := zxE t len s4) (Q := zWr Qc k v1 va vb vc (if v1 = 1 then 0 else zshl 1 va)) hn ht l0 l1 ((zWr_f fc).tm hT) (by rw [zWr_60 (by decide) (by decide), k4]) (by rw [zWr_60 (by decide) (by decide), k7]) (by omega) d3
    rw [e4]
    refine ⟨Q', rfl, (zWr_f fc).it h1, fun _ _ _ _ => ⟨h2, ?_, ?_, ?_, ?_, ?_, ?_, fun x i x0 x1 hi => ?_⟩, fun f S hF => absurd hm (nof f S _ _ _ hF).1⟩
    · rw [h1 60 29 (by omega)]; unfold zWr; rw [zu_e]
    · rw [h1 60 34 (by omega)]; unfold zWr; rw [zu_m (by decide), zu_e, c34]
    · rw [h1 77 k (by omega)]; unfold zWr; rw [zu_n (by decide), zu_n (by decide), zu_n (by decide), zu_n (by decide), zu_n (by decide), zu_e]
    · rw [h1 78 k (by omega)]; unfold zWr; rw [zu_n (by decide), zu_n (by decide), zu_n (by decide), zu_n (by decide), zu_e]
    · rw [h1 79 k (by omega)]; unfold zWr; rw [zu_n (by decide), zu_n (by decide), zu_n (by decide), zu_e]
    · rw [h1 80 k (by omega)]; unfold zWr; rw [zu_n (by decide), zu_n (by decide), zu_e]
    · rw [h1 x i (by omega)]
      unfold zWr
      rw [zu_n (by omega), zu_n (by omega), zu_m hi, zu_m hi, zu_m hi, zu_m hi, g1 x i (by omega), u1 x i (by omega), r1 x i (by omega)]
  · have hm : zfM t len s4 = 2 := by unfold zfM; rw [if_pos o, if_neg c]
    rw [if_neg c, Option.bind_some, zgk_ok (r := 60) (ci := 12) (N := 49) rfl, Option.bind_some, m_wants0 k7, Option.bind_some, Option.bind_some]
    obtain ⟨Z, hZ⟩ : ∃ Z, zu (zu Qc 60 41 2) 60 42 (Qc 60 38) = Z := ⟨_, rfl⟩
    have z41 : Z 60 41 = 2 := by rw [← hZ, zu_m (by decide), zu_e]
    have z42 : Z 60 42 = zxS t len s4 := by rw [← hZ, zu_e, k1']
    have zf : zFM T Z := fc.it (fun x i h => by rw [← hZ, zu_at, if_neg (by omega), zu_at, if_neg (by omega)])
    have z29 : Z 60 29 = k := by rw [← hZ, zu_m (by decide), zu_m (by decide), c29]
    rw [hZ]
    have mw := m_write (n := n) (a := va) (b := vb) (c := vc) hT zf k0 k1 z29 v0 v3
    rw [zgk_ok (r := 60) (ci := 12) (N := 49) rfl] at mw
    have e41 : zWr Z k v1 va vb vc (if v1 = 1 then 0 else zshl 1 va) 60 41 = 2 := by rw [zWr_60 (by decide) (by decide), z41]
    rw [mw, m_nextF (by omega) (by omega)]
    refine ⟨_, rfl, zWr_f zf, fun _ _ _ q => by omega, fun f S hF => ?_⟩
    obtain ⟨-, q2, q3⟩ := nof f S _ _ _ hF
    rw [q2, q3, hm]
    exact ⟨e41, by rw [zWr_60 (by decide) (by decide), z42]⟩
