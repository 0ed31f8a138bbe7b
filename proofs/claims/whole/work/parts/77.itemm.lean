/-- the reference in a fault: nothing moves -/
theorem m_wantsF {Q : zM} {a k : Int} (h1 : 1 ≤ Q 60 41) (h2 : Q 60 41 ≤ 5) : qmd_wants zK0 Q 60 a k = some Q := by
  unfold qmd_wants
  by_cases c : zw a = 0
  · rw [if_pos c, zgf_ok rfl, Option.bind_some, zw_id (x := Q 60 41) (by omega) (by omega), if_neg (by omega)]
  · rw [if_neg c]
theorem m_wants1 {Q : zM} {k : Int} : qmd_wants zK0 Q 60 1 k = some Q := by
  unfold qmd_wants
  rw [if_neg (by decide)]
theorem m_wants0 {Q : zM} {k : Int} (h : Q 60 41 = 0) : qmd_wants zK0 Q 60 0 k = some (zu (zu Q 60 41 k) 60 42 (Q 60 38)) := by
  unfold qmd_wants
  rw [if_pos (by decide), zgf_ok rfl, Option.bind_some, h, if_pos (by decide), zpf_ok rfl, Option.bind_some, zgf_ok rfl, Option.bind_some, zu_m (by decide), zpf_ok rfl, Option.bind_some]
theorem m_nextF {Q : zM} {n : Nat} (h1 : 1 ≤ Q 60 41) (h2 : Q 60 41 ≤ 5) : qmd_next n zK0 Q 60 = some Q := by
  unfold qmd_next
  rw [zgf_ok rfl, Option.bind_some, zw_id (x := Q 60 41) (by omega) (by omega), if_neg (by omega)]
theorem m_numberF {Q : zM} {n : Nat} {lo hi : Int} (h1 : 1 ≤ Q 60 41) (h2 : Q 60 41 ≤ 5) : ∃ v, qmd_readNumber n zK0 Q 60 lo hi = some (v, Q) := by
  unfold qmd_readNumber
  obtain ⟨j, hj⟩ : ∃ j, (if zw (Q 60 39) = zw 2 then some (1 : Int) else some 0) = some j := by
    by_cases c : zw (Q 60 39) = zw 2
    · exact ⟨1, by rw [if_pos c]⟩
    · exact ⟨0, by rw [if_neg c]⟩
  rw [zgf_ok rfl, Option.bind_some, hj, Option.bind_some, zgk_ok rfl, Option.bind_some, m_wantsF h1 h2, Option.bind_some, zgf_ok rfl, Option.bind_some, zw_id (x := Q 60 41) (by omega) (by omega), if_neg (by omega), Option.bind_some, zgf_ok rfl, Option.bind_some, Option.bind_some, m_nextF h1 h2, Option.bind_some]
  exact ⟨_, rfl⟩
theorem m_rowF {Q : zM} {n : Nat} {t : Int → Int} {len a : Int} (l0 : 0 ≤ len) (l1 : len ≤ 240) (hT : zTM t len Q) (h1 : 1 ≤ Q 60 41) (h2 : Q 60 41 ≤ 5) (h38 : 0 ≤ Q 60 38) (h38' : Q 60 38 ≤ 240) : ∃ v, qmd_readRow n zK0 Q 60 a = some (v, Q) := by
  unfold qmd_readRow
  have tail : ∀ X : Option (Unit ⊕ (Int × zM)), X = some (.inl ()) → ∃ v, (zesc X fun j2 =>
  (some ()).bind fun _ => (qmd_wants zK0 Q 60 0 2).bind fun M3 =>
  (zgf zK0 M3 12 49 60 41).bind fun v4 =>
  (if zw v4 = 0 then
    (zgf zK0 M3 12 49 60 38).bind fun v13 =>
    (some ()).bind fun _ => (qmd_look zK0 M3 60 v13).bind fun v14 =>
    some (v14 - 97)
  else
    some 0 : Option (Int)).bind fun j5 =>
  (zgf zK0 M3 12 49 60 41).bind fun v6 =>
  (if zw v6 = 0 then
    zesc (β := Unit) (if zw a = 0 then
      some (.inl ())
    else
      (zgf zK0 M3 12 49 60 34).bind fun v11 =>
      if zw (zand (zshr v11 j5) 1) = zw 1 then
        some (.inl ())
      else
        (some ()).bind fun _ => (qmd_wants zK0 M3 60 0 4).bind fun M12 =>
        some (.inr M12)) fun j9 =>
    (some ()).bind fun _ => (qmd_wants zK0 M3 60 1 4).bind fun M10 =>
    some M10
  else
    some M3 : Option (zM)).bind fun j7 =>
  (some ()).bind fun _ => (qmd_next n zK0 j7 60).bind fun M8 =>
  some (j5, M8)) = some (v, Q) := by
    rintro X rfl
    unfold zesc
    dsimp only
    rw [Option.bind_some, m_wantsF h1 h2, Option.bind_some, zgf_ok rfl, Option.bind_some, zw_id (x := Q 60 41) (by omega) (by omega), if_neg (by omega), Option.bind_some, Option.bind_some, zw_id (x := Q 60 41) (by omega) (by omega), if_neg (by omega), Option.bind_some, Option.bind_some, m_nextF h1 h2, Option.bind_some]
    exact ⟨_, rfl⟩
  rw [zgk_ok (r := 60) (ci := 12) (N := 49) rfl, zgf_ok (r := 60) (ci := 12) (N := 49) (k := 39) rfl, Option.bind_some]
  by_cases c1 : zw (Q 60 39) = zw 1
  rotate_left
  · rw [if_neg c1]
    exact tail _ rfl
  rw [if_pos c1, zgf_ok (r := 60) (ci := 12) (N := 49) (k := 37) rfl, Option.bind_some, zgf_ok (r := 60) (ci := 12) (N := 49) (k := 38) rfl, Option.bind_some]
  by_cases c2 : zw (Q 60 37 - Q 60 38) = zw 1
  rotate_left
  · rw [if_neg c2]
    exact tail _ rfl
  obtain ⟨u, hu⟩ : ∃ u, (if len ≤ Q 60 38 then -1 else t (Q 60 38)) = u := ⟨_, rfl⟩
  obtain ⟨w, hw⟩ : ∃ w, qmd_in zK0 Q (zw u) 97 104 = some w := by
    have := zw_rg u
    exact ⟨_, zinn ⟨this.1, this.2⟩ (by decide) (by decide)⟩
  rw [if_pos c2, Option.bind_some, Option.bind_some, m_look hT l0 l1 h38 (by omega), Option.bind_some, hu, hw, Option.bind_some]
  by_cases c3 : zw w = 0
  · rw [if_pos c3]
    exact tail _ rfl
  · rw [if_neg c3, Option.bind_some, m_wantsF h1 h2, Option.bind_some, zgf_ok (r := 60) (ci := 12) (N := 49) (k := 41) rfl, Option.bind_some, zw_id (x := Q 60 41) (by omega) (by omega), if_neg (by omega), Option.bind_some, Option.bind_some, zw_id (x := Q 60 41) (by omega) (by omega), if_neg (by omega), Option.bind_some, Option.bind_some, m_nextF h1 h2, Option.bind_some]
    exact ⟨_, rfl⟩
/-- an item of the reference: read, and the next token looked at; or a fault -/
def zIm (t : Int → Int) (len : Int) (Q Q' : zM) (f S E : Int) (V : Prop) : Prop := (∀ c i, ¬ (c = 60 ∧ 37 ≤ i ∧ i ≤ 42) → Q' c i = Q c i) ∧ (f = 0 → V ∧ zTK t len E Q') ∧ (f ≠ 0 → Q' 60 41 = f ∧ Q' 60 42 = S ∧ Q' 60 38 = S)
theorem zIm_r {t : Int → Int} {len : Int} {Q : zM} {f S E : Int} {V : Prop} (f0 : f ≠ 0) (h38 : Q 60 38 = S) : zIm t len Q (zu (zu Q 60 41 f) 60 42 (Q 60 38)) f S E V := by
  refine ⟨fun c i h => ?_, fun q => absurd q f0, fun _ => ⟨?_, ?_, ?_⟩⟩
  · rw [zu_at, if_neg (by omega), zu_at, if_neg (by omega)]
  · rw [zu_m (by decide), zu_e]
  · rw [zu_e, h38]
  · rw [zu_m (by decide), zu_m (by decide), h38]
theorem m_number {Q : zM} {n : Nat} {t : Int → Int} {len s lo hi : Int} (hn : 1000000 ≤ n) (ht : ∀ i, 0 ≤ i → i < len → 0 ≤ t i ∧ t i ≤ 255) (l0 : 0 ≤ len) (l1 : len ≤ 240) (hT : zTM t len Q) (s0 : 0 ≤ s) (s1 : s ≤ len) (hK : zTK t len s Q) (g1 : zrg lo) (g2 : zrg hi) : ∃ v Q', qmd_readNumber n zK0 Q 60 lo hi = some (v, Q') ∧ zIm t len Q Q' (zfN t len s lo hi) (zxS t len s) (zxE t len s) (v = zxN t len s) := by
  obtain ⟨q1, q2, q3, q4, q5, q6, q7⟩ := zxSE (t := t) s0 s1
  obtain ⟨k1, k2, k3⟩ := id hK
  unfold zfN
  by_cases o : zxo t len s = true
  rotate_left
  · obtain ⟨k4, k5⟩ := k3 (zxo_f o)
    obtain ⟨v, hv⟩ := m_numberF (Q := Q) (n := n) (lo := lo) (hi := hi) (by omega) (by omega)
    rw [if_neg o]
    exact ⟨v, Q, hv, fun _ _ _ => rfl, fun q => absurd q (by decide), fun _ => ⟨k4, k5, k1⟩⟩
  obtain ⟨k4, k5, k6, k7⟩ := k2 (zxo_t o)
  rw [if_pos o]
  unfold qmd_readNumber
  rw [zgf_ok rfl, Option.bind_some, k5, zw_id (x := zxK t len s) (by omega) (by omega), zw_id (x := 2) (by decide) (by decide)]
  by_cases c1 : zxK t len s = 2
  rotate_left
  · rw [if_neg c1, if_neg c1, Option.bind_some, zgk_ok rfl, Option.bind_some, m_wants0 k7, Option.bind_some]
    obtain ⟨Z, hZ⟩ : ∃ Z, zu (zu Q 60 41 2) 60 42 (Q 60 38) = Z := ⟨_, rfl⟩
    have z41 : Z 60 41 = 2 := by rw [← hZ, zu_m (by decide), zu_e]
    rw [hZ, zgf_ok rfl, Option.bind_some, z41, if_neg (by decide), Option.bind_some, zgf_ok rfl, Option.bind_some, Option.bind_some, m_nextF (by omega) (by omega), Option.bind_some]
    refine ⟨_, Z, rfl, ?_⟩
    rw [← hZ]
    exact zIm_r (by decide) k1
  have nr := zxN_rg c1
  rw [if_pos c1, if_pos c1, Option.bind_some, zgk_ok (r := 60) (ci := 12) (N := 49) rfl, Option.bind_some, m_wants1, Option.bind_some, zgf_ok rfl, Option.bind_some, k7, if_pos (by decide), zgf_ok rfl, Option.bind_some, k6 c1, zw_id (x := zxN t len s) (by omega) (by omega), zw_id g1.1 g1.2, zw_id g2.1 g2.2, zinn (by unfold zrg; omega) g1 g2, Option.bind_some, Option.bind_some]
  by_cases c2 : lo ≤ zxN t len s ∧ zxN t len s ≤ hi
  · obtain ⟨Q', e1, e2, e3⟩ := m_tok (s := zxE t len s) hn ht l0 l1 hT k4 k7 (by omega) q3
    rw [if_pos c2, if_pos c2, m_wants1, Option.bind_some, Option.bind_some, zgf_ok rfl, Option.bind_some, k6 c1, Option.bind_some, e1, Option.bind_some]
    exact ⟨_, Q', rfl, e2, fun _ => ⟨rfl, e3⟩, fun q => absurd rfl q⟩
  · rw [if_neg c2, if_neg c2, m_wants0 k7, Option.bind_some, Option.bind_some]
    obtain ⟨Z, hZ⟩ : ∃ Z, zu (zu Q 60 41 3) 60 42 (Q 60 38) = Z := ⟨_, rfl⟩
    have z41 : Z 60 41 = 3 := by rw [← hZ, zu_m (by decide), zu_e]
    rw [hZ, zgf_ok rfl, Option.bind_some, Option.bind_some, m_nextF (by omega) (by omega), Option.bind_some]
    refine ⟨_, Z, rfl, ?_⟩
    rw [← hZ]
    exact zIm_r (by decide) k1
theorem m_row {Q : zM} {n : Nat} {t : Int → Int} {len s a : Int} (hn : 1000000 ≤ n) (ht : ∀ i, 0 ≤ i → i < len → 0 ≤ t i ∧ t i ≤ 255) (l0 : 0 ≤ len) (l1 : len ≤ 240) (hT : zTM t len Q) (s0 : 0 ≤ s) (s1 : s ≤ len) (hK : zTK t len s Q) (md : Int → Bool) (hmd : ∀ r, 0 ≤ r → r < 8 → (md r = true ↔ (zw a = 0 ∨ zw (zand (zshr (Q 60 34) r) 1) = zw 1))) : ∃ v Q', qmd_readRow n zK0 Q 60 a = some (v, Q') ∧ zIm t len Q Q' (zfR t len s md) (zxS t len s) (zxE t len s) (v = t (zxS t len s) - 97) := by
  obtain ⟨q1, q2, q3, q4, q5, q6, q7⟩ := zxSE (t := t) s0 s1
  obtain ⟨k1, k2, k3⟩ := id hK
  unfold zfR
  by_cases o : zxo t len s = true
  rotate_left
  · obtain ⟨k4, k5⟩ := k3 (zxo_f o)
    obtain ⟨v, hv⟩ := m_rowF (Q := Q) (n := n) (a := a) l0 l1 hT (by omega) (by omega) (by omega) (by omega)
    rw [if_neg o]
    exact ⟨v, Q, hv, fun _ _ _ => rfl, fun q => absurd q (by decide), fun _ => ⟨k4, k5, k1⟩⟩
  obtain ⟨k4, k5, k6, k7⟩ := k2 (zxo_t o)
  rw [if_pos o]
  unfold qmd_readRow
  rw [zgk_ok (r := 60) (ci := 12) (N := 49) rfl, zgf_ok (r := 60) (ci := 12) (N := 49) (k := 39) rfl, Option.bind_some, k5, zw_id (x := zxK t len s) (by omega) (by omega), m_wants0 k7]
  obtain ⟨Z, hZ⟩ : ∃ Z, zu (zu Q 60 41 2) 60 42 (Q 60 38) = Z := ⟨_, rfl⟩
  have z41 : Z 60 41 = 2 := by rw [← hZ, zu_m (by decide), zu_e]
  have bad : ∀ X : Option (Unit ⊕ (Int × zM)), X = some (.inl ()) → ¬ ((zxK t len s = 1 ∧ zxE t len s - zxS t len s = 1) ∧ 97 ≤ t (zxS t len s) ∧ t (zxS t len s) ≤ 104) → ∃ v Q', (zesc X fun j2 =>
  (some ()).bind fun _ => (some (zu (zu Q 60 41 2) 60 42 (Q 60 38))).bind fun M3 =>
  (zgf zK0 M3 12 49 60 41).bind fun v4 =>
  (if zw v4 = 0 then
    (zgf zK0 M3 12 49 60 38).bind fun v13 =>
    (some ()).bind fun _ => (qmd_look zK0 M3 60 v13).bind fun v14 =>
    some (v14 - 97)
  else
    some 0 : Option (Int)).bind fun j5 =>
  (zgf zK0 M3 12 49 60 41).bind fun v6 =>
  (if zw v6 = 0 then
    zesc (β := Unit) (if zw a = 0 then
      some (.inl ())
    else
      (zgf zK0 M3 12 49 60 34).bind fun v11 =>
      if zw (zand (zshr v11 j5) 1) = zw 1 then
        some (.inl ())
      else
        (some ()).bind fun _ => (qmd_wants zK0 M3 60 0 4).bind fun M12 =>
        some (.inr M12)) fun j9 =>
    (some ()).bind fun _ => (qmd_wants zK0 M3 60 1 4).bind fun M10 =>
    some M10
  else
    some M3 : Option (zM)).bind fun j7 =>
  (some ()).bind fun _ => (qmd_next n zK0 j7 60).bind fun M8 =>
  some (j5, M8)) = some (v, Q') ∧ zIm t len Q Q' (if (zxK t len s = 1 ∧ zxE t len s - zxS t len s = 1) ∧ 97 ≤ t (zxS t len s) ∧ t (zxS t len s) ≤ 104 then (if md (t (zxS t len s) - 97) then 0 else 4) else 2) (zxS t len s) (zxE t len s) (v = t (zxS t len s) - 97) := by
    rintro X rfl h
    rw [if_neg h, hZ]
    unfold zesc
    dsimp only
    rw [Option.bind_some, Option.bind_some, zgf_ok (r := 60) (ci := 12) (N := 49) (k := 41) rfl, Option.bind_some, z41, if_neg (show ¬ zw 2 = 0 by decide), Option.bind_some, Option.bind_some, if_neg (show ¬ zw 2 = 0 by decide), Option.bind_some, Option.bind_some, m_nextF (by omega) (by omega), Option.bind_some]
    refine ⟨_, Z, rfl, ?_⟩
    rw [← hZ]
    exact zIm_r (by decide) k1
  rw [zw_id (x := 1) (by decide) (by decide)] at bad ⊢
  by_cases c1 : zxK t len s = 1
  rotate_left
  · rw [if_neg c1]
    exact bad _ rfl (fun q => c1 q.1.1)
  rw [if_pos c1, zgf_ok (r := 60) (ci := 12) (N := 49) (k := 37) rfl, Option.bind_some, zgf_ok (r := 60) (ci := 12) (N := 49) (k := 38) rfl, Option.bind_some, k4, zw_id (x := zxE t len s - Q 60 38) (by omega) (by omega)]
  by_cases c2 : zxE t len s - Q 60 38 = 1
  rotate_left
  · rw [if_neg c2]
    exact bad _ rfl (fun q => c2 (by rw [k1]; exact q.1.2))
  have hb := ht (zxS t len s) (by omega) (by omega)
  rw [if_pos c2, Option.bind_some, Option.bind_some, m_look hT l0 l1 (by omega) (by omega), Option.bind_some, if_neg (show ¬ len ≤ Q 60 38 by omega), k1, zw_id (x := t (zxS t len s)) (by omega) (by omega), zinn (by unfold zrg; omega) (by decide) (by decide), Option.bind_some]
  rw [k1] at bad c2
  by_cases c3 : 97 ≤ t (zxS t len s) ∧ t (zxS t len s) ≤ 104
  rotate_left
  · rw [if_neg c3, if_pos (show zw 0 = 0 by decide)]
    exact bad _ rfl (fun q => c3 q.2)
  have hv : (zxK t len s = 1 ∧ zxE t len s - zxS t len s = 1) ∧ 97 ≤ t (zxS t len s) ∧ t (zxS t len s) ≤ 104 := ⟨⟨c1, c2⟩, c3⟩
  have mm := hmd (t (zxS t len s) - 97) (by omega) (by omega)
  rw [zw_id (x := 1) (by decide) (by decide)] at mm
  rw [if_pos c3, if_neg (show ¬ zw 1 = 0 by decide), if_pos hv, Option.bind_some, m_wants1, Option.bind_some, zgf_ok (r := 60) (ci := 12) (N := 49) (k := 41) rfl, Option.bind_some, k7, if_pos (show zw 0 = 0 by decide)]
  rw [zgf_ok (r := 60) (ci := 12) (N := 49) (k := 38) rfl, Option.bind_some, Option.bind_some, k1, m_look hT l0 l1 (by omega) (by omega), Option.bind_some, if_neg (show ¬ len ≤ zxS t len s by omega), Option.bind_some, Option.bind_some, if_pos (show zw 0 = 0 by decide), zgf_ok (r := 60) (ci := 12) (N := 49) (k := 34) rfl, Option.bind_some]
  have go : md (t (zxS t len s) - 97) = true → ∃ Q', qmd_next n zK0 Q 60 = some Q' ∧ zIm t len Q Q' (if md (t (zxS t len s) - 97) then 0 else 4) (zxS t len s) (zxE t len s) (t (zxS t len s) - 97 = t (zxS t len s) - 97) := by
    intro hm
    obtain ⟨Q', e1, e2, e3⟩ := m_tok (s := zxE t len s) hn ht l0 l1 hT k4 k7 (by omega) q3
    rw [if_pos hm]
    exact ⟨Q', e1, e2, fun _ => ⟨rfl, e3⟩, fun q => absurd rfl q⟩
  by_cases c4 : zw a = 0
  · obtain ⟨Q', e1, e2⟩ := go (mm.2 (Or.inl c4))
    rw [if_pos c4]
    refine ⟨t (zxS t len s) - 97, Q', ?_, e2⟩
    rw [m_wants1]
    show zesc ((qmd_next n zK0 Q 60).bind _) _ = _
    rw [e1]
    rfl
  · rw [if_neg c4]
    by_cases c5 : zw (zand (zshr (Q 60 34) (t (zxS t len s) - 97)) 1) = 1
    · obtain ⟨Q', e1, e2⟩ := go (mm.2 (Or.inr c5))
      rw [if_pos c5]
      refine ⟨t (zxS t len s) - 97, Q', ?_, e2⟩
      rw [m_wants1]
      show zesc ((qmd_next n zK0 Q 60).bind _) _ = _
      rw [e1]
      rfl
    · have hm : ¬ md (t (zxS t len s) - 97) = true := by
        intro q
        rcases mm.1 q with q | q
        · exact c4 q
        · exact c5 q
      have e4 := m_nextF (Q := zu (zu Q 60 41 4) 60 42 (Q 60 38)) (n := n) (by rw [zu_m (by decide), zu_e]; decide) (by rw [zu_m (by decide), zu_e]; decide)
      rw [if_neg c5, if_neg hm, m_wants0 k7]
      refine ⟨t (zxS t len s) - 97, zu (zu Q 60 41 4) 60 42 (Q 60 38), ?_, zIm_r (by decide) k1⟩
      show zesc ((qmd_next n zK0 (zu (zu Q 60 41 4) 60 42 (Q 60 38)) 60).bind _) _ = _
      rw [e4]
      rfl
