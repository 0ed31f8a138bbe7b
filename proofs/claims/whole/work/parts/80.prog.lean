/-- two loops side by side; the second may go one round more at the end -/
theorem zwh2e {σ τ ρ θ : Type} {f : σ → Option (σ ⊕ ρ)} {g : τ → Option (τ ⊕ θ)} (R : σ → τ → Prop) (μ : σ → Nat) (Q : ρ → θ → Prop) (h : ∀ s t, R s t → (∃ s' t', f s = some (.inl s') ∧ g t = some (.inl t') ∧ R s' t' ∧ μ s' < μ s) ∨ (∃ x y, f s = some (.inr x) ∧ g t = some (.inr y) ∧ Q x y) ∨ (∃ x t' y, f s = some (.inr x) ∧ g t = some (.inl t') ∧ g t' = some (.inr y) ∧ Q x y)) : ∀ n s t, R s t → μ s + 1 < n → ∃ x y, zwh f n s = some x ∧ zwh g n t = some y ∧ Q x y := by
  intro n
  induction n with
  | zero => intro s t _ hm; omega
  | succ n ih =>
    intro s t hR hm
    rcases h s t hR with ⟨s', t', e1, e2, hR', hl⟩ | ⟨x, y, e1, e2, hq⟩ | ⟨x, t', y, e1, e2, e3, hq⟩
    · obtain ⟨x, y, x1, x2, x3⟩ := ih s' t' hR' (by omega)
      refine ⟨x, y, ?_, ?_, x3⟩
      · rw [zwh, e1]; exact x1
      · rw [zwh, e2]; exact x2
    · refine ⟨x, y, ?_, ?_, hq⟩
      · rw [zwh, e1]
      · rw [zwh, e2]
    · refine ⟨x, y, ?_, ?_, hq⟩
      · rw [zwh, e1]
      · rw [zwh, e2]
        show zwh g n t' = some y
        cases n with
        | zero => omega
        | succ n => rw [zwh, e3]
/-- a bit of an int -/
def zb32 (x : Int) (d : Nat) : Bool := (Int32.ofInt x).toBitVec.getLsbD d
theorem zb32_or (x y : Int) (d : Nat) : zb32 (zor x y) d = (zb32 x d || zb32 y d) := by
  unfold zb32 zor
  rw [Int32.ofInt_toInt]
  show ((Int32.ofInt x).toBitVec ||| (Int32.ofInt y).toBitVec).getLsbD d = _
  rw [BitVec.getLsbD_or]
theorem zb32_shl {v : Int} (v0 : 0 ≤ v) (v1 : v < 8) (d : Nat) (hd : d < 32) : zb32 (zshl 1 v) d = decide ((d : Int) = v) := by
  unfold zb32
  rw [zshl_b v0 (by omega), BitVec.getLsbD_twoPow]
  rw [Bool.eq_iff_iff]
  simp only [Bool.and_eq_true, decide_eq_true_eq]
  omega
theorem zb32_0 (d : Nat) : zb32 0 d = false := by
  unfold zb32
  have : (Int32.ofInt 0).toBitVec = 0#32 := rfl
  rw [this]
  simp
theorem zshr_32 {x r : Int} (r0 : 0 ≤ r) (r1 : r < 8) : zb32 (zshr x r) 0 = zb32 x r.toNat := by
  unfold zb32 zshr
  have e : ((Int32.ofInt r &&& 31).toBitVec.smod 32).toNat = r.toNat := by
    rcases (show r = 0 ∨ r = 1 ∨ r = 2 ∨ r = 3 ∨ r = 4 ∨ r = 5 ∨ r = 6 ∨ r = 7 by omega) with rfl | rfl | rfl | rfl | rfl | rfl | rfl | rfl <;> decide
  rw [Int32.ofInt_toInt, Int32.toBitVec_shiftRight, BitVec.sshiftRight', e, BitVec.getLsbD_sshiftRight]
  have : r.toNat + 0 < 32 := by omega
  simp only [this, if_true]
  simp
theorem zmade {x r : Int} (r0 : 0 ≤ r) (r1 : r < 8) : zw (zand (zshr x r) 1) = zw 1 ↔ zb32 x r.toNat = true := by
  rw [← zshr_32 r0 r1]
  generalize zshr x r = y
  have e : zand y 1 = ((Int32.ofInt y).toBitVec &&& 1#32).toInt := rfl
  have hb : (Int32.ofInt y).toBitVec &&& 1#32 = if zb32 y 0 then 1#32 else 0#32 := by
    have : (1#32 : BitVec 32) = BitVec.twoPow 32 0 := by decide
    rw [this, BitVec.and_twoPow]
    rfl
  rw [e, hb]
  cases zb32 y 0 with
  | true => simp
  | false => simp; decide
theorem zfR_rg {t : Int → Int} {len s : Int} {md : Int → Bool} : 0 ≤ zfR t len s md ∧ zfR t len s md ≤ 5 ∧ (zfR t len s md = 0 → 0 ≤ t (zxS t len s) - 97 ∧ t (zxS t len s) - 97 < 8 ∧ md (t (zxS t len s) - 97) = true) := by
  unfold zfR
  by_cases o : zxo t len s = true
  · rw [if_pos o]
    by_cases c : (zxK t len s = 1 ∧ zxE t len s - zxS t len s = 1) ∧ 97 ≤ t (zxS t len s) ∧ t (zxS t len s) ≤ 104
    · rw [if_pos c]
      by_cases m : md (t (zxS t len s) - 97) = true
      · rw [if_pos m]; exact ⟨by omega, by omega, fun _ => ⟨by omega, by omega, m⟩⟩
      · rw [if_neg m]; exact ⟨by omega, by omega, fun q => absurd q (by decide)⟩
    · rw [if_neg c]; exact ⟨by omega, by omega, fun q => absurd q (by decide)⟩
  · rw [if_neg o]; exact ⟨by omega, by omega, fun q => absurd q (by decide)⟩
theorem zfN_rg {t : Int → Int} {len s lo hi : Int} : 0 ≤ zfN t len s lo hi ∧ zfN t len s lo hi ≤ 5 ∧ (zfN t len s lo hi = 0 → lo ≤ zxN t len s ∧ zxN t len s ≤ hi) := by
  unfold zfN
  by_cases o : zxo t len s = true
  · rw [if_pos o]
    by_cases c : zxK t len s = 2
    · rw [if_pos c]
      by_cases m : lo ≤ zxN t len s ∧ zxN t len s ≤ hi
      · rw [if_pos m]; exact ⟨by omega, by omega, fun _ => m⟩
      · rw [if_neg m]; exact ⟨by omega, by omega, fun q => absurd q (by decide)⟩
    · rw [if_neg c]; exact ⟨by omega, by omega, fun q => absurd q (by decide)⟩
  · rw [if_neg o]; exact ⟨by omega, by omega, fun q => absurd q (by decide)⟩
theorem zfM_rg {t : Int → Int} {len s : Int} : 0 ≤ zfM t len s ∧ zfM t len s ≤ 5 := by
  unfold zfM
  split
  · split <;> omega
  · omega
theorem zFst_ex {f1 f2 f3 f4 S1 S2 S3 S4 : Int} (h : ¬ (f1 = 0 ∧ f2 = 0 ∧ f3 = 0 ∧ f4 = 0)) (r1 : 0 ≤ f1 ∧ f1 ≤ 5) (r2 : 0 ≤ f2 ∧ f2 ≤ 5) (r3 : 0 ≤ f3 ∧ f3 ≤ 5) (r4 : 0 ≤ f4 ∧ f4 ≤ 5) : ∃ f S, zFst f1 f2 f3 f4 S1 S2 S3 S4 f S ∧ 1 ≤ f ∧ f ≤ 5 := by
  unfold zFst
  by_cases z1 : f1 = 0
  · by_cases z2 : f2 = 0
    · by_cases z3 : f3 = 0
      · exact ⟨f4, S4, Or.inr (Or.inr (Or.inr ⟨z1, z2, z3, fun q => h ⟨z1, z2, z3, q⟩, rfl, rfl⟩)), by omega, by omega⟩
      · exact ⟨f3, S3, Or.inr (Or.inr (Or.inl ⟨z1, z2, z3, rfl, rfl⟩)), by omega, by omega⟩
    · exact ⟨f2, S2, Or.inr (Or.inl ⟨z1, z2, rfl, rfl⟩), by omega, by omega⟩
  · exact ⟨f1, S1, Or.inl ⟨z1, rfl, rfl⟩, by omega, by omega⟩
/-- both sides read the line -/
theorem j_pline {t : Int → Int} {len d k kd s1 : Int} {M T P Q : zM} {n : Nat} (hn : 1000000 ≤ n) (ht : ∀ i, 0 ≤ i → i < len → 0 ≤ t i ∧ t i ≤ 255) (l0 : 0 ≤ len) (l1 : len ≤ 240) (hB : zBC t len d M) (hP : zFC d M P) (hT : zTT t len T) (hQ : zFM T Q) (k0 : 0 ≤ k) (k1 : k < 16) (d0 : 0 ≤ kd) (d1 : kd ≤ 3) (s0 : 0 ≤ s1) (s1' : s1 ≤ len) (h5 : P 29 5 = s1) (h29 : Q 60 29 = k) (hK : zTK t len s1 Q) (hr : ∀ r, 0 ≤ r → r < 8 → -1 ≤ P 31 r ∧ P 31 r < 16) (hb : ∀ r, 0 ≤ r → r < 8 → (zw (zand (zshr (Q 60 34) r) 1) = zw 1 ↔ 0 ≤ P 31 r)) :
    ∃ x P' Q', qrd_readLine n zK0 P 29 d kd k = some (x, P') ∧ zRL n kd (fun Q => qmd_readRow n zK0 Q 60 (if kd = 1 then 1 else 0)) (fun Q => if 2 ≤ kd then (qmd_readRow n zK0 Q 60 1).bind fun p => some (p.1, p.2) else (qmd_readNumber n zK0 Q 60 0 999).bind fun p => some (p.1, p.2)) (fun Q => if 2 ≤ kd then (qmd_readRow n zK0 Q 60 1).bind fun p => some (p.1, p.2) else (qmd_readNumber n zK0 Q 60 1 99).bind fun p => some (p.1, p.2)) Q = some Q' ∧ zFC d M P' ∧ zFM T Q' ∧ (∀ r, P' 31 r = P 31 r) ∧ P' d 6 = P d 6 ∧
      ((x = 1 ∧ ∃ s2 w1 w2 w3, 0 ≤ s2 ∧ s2 ≤ len ∧ zLn d k P P' kd w1 w2 w3 (zsA kd (P 31 w1) (P 31 w2)) (zsB kd (P 31 w3)) s2 ∧ zTK t len s2 Q' ∧ Q' 60 29 = k + 1 ∧ Q' 60 34 = zor (Q 60 34) (if kd = 1 then 0 else zshl 1 w1) ∧ Q' 77 k = kd ∧ Q' 78 k = w1 ∧ Q' 79 k = w2 ∧ Q' 80 k = w3 ∧ (∀ c i, 77 ≤ c → c ≤ 80 → i ≠ k → Q' c i = Q c i) ∧ 0 ≤ w1 ∧ w1 < 8 ∧ (kd = 1 → 0 ≤ P 31 w1) ∧ (kd ≤ 1 → 0 ≤ w2 ∧ w2 ≤ 999 ∧ 1 ≤ w3 ∧ w3 ≤ 99) ∧ (2 ≤ kd → 0 ≤ w2 ∧ w2 < 8 ∧ 0 ≤ w3 ∧ w3 < 8 ∧ 0 ≤ P 31 w2 ∧ 0 ≤ P 31 w3)) ∨
       (x = 0 ∧ 1 ≤ P' 29 3 ∧ P' 29 3 ≤ 5 ∧ Q' 60 41 = P' 29 3 ∧ Q' 60 42 = P' 29 4)) := by
  obtain ⟨a1, a2, a3, -, -, -, -⟩ := zxSE (t := t) s0 s1'
  obtain ⟨b1, b2, b3, -, -, -, -⟩ := zxSE (t := t) (s := zxE t len s1) (by omega) a3
  obtain ⟨c1, c2, c3, -, -, -, -⟩ := zxSE (t := t) (s := zxE t len (zxE t len s1)) (by omega) b3
  obtain ⟨g1, g2, g3, -, -, -, -⟩ := zxSE (t := t) (s := zxE t len (zxE t len (zxE t len s1))) (by omega) c3
  have md1 : ∀ r : Int, 0 ≤ r → r < 8 → (decide (kd ≠ 1 ∨ 0 ≤ P 31 r) = true ↔ (zw (if kd = 1 then 1 else 0) = 0 ∨ 0 ≤ P 31 r)) := by
    intro r _ _
    rw [decide_eq_true_eq]
    by_cases w : kd = 1
    · rw [if_pos w]
      constructor
      · rintro (q | q)
        · exact absurd w q
        · exact Or.inr q
      · rintro (q | q)
        · exact absurd q (by decide)
        · exact Or.inr q
    · rw [if_neg w]
      exact ⟨fun _ => Or.inl (by decide), fun _ => Or.inl w⟩
  have md2 : ∀ r : Int, 0 ≤ r → r < 8 → (decide (0 ≤ P 31 r) = true ↔ (zw 1 = 0 ∨ 0 ≤ P 31 r)) := by
    intro r _ _
    rw [decide_eq_true_eq]
    exact ⟨fun q => Or.inr q, fun q => by rcases q with q | q; exact absurd q (by decide); exact q⟩
  have R1 := zfR_rg (t := t) (len := len) (s := s1) (md := fun r => decide (kd ≠ 1 ∨ 0 ≤ P 31 r))
  have C1 : zIc t len (P 31) (fun P => qrd_takeRow n zK0 P 29 (if kd = 1 then 1 else 0)) s1 (zfR t len s1 (fun r => decide (kd ≠ 1 ∨ 0 ≤ P 31 r))) (t (zxS t len s1) - 97) := by
    intro P0 h1 h2 h3
    exact c_row hn ht l0 l1 h1 h3 s0 s1' _ (fun r r0 r1 => by rw [h2]; exact hr r r0 r1) (fun r r0 r1 => by rw [h2]; exact md1 r r0 r1)
  have V1 : zIv t len (Q 60 34) (fun Q => qmd_readRow n zK0 Q 60 (if kd = 1 then 1 else 0)) s1 (zfR t len s1 (fun r => decide (kd ≠ 1 ∨ 0 ≤ P 31 r))) (t (zxS t len s1) - 97) := by
    refine ⟨fun Q0 h1 h2 h3 => m_row hn ht l0 l1 h1 s0 s1' h3 _ (fun r r0 r1 => ?_), fun Q0 h1 h2 h3 h4 h5 => m_rowF l0 l1 h1 h2 h3 h4 h5, R1.1, R1.2.1⟩
    rw [h2, hb r r0 r1]
    exact md1 r r0 r1
  have rowI : ∀ s, 0 ≤ s → s ≤ len → zIc t len (P 31) (fun P => qrd_takeRow n zK0 P 29 1) s (zfR t len s (fun r => decide (0 ≤ P 31 r))) (t (zxS t len s) - 97) ∧ zIv t len (Q 60 34) (fun Q => (qmd_readRow n zK0 Q 60 1).bind fun p => some (p.1, p.2)) s (zfR t len s (fun r => decide (0 ≤ P 31 r))) (t (zxS t len s) - 97) := by
    intro s u0 u1
    have R := zfR_rg (t := t) (len := len) (s := s) (md := fun r => decide (0 ≤ P 31 r))
    refine ⟨fun P0 h1 h2 h3 => c_row hn ht l0 l1 h1 h3 u0 u1 _ (fun r r0 r1 => by rw [h2]; exact hr r r0 r1) (fun r r0 r1 => by rw [h2]; exact md2 r r0 r1), fun Q0 h1 h2 h3 => ?_, fun Q0 h1 h2 h3 h4 h5 => ?_, R.1, R.2.1⟩
    · obtain ⟨v, Q', e1, e2⟩ := m_row (a := 1) hn ht l0 l1 h1 u0 u1 h3 (fun r => decide (0 ≤ P 31 r)) (fun r r0 r1 => by rw [h2, hb r r0 r1]; exact md2 r r0 r1)
      exact ⟨v, Q', by dsimp only; rw [e1]; rfl, e2⟩
    · obtain ⟨v, e⟩ := m_rowF (n := n) (a := 1) l0 l1 h1 h2 h3 h4 h5
      exact ⟨v, by dsimp only; rw [e]; rfl⟩
  have numI : ∀ s lo hi, 0 ≤ s → s ≤ len → zrg lo → zrg hi → zIc t len (P 31) (fun P => qrd_takeNumber n zK0 P 29 lo hi) s (zfN t len s lo hi) (zxN t len s) ∧ zIv t len (Q 60 34) (fun Q => (qmd_readNumber n zK0 Q 60 lo hi).bind fun p => some (p.1, p.2)) s (zfN t len s lo hi) (zxN t len s) := by
    intro s lo hi u0 u1 gl gh
    have R := zfN_rg (t := t) (len := len) (s := s) (lo := lo) (hi := hi)
    refine ⟨fun P0 h1 h2 h3 => c_number hn ht l0 l1 h1 h3 u0 u1 gl gh, fun Q0 h1 h2 h3 => ?_, fun Q0 h1 h2 h3 h4 h5 => ?_, R.1, R.2.1⟩
    · obtain ⟨v, Q', e1, e2⟩ := m_number hn ht l0 l1 h1 u0 u1 h3 gl gh
      exact ⟨v, Q', by dsimp only; rw [e1]; rfl, e2⟩
    · obtain ⟨v, e⟩ := m_numberF (Q := Q0) (n := n) (lo := lo) (hi := hi) h2 h3
      exact ⟨v, by dsimp only; rw [e]; rfl⟩
  have R4 := zfM_rg (t := t) (len := len) (s := zxE t len (zxE t len (zxE t len s1)))
  have fin : ∀ (it2 it3 : zM → Option (Int × zM)) (f1 f2 f3 w1 w2 w3 x : Int) (P' Q' : zM), 0 ≤ f1 ∧ f1 ≤ 5 → 0 ≤ f2 ∧ f2 ≤ 5 → 0 ≤ f3 ∧ f3 ≤ 5 → qrd_readLine n zK0 P 29 d kd k = some (x, P') → zRL n kd (fun Q => qmd_readRow n zK0 Q 60 (if kd = 1 then 1 else 0)) it2 it3 Q = some Q' → zFC d M P' → zFM T Q' → (∀ r, P' 31 r = P 31 r) → P' d 6 = P d 6 →
      (f1 = 0 → f2 = 0 → f3 = 0 → zfM t len (zxE t len (zxE t len (zxE t len s1))) = 0 → x = 1 ∧ zLn d k P P' kd w1 w2 w3 (zsA kd (P 31 w1) (P 31 w2)) (zsB kd (P 31 w3)) (zxE t len (zxE t len (zxE t len (zxE t len s1))))) →
      (∀ f S, zFst f1 f2 f3 (zfM t len (zxE t len (zxE t len (zxE t len s1)))) (zxS t len s1) (zxS t len (zxE t len s1)) (zxS t len (zxE t len (zxE t len s1))) (zxS t len (zxE t len (zxE t len (zxE t len s1)))) f S → x = 0 ∧ P' 29 3 = f ∧ P' 29 4 = S) →
      (f1 = 0 → f2 = 0 → f3 = 0 → zfM t len (zxE t len (zxE t len (zxE t len s1))) = 0 → zTK t len (zxE t len (zxE t len (zxE t len (zxE t len s1)))) Q' ∧ Q' 60 29 = k + 1 ∧ Q' 60 34 = zor (Q 60 34) (if kd = 1 then 0 else zshl 1 w1) ∧ Q' 77 k = kd ∧ Q' 78 k = w1 ∧ Q' 79 k = w2 ∧ Q' 80 k = w3 ∧ ∀ c i, 77 ≤ c → c ≤ 80 → i ≠ k → Q' c i = Q c i) →
      (∀ f S, zFst f1 f2 f3 (zfM t len (zxE t len (zxE t len (zxE t len s1)))) (zxS t len s1) (zxS t len (zxE t len s1)) (zxS t len (zxE t len (zxE t len s1))) (zxS t len (zxE t len (zxE t len (zxE t len s1)))) f S → Q' 60 41 = f ∧ Q' 60 42 = S) →
      (f1 = 0 → 0 ≤ w1 ∧ w1 < 8 ∧ (kd = 1 → 0 ≤ P 31 w1)) → (f2 = 0 → f3 = 0 → (kd ≤ 1 → 0 ≤ w2 ∧ w2 ≤ 999 ∧ 1 ≤ w3 ∧ w3 ≤ 99) ∧ (2 ≤ kd → 0 ≤ w2 ∧ w2 < 8 ∧ 0 ≤ w3 ∧ w3 < 8 ∧ 0 ≤ P 31 w2 ∧ 0 ≤ P 31 w3)) →
      ∃ x P' Q', qrd_readLine n zK0 P 29 d kd k = some (x, P') ∧ zRL n kd (fun Q => qmd_readRow n zK0 Q 60 (if kd = 1 then 1 else 0)) it2 it3 Q = some Q' ∧ zFC d M P' ∧ zFM T Q' ∧ (∀ r, P' 31 r = P 31 r) ∧ P' d 6 = P d 6 ∧
      ((x = 1 ∧ ∃ s2 w1 w2 w3, 0 ≤ s2 ∧ s2 ≤ len ∧ zLn d k P P' kd w1 w2 w3 (zsA kd (P 31 w1) (P 31 w2)) (zsB kd (P 31 w3)) s2 ∧ zTK t len s2 Q' ∧ Q' 60 29 = k + 1 ∧ Q' 60 34 = zor (Q 60 34) (if kd = 1 then 0 else zshl 1 w1) ∧ Q' 77 k = kd ∧ Q' 78 k = w1 ∧ Q' 79 k = w2 ∧ Q' 80 k = w3 ∧ (∀ c i, 77 ≤ c → c ≤ 80 → i ≠ k → Q' c i = Q c i) ∧ 0 ≤ w1 ∧ w1 < 8 ∧ (kd = 1 → 0 ≤ P 31 w1) ∧ (kd ≤ 1 → 0 ≤ w2 ∧ w2 ≤ 999 ∧ 1 ≤ w3 ∧ w3 ≤ 99) ∧ (2 ≤ kd → 0 ≤ w2 ∧ w2 < 8 ∧ 0 ≤ w3 ∧ w3 < 8 ∧ 0 ≤ P 31 w2 ∧ 0 ≤ P 31 w3)) ∨
       (x = 0 ∧ 1 ≤ P' 29 3 ∧ P' 29 3 ≤ 5 ∧ Q' 60 41 = P' 29 3 ∧ Q' 60 42 = P' 29 4)) := by
    intro it2 it3 f1 f2 f3 w1 w2 w3 x P' Q' r1 r2 r3 e1 e2 e3 e4 e5 e6 p1 p2 q1 q2 y1 y2
    refine ⟨x, P', Q', e1, e2, e3, e4, e5, e6, ?_⟩
    by_cases z : f1 = 0 ∧ f2 = 0 ∧ f3 = 0 ∧ zfM t len (zxE t len (zxE t len (zxE t len s1))) = 0
    · left
      obtain ⟨z1, z2, z3, z4⟩ := z
      obtain ⟨rfl, a⟩ := p1 z1 z2 z3 z4
      obtain ⟨b1, b2, b3, b4, b5, b6, b7, b8⟩ := q1 z1 z2 z3 z4
      obtain ⟨c1, c2, c3⟩ := y1 z1
      exact ⟨rfl, _, w1, w2, w3, by omega, g3, a, b1, b2, b3, b4, b5, b6, b7, b8, c1, c2, c3, (y2 z2 z3).1, (y2 z2 z3).2⟩
    · right
      obtain ⟨f, S, hf, u1, u2⟩ := zFst_ex (S1 := zxS t len s1) (S2 := zxS t len (zxE t len s1)) (S3 := zxS t len (zxE t len (zxE t len s1))) (S4 := zxS t len (zxE t len (zxE t len (zxE t len s1)))) z r1 r2 r3 R4
      obtain ⟨rfl, h1, h2⟩ := p2 f S hf
      obtain ⟨h3, h4⟩ := q2 f S hf
      exact ⟨rfl, by omega, by omega, by omega, by omega⟩
  by_cases w : 2 ≤ kd
  · obtain ⟨C2, V2⟩ := rowI (zxE t len s1) (by omega) a3
    obtain ⟨C3, V3⟩ := rowI (zxE t len (zxE t len s1)) (by omega) b3
    have R2 := zfR_rg (t := t) (len := len) (s := zxE t len s1) (md := fun r => decide (0 ≤ P 31 r))
    have R3 := zfR_rg (t := t) (len := len) (s := zxE t len (zxE t len s1)) (md := fun r => decide (0 ≤ P 31 r))
    have C1' : zIc t len (P 31) (fun P => qrd_takeRow n zK0 P 29 0) s1 (zfR t len s1 (fun r => decide (kd ≠ 1 ∨ 0 ≤ P 31 r))) (t (zxS t len s1) - 97) := by
      rw [if_neg (show ¬ kd = 1 by omega)] at C1
      exact C1
    obtain ⟨x, P', e1, e3, e5, e6, p1, p2⟩ := c_lineA hn ht l0 l1 hB hP k0 k1 w d1 s0 s1' h5 (fun _ => rfl) (fun q => ⟨(R1.2.2 q).1, (R1.2.2 q).2.1⟩) (fun q => ⟨(R2.2.2 q).1, (R2.2.2 q).2.1⟩) (fun q => ⟨(R3.2.2 q).1, (R3.2.2 q).2.1⟩) C1' C2 C3
    simp only [if_pos w]
    obtain ⟨Q', e2, e4, q1, q2⟩ := m_line hn ht l0 l1 hT hQ k0 k1 h29 rfl d0 d1 s0 s1' hK V1 V2 V3
    refine fin _ _ _ _ _ _ _ _ x P' Q' ⟨R1.1, R1.2.1⟩ ⟨R2.1, R2.2.1⟩ ⟨R3.1, R3.2.1⟩ e1 e2 e3 e4 e5 e6 p1 p2 q1 q2 (fun q => ⟨(R1.2.2 q).1, (R1.2.2 q).2.1, fun h => by omega⟩) (fun q q' => ⟨fun h => by omega, fun _ => ⟨(R2.2.2 q).1, (R2.2.2 q).2.1, (R3.2.2 q').1, (R3.2.2 q').2.1, of_decide_eq_true (R2.2.2 q).2.2, of_decide_eq_true (R3.2.2 q').2.2⟩⟩)
  · obtain ⟨C2, V2⟩ := numI (zxE t len s1) 0 999 (by omega) a3 (by decide) (by decide)
    obtain ⟨C3, V3⟩ := numI (zxE t len (zxE t len s1)) 1 99 (by omega) b3 (by decide) (by decide)
    have R2 := zfN_rg (t := t) (len := len) (s := zxE t len s1) (lo := 0) (hi := 999)
    have R3 := zfN_rg (t := t) (len := len) (s := zxE t len (zxE t len s1)) (lo := 1) (hi := 99)
    obtain ⟨x, P', e1, e3, e5, e6, p1, p2⟩ := c_lineM hn ht l0 l1 hB hP k0 k1 d0 (show kd ≤ 1 by omega) s0 s1' h5 (fun _ => rfl) (fun q => ⟨(R1.2.2 q).1, (R1.2.2 q).2.1⟩) C1 C2 C3
    simp only [if_neg w]
    obtain ⟨Q', e2, e4, q1, q2⟩ := m_line hn ht l0 l1 hT hQ k0 k1 h29 rfl d0 d1 s0 s1' hK V1 V2 V3
    refine fin _ _ _ _ _ _ _ _ x P' Q' ⟨R1.1, R1.2.1⟩ ⟨R2.1, R2.2.1⟩ ⟨R3.1, R3.2.1⟩ e1 e2 e3 e4 e5 e6 p1 p2 q1 q2 (fun q => ⟨(R1.2.2 q).1, (R1.2.2 q).2.1, fun h => ?_⟩) (fun q q' => ⟨fun _ => ⟨(R2.2.2 q).1, (R2.2.2 q).2, (R3.2.2 q').1, (R3.2.2 q').2⟩, fun h => absurd h w⟩)
    rcases of_decide_eq_true (R1.2.2 q).2.2 with u | u
    · exact absurd h u
    · exact u
