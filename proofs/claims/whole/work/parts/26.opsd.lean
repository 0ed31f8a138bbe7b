theorem zwh_eq {σ ρ : Type} {f : σ → Option (σ ⊕ ρ)} {r : ρ} (I : σ → Prop) (μ : σ → Nat) (h : ∀ s, I s → (∃ s', f s = some (.inl s') ∧ I s' ∧ μ s' < μ s) ∨ f s = some (.inr r)) (n : Nat) (s : σ) (h0 : I s) (hm : μ s < n) : zwh f n s = some r := by
  obtain ⟨x, hx, hq⟩ := zwh_inv I μ (fun x => x = r) (fun s hs => by
    rcases h s hs with q | q
    · exact Or.inl q
    · exact Or.inr ⟨r, q, rfl⟩) n s h0 hm
  rw [hx, hq]
theorem msheet {M : zM} {n : Nat} {a1 : Int} (h : M 60 48 = 87) (hn : 1000000 ≤ n) (c1 : 0 ≤ a1 ∧ a1 ≤ 3) : zwh (σ := Int × zM) (fun s6 =>
          if zw 256 ≤ zw s6.1 then
            some (.inr ((1 : Int), s6.2))
          else
            (zgr zK0 s6.2 12 49 60 48).bind fun r7 =>
            (zpa zK0 s6.2 100 r7 ((256 * a1) + s6.1) 0).bind fun M8 =>
            some (.inl (s6.1 + 1, M8))) n (0, M) = some (1, zsp M 87 (256 * a1) 256 (fun _ => 0)) := by
  refine zwh_eq (fun s => 0 ≤ s.1 ∧ s.1 ≤ 256 ∧ s.2 = zsp M 87 (256 * a1) s.1 (fun _ => 0)) (fun s => (256 - s.1).toNat) ?_ n (0, M) ⟨by simp, by simp, by simp [zsp_0]⟩ (by simp; omega)
  intro s ⟨h1, h2, h3⟩
  try dsimp only
  rw [zw_id (by omega) (by omega), zw_id (by omega) (by omega)]
  by_cases hc : 256 ≤ s.1
  · right
    rw [if_pos hc, h3, show s.1 = 256 by omega]
  · left
    have e : s.2 60 48 = 87 := by rw [h3, zsp_ne (by decide)]; exact h
    rw [if_neg hc, zgr_ok (v := 87) rfl e (by decide), Option.bind_some, zpa_ok (N := 1024) rfl (by decide) (by omega) (by omega)]
    refine ⟨_, rfl, ⟨?_, ?_, ?_⟩, ?_⟩
    · dsimp only; omega
    · dsimp only; omega
    · dsimp only; rw [h3]; exact zsp_s h1 rfl
    · dsimp only; omega
theorem IvS.new {M : zM} {k l N : Int} (h : IvS M) (k0 : 0 ≤ k) (k1 : k < 4) (l0 : 0 ≤ l) (l1 : l ≤ 2) (N0 : 0 ≤ N) (N1 : N ≤ 256) : IvS (zsp (zu (zu (zfl (zu (zu M (38 + 2 * k) 2 l) (38 + 2 * k) 1 N) (39 + 2 * k) 256 0) 85 k l) 86 k N) 87 (256 * k) 256 (fun _ => 0)) := by
  intro i i0 i1
  by_cases q : i = k
  · subst q
    right
    refine ⟨?_, ?_, ?_, ?_, ?_, ?_, fun x x0 x1 => ?_⟩
    all_goals simp only [zsp, zfl, zu_at]
    · rw [if_neg (by omega), if_neg (by omega), if_neg (by omega), if_neg (by omega), if_pos (by first | omega | (simp; done) | (simp; omega))]; exact N0
    · rw [if_neg (by omega), if_neg (by omega), if_neg (by omega), if_neg (by omega), if_pos (by first | omega | (simp; done) | (simp; omega))]; exact N1
    · rw [if_neg (by omega), if_pos (by first | omega | (simp; done) | (simp; omega)), if_neg (by omega), if_neg (by omega), if_neg (by omega), if_neg (by omega), if_pos (by first | omega | (simp; done) | (simp; omega))]
    · rw [if_neg (by omega), if_neg (by omega), if_neg (by omega), if_neg (by omega), if_neg (by omega), if_pos (by first | omega | (simp; done) | (simp; omega))]; exact l0
    · rw [if_neg (by omega), if_neg (by omega), if_neg (by omega), if_neg (by omega), if_neg (by omega), if_pos (by first | omega | (simp; done) | (simp; omega))]; exact l1
    · rw [if_neg (by omega), if_neg (by omega), if_pos (by first | omega | (simp; done) | (simp; omega)), if_neg (by omega), if_neg (by omega), if_neg (by omega), if_neg (by omega), if_neg (by omega), if_pos (by first | omega | (simp; done) | (simp; omega))]
    · rw [if_pos (by first | omega | (simp; done) | (simp; omega)), if_neg (by omega), if_neg (by omega), if_neg (by omega), if_pos (by first | omega | (simp; done) | (simp; omega))]
      exact ⟨rfl, by decide, by decide⟩
  · have e : ∀ c x, c ≠ 38 + 2 * k → c ≠ 39 + 2 * k → ¬ (c = 85 ∧ x = k) → ¬ (c = 86 ∧ x = k) → ¬ (c = 87 ∧ 256 * k ≤ x ∧ x < 256 * k + 256) → (zsp (zu (zu (zfl (zu (zu M (38 + 2 * k) 2 l) (38 + 2 * k) 1 N) (39 + 2 * k) 256 0) 85 k l) 86 k N) 87 (256 * k) 256 (fun _ => 0)) c x = M c x := by
      intro c x h1 h2 h3 h4 h5
      simp only [zsp, zfl, zu_at]
      rw [if_neg h5, if_neg h4, if_neg h3, if_neg (fun q => h2 q.1), if_neg (fun q => h1 q.1), if_neg (fun q => h1 q.1)]
    rw [e (38 + 2 * i) 1 (by omega) (by omega) (by omega) (by omega) (by omega), e (38 + 2 * i) 2 (by omega) (by omega) (by omega) (by omega) (by omega), e 85 i (by omega) (by omega) (by omega) (by omega) (by omega), e 86 i (by omega) (by omega) (by omega) (by omega) (by omega)]
    rcases h i i0 i1 with a | ⟨b1, b2, b3, b4, b5, b6, b7⟩
    · exact Or.inl a
    · refine Or.inr ⟨b1, b2, b3, b4, b5, b6, fun x x0 x1 => ?_⟩
      rw [e 87 (256 * i + x) (by omega) (by omega) (by omega) (by omega) (by omega), e (39 + 2 * i) x (by omega) (by omega) (by omega) (by omega) (by omega)]
      exact b7 x x0 x1
theorem o_sheet {M : zM} {n : Nat} (hn : 1000000 ≤ n) (I : Iv M) {a1 a2 a3 : Int} (g1 : zrg a1) (g2 : zrg a2) (g3 : zrg a3) : ∃ r M1 r' M2, qbs_sheet n zK0 M 1 a1 a2 a3 = some (r, M1) ∧ qmd_sheet n zK0 M1 60 a1 a2 a3 = some (r', M2) ∧ zw r = zw r' ∧ Iv M2 := by
  obtain ⟨hS, hT, hR, hW, hP, hL, hSh⟩ := id I
  have hS' := hS
  unfold zSR at hS'
  have e3 : zw a3 = a3 := zw_in g3
  unfold qbs_sheet qmd_sheet qst_renew
  simp only [zsht g1 g2, zwit g1 (show zrg 0 by decide) (show zrg 3 by decide), zwit g2 (show zrg 0 by decide) (show zrg 2 by decide)]
  by_cases c1 : 0 ≤ a1 ∧ a1 ≤ 3
  · by_cases c2 : 0 ≤ a2 ∧ a2 ≤ 2
    · by_cases c3 : a3 ≤ 256
      · by_cases c4 : 0 ≤ a3
        · obtain ⟨b37, b38⟩ := zs_37 hS c1.1 (by omega)
          obtain ⟨s1, s2, s3, s4, s5, s6⟩ := zs_c c1.1 (show a1 < 4 by omega)
          have z1 : zgq zK0 M 104 37 a1 = some (38 + 2 * a1) := zgq_ok (N := 4) rfl (by decide) c1.1 (by omega) b37 (by omega)
          have zr : ∀ Q : zM, Q (38 + 2 * a1) 0 = 39 + 2 * a1 → zgr zK0 Q 7 3 (38 + 2 * a1) 0 = some (39 + 2 * a1) := fun Q h => zgr_ok s1 h (by omega)
          refine ⟨1, zfl (zu (zu M (38 + 2 * a1) 2 a2) (38 + 2 * a1) 1 a3) (39 + 2 * a1) 256 0, 1, zsp (zu (zu (zfl (zu (zu M (38 + 2 * a1) 2 a2) (38 + 2 * a1) 1 a3) (39 + 2 * a1) 256 0) 85 a1 a2) 86 a1 a3) 87 (256 * a1) 256 (fun _ => 0), ?_, ?_, rfl, ?_⟩
          · simp [c1, c2, c3, c4, e3, zwl, zPo, hS', z1, zgk_ok s1, zpf_ok s1]
            rw [zr _ (by simp [zu_at, b38]), Option.bind_some, zfillI s2 (by decide) (by omega)]
            simp
          · have n60 : ¬ (60 : Int) = 38 + 2 * a1 := by omega
            have n61 : ¬ (60 : Int) = 39 + 2 * a1 := by omega
            have p1 : ∀ (Q : zM) (v : Int), zpa zK0 Q 100 85 a1 v = some (zu Q 85 a1 v) := fun Q v => zpa_ok (N := 4) rfl (by decide) c1.1 (by omega)
            have p2 : ∀ (Q : zM) (v : Int), zpa zK0 Q 100 86 a1 v = some (zu Q 86 a1 v) := fun Q v => zpa_ok (N := 4) rfl (by decide) c1.1 (by omega)
            simp only [c1, c2, and_self, if_true, Option.bind_some, zwl, c3, c4, e3, show ¬ (1 : Int) = 0 by decide, if_false]
            rw [zgr_ok (v := 85) rfl (by simp [zfl, zu_at, n60, n61, hS']) (by decide), Option.bind_some, p1, Option.bind_some, zgr_ok (v := 86) rfl (by simp [zfl, zu_at, n60, n61, hS']) (by decide), Option.bind_some, p2, Option.bind_some]
            have := msheet (M := zu (zu (zfl (zu (zu M (38 + 2 * a1) 2 a2) (38 + 2 * a1) 1 a3) (39 + 2 * a1) 256 0) 85 a1 a2) 86 a1 a3) (n := n) (a1 := a1) (by simp [zfl, zu_at, n60, n61, hS']) hn c1
            simp only [zwl] at this
            exact this
          · refine ⟨hS.keep ?_, hT.keep ?_, hR.keep ?_, hW.keep ?_, hP.keep ?_, hL.keep ?_, hSh.new c1.1 (by omega) c2.1 c2.2 c4 c3⟩
            · exact ((((((zkp.rf _ _).up (s3 2 (by decide))).up (s3 1 (by decide))).fl s4).up rfl).up rfl).go (fun _ => rfl)
            · exact ((((((zkp.rf _ _).up (s5 _).1).up (s5 _).1).fl (fun i => (s6 i).1)).up rfl).up rfl).go (fun _ => rfl)
            · exact ((((((zkp.rf _ _).up (s5 _).2.1).up (s5 _).2.1).fl (fun i => (s6 i).2.1)).up rfl).up rfl).go (fun _ => rfl)
            · exact ((((((zkp.rf _ _).up (s5 _).2.2.2.2).up (s5 _).2.2.2.2).fl (fun i => (s6 i).2.2.2.2)).up rfl).up rfl).go (fun _ => rfl)
            · exact ((((((zkp.rf _ _).up (s5 _).2.2.1).up (s5 _).2.2.1).fl (fun i => (s6 i).2.2.1)).up rfl).up rfl).go (fun _ => rfl)
            · exact ((((((zkp.rf _ _).up (s5 _).2.2.2.1).up (s5 _).2.2.2.1).fl (fun i => (s6 i).2.2.2.1)).up rfl).up rfl).go (fun _ => rfl)
        · exact ⟨-14, M, -14, M, by simp [c1, c2, c3, c4, e3, zwl], by simp [c1, c2, c3, c4, e3, zwl], rfl, I⟩
      · exact ⟨-1, M, -1, M, by simp [c1, c2, c3, e3, zwl], by simp [c1, c2, c3, e3, zwl], rfl, I⟩
    · exact ⟨-1, M, -1, M, by simp [c1, c2, zwl], by simp [c1, c2, zwl], rfl, I⟩
  · exact ⟨-1, M, -1, M, by simp [c1, zwl], by simp [c1, zwl], rfl, I⟩

theorem zb8_i64 (b : BitVec 64) : zb8 b.toInt = (b.setWidth 8).toInt := by
  rw [BitVec.toInt_setWidth, zb8, BitVec.toInt_eq_toNat_bmod]
  exact Int.bmod_bmod_of_dvd (by decide)
theorem zsh1 (x s : Int64) (t : Nat) (h : (s.toBitVec.smod 64).toNat = t) : (x >>> s).toBitVec = x.toBitVec.sshiftRight t := by
  rw [Int64.toBitVec_shiftRight, BitVec.sshiftRight', h]
theorem zsh2 (x s : UInt64) (t : Nat) (h : (s.toBitVec % 64).toNat = t) : (x >>> s).toBitVec = x.toBitVec >>> t := by
  rw [UInt64.toBitVec_shiftRight, BitVec.ushiftRight_eq', h]
theorem zbt (x : BitVec 64) (t : Nat) (ht : t ≤ 56) : zb8 (x >>> t).toInt = zb8 (x.sshiftRight t &&& 255#64).toInt ∧ 0 ≤ (x.sshiftRight t &&& 255#64).toInt ∧ (x.sshiftRight t &&& 255#64).toInt ≤ 255 := by
  refine ⟨?_, ?_⟩
  · rw [zb8_i64, zb8_i64]
    congr 1
    apply BitVec.eq_of_getLsbD_eq
    intro i hi
    have h255 : ∀ i, i < 8 → (255#64).getLsbD i = true := by decide
    have h1 : t + i < 64 := by omega
    have h2 : i < 64 := by omega
    rw [BitVec.getLsbD_setWidth, BitVec.getLsbD_setWidth, BitVec.getLsbD_ushiftRight, BitVec.getLsbD_and, BitVec.getLsbD_sshiftRight, h255 i hi, if_pos h1]
    simp [hi, h2]
  · have h1 : (x.sshiftRight t &&& 255#64).toNat ≤ 255 := by
      rw [BitVec.toNat_and]
      exact Nat.and_le_right
    rw [BitVec.toInt_eq_toNat_of_lt (by omega)]
    omega
theorem zbit (a : Int) {k : Int} (h0 : 0 ≤ k) (h1 : k < 8) : zb8 (zb8 (zlushr a (56 - 8 * k))) = zb8 (zland (zlshr a (56 - 8 * k)) 255) ∧ 0 ≤ zland (zlshr a (56 - 8 * k)) 255 ∧ zland (zlshr a (56 - 8 * k)) 255 ≤ 255 := by
  have hb : ∀ x, zb8 (zb8 x) = zb8 x := fun x => by unfold zb8; exact Int.bmod_bmod
  rw [hb]
  have key : ∀ (s : Int) (t : Nat), t ≤ 56 → ((((Int32.ofInt s).toInt64 &&& 63).toBitVec.smod 64).toNat = t) → ((((Int32.ofInt s).toInt64.toUInt64 &&& Int64.toUInt64 63).toBitVec % 64).toNat = t) → zb8 (zlushr a s) = zb8 (zland (zlshr a s) 255) ∧ 0 ≤ zland (zlshr a s) 255 ∧ zland (zlshr a s) 255 ≤ 255 := by
    intro s t ht q1 q2
    have e1 : zlushr a s = ((Int64.ofInt a).toBitVec >>> t).toInt := by
      unfold zlushr
      show (((Int64.ofInt a).toUInt64 >>> ((Int32.ofInt s).toInt64.toUInt64 &&& Int64.toUInt64 63)).toBitVec).toInt = _
      rw [zsh2 _ _ t q2]
      rfl
    have e2 : zland (zlshr a s) 255 = ((Int64.ofInt a).toBitVec.sshiftRight t &&& 255#64).toInt := by
      unfold zland zlshr
      rw [Int64.ofInt_toInt]
      show ((Int64.ofInt a >>> ((Int32.ofInt s).toInt64 &&& 63)).toBitVec &&& (Int64.ofInt 255).toBitVec).toInt = _
      rw [zsh1 _ _ t q1]
      rfl
    rw [e1, e2]
    exact zbt _ t ht
  rcases (show k = 0 ∨ k = 1 ∨ k = 2 ∨ k = 3 ∨ k = 4 ∨ k = 5 ∨ k = 6 ∨ k = 7 by omega) with rfl | rfl | rfl | rfl | rfl | rfl | rfl | rfl
  · exact key _ 56 (by decide) (by decide) (by decide)
  · exact key _ 48 (by decide) (by decide) (by decide)
  · exact key _ 40 (by decide) (by decide) (by decide)
  · exact key _ 32 (by decide) (by decide) (by decide)
  · exact key _ 24 (by decide) (by decide) (by decide)
  · exact key _ 16 (by decide) (by decide) (by decide)
  · exact key _ 8 (by decide) (by decide) (by decide)
  · exact key _ 0 (by decide) (by decide) (by decide)
theorem cfeed {M : zM} {n : Nat} {a1 : Int} (hS : zSR M) (hn : 1000000 ≤ n) (h0 : 0 ≤ M 29 2) (h1 : M 29 2 + 8 ≤ 240) : qrd_append n zK0 M 29 a1 = some (M 29 2 + 8, zu (zsp M 30 (M 29 2) 8 (fun i => zb8 (zb8 (zlushr a1 (56 - 8 * i))))) 29 2 (M 29 2 + 8)) := by
  have hS' := hS
  unfold zSR at hS'
  unfold qrd_append
  rw [zgf_ok rfl, Option.bind_some, zw_id (by omega) (by omega), zw_id (by omega) (by omega), if_pos h1]
  refine zwh_eq (fun s => 0 ≤ s.1 ∧ s.1 ≤ 8 ∧ s.2 = zsp M 30 (M 29 2) s.1 (fun i => zb8 (zb8 (zlushr a1 (56 - 8 * i))))) (fun s => (8 - s.1).toNat) ?_ n (0, M) ⟨by simp, by simp, by simp [zsp_0]⟩ (by simp; omega)
  intro s ⟨b1, b2, b3⟩
  try dsimp only
  rw [zw_id (x := 8) (by omega) (by omega), zw_id (by omega) (by omega)]
  have e1 : s.2 29 2 = M 29 2 := by rw [b3, zsp_ne (by decide)]
  have e2 : s.2 29 0 = 30 := by rw [b3, zsp_ne (by decide)]; simp [hS']
  by_cases hc : 8 ≤ s.1
  · right
    rw [if_pos hc]
    have q : s.1 = 8 := by omega
    rw [q] at b3
    simp only [zPo, Option.bind_some, e1]
    simp [zu_at, b3]
  · left
    rw [if_neg hc, zgr_ok (v := 30) rfl e2 (by decide), Option.bind_some, zgf_ok rfl, Option.bind_some, e1, zpa_ok (N := 240) rfl (by decide) (by omega) (by omega)]
    refine ⟨_, rfl, ⟨?_, ?_, ?_⟩, ?_⟩
    · dsimp only; omega
    · dsimp only; omega
    · dsimp only; rw [b3]; exact zsp_s b1 rfl
    · dsimp only; omega
theorem zu_self (M : zM) (r k : Int) {v : Int} (h : M r k = v) : zu M r k v = M := by
  funext c i
  rw [zu_at]
  by_cases q : c = r ∧ i = k
  · rw [if_pos q, q.1, q.2, h]
  · rw [if_neg q]
theorem zu_comm (M : zM) {r k v r' k' v' : Int} (h : ¬ (r = r' ∧ k = k')) : zu (zu M r k v) r' k' v' = zu (zu M r' k' v') r k v := by
  funext c i
  simp only [zu_at]
  by_cases q : c = r ∧ i = k
  · have : ¬ (c = r' ∧ i = k') := fun q' => h ⟨q.1.symm.trans q'.1, q.2.symm.trans q'.2⟩
    rw [if_pos q, if_neg this, if_pos q]
  · rw [if_neg q, if_neg q]
theorem zu_twice (M : zM) {r k v v' : Int} : zu (zu M r k v) r k v' = zu M r k v' := by
  funext c i
  simp only [zu_at]
  by_cases q : c = r ∧ i = k
  · rw [if_pos q, if_pos q]
  · rw [if_neg q, if_neg q, if_neg q]
theorem mfeed {M : zM} {n : Nat} {a1 L : Int} (hS : zSR M) (hn : 1000000 ≤ n) (hL : M 60 36 = L) (h0 : 0 ≤ L) (h1 : L + 8 ≤ 240) : qmd_feed n zK0 M 60 a1 = some (L + 8, zu (zsp M 81 L 8 (fun i => zland (zlshr a1 (56 - 8 * i)) 255)) 60 36 (L + 8)) := by
  have hS' := hS
  unfold zSR at hS'
  unfold qmd_feed
  rw [zgf_ok rfl, Option.bind_some, hL, zw_id (by omega) (by omega), zw_id (by omega) (by omega), if_pos h1]
  refine zwh_eq (fun s => ∃ k, 0 ≤ k ∧ k ≤ 8 ∧ s.1 = 56 - 8 * k ∧ s.2 = zu (zsp M 81 L k (fun i => zland (zlshr a1 (56 - 8 * i)) 255)) 60 36 (L + k)) (fun s => (64 + s.1).toNat) ?_ n (56, M) ⟨0, by omega, by omega, by simp, by simp [zsp_0, zu_self M 60 36 hL]⟩ (by simp; omega)
  intro s ⟨k, b1, b2, b3, b4⟩
  try dsimp only
  rw [zw_id (by omega) (by omega), b3]
  have e1 : s.2 60 36 = L + k := by rw [b4, zu_at, if_pos ⟨rfl, rfl⟩]
  have e2 : s.2 60 35 = 81 := by rw [b4, zu_at, if_neg (by decide), zsp_ne (by decide)]; simp [hS']
  by_cases hc : 56 - 8 * k < 0
  · right
    have q : k = 8 := by omega
    rw [q] at b4 e1
    rw [if_pos hc, zgf_ok rfl, Option.bind_some, e1, b4]
  · left
    rw [if_neg hc, zgr_ok (v := 81) rfl e2 (by decide), Option.bind_some, zgf_ok rfl, Option.bind_some, e1, zpa_ok (N := 240) rfl (by decide) (by omega) (by omega)]
    refine ⟨(56 - 8 * k + (-8), zu (zu s.2 81 (L + k) (zland (zlshr a1 (56 - 8 * k)) 255)) 60 36 (L + k + 1)), ?_, ⟨k + 1, by omega, by omega, by dsimp only; omega, ?_⟩, ?_⟩
    · simp [zPo, zu_at, e1]
    · dsimp only
      rw [b4, zu_comm _ (by omega), zu_twice, zu_comm _ (by omega), zsp_s b1 rfl]
      congr 1
      omega
    · dsimp only; omega
theorem o_feed {M : zM} {n : Nat} (hn : 1000000 ≤ n) (I : Iv M) {a1 : Int} : ∃ r M1 r' M2, qbs_feed n zK0 M 1 a1 = some (r, M1) ∧ qmd_feed n zK0 M1 60 a1 = some (r', M2) ∧ zw r = zw r' ∧ Iv M2 := by
  obtain ⟨hS, hT, hR, hW, hP, hL, hSh⟩ := id I
  have hS' := hS
  unfold zSR at hS'
  have hP' := hP
  obtain ⟨p1, p2, p3, p4, p5, p6, p7⟩ := hP'
  by_cases c : M 29 2 + 8 ≤ 240
  · have hS1 : zSR (zu (zsp M 30 (M 29 2) 8 (fun i => zb8 (zb8 (zlushr a1 (56 - 8 * i))))) 29 2 (M 29 2 + 8)) := hS.keep (((zkp.rf _ _).go (fun _ => rfl)).up rfl)
    refine ⟨_, _, _, _, ?_, mfeed (L := M 29 2) hS1 hn (by rw [zu_at, if_neg (by decide), zsp_ne (by decide), p3]) p1 c, rfl, ?_⟩
    · unfold qbs_feed
      simp [zPo, hS', cfeed hS hn p1 c]
    · refine ⟨hS.keep ?_, hT.keep ?_, hR.keep ?_, hW.keep ?_, ?_, hL.keep ?_, hSh.keep ?_⟩
      case refine_5 =>
        refine ⟨?_, ?_, ?_, fun i i0 i1 => ?_, ?_, ?_, ?_⟩
        · simp [zu_at, zsp]; omega
        · simp [zu_at, zsp]; omega
        · simp [zu_at, zsp]
        · have i2 : i < M 29 2 + 8 := by simpa [zu_at, zsp] using i1
          by_cases q : i < M 29 2
          · have := p4 i i0 q
            have n1 : ¬ (M 29 2 ≤ i ∧ i < M 29 2 + 8) := by omega
            simp [zu_at, zsp, n1]
            exact this
          · have n1 : (M 29 2 ≤ i ∧ i < M 29 2 + 8) := by omega
            obtain ⟨z1, z2, z3⟩ := zbit a1 (k := i - M 29 2) (by omega) (by omega)
            simp [zu_at, zsp, n1]
            exact ⟨z2, z3, z1⟩
        · simp [zu_at, zsp, p5]
        · simp [zu_at, zsp, p6]
        · simp [zu_at, zsp, p7]
      all_goals exact ((((zkp.rf _ _).go (fun _ => rfl)).up rfl).go (fun _ => rfl)).up rfl
  · refine ⟨-3, M, -3, M, ?_, ?_, rfl, I⟩
    · unfold qbs_feed qrd_append
      simp [zPo, hS', zwl, zw_id (x := M 29 2 + 8) (by omega) (by omega), c]
    · unfold qmd_feed
      simp [zPo, p3, zwl, zw_id (x := M 29 2 + 8) (by omega) (by omega), c]
