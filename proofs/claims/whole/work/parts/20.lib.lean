theorem zw_id {x : Int} (h1 : -2147483648 ≤ x) (h2 : x < 2147483648) : zw x = x := by
  unfold zw
  exact Int.bmod_eq_of_le (by omega) (by omega)
theorem zw_rg (x : Int) : -2147483648 ≤ zw x ∧ zw x < 2147483648 := by
  rw [zw_eq]
  exact fb_rg _
theorem zgf_ok {K : zK} {M : zM} {ci N : Nat} {r k : Int} (h : zkd K r = some (ci, N)) : zgf K M ci N r k = some (M r k) := by rw [zgf, if_pos h]
theorem zgr_ok {K : zK} {M : zM} {ci N : Nat} {r k v : Int} (h : zkd K r = some (ci, N)) (hv : M r k = v) (h1 : 1 ≤ v) : zgr K M ci N r k = some v := by rw [zgr, if_pos ⟨h, by omega⟩, hv]
theorem zgk_ok {K : zK} {ci N : Nat} {r : Int} (h : zkd K r = some (ci, N)) : zgk K r ci N = some () := by rw [zgk, if_pos h]
theorem zpf_ok {K : zK} {M : zM} {ci N : Nat} {r k v : Int} (h : zkd K r = some (ci, N)) : zpf K M ci N r k v = some (zu M r k v) := by rw [zpf, if_pos h]
theorem zln_ok {K : zK} {kn N : Nat} {r : Int} (h : zkd K r = some (kn, N)) : zln K kn r = some (N : Int) := by rw [zln, h]; exact if_pos rfl
theorem zga_ok {K : zK} {M : zM} {kn N : Nat} {r i : Int} (h : zkd K r = some (kn, N)) (hN : N ≤ 100000) (h0 : 0 ≤ i) (h1 : i < N) : zga K M kn r i = some (M r i) := by
  have e : zw i = i := zw_id (by omega) (by omega)
  simp only [zga, zln_ok h, e, if_pos (And.intro h0 h1)]
theorem zgq_ok {K : zK} {M : zM} {kn N : Nat} {r i v : Int} (h : zkd K r = some (kn, N)) (hN : N ≤ 100000) (h0 : 0 ≤ i) (h1 : i < N) (hv : M r i = v) (hv1 : 1 ≤ v) : zgq K M kn r i = some v := by
  simp only [zgq, zga_ok h hN h0 h1, hv, if_pos hv1]
theorem zpa_ok {K : zK} {M : zM} {kn N : Nat} {r i v : Int} (h : zkd K r = some (kn, N)) (hN : N ≤ 100000) (h0 : 0 ≤ i) (h1 : i < N) : zpa K M kn r i v = some (zu M r i v) := by
  have e : zw i = i := zw_id (by omega) (by omega)
  simp only [zpa, zln_ok h, e, if_pos (And.intro h0 h1)]
theorem zdv_ok {x y : Int} (h0 : 0 ≤ x) (h1 : x < 2147483648) (h2 : 0 < y) (h3 : y < 2147483648) : zdv x y = some (x / y) := by
  rw [zdv, zw_id (by omega) h1, zw_id (by omega) h3, if_neg (by omega), Int.tdiv_eq_ediv_of_nonneg h0]
theorem zrm_ok {x y : Int} (h0 : 0 ≤ x) (h1 : x < 2147483648) (h2 : 0 < y) (h3 : y < 2147483648) : zrm x y = some (x % y) := by
  rw [zrm, zw_id (by omega) h1, zw_id (by omega) h3, if_neg (by omega), Int.tmod_eq_emod_of_nonneg h0]
theorem zmax_ok {x y : Int} (h0 : -2147483648 ≤ x) (h1 : x < 2147483648) (h2 : -2147483648 ≤ y) (h3 : y < 2147483648) : zmax x y = if x < y then y else x := by
  rw [zmax, zw_id h0 h1, zw_id h2 h3]
theorem zmin_ok {x y : Int} (h0 : -2147483648 ≤ x) (h1 : x < 2147483648) (h2 : -2147483648 ≤ y) (h3 : y < 2147483648) : zmin x y = if y < x then y else x := by
  rw [zmin, zw_id h0 h1, zw_id h2 h3]
/-- the rule of loops -/
theorem zwh_inv {σ ρ : Type} {f : σ → Option (σ ⊕ ρ)} (I : σ → Prop) (μ : σ → Nat) (Q : ρ → Prop) (h : ∀ s, I s → (∃ s', f s = some (.inl s') ∧ I s' ∧ μ s' < μ s) ∨ (∃ r, f s = some (.inr r) ∧ Q r)) : ∀ n s, I s → μ s < n → ∃ r, zwh f n s = some r ∧ Q r := by
  intro n
  induction n with
  | zero => intro s _ h; omega
  | succ n ih =>
    intro s hI hm
    rw [zwh]
    rcases h s hI with ⟨s', e1, e2, e3⟩ | ⟨r, e1, e2⟩
    · rw [e1]
      exact ih s' e2 (by omega)
    · rw [e1]
      exact ⟨r, rfl, e2⟩
theorem zu_at (M : zM) (r k v r' k' : Int) : zu M r k v r' k' = if r' = r ∧ k' = k then v else M r' k' := rfl
/-- a stretch of an array filled -/
def zfl (M : zM) (r : Int) (N : Int) (v : Int) : zM := fun c i => if c = r ∧ 0 ≤ i ∧ i < N then v else M c i
theorem zfl_0 (M : zM) (r v : Int) : zfl M r 0 v = M := by
  funext c i
  unfold zfl
  rw [if_neg (by omega)]
theorem zfl_s {M : zM} {r j v : Int} (h : 0 ≤ j) : zu (zfl M r j v) r j v = zfl M r (j + 1) v := by
  funext c i
  unfold zu zfl
  by_cases h1 : c = r
  · subst h1
    by_cases h2 : i = j
    · subst h2
      rw [if_pos ⟨rfl, rfl⟩, if_pos ⟨rfl, h, by omega⟩]
    · rw [if_neg (fun q => h2 q.2)]
      by_cases h3 : 0 ≤ i ∧ i < j
      · rw [if_pos ⟨rfl, h3⟩, if_pos ⟨rfl, h3.1, by omega⟩]
      · rw [if_neg (fun q => h3 q.2), if_neg (fun q => h3 ⟨q.2.1, by omega⟩)]
  · rw [if_neg (fun q => h1 q.1), if_neg (fun q => h1 q.1), if_neg (fun q => h1 q.1)]
theorem zfillI {K : zK} {M : zM} {r v : Int} {N n : Nat} (h : zkd K r = some (100, N)) (hN : N ≤ 100000) (hn : N < n) : qar_fillI n K M r v = some (zfl M r N v) := by
  unfold qar_fillI
  rw [zln_ok h]
  simp only [Option.bind_some]
  obtain ⟨x, hx, rfl⟩ := zwh_inv (f := fun s2 : Int × zM => if zw (N : Int) ≤ zw s2.1 then some (.inr s2.2) else (zpa K s2.2 100 r s2.1 v).bind fun M3 => some (.inl (s2.1 + 1, M3))) (fun s => 0 ≤ s.1 ∧ s.1 ≤ N ∧ s.2 = zfl M r s.1 v) (fun s => (N - s.1).toNat) (fun x => x = zfl M r N v) (fun s hs => by
    obtain ⟨h1, h2, h3⟩ := hs
    try dsimp only
    rw [zw_id (by omega) (by omega), zw_id (by omega) (by omega)]
    by_cases hc : (N : Int) ≤ s.1
    · right
      rw [if_pos hc]
      exact ⟨s.2, rfl, by rw [h3, show s.1 = N by omega]⟩
    · left
      rw [if_neg hc, zpa_ok h hN h1 (by omega)]
      exact ⟨_, rfl, ⟨by dsimp only; omega, by dsimp only; omega, by dsimp only; rw [h3, zfl_s h1]⟩, by dsimp only; omega⟩) n (0, M) ⟨by dsimp only; omega, by dsimp only; omega, (zfl_0 M r v).symm⟩ (by dsimp only; omega)
  exact hx
theorem zfillJ {K : zK} {M : zM} {r v : Int} {N n : Nat} (h : zkd K r = some (102, N)) (hN : N ≤ 100000) (hn : N < n) : qar_fillJ n K M r v = some (zfl M r N v) := by
  unfold qar_fillJ
  rw [zln_ok h]
  simp only [Option.bind_some]
  obtain ⟨x, hx, rfl⟩ := zwh_inv (f := fun s2 : Int × zM => if zw (N : Int) ≤ zw s2.1 then some (.inr s2.2) else (zpa K s2.2 102 r s2.1 v).bind fun M3 => some (.inl (s2.1 + 1, M3))) (fun s => 0 ≤ s.1 ∧ s.1 ≤ N ∧ s.2 = zfl M r s.1 v) (fun s => (N - s.1).toNat) (fun x => x = zfl M r N v) (fun s hs => by
    obtain ⟨h1, h2, h3⟩ := hs
    try dsimp only
    rw [zw_id (by omega) (by omega), zw_id (by omega) (by omega)]
    by_cases hc : (N : Int) ≤ s.1
    · right
      rw [if_pos hc]
      exact ⟨s.2, rfl, by rw [h3, show s.1 = N by omega]⟩
    · left
      rw [if_neg hc, zpa_ok h hN h1 (by omega)]
      exact ⟨_, rfl, ⟨by dsimp only; omega, by dsimp only; omega, by dsimp only; rw [h3, zfl_s h1]⟩, by dsimp only; omega⟩) n (0, M) ⟨by dsimp only; omega, by dsimp only; omega, (zfl_0 M r v).symm⟩ (by dsimp only; omega)
  exact hx

theorem zkq : zkd zK0 1 = some (11, 15) ∧
  zkd zK0 2 = some (2, 7) ∧
  zkd zK0 3 = some (100, 256) ∧
  zkd zK0 4 = some (2, 7) ∧
  zkd zK0 5 = some (6, 3) ∧
  zkd zK0 6 = some (100, 17) ∧
  zkd zK0 7 = some (10, 2) ∧
  zkd zK0 8 = some (103, 6) ∧
  zkd zK0 9 = some (6, 3) ∧
  zkd zK0 10 = some (6, 3) ∧
  zkd zK0 11 = some (6, 3) ∧
  zkd zK0 12 = some (6, 3) ∧
  zkd zK0 13 = some (6, 3) ∧
  zkd zK0 14 = some (6, 3) ∧
  zkd zK0 15 = some (1, 3) ∧
  zkd zK0 16 = some (0, 5) ∧
  zkd zK0 17 = some (102, 64) ∧
  zkd zK0 18 = some (102, 17) ∧
  zkd zK0 19 = some (100, 64) ∧
  zkd zK0 20 = some (100, 64) ∧
  zkd zK0 21 = some (8, 5) ∧
  zkd zK0 22 = some (100, 17) ∧
  zkd zK0 23 = some (100, 17) ∧
  zkd zK0 24 = some (4, 7) ∧
  zkd zK0 25 = some (100, 17) ∧
  zkd zK0 26 = some (102, 64) ∧
  zkd zK0 27 = some (100, 64) ∧
  zkd zK0 28 = some (100, 64) ∧
  zkd zK0 29 = some (5, 9) ∧
  zkd zK0 30 = some (101, 240) ∧
  zkd zK0 31 = some (100, 8) ∧
  zkd zK0 32 = some (9, 5) ∧
  zkd zK0 33 = some (100, 1024) ∧
  zkd zK0 34 = some (100, 16) ∧
  zkd zK0 35 = some (100, 3) ∧
  zkd zK0 36 = some (100, 17) ∧
  zkd zK0 37 = some (104, 4) ∧
  zkd zK0 38 = some (7, 3) ∧
  zkd zK0 39 = some (100, 256) ∧
  zkd zK0 40 = some (7, 3) ∧
  zkd zK0 41 = some (100, 256) ∧
  zkd zK0 42 = some (7, 3) ∧
  zkd zK0 43 = some (100, 256) ∧
  zkd zK0 44 = some (7, 3) ∧
  zkd zK0 45 = some (100, 256) ∧
  zkd zK0 46 = some (3, 7) ∧
  zkd zK0 47 = some (100, 16) ∧
  zkd zK0 48 = some (100, 16) ∧
  zkd zK0 49 = some (100, 16) ∧
  zkd zK0 50 = some (100, 16) ∧
  zkd zK0 51 = some (100, 16) ∧
  zkd zK0 52 = some (100, 16) ∧
  zkd zK0 53 = some (3, 7) ∧
  zkd zK0 54 = some (100, 16) ∧
  zkd zK0 55 = some (100, 16) ∧
  zkd zK0 56 = some (100, 16) ∧
  zkd zK0 57 = some (100, 16) ∧
  zkd zK0 58 = some (100, 16) ∧
  zkd zK0 59 = some (100, 16) ∧
  zkd zK0 60 = some (12, 49) ∧
  zkd zK0 61 = some (100, 256) ∧
  zkd zK0 62 = some (100, 256) ∧
  zkd zK0 63 = some (100, 17) ∧
  zkd zK0 64 = some (100, 6) ∧
  zkd zK0 65 = some (100, 6) ∧
  zkd zK0 66 = some (100, 6) ∧
  zkd zK0 67 = some (102, 64) ∧
  zkd zK0 68 = some (100, 64) ∧
  zkd zK0 69 = some (100, 17) ∧
  zkd zK0 70 = some (100, 17) ∧
  zkd zK0 71 = some (100, 1105) ∧
  zkd zK0 72 = some (100, 65) ∧
  zkd zK0 73 = some (100, 16) ∧
  zkd zK0 74 = some (100, 16) ∧
  zkd zK0 75 = some (100, 16) ∧
  zkd zK0 76 = some (100, 16) ∧
  zkd zK0 77 = some (100, 16) ∧
  zkd zK0 78 = some (100, 16) ∧
  zkd zK0 79 = some (100, 16) ∧
  zkd zK0 80 = some (100, 16) ∧
  zkd zK0 81 = some (100, 240) ∧
  zkd zK0 82 = some (100, 1024) ∧
  zkd zK0 83 = some (100, 1024) ∧
  zkd zK0 84 = some (100, 3) ∧
  zkd zK0 85 = some (100, 4) ∧
  zkd zK0 86 = some (100, 4) ∧
  zkd zK0 87 = some (100, 1024) := ⟨rfl, rfl, rfl, rfl, rfl, rfl, rfl, rfl, rfl, rfl, rfl, rfl, rfl, rfl, rfl, rfl, rfl, rfl, rfl, rfl, rfl, rfl, rfl, rfl, rfl, rfl, rfl, rfl, rfl, rfl, rfl, rfl, rfl, rfl, rfl, rfl, rfl, rfl, rfl, rfl, rfl, rfl, rfl, rfl, rfl, rfl, rfl, rfl, rfl, rfl, rfl, rfl, rfl, rfl, rfl, rfl, rfl, rfl, rfl, rfl, rfl, rfl, rfl, rfl, rfl, rfl, rfl, rfl, rfl, rfl, rfl, rfl, rfl, rfl, rfl, rfl, rfl, rfl, rfl, rfl, rfl, rfl, rfl, rfl, rfl, rfl, rfl⟩
theorem zPo : (∀ (M : zM) (k : Int), zgf zK0 M 11 15 1 k = some (M 1 k)) ∧
  (∀ (M : zM) (k : Int), zgf zK0 M 2 7 2 k = some (M 2 k)) ∧
  (∀ (M : zM) (k : Int), zgf zK0 M 2 7 4 k = some (M 4 k)) ∧
  (∀ (M : zM) (k : Int), zgf zK0 M 6 3 5 k = some (M 5 k)) ∧
  (∀ (M : zM) (k : Int), zgf zK0 M 10 2 7 k = some (M 7 k)) ∧
  (∀ (M : zM) (k : Int), zgf zK0 M 6 3 9 k = some (M 9 k)) ∧
  (∀ (M : zM) (k : Int), zgf zK0 M 6 3 10 k = some (M 10 k)) ∧
  (∀ (M : zM) (k : Int), zgf zK0 M 6 3 11 k = some (M 11 k)) ∧
  (∀ (M : zM) (k : Int), zgf zK0 M 6 3 12 k = some (M 12 k)) ∧
  (∀ (M : zM) (k : Int), zgf zK0 M 6 3 13 k = some (M 13 k)) ∧
  (∀ (M : zM) (k : Int), zgf zK0 M 6 3 14 k = some (M 14 k)) ∧
  (∀ (M : zM) (k : Int), zgf zK0 M 1 3 15 k = some (M 15 k)) ∧
  (∀ (M : zM) (k : Int), zgf zK0 M 0 5 16 k = some (M 16 k)) ∧
  (∀ (M : zM) (k : Int), zgf zK0 M 8 5 21 k = some (M 21 k)) ∧
  (∀ (M : zM) (k : Int), zgf zK0 M 4 7 24 k = some (M 24 k)) ∧
  (∀ (M : zM) (k : Int), zgf zK0 M 5 9 29 k = some (M 29 k)) ∧
  (∀ (M : zM) (k : Int), zgf zK0 M 9 5 32 k = some (M 32 k)) ∧
  (∀ (M : zM) (k : Int), zgf zK0 M 7 3 38 k = some (M 38 k)) ∧
  (∀ (M : zM) (k : Int), zgf zK0 M 7 3 40 k = some (M 40 k)) ∧
  (∀ (M : zM) (k : Int), zgf zK0 M 7 3 42 k = some (M 42 k)) ∧
  (∀ (M : zM) (k : Int), zgf zK0 M 7 3 44 k = some (M 44 k)) ∧
  (∀ (M : zM) (k : Int), zgf zK0 M 3 7 46 k = some (M 46 k)) ∧
  (∀ (M : zM) (k : Int), zgf zK0 M 3 7 53 k = some (M 53 k)) ∧
  (∀ (M : zM) (k : Int), zgf zK0 M 12 49 60 k = some (M 60 k)) ∧
  (zgk zK0 1 11 15 = some ()) ∧
  (zgk zK0 2 2 7 = some ()) ∧
  (zgk zK0 4 2 7 = some ()) ∧
  (zgk zK0 5 6 3 = some ()) ∧
  (zgk zK0 7 10 2 = some ()) ∧
  (zgk zK0 9 6 3 = some ()) ∧
  (zgk zK0 10 6 3 = some ()) ∧
  (zgk zK0 11 6 3 = some ()) ∧
  (zgk zK0 12 6 3 = some ()) ∧
  (zgk zK0 13 6 3 = some ()) ∧
  (zgk zK0 14 6 3 = some ()) ∧
  (zgk zK0 15 1 3 = some ()) ∧
  (zgk zK0 16 0 5 = some ()) ∧
  (zgk zK0 21 8 5 = some ()) ∧
  (zgk zK0 24 4 7 = some ()) ∧
  (zgk zK0 29 5 9 = some ()) ∧
  (zgk zK0 32 9 5 = some ()) ∧
  (zgk zK0 38 7 3 = some ()) ∧
  (zgk zK0 40 7 3 = some ()) ∧
  (zgk zK0 42 7 3 = some ()) ∧
  (zgk zK0 44 7 3 = some ()) ∧
  (zgk zK0 46 3 7 = some ()) ∧
  (zgk zK0 53 3 7 = some ()) ∧
  (zgk zK0 60 12 49 = some ()) ∧
  (∀ (M : zM) (k v : Int), zpf zK0 M 11 15 1 k v = some (zu M 1 k v)) ∧
  (∀ (M : zM) (k v : Int), zpf zK0 M 2 7 2 k v = some (zu M 2 k v)) ∧
  (∀ (M : zM) (k v : Int), zpf zK0 M 2 7 4 k v = some (zu M 4 k v)) ∧
  (∀ (M : zM) (k v : Int), zpf zK0 M 6 3 5 k v = some (zu M 5 k v)) ∧
  (∀ (M : zM) (k v : Int), zpf zK0 M 10 2 7 k v = some (zu M 7 k v)) ∧
  (∀ (M : zM) (k v : Int), zpf zK0 M 6 3 9 k v = some (zu M 9 k v)) ∧
  (∀ (M : zM) (k v : Int), zpf zK0 M 6 3 10 k v = some (zu M 10 k v)) ∧
  (∀ (M : zM) (k v : Int), zpf zK0 M 6 3 11 k v = some (zu M 11 k v)) ∧
  (∀ (M : zM) (k v : Int), zpf zK0 M 6 3 12 k v = some (zu M 12 k v)) ∧
  (∀ (M : zM) (k v : Int), zpf zK0 M 6 3 13 k v = some (zu M 13 k v)) ∧
  (∀ (M : zM) (k v : Int), zpf zK0 M 6 3 14 k v = some (zu M 14 k v)) ∧
  (∀ (M : zM) (k v : Int), zpf zK0 M 1 3 15 k v = some (zu M 15 k v)) ∧
  (∀ (M : zM) (k v : Int), zpf zK0 M 0 5 16 k v = some (zu M 16 k v)) ∧
  (∀ (M : zM) (k v : Int), zpf zK0 M 8 5 21 k v = some (zu M 21 k v)) ∧
  (∀ (M : zM) (k v : Int), zpf zK0 M 4 7 24 k v = some (zu M 24 k v)) ∧
  (∀ (M : zM) (k v : Int), zpf zK0 M 5 9 29 k v = some (zu M 29 k v)) ∧
  (∀ (M : zM) (k v : Int), zpf zK0 M 9 5 32 k v = some (zu M 32 k v)) ∧
  (∀ (M : zM) (k v : Int), zpf zK0 M 7 3 38 k v = some (zu M 38 k v)) ∧
  (∀ (M : zM) (k v : Int), zpf zK0 M 7 3 40 k v = some (zu M 40 k v)) ∧
  (∀ (M : zM) (k v : Int), zpf zK0 M 7 3 42 k v = some (zu M 42 k v)) ∧
  (∀ (M : zM) (k v : Int), zpf zK0 M 7 3 44 k v = some (zu M 44 k v)) ∧
  (∀ (M : zM) (k v : Int), zpf zK0 M 3 7 46 k v = some (zu M 46 k v)) ∧
  (∀ (M : zM) (k v : Int), zpf zK0 M 3 7 53 k v = some (zu M 53 k v)) ∧
  (∀ (M : zM) (k v : Int), zpf zK0 M 12 49 60 k v = some (zu M 60 k v)) ∧
  (∀ (M : zM) (k : Int), zgr zK0 M 11 15 1 k = if 1 ≤ M 1 k then some (M 1 k) else none) ∧
  (∀ (M : zM) (k : Int), zgr zK0 M 2 7 2 k = if 1 ≤ M 2 k then some (M 2 k) else none) ∧
  (∀ (M : zM) (k : Int), zgr zK0 M 2 7 4 k = if 1 ≤ M 4 k then some (M 4 k) else none) ∧
  (∀ (M : zM) (k : Int), zgr zK0 M 6 3 5 k = if 1 ≤ M 5 k then some (M 5 k) else none) ∧
  (∀ (M : zM) (k : Int), zgr zK0 M 10 2 7 k = if 1 ≤ M 7 k then some (M 7 k) else none) ∧
  (∀ (M : zM) (k : Int), zgr zK0 M 6 3 9 k = if 1 ≤ M 9 k then some (M 9 k) else none) ∧
  (∀ (M : zM) (k : Int), zgr zK0 M 6 3 10 k = if 1 ≤ M 10 k then some (M 10 k) else none) ∧
  (∀ (M : zM) (k : Int), zgr zK0 M 6 3 11 k = if 1 ≤ M 11 k then some (M 11 k) else none) ∧
  (∀ (M : zM) (k : Int), zgr zK0 M 6 3 12 k = if 1 ≤ M 12 k then some (M 12 k) else none) ∧
  (∀ (M : zM) (k : Int), zgr zK0 M 6 3 13 k = if 1 ≤ M 13 k then some (M 13 k) else none) ∧
  (∀ (M : zM) (k : Int), zgr zK0 M 6 3 14 k = if 1 ≤ M 14 k then some (M 14 k) else none) ∧
  (∀ (M : zM) (k : Int), zgr zK0 M 1 3 15 k = if 1 ≤ M 15 k then some (M 15 k) else none) ∧
  (∀ (M : zM) (k : Int), zgr zK0 M 0 5 16 k = if 1 ≤ M 16 k then some (M 16 k) else none) ∧
  (∀ (M : zM) (k : Int), zgr zK0 M 8 5 21 k = if 1 ≤ M 21 k then some (M 21 k) else none) ∧
  (∀ (M : zM) (k : Int), zgr zK0 M 4 7 24 k = if 1 ≤ M 24 k then some (M 24 k) else none) ∧
  (∀ (M : zM) (k : Int), zgr zK0 M 5 9 29 k = if 1 ≤ M 29 k then some (M 29 k) else none) ∧
  (∀ (M : zM) (k : Int), zgr zK0 M 9 5 32 k = if 1 ≤ M 32 k then some (M 32 k) else none) ∧
  (∀ (M : zM) (k : Int), zgr zK0 M 7 3 38 k = if 1 ≤ M 38 k then some (M 38 k) else none) ∧
  (∀ (M : zM) (k : Int), zgr zK0 M 7 3 40 k = if 1 ≤ M 40 k then some (M 40 k) else none) ∧
  (∀ (M : zM) (k : Int), zgr zK0 M 7 3 42 k = if 1 ≤ M 42 k then some (M 42 k) else none) ∧
  (∀ (M : zM) (k : Int), zgr zK0 M 7 3 44 k = if 1 ≤ M 44 k then some (M 44 k) else none) ∧
  (∀ (M : zM) (k : Int), zgr zK0 M 3 7 46 k = if 1 ≤ M 46 k then some (M 46 k) else none) ∧
  (∀ (M : zM) (k : Int), zgr zK0 M 3 7 53 k = if 1 ≤ M 53 k then some (M 53 k) else none) ∧
  (∀ (M : zM) (k : Int), zgr zK0 M 12 49 60 k = if 1 ≤ M 60 k then some (M 60 k) else none) := ⟨fun _ _ => zgf_ok rfl, fun _ _ => zgf_ok rfl, fun _ _ => zgf_ok rfl, fun _ _ => zgf_ok rfl, fun _ _ => zgf_ok rfl, fun _ _ => zgf_ok rfl, fun _ _ => zgf_ok rfl, fun _ _ => zgf_ok rfl, fun _ _ => zgf_ok rfl, fun _ _ => zgf_ok rfl, fun _ _ => zgf_ok rfl, fun _ _ => zgf_ok rfl, fun _ _ => zgf_ok rfl, fun _ _ => zgf_ok rfl, fun _ _ => zgf_ok rfl, fun _ _ => zgf_ok rfl, fun _ _ => zgf_ok rfl, fun _ _ => zgf_ok rfl, fun _ _ => zgf_ok rfl, fun _ _ => zgf_ok rfl, fun _ _ => zgf_ok rfl, fun _ _ => zgf_ok rfl, fun _ _ => zgf_ok rfl, fun _ _ => zgf_ok rfl, zgk_ok rfl, zgk_ok rfl, zgk_ok rfl, zgk_ok rfl, zgk_ok rfl, zgk_ok rfl, zgk_ok rfl, zgk_ok rfl, zgk_ok rfl, zgk_ok rfl, zgk_ok rfl, zgk_ok rfl, zgk_ok rfl, zgk_ok rfl, zgk_ok rfl, zgk_ok rfl, zgk_ok rfl, zgk_ok rfl, zgk_ok rfl, zgk_ok rfl, zgk_ok rfl, zgk_ok rfl, zgk_ok rfl, zgk_ok rfl, fun _ _ _ => zpf_ok rfl, fun _ _ _ => zpf_ok rfl, fun _ _ _ => zpf_ok rfl, fun _ _ _ => zpf_ok rfl, fun _ _ _ => zpf_ok rfl, fun _ _ _ => zpf_ok rfl, fun _ _ _ => zpf_ok rfl, fun _ _ _ => zpf_ok rfl, fun _ _ _ => zpf_ok rfl, fun _ _ _ => zpf_ok rfl, fun _ _ _ => zpf_ok rfl, fun _ _ _ => zpf_ok rfl, fun _ _ _ => zpf_ok rfl, fun _ _ _ => zpf_ok rfl, fun _ _ _ => zpf_ok rfl, fun _ _ _ => zpf_ok rfl, fun _ _ _ => zpf_ok rfl, fun _ _ _ => zpf_ok rfl, fun _ _ _ => zpf_ok rfl, fun _ _ _ => zpf_ok rfl, fun _ _ _ => zpf_ok rfl, fun _ _ _ => zpf_ok rfl, fun _ _ _ => zpf_ok rfl, fun _ _ _ => zpf_ok rfl, fun M k => by rw [zgr]; simp only [zkq, true_and], fun M k => by rw [zgr]; simp only [zkq, true_and], fun M k => by rw [zgr]; simp only [zkq, true_and], fun M k => by rw [zgr]; simp only [zkq, true_and], fun M k => by rw [zgr]; simp only [zkq, true_and], fun M k => by rw [zgr]; simp only [zkq, true_and], fun M k => by rw [zgr]; simp only [zkq, true_and], fun M k => by rw [zgr]; simp only [zkq, true_and], fun M k => by rw [zgr]; simp only [zkq, true_and], fun M k => by rw [zgr]; simp only [zkq, true_and], fun M k => by rw [zgr]; simp only [zkq, true_and], fun M k => by rw [zgr]; simp only [zkq, true_and], fun M k => by rw [zgr]; simp only [zkq, true_and], fun M k => by rw [zgr]; simp only [zkq, true_and], fun M k => by rw [zgr]; simp only [zkq, true_and], fun M k => by rw [zgr]; simp only [zkq, true_and], fun M k => by rw [zgr]; simp only [zkq, true_and], fun M k => by rw [zgr]; simp only [zkq, true_and], fun M k => by rw [zgr]; simp only [zkq, true_and], fun M k => by rw [zgr]; simp only [zkq, true_and], fun M k => by rw [zgr]; simp only [zkq, true_and], fun M k => by rw [zgr]; simp only [zkq, true_and], fun M k => by rw [zgr]; simp only [zkq, true_and], fun M k => by rw [zgr]; simp only [zkq, true_and]⟩
theorem zPa : (∀ (M : zM) (i : Int), 0 ≤ i → i < 256 → zga zK0 M 100 3 i = some (M 3 i)) ∧
  (∀ (M : zM) (i : Int), 0 ≤ i → i < 17 → zga zK0 M 100 6 i = some (M 6 i)) ∧
  (∀ (M : zM) (i : Int), 0 ≤ i → i < 6 → zga zK0 M 103 8 i = some (M 8 i)) ∧
  (∀ (M : zM) (i : Int), 0 ≤ i → i < 64 → zga zK0 M 102 17 i = some (M 17 i)) ∧
  (∀ (M : zM) (i : Int), 0 ≤ i → i < 17 → zga zK0 M 102 18 i = some (M 18 i)) ∧
  (∀ (M : zM) (i : Int), 0 ≤ i → i < 64 → zga zK0 M 100 19 i = some (M 19 i)) ∧
  (∀ (M : zM) (i : Int), 0 ≤ i → i < 64 → zga zK0 M 100 20 i = some (M 20 i)) ∧
  (∀ (M : zM) (i : Int), 0 ≤ i → i < 17 → zga zK0 M 100 22 i = some (M 22 i)) ∧
  (∀ (M : zM) (i : Int), 0 ≤ i → i < 17 → zga zK0 M 100 23 i = some (M 23 i)) ∧
  (∀ (M : zM) (i : Int), 0 ≤ i → i < 17 → zga zK0 M 100 25 i = some (M 25 i)) ∧
  (∀ (M : zM) (i : Int), 0 ≤ i → i < 64 → zga zK0 M 102 26 i = some (M 26 i)) ∧
  (∀ (M : zM) (i : Int), 0 ≤ i → i < 64 → zga zK0 M 100 27 i = some (M 27 i)) ∧
  (∀ (M : zM) (i : Int), 0 ≤ i → i < 64 → zga zK0 M 100 28 i = some (M 28 i)) ∧
  (∀ (M : zM) (i : Int), 0 ≤ i → i < 240 → zga zK0 M 101 30 i = some (M 30 i)) ∧
  (∀ (M : zM) (i : Int), 0 ≤ i → i < 8 → zga zK0 M 100 31 i = some (M 31 i)) ∧
  (∀ (M : zM) (i : Int), 0 ≤ i → i < 1024 → zga zK0 M 100 33 i = some (M 33 i)) ∧
  (∀ (M : zM) (i : Int), 0 ≤ i → i < 16 → zga zK0 M 100 34 i = some (M 34 i)) ∧
  (∀ (M : zM) (i : Int), 0 ≤ i → i < 3 → zga zK0 M 100 35 i = some (M 35 i)) ∧
  (∀ (M : zM) (i : Int), 0 ≤ i → i < 17 → zga zK0 M 100 36 i = some (M 36 i)) ∧
  (∀ (M : zM) (i : Int), 0 ≤ i → i < 4 → zga zK0 M 104 37 i = some (M 37 i)) ∧
  (∀ (M : zM) (i : Int), 0 ≤ i → i < 256 → zga zK0 M 100 39 i = some (M 39 i)) ∧
  (∀ (M : zM) (i : Int), 0 ≤ i → i < 256 → zga zK0 M 100 41 i = some (M 41 i)) ∧
  (∀ (M : zM) (i : Int), 0 ≤ i → i < 256 → zga zK0 M 100 43 i = some (M 43 i)) ∧
  (∀ (M : zM) (i : Int), 0 ≤ i → i < 256 → zga zK0 M 100 45 i = some (M 45 i)) ∧
  (∀ (M : zM) (i : Int), 0 ≤ i → i < 16 → zga zK0 M 100 47 i = some (M 47 i)) ∧
  (∀ (M : zM) (i : Int), 0 ≤ i → i < 16 → zga zK0 M 100 48 i = some (M 48 i)) ∧
  (∀ (M : zM) (i : Int), 0 ≤ i → i < 16 → zga zK0 M 100 49 i = some (M 49 i)) ∧
  (∀ (M : zM) (i : Int), 0 ≤ i → i < 16 → zga zK0 M 100 50 i = some (M 50 i)) ∧
  (∀ (M : zM) (i : Int), 0 ≤ i → i < 16 → zga zK0 M 100 51 i = some (M 51 i)) ∧
  (∀ (M : zM) (i : Int), 0 ≤ i → i < 16 → zga zK0 M 100 52 i = some (M 52 i)) ∧
  (∀ (M : zM) (i : Int), 0 ≤ i → i < 16 → zga zK0 M 100 54 i = some (M 54 i)) ∧
  (∀ (M : zM) (i : Int), 0 ≤ i → i < 16 → zga zK0 M 100 55 i = some (M 55 i)) ∧
  (∀ (M : zM) (i : Int), 0 ≤ i → i < 16 → zga zK0 M 100 56 i = some (M 56 i)) ∧
  (∀ (M : zM) (i : Int), 0 ≤ i → i < 16 → zga zK0 M 100 57 i = some (M 57 i)) ∧
  (∀ (M : zM) (i : Int), 0 ≤ i → i < 16 → zga zK0 M 100 58 i = some (M 58 i)) ∧
  (∀ (M : zM) (i : Int), 0 ≤ i → i < 16 → zga zK0 M 100 59 i = some (M 59 i)) ∧
  (∀ (M : zM) (i : Int), 0 ≤ i → i < 256 → zga zK0 M 100 61 i = some (M 61 i)) ∧
  (∀ (M : zM) (i : Int), 0 ≤ i → i < 256 → zga zK0 M 100 62 i = some (M 62 i)) ∧
  (∀ (M : zM) (i : Int), 0 ≤ i → i < 17 → zga zK0 M 100 63 i = some (M 63 i)) ∧
  (∀ (M : zM) (i : Int), 0 ≤ i → i < 6 → zga zK0 M 100 64 i = some (M 64 i)) ∧
  (∀ (M : zM) (i : Int), 0 ≤ i → i < 6 → zga zK0 M 100 65 i = some (M 65 i)) ∧
  (∀ (M : zM) (i : Int), 0 ≤ i → i < 6 → zga zK0 M 100 66 i = some (M 66 i)) ∧
  (∀ (M : zM) (i : Int), 0 ≤ i → i < 64 → zga zK0 M 102 67 i = some (M 67 i)) ∧
  (∀ (M : zM) (i : Int), 0 ≤ i → i < 64 → zga zK0 M 100 68 i = some (M 68 i)) ∧
  (∀ (M : zM) (i : Int), 0 ≤ i → i < 17 → zga zK0 M 100 69 i = some (M 69 i)) ∧
  (∀ (M : zM) (i : Int), 0 ≤ i → i < 17 → zga zK0 M 100 70 i = some (M 70 i)) ∧
  (∀ (M : zM) (i : Int), 0 ≤ i → i < 1105 → zga zK0 M 100 71 i = some (M 71 i)) ∧
  (∀ (M : zM) (i : Int), 0 ≤ i → i < 65 → zga zK0 M 100 72 i = some (M 72 i)) ∧
  (∀ (M : zM) (i : Int), 0 ≤ i → i < 16 → zga zK0 M 100 73 i = some (M 73 i)) ∧
  (∀ (M : zM) (i : Int), 0 ≤ i → i < 16 → zga zK0 M 100 74 i = some (M 74 i)) ∧
  (∀ (M : zM) (i : Int), 0 ≤ i → i < 16 → zga zK0 M 100 75 i = some (M 75 i)) ∧
  (∀ (M : zM) (i : Int), 0 ≤ i → i < 16 → zga zK0 M 100 76 i = some (M 76 i)) ∧
  (∀ (M : zM) (i : Int), 0 ≤ i → i < 16 → zga zK0 M 100 77 i = some (M 77 i)) ∧
  (∀ (M : zM) (i : Int), 0 ≤ i → i < 16 → zga zK0 M 100 78 i = some (M 78 i)) ∧
  (∀ (M : zM) (i : Int), 0 ≤ i → i < 16 → zga zK0 M 100 79 i = some (M 79 i)) ∧
  (∀ (M : zM) (i : Int), 0 ≤ i → i < 16 → zga zK0 M 100 80 i = some (M 80 i)) ∧
  (∀ (M : zM) (i : Int), 0 ≤ i → i < 240 → zga zK0 M 100 81 i = some (M 81 i)) ∧
  (∀ (M : zM) (i : Int), 0 ≤ i → i < 1024 → zga zK0 M 100 82 i = some (M 82 i)) ∧
  (∀ (M : zM) (i : Int), 0 ≤ i → i < 1024 → zga zK0 M 100 83 i = some (M 83 i)) ∧
  (∀ (M : zM) (i : Int), 0 ≤ i → i < 3 → zga zK0 M 100 84 i = some (M 84 i)) ∧
  (∀ (M : zM) (i : Int), 0 ≤ i → i < 4 → zga zK0 M 100 85 i = some (M 85 i)) ∧
  (∀ (M : zM) (i : Int), 0 ≤ i → i < 4 → zga zK0 M 100 86 i = some (M 86 i)) ∧
  (∀ (M : zM) (i : Int), 0 ≤ i → i < 1024 → zga zK0 M 100 87 i = some (M 87 i)) ∧
  (∀ (M : zM) (i v : Int), 0 ≤ i → i < 256 → zpa zK0 M 100 3 i v = some (zu M 3 i v)) ∧
  (∀ (M : zM) (i v : Int), 0 ≤ i → i < 17 → zpa zK0 M 100 6 i v = some (zu M 6 i v)) ∧
  (∀ (M : zM) (i v : Int), 0 ≤ i → i < 6 → zpa zK0 M 103 8 i v = some (zu M 8 i v)) ∧
  (∀ (M : zM) (i v : Int), 0 ≤ i → i < 64 → zpa zK0 M 102 17 i v = some (zu M 17 i v)) ∧
  (∀ (M : zM) (i v : Int), 0 ≤ i → i < 17 → zpa zK0 M 102 18 i v = some (zu M 18 i v)) ∧
  (∀ (M : zM) (i v : Int), 0 ≤ i → i < 64 → zpa zK0 M 100 19 i v = some (zu M 19 i v)) ∧
  (∀ (M : zM) (i v : Int), 0 ≤ i → i < 64 → zpa zK0 M 100 20 i v = some (zu M 20 i v)) ∧
  (∀ (M : zM) (i v : Int), 0 ≤ i → i < 17 → zpa zK0 M 100 22 i v = some (zu M 22 i v)) ∧
  (∀ (M : zM) (i v : Int), 0 ≤ i → i < 17 → zpa zK0 M 100 23 i v = some (zu M 23 i v)) ∧
  (∀ (M : zM) (i v : Int), 0 ≤ i → i < 17 → zpa zK0 M 100 25 i v = some (zu M 25 i v)) ∧
  (∀ (M : zM) (i v : Int), 0 ≤ i → i < 64 → zpa zK0 M 102 26 i v = some (zu M 26 i v)) ∧
  (∀ (M : zM) (i v : Int), 0 ≤ i → i < 64 → zpa zK0 M 100 27 i v = some (zu M 27 i v)) ∧
  (∀ (M : zM) (i v : Int), 0 ≤ i → i < 64 → zpa zK0 M 100 28 i v = some (zu M 28 i v)) ∧
  (∀ (M : zM) (i v : Int), 0 ≤ i → i < 240 → zpa zK0 M 101 30 i v = some (zu M 30 i v)) ∧
  (∀ (M : zM) (i v : Int), 0 ≤ i → i < 8 → zpa zK0 M 100 31 i v = some (zu M 31 i v)) ∧
  (∀ (M : zM) (i v : Int), 0 ≤ i → i < 1024 → zpa zK0 M 100 33 i v = some (zu M 33 i v)) ∧
  (∀ (M : zM) (i v : Int), 0 ≤ i → i < 16 → zpa zK0 M 100 34 i v = some (zu M 34 i v)) ∧
  (∀ (M : zM) (i v : Int), 0 ≤ i → i < 3 → zpa zK0 M 100 35 i v = some (zu M 35 i v)) ∧
  (∀ (M : zM) (i v : Int), 0 ≤ i → i < 17 → zpa zK0 M 100 36 i v = some (zu M 36 i v)) ∧
  (∀ (M : zM) (i v : Int), 0 ≤ i → i < 4 → zpa zK0 M 104 37 i v = some (zu M 37 i v)) ∧
  (∀ (M : zM) (i v : Int), 0 ≤ i → i < 256 → zpa zK0 M 100 39 i v = some (zu M 39 i v)) ∧
  (∀ (M : zM) (i v : Int), 0 ≤ i → i < 256 → zpa zK0 M 100 41 i v = some (zu M 41 i v)) ∧
  (∀ (M : zM) (i v : Int), 0 ≤ i → i < 256 → zpa zK0 M 100 43 i v = some (zu M 43 i v)) ∧
  (∀ (M : zM) (i v : Int), 0 ≤ i → i < 256 → zpa zK0 M 100 45 i v = some (zu M 45 i v)) ∧
  (∀ (M : zM) (i v : Int), 0 ≤ i → i < 16 → zpa zK0 M 100 47 i v = some (zu M 47 i v)) ∧
  (∀ (M : zM) (i v : Int), 0 ≤ i → i < 16 → zpa zK0 M 100 48 i v = some (zu M 48 i v)) ∧
  (∀ (M : zM) (i v : Int), 0 ≤ i → i < 16 → zpa zK0 M 100 49 i v = some (zu M 49 i v)) ∧
  (∀ (M : zM) (i v : Int), 0 ≤ i → i < 16 → zpa zK0 M 100 50 i v = some (zu M 50 i v)) ∧
  (∀ (M : zM) (i v : Int), 0 ≤ i → i < 16 → zpa zK0 M 100 51 i v = some (zu M 51 i v)) ∧
  (∀ (M : zM) (i v : Int), 0 ≤ i → i < 16 → zpa zK0 M 100 52 i v = some (zu M 52 i v)) ∧
  (∀ (M : zM) (i v : Int), 0 ≤ i → i < 16 → zpa zK0 M 100 54 i v = some (zu M 54 i v)) ∧
  (∀ (M : zM) (i v : Int), 0 ≤ i → i < 16 → zpa zK0 M 100 55 i v = some (zu M 55 i v)) ∧
  (∀ (M : zM) (i v : Int), 0 ≤ i → i < 16 → zpa zK0 M 100 56 i v = some (zu M 56 i v)) ∧
  (∀ (M : zM) (i v : Int), 0 ≤ i → i < 16 → zpa zK0 M 100 57 i v = some (zu M 57 i v)) ∧
  (∀ (M : zM) (i v : Int), 0 ≤ i → i < 16 → zpa zK0 M 100 58 i v = some (zu M 58 i v)) ∧
  (∀ (M : zM) (i v : Int), 0 ≤ i → i < 16 → zpa zK0 M 100 59 i v = some (zu M 59 i v)) ∧
  (∀ (M : zM) (i v : Int), 0 ≤ i → i < 256 → zpa zK0 M 100 61 i v = some (zu M 61 i v)) ∧
  (∀ (M : zM) (i v : Int), 0 ≤ i → i < 256 → zpa zK0 M 100 62 i v = some (zu M 62 i v)) ∧
  (∀ (M : zM) (i v : Int), 0 ≤ i → i < 17 → zpa zK0 M 100 63 i v = some (zu M 63 i v)) ∧
  (∀ (M : zM) (i v : Int), 0 ≤ i → i < 6 → zpa zK0 M 100 64 i v = some (zu M 64 i v)) ∧
  (∀ (M : zM) (i v : Int), 0 ≤ i → i < 6 → zpa zK0 M 100 65 i v = some (zu M 65 i v)) ∧
  (∀ (M : zM) (i v : Int), 0 ≤ i → i < 6 → zpa zK0 M 100 66 i v = some (zu M 66 i v)) ∧
  (∀ (M : zM) (i v : Int), 0 ≤ i → i < 64 → zpa zK0 M 102 67 i v = some (zu M 67 i v)) ∧
  (∀ (M : zM) (i v : Int), 0 ≤ i → i < 64 → zpa zK0 M 100 68 i v = some (zu M 68 i v)) ∧
  (∀ (M : zM) (i v : Int), 0 ≤ i → i < 17 → zpa zK0 M 100 69 i v = some (zu M 69 i v)) ∧
  (∀ (M : zM) (i v : Int), 0 ≤ i → i < 17 → zpa zK0 M 100 70 i v = some (zu M 70 i v)) ∧
  (∀ (M : zM) (i v : Int), 0 ≤ i → i < 1105 → zpa zK0 M 100 71 i v = some (zu M 71 i v)) ∧
  (∀ (M : zM) (i v : Int), 0 ≤ i → i < 65 → zpa zK0 M 100 72 i v = some (zu M 72 i v)) ∧
  (∀ (M : zM) (i v : Int), 0 ≤ i → i < 16 → zpa zK0 M 100 73 i v = some (zu M 73 i v)) ∧
  (∀ (M : zM) (i v : Int), 0 ≤ i → i < 16 → zpa zK0 M 100 74 i v = some (zu M 74 i v)) ∧
  (∀ (M : zM) (i v : Int), 0 ≤ i → i < 16 → zpa zK0 M 100 75 i v = some (zu M 75 i v)) ∧
  (∀ (M : zM) (i v : Int), 0 ≤ i → i < 16 → zpa zK0 M 100 76 i v = some (zu M 76 i v)) ∧
  (∀ (M : zM) (i v : Int), 0 ≤ i → i < 16 → zpa zK0 M 100 77 i v = some (zu M 77 i v)) ∧
  (∀ (M : zM) (i v : Int), 0 ≤ i → i < 16 → zpa zK0 M 100 78 i v = some (zu M 78 i v)) ∧
  (∀ (M : zM) (i v : Int), 0 ≤ i → i < 16 → zpa zK0 M 100 79 i v = some (zu M 79 i v)) ∧
  (∀ (M : zM) (i v : Int), 0 ≤ i → i < 16 → zpa zK0 M 100 80 i v = some (zu M 80 i v)) ∧
  (∀ (M : zM) (i v : Int), 0 ≤ i → i < 240 → zpa zK0 M 100 81 i v = some (zu M 81 i v)) ∧
  (∀ (M : zM) (i v : Int), 0 ≤ i → i < 1024 → zpa zK0 M 100 82 i v = some (zu M 82 i v)) ∧
  (∀ (M : zM) (i v : Int), 0 ≤ i → i < 1024 → zpa zK0 M 100 83 i v = some (zu M 83 i v)) ∧
  (∀ (M : zM) (i v : Int), 0 ≤ i → i < 3 → zpa zK0 M 100 84 i v = some (zu M 84 i v)) ∧
  (∀ (M : zM) (i v : Int), 0 ≤ i → i < 4 → zpa zK0 M 100 85 i v = some (zu M 85 i v)) ∧
  (∀ (M : zM) (i v : Int), 0 ≤ i → i < 4 → zpa zK0 M 100 86 i v = some (zu M 86 i v)) ∧
  (∀ (M : zM) (i v : Int), 0 ≤ i → i < 1024 → zpa zK0 M 100 87 i v = some (zu M 87 i v)) := ⟨fun _ _ h0 h1 => zga_ok rfl (by decide) h0 h1, fun _ _ h0 h1 => zga_ok rfl (by decide) h0 h1, fun _ _ h0 h1 => zga_ok rfl (by decide) h0 h1, fun _ _ h0 h1 => zga_ok rfl (by decide) h0 h1, fun _ _ h0 h1 => zga_ok rfl (by decide) h0 h1, fun _ _ h0 h1 => zga_ok rfl (by decide) h0 h1, fun _ _ h0 h1 => zga_ok rfl (by decide) h0 h1, fun _ _ h0 h1 => zga_ok rfl (by decide) h0 h1, fun _ _ h0 h1 => zga_ok rfl (by decide) h0 h1, fun _ _ h0 h1 => zga_ok rfl (by decide) h0 h1, fun _ _ h0 h1 => zga_ok rfl (by decide) h0 h1, fun _ _ h0 h1 => zga_ok rfl (by decide) h0 h1, fun _ _ h0 h1 => zga_ok rfl (by decide) h0 h1, fun _ _ h0 h1 => zga_ok rfl (by decide) h0 h1, fun _ _ h0 h1 => zga_ok rfl (by decide) h0 h1, fun _ _ h0 h1 => zga_ok rfl (by decide) h0 h1, fun _ _ h0 h1 => zga_ok rfl (by decide) h0 h1, fun _ _ h0 h1 => zga_ok rfl (by decide) h0 h1, fun _ _ h0 h1 => zga_ok rfl (by decide) h0 h1, fun _ _ h0 h1 => zga_ok rfl (by decide) h0 h1, fun _ _ h0 h1 => zga_ok rfl (by decide) h0 h1, fun _ _ h0 h1 => zga_ok rfl (by decide) h0 h1, fun _ _ h0 h1 => zga_ok rfl (by decide) h0 h1, fun _ _ h0 h1 => zga_ok rfl (by decide) h0 h1, fun _ _ h0 h1 => zga_ok rfl (by decide) h0 h1, fun _ _ h0 h1 => zga_ok rfl (by decide) h0 h1, fun _ _ h0 h1 => zga_ok rfl (by decide) h0 h1, fun _ _ h0 h1 => zga_ok rfl (by decide) h0 h1, fun _ _ h0 h1 => zga_ok rfl (by decide) h0 h1, fun _ _ h0 h1 => zga_ok rfl (by decide) h0 h1, fun _ _ h0 h1 => zga_ok rfl (by decide) h0 h1, fun _ _ h0 h1 => zga_ok rfl (by decide) h0 h1, fun _ _ h0 h1 => zga_ok rfl (by decide) h0 h1, fun _ _ h0 h1 => zga_ok rfl (by decide) h0 h1, fun _ _ h0 h1 => zga_ok rfl (by decide) h0 h1, fun _ _ h0 h1 => zga_ok rfl (by decide) h0 h1, fun _ _ h0 h1 => zga_ok rfl (by decide) h0 h1, fun _ _ h0 h1 => zga_ok rfl (by decide) h0 h1, fun _ _ h0 h1 => zga_ok rfl (by decide) h0 h1, fun _ _ h0 h1 => zga_ok rfl (by decide) h0 h1, fun _ _ h0 h1 => zga_ok rfl (by decide) h0 h1, fun _ _ h0 h1 => zga_ok rfl (by decide) h0 h1, fun _ _ h0 h1 => zga_ok rfl (by decide) h0 h1, fun _ _ h0 h1 => zga_ok rfl (by decide) h0 h1, fun _ _ h0 h1 => zga_ok rfl (by decide) h0 h1, fun _ _ h0 h1 => zga_ok rfl (by decide) h0 h1, fun _ _ h0 h1 => zga_ok rfl (by decide) h0 h1, fun _ _ h0 h1 => zga_ok rfl (by decide) h0 h1, fun _ _ h0 h1 => zga_ok rfl (by decide) h0 h1, fun _ _ h0 h1 => zga_ok rfl (by decide) h0 h1, fun _ _ h0 h1 => zga_ok rfl (by decide) h0 h1, fun _ _ h0 h1 => zga_ok rfl (by decide) h0 h1, fun _ _ h0 h1 => zga_ok rfl (by decide) h0 h1, fun _ _ h0 h1 => zga_ok rfl (by decide) h0 h1, fun _ _ h0 h1 => zga_ok rfl (by decide) h0 h1, fun _ _ h0 h1 => zga_ok rfl (by decide) h0 h1, fun _ _ h0 h1 => zga_ok rfl (by decide) h0 h1, fun _ _ h0 h1 => zga_ok rfl (by decide) h0 h1, fun _ _ h0 h1 => zga_ok rfl (by decide) h0 h1, fun _ _ h0 h1 => zga_ok rfl (by decide) h0 h1, fun _ _ h0 h1 => zga_ok rfl (by decide) h0 h1, fun _ _ h0 h1 => zga_ok rfl (by decide) h0 h1, fun _ _ h0 h1 => zga_ok rfl (by decide) h0 h1, fun _ _ _ h0 h1 => zpa_ok rfl (by decide) h0 h1, fun _ _ _ h0 h1 => zpa_ok rfl (by decide) h0 h1, fun _ _ _ h0 h1 => zpa_ok rfl (by decide) h0 h1, fun _ _ _ h0 h1 => zpa_ok rfl (by decide) h0 h1, fun _ _ _ h0 h1 => zpa_ok rfl (by decide) h0 h1, fun _ _ _ h0 h1 => zpa_ok rfl (by decide) h0 h1, fun _ _ _ h0 h1 => zpa_ok rfl (by decide) h0 h1, fun _ _ _ h0 h1 => zpa_ok rfl (by decide) h0 h1, fun _ _ _ h0 h1 => zpa_ok rfl (by decide) h0 h1, fun _ _ _ h0 h1 => zpa_ok rfl (by decide) h0 h1, fun _ _ _ h0 h1 => zpa_ok rfl (by decide) h0 h1, fun _ _ _ h0 h1 => zpa_ok rfl (by decide) h0 h1, fun _ _ _ h0 h1 => zpa_ok rfl (by decide) h0 h1, fun _ _ _ h0 h1 => zpa_ok rfl (by decide) h0 h1, fun _ _ _ h0 h1 => zpa_ok rfl (by decide) h0 h1, fun _ _ _ h0 h1 => zpa_ok rfl (by decide) h0 h1, fun _ _ _ h0 h1 => zpa_ok rfl (by decide) h0 h1, fun _ _ _ h0 h1 => zpa_ok rfl (by decide) h0 h1, fun _ _ _ h0 h1 => zpa_ok rfl (by decide) h0 h1, fun _ _ _ h0 h1 => zpa_ok rfl (by decide) h0 h1, fun _ _ _ h0 h1 => zpa_ok rfl (by decide) h0 h1, fun _ _ _ h0 h1 => zpa_ok rfl (by decide) h0 h1, fun _ _ _ h0 h1 => zpa_ok rfl (by decide) h0 h1, fun _ _ _ h0 h1 => zpa_ok rfl (by decide) h0 h1, fun _ _ _ h0 h1 => zpa_ok rfl (by decide) h0 h1, fun _ _ _ h0 h1 => zpa_ok rfl (by decide) h0 h1, fun _ _ _ h0 h1 => zpa_ok rfl (by decide) h0 h1, fun _ _ _ h0 h1 => zpa_ok rfl (by decide) h0 h1, fun _ _ _ h0 h1 => zpa_ok rfl (by decide) h0 h1, fun _ _ _ h0 h1 => zpa_ok rfl (by decide) h0 h1, fun _ _ _ h0 h1 => zpa_ok rfl (by decide) h0 h1, fun _ _ _ h0 h1 => zpa_ok rfl (by decide) h0 h1, fun _ _ _ h0 h1 => zpa_ok rfl (by decide) h0 h1, fun _ _ _ h0 h1 => zpa_ok rfl (by decide) h0 h1, fun _ _ _ h0 h1 => zpa_ok rfl (by decide) h0 h1, fun _ _ _ h0 h1 => zpa_ok rfl (by decide) h0 h1, fun _ _ _ h0 h1 => zpa_ok rfl (by decide) h0 h1, fun _ _ _ h0 h1 => zpa_ok rfl (by decide) h0 h1, fun _ _ _ h0 h1 => zpa_ok rfl (by decide) h0 h1, fun _ _ _ h0 h1 => zpa_ok rfl (by decide) h0 h1, fun _ _ _ h0 h1 => zpa_ok rfl (by decide) h0 h1, fun _ _ _ h0 h1 => zpa_ok rfl (by decide) h0 h1, fun _ _ _ h0 h1 => zpa_ok rfl (by decide) h0 h1, fun _ _ _ h0 h1 => zpa_ok rfl (by decide) h0 h1, fun _ _ _ h0 h1 => zpa_ok rfl (by decide) h0 h1, fun _ _ _ h0 h1 => zpa_ok rfl (by decide) h0 h1, fun _ _ _ h0 h1 => zpa_ok rfl (by decide) h0 h1, fun _ _ _ h0 h1 => zpa_ok rfl (by decide) h0 h1, fun _ _ _ h0 h1 => zpa_ok rfl (by decide) h0 h1, fun _ _ _ h0 h1 => zpa_ok rfl (by decide) h0 h1, fun _ _ _ h0 h1 => zpa_ok rfl (by decide) h0 h1, fun _ _ _ h0 h1 => zpa_ok rfl (by decide) h0 h1, fun _ _ _ h0 h1 => zpa_ok rfl (by decide) h0 h1, fun _ _ _ h0 h1 => zpa_ok rfl (by decide) h0 h1, fun _ _ _ h0 h1 => zpa_ok rfl (by decide) h0 h1, fun _ _ _ h0 h1 => zpa_ok rfl (by decide) h0 h1, fun _ _ _ h0 h1 => zpa_ok rfl (by decide) h0 h1, fun _ _ _ h0 h1 => zpa_ok rfl (by decide) h0 h1, fun _ _ _ h0 h1 => zpa_ok rfl (by decide) h0 h1, fun _ _ _ h0 h1 => zpa_ok rfl (by decide) h0 h1, fun _ _ _ h0 h1 => zpa_ok rfl (by decide) h0 h1, fun _ _ _ h0 h1 => zpa_ok rfl (by decide) h0 h1, fun _ _ _ h0 h1 => zpa_ok rfl (by decide) h0 h1⟩
/-- the references that no call changes -/
def zSR (M : zM) : Prop := M 1 0 = 2 ∧ M 1 1 = 4 ∧ M 1 2 = 5 ∧ M 1 3 = 6 ∧ M 1 4 = 7 ∧ M 1 5 = 15 ∧ M 1 6 = 16 ∧ M 1 7 = 21 ∧ M 1 8 = 24 ∧ M 1 9 = 29 ∧ M 1 10 = 32 ∧ M 1 11 = 37 ∧ M 2 6 = 3 ∧ M 4 6 = 3 ∧ M 7 0 = 8 ∧ M 8 0 = 9 ∧ M 8 1 = 10 ∧ M 8 2 = 11 ∧ M 8 3 = 12 ∧ M 8 4 = 13 ∧ M 8 5 = 14 ∧ M 16 0 = 17 ∧ M 16 1 = 18 ∧ M 16 2 = 19 ∧ M 16 3 = 20 ∧ M 21 0 = 22 ∧ M 21 1 = 23 ∧ M 24 0 = 25 ∧ M 24 1 = 26 ∧ M 24 2 = 27 ∧ M 24 3 = 28 ∧ M 29 0 = 30 ∧ M 29 1 = 31 ∧ M 32 0 = 33 ∧ M 32 1 = 34 ∧ M 32 2 = 35 ∧ M 32 3 = 36 ∧ M 37 0 = 38 ∧ M 37 1 = 40 ∧ M 37 2 = 42 ∧ M 37 3 = 44 ∧ M 38 0 = 39 ∧ M 40 0 = 41 ∧ M 42 0 = 43 ∧ M 44 0 = 45 ∧ M 46 0 = 47 ∧ M 46 1 = 48 ∧ M 46 2 = 49 ∧ M 46 3 = 50 ∧ M 46 4 = 51 ∧ M 46 5 = 52 ∧ M 53 0 = 54 ∧ M 53 1 = 55 ∧ M 53 2 = 56 ∧ M 53 3 = 57 ∧ M 53 4 = 58 ∧ M 53 5 = 59 ∧ M 60 6 = 61 ∧ M 60 7 = 62 ∧ M 60 8 = 63 ∧ M 60 10 = 64 ∧ M 60 11 = 65 ∧ M 60 12 = 66 ∧ M 60 13 = 67 ∧ M 60 14 = 68 ∧ M 60 17 = 69 ∧ M 60 18 = 70 ∧ M 60 19 = 71 ∧ M 60 20 = 72 ∧ M 60 25 = 73 ∧ M 60 26 = 74 ∧ M 60 27 = 75 ∧ M 60 28 = 76 ∧ M 60 30 = 77 ∧ M 60 31 = 78 ∧ M 60 32 = 79 ∧ M 60 33 = 80 ∧ M 60 35 = 81 ∧ M 60 43 = 82 ∧ M 60 44 = 83 ∧ M 60 45 = 84 ∧ M 60 46 = 85 ∧ M 60 47 = 86 ∧ M 60 48 = 87
