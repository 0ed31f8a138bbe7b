/-- the references of a heap, taken -/
def zPt (M : zM) : Prop := zgr zK0 M 11 15 1 0 = some 2 ∧
  zgr zK0 M 11 15 1 1 = some 4 ∧
  zgr zK0 M 11 15 1 2 = some 5 ∧
  zgr zK0 M 11 15 1 3 = some 6 ∧
  zgr zK0 M 11 15 1 4 = some 7 ∧
  zgr zK0 M 11 15 1 5 = some 15 ∧
  zgr zK0 M 11 15 1 6 = some 16 ∧
  zgr zK0 M 11 15 1 7 = some 21 ∧
  zgr zK0 M 11 15 1 8 = some 24 ∧
  zgr zK0 M 11 15 1 9 = some 29 ∧
  zgr zK0 M 11 15 1 10 = some 32 ∧
  zgr zK0 M 11 15 1 11 = some 37 ∧
  zgr zK0 M 2 7 2 6 = some 3 ∧
  zgr zK0 M 2 7 4 6 = some 3 ∧
  zgr zK0 M 10 2 7 0 = some 8 ∧
  zgr zK0 M 0 5 16 0 = some 17 ∧
  zgr zK0 M 0 5 16 1 = some 18 ∧
  zgr zK0 M 0 5 16 2 = some 19 ∧
  zgr zK0 M 0 5 16 3 = some 20 ∧
  zgr zK0 M 8 5 21 0 = some 22 ∧
  zgr zK0 M 8 5 21 1 = some 23 ∧
  zgr zK0 M 4 7 24 0 = some 25 ∧
  zgr zK0 M 4 7 24 1 = some 26 ∧
  zgr zK0 M 4 7 24 2 = some 27 ∧
  zgr zK0 M 4 7 24 3 = some 28 ∧
  zgr zK0 M 5 9 29 0 = some 30 ∧
  zgr zK0 M 5 9 29 1 = some 31 ∧
  zgr zK0 M 9 5 32 0 = some 33 ∧
  zgr zK0 M 9 5 32 1 = some 34 ∧
  zgr zK0 M 9 5 32 2 = some 35 ∧
  zgr zK0 M 9 5 32 3 = some 36 ∧
  zgr zK0 M 7 3 38 0 = some 39 ∧
  zgr zK0 M 7 3 40 0 = some 41 ∧
  zgr zK0 M 7 3 42 0 = some 43 ∧
  zgr zK0 M 7 3 44 0 = some 45 ∧
  zgr zK0 M 3 7 46 0 = some 47 ∧
  zgr zK0 M 3 7 46 1 = some 48 ∧
  zgr zK0 M 3 7 46 2 = some 49 ∧
  zgr zK0 M 3 7 46 3 = some 50 ∧
  zgr zK0 M 3 7 46 4 = some 51 ∧
  zgr zK0 M 3 7 46 5 = some 52 ∧
  zgr zK0 M 3 7 53 0 = some 54 ∧
  zgr zK0 M 3 7 53 1 = some 55 ∧
  zgr zK0 M 3 7 53 2 = some 56 ∧
  zgr zK0 M 3 7 53 3 = some 57 ∧
  zgr zK0 M 3 7 53 4 = some 58 ∧
  zgr zK0 M 3 7 53 5 = some 59 ∧
  zgr zK0 M 12 49 60 6 = some 61 ∧
  zgr zK0 M 12 49 60 7 = some 62 ∧
  zgr zK0 M 12 49 60 8 = some 63 ∧
  zgr zK0 M 12 49 60 10 = some 64 ∧
  zgr zK0 M 12 49 60 11 = some 65 ∧
  zgr zK0 M 12 49 60 12 = some 66 ∧
  zgr zK0 M 12 49 60 13 = some 67 ∧
  zgr zK0 M 12 49 60 14 = some 68 ∧
  zgr zK0 M 12 49 60 17 = some 69 ∧
  zgr zK0 M 12 49 60 18 = some 70 ∧
  zgr zK0 M 12 49 60 19 = some 71 ∧
  zgr zK0 M 12 49 60 20 = some 72 ∧
  zgr zK0 M 12 49 60 25 = some 73 ∧
  zgr zK0 M 12 49 60 26 = some 74 ∧
  zgr zK0 M 12 49 60 27 = some 75 ∧
  zgr zK0 M 12 49 60 28 = some 76 ∧
  zgr zK0 M 12 49 60 30 = some 77 ∧
  zgr zK0 M 12 49 60 31 = some 78 ∧
  zgr zK0 M 12 49 60 32 = some 79 ∧
  zgr zK0 M 12 49 60 33 = some 80 ∧
  zgr zK0 M 12 49 60 35 = some 81 ∧
  zgr zK0 M 12 49 60 43 = some 82 ∧
  zgr zK0 M 12 49 60 44 = some 83 ∧
  zgr zK0 M 12 49 60 45 = some 84 ∧
  zgr zK0 M 12 49 60 46 = some 85 ∧
  zgr zK0 M 12 49 60 47 = some 86 ∧
  zgr zK0 M 12 49 60 48 = some 87
theorem Iv.g {M : zM} (I : Iv M) : zPt M := by
  obtain ⟨hS, -⟩ := I
  unfold zSR at hS
  obtain ⟨e0, e1, e2, e3, e4, e5, e6, e7, e8, e9, e10, e11, e12, e13, e14, e15, e16, e17, e18, e19, e20, e21, e22, e23, e24, e25, e26, e27, e28, e29, e30, e31, e32, e33, e34, e35, e36, e37, e38, e39, e40, e41, e42, e43, e44, e45, e46, e47, e48, e49, e50, e51, e52, e53, e54, e55, e56, e57, e58, e59, e60, e61, e62, e63, e64, e65, e66, e67, e68, e69, e70, e71, e72, e73, e74, e75, e76, e77, e78, e79, e80, e81, e82, e83⟩ := hS
  exact ⟨zgr_ok (v := 2) rfl e0 (by decide), zgr_ok (v := 4) rfl e1 (by decide), zgr_ok (v := 5) rfl e2 (by decide), zgr_ok (v := 6) rfl e3 (by decide), zgr_ok (v := 7) rfl e4 (by decide), zgr_ok (v := 15) rfl e5 (by decide), zgr_ok (v := 16) rfl e6 (by decide), zgr_ok (v := 21) rfl e7 (by decide), zgr_ok (v := 24) rfl e8 (by decide), zgr_ok (v := 29) rfl e9 (by decide), zgr_ok (v := 32) rfl e10 (by decide), zgr_ok (v := 37) rfl e11 (by decide), zgr_ok (v := 3) rfl e12 (by decide), zgr_ok (v := 3) rfl e13 (by decide), zgr_ok (v := 8) rfl e14 (by decide), zgr_ok (v := 17) rfl e21 (by decide), zgr_ok (v := 18) rfl e22 (by decide), zgr_ok (v := 19) rfl e23 (by decide), zgr_ok (v := 20) rfl e24 (by decide), zgr_ok (v := 22) rfl e25 (by decide), zgr_ok (v := 23) rfl e26 (by decide), zgr_ok (v := 25) rfl e27 (by decide), zgr_ok (v := 26) rfl e28 (by decide), zgr_ok (v := 27) rfl e29 (by decide), zgr_ok (v := 28) rfl e30 (by decide), zgr_ok (v := 30) rfl e31 (by decide), zgr_ok (v := 31) rfl e32 (by decide), zgr_ok (v := 33) rfl e33 (by decide), zgr_ok (v := 34) rfl e34 (by decide), zgr_ok (v := 35) rfl e35 (by decide), zgr_ok (v := 36) rfl e36 (by decide), zgr_ok (v := 39) rfl e41 (by decide), zgr_ok (v := 41) rfl e42 (by decide), zgr_ok (v := 43) rfl e43 (by decide), zgr_ok (v := 45) rfl e44 (by decide), zgr_ok (v := 47) rfl e45 (by decide), zgr_ok (v := 48) rfl e46 (by decide), zgr_ok (v := 49) rfl e47 (by decide), zgr_ok (v := 50) rfl e48 (by decide), zgr_ok (v := 51) rfl e49 (by decide), zgr_ok (v := 52) rfl e50 (by decide), zgr_ok (v := 54) rfl e51 (by decide), zgr_ok (v := 55) rfl e52 (by decide), zgr_ok (v := 56) rfl e53 (by decide), zgr_ok (v := 57) rfl e54 (by decide), zgr_ok (v := 58) rfl e55 (by decide), zgr_ok (v := 59) rfl e56 (by decide), zgr_ok (v := 61) rfl e57 (by decide), zgr_ok (v := 62) rfl e58 (by decide), zgr_ok (v := 63) rfl e59 (by decide), zgr_ok (v := 64) rfl e60 (by decide), zgr_ok (v := 65) rfl e61 (by decide), zgr_ok (v := 66) rfl e62 (by decide), zgr_ok (v := 67) rfl e63 (by decide), zgr_ok (v := 68) rfl e64 (by decide), zgr_ok (v := 69) rfl e65 (by decide), zgr_ok (v := 70) rfl e66 (by decide), zgr_ok (v := 71) rfl e67 (by decide), zgr_ok (v := 72) rfl e68 (by decide), zgr_ok (v := 73) rfl e69 (by decide), zgr_ok (v := 74) rfl e70 (by decide), zgr_ok (v := 75) rfl e71 (by decide), zgr_ok (v := 76) rfl e72 (by decide), zgr_ok (v := 77) rfl e73 (by decide), zgr_ok (v := 78) rfl e74 (by decide), zgr_ok (v := 79) rfl e75 (by decide), zgr_ok (v := 80) rfl e76 (by decide), zgr_ok (v := 81) rfl e77 (by decide), zgr_ok (v := 82) rfl e78 (by decide), zgr_ok (v := 83) rfl e79 (by decide), zgr_ok (v := 84) rfl e80 (by decide), zgr_ok (v := 85) rfl e81 (by decide), zgr_ok (v := 86) rfl e82 (by decide), zgr_ok (v := 87) rfl e83 (by decide)⟩

theorem zPf : (∀ (M : zM) (k : Int), zgf zK0 M 11 15 1 k = some (M 1 k)) ∧
  zgk zK0 1 11 15 = some () ∧
  (∀ (M : zM) (k v : Int), zpf zK0 M 11 15 1 k v = some (zu M 1 k v)) ∧
  (∀ (M : zM) (k : Int), zgf zK0 M 2 7 2 k = some (M 2 k)) ∧
  zgk zK0 2 2 7 = some () ∧
  (∀ (M : zM) (k v : Int), zpf zK0 M 2 7 2 k v = some (zu M 2 k v)) ∧
  (∀ (M : zM) (k : Int), zgf zK0 M 2 7 4 k = some (M 4 k)) ∧
  zgk zK0 4 2 7 = some () ∧
  (∀ (M : zM) (k v : Int), zpf zK0 M 2 7 4 k v = some (zu M 4 k v)) ∧
  (∀ (M : zM) (k : Int), zgf zK0 M 6 3 5 k = some (M 5 k)) ∧
  zgk zK0 5 6 3 = some () ∧
  (∀ (M : zM) (k v : Int), zpf zK0 M 6 3 5 k v = some (zu M 5 k v)) ∧
  (∀ (M : zM) (k : Int), zgf zK0 M 10 2 7 k = some (M 7 k)) ∧
  zgk zK0 7 10 2 = some () ∧
  (∀ (M : zM) (k v : Int), zpf zK0 M 10 2 7 k v = some (zu M 7 k v)) ∧
  (∀ (M : zM) (k : Int), zgf zK0 M 6 3 9 k = some (M 9 k)) ∧
  zgk zK0 9 6 3 = some () ∧
  (∀ (M : zM) (k v : Int), zpf zK0 M 6 3 9 k v = some (zu M 9 k v)) ∧
  (∀ (M : zM) (k : Int), zgf zK0 M 6 3 10 k = some (M 10 k)) ∧
  zgk zK0 10 6 3 = some () ∧
  (∀ (M : zM) (k v : Int), zpf zK0 M 6 3 10 k v = some (zu M 10 k v)) ∧
  (∀ (M : zM) (k : Int), zgf zK0 M 6 3 11 k = some (M 11 k)) ∧
  zgk zK0 11 6 3 = some () ∧
  (∀ (M : zM) (k v : Int), zpf zK0 M 6 3 11 k v = some (zu M 11 k v)) ∧
  (∀ (M : zM) (k : Int), zgf zK0 M 6 3 12 k = some (M 12 k)) ∧
  zgk zK0 12 6 3 = some () ∧
  (∀ (M : zM) (k v : Int), zpf zK0 M 6 3 12 k v = some (zu M 12 k v)) ∧
  (∀ (M : zM) (k : Int), zgf zK0 M 6 3 13 k = some (M 13 k)) ∧
  zgk zK0 13 6 3 = some () ∧
  (∀ (M : zM) (k v : Int), zpf zK0 M 6 3 13 k v = some (zu M 13 k v)) ∧
  (∀ (M : zM) (k : Int), zgf zK0 M 6 3 14 k = some (M 14 k)) ∧
  zgk zK0 14 6 3 = some () ∧
  (∀ (M : zM) (k v : Int), zpf zK0 M 6 3 14 k v = some (zu M 14 k v)) ∧
  (∀ (M : zM) (k : Int), zgf zK0 M 1 3 15 k = some (M 15 k)) ∧
  zgk zK0 15 1 3 = some () ∧
  (∀ (M : zM) (k v : Int), zpf zK0 M 1 3 15 k v = some (zu M 15 k v)) ∧
  (∀ (M : zM) (k : Int), zgf zK0 M 0 5 16 k = some (M 16 k)) ∧
  zgk zK0 16 0 5 = some () ∧
  (∀ (M : zM) (k v : Int), zpf zK0 M 0 5 16 k v = some (zu M 16 k v)) ∧
  (∀ (M : zM) (k : Int), zgf zK0 M 8 5 21 k = some (M 21 k)) ∧
  zgk zK0 21 8 5 = some () ∧
  (∀ (M : zM) (k v : Int), zpf zK0 M 8 5 21 k v = some (zu M 21 k v)) ∧
  (∀ (M : zM) (k : Int), zgf zK0 M 4 7 24 k = some (M 24 k)) ∧
  zgk zK0 24 4 7 = some () ∧
  (∀ (M : zM) (k v : Int), zpf zK0 M 4 7 24 k v = some (zu M 24 k v)) ∧
  (∀ (M : zM) (k : Int), zgf zK0 M 5 9 29 k = some (M 29 k)) ∧
  zgk zK0 29 5 9 = some () ∧
  (∀ (M : zM) (k v : Int), zpf zK0 M 5 9 29 k v = some (zu M 29 k v)) ∧
  (∀ (M : zM) (k : Int), zgf zK0 M 9 5 32 k = some (M 32 k)) ∧
  zgk zK0 32 9 5 = some () ∧
  (∀ (M : zM) (k v : Int), zpf zK0 M 9 5 32 k v = some (zu M 32 k v)) ∧
  (∀ (M : zM) (k : Int), zgf zK0 M 7 3 38 k = some (M 38 k)) ∧
  zgk zK0 38 7 3 = some () ∧
  (∀ (M : zM) (k v : Int), zpf zK0 M 7 3 38 k v = some (zu M 38 k v)) ∧
  (∀ (M : zM) (k : Int), zgf zK0 M 7 3 40 k = some (M 40 k)) ∧
  zgk zK0 40 7 3 = some () ∧
  (∀ (M : zM) (k v : Int), zpf zK0 M 7 3 40 k v = some (zu M 40 k v)) ∧
  (∀ (M : zM) (k : Int), zgf zK0 M 7 3 42 k = some (M 42 k)) ∧
  zgk zK0 42 7 3 = some () ∧
  (∀ (M : zM) (k v : Int), zpf zK0 M 7 3 42 k v = some (zu M 42 k v)) ∧
  (∀ (M : zM) (k : Int), zgf zK0 M 7 3 44 k = some (M 44 k)) ∧
  zgk zK0 44 7 3 = some () ∧
  (∀ (M : zM) (k v : Int), zpf zK0 M 7 3 44 k v = some (zu M 44 k v)) ∧
  (∀ (M : zM) (k : Int), zgf zK0 M 3 7 46 k = some (M 46 k)) ∧
  zgk zK0 46 3 7 = some () ∧
  (∀ (M : zM) (k v : Int), zpf zK0 M 3 7 46 k v = some (zu M 46 k v)) ∧
  (∀ (M : zM) (k : Int), zgf zK0 M 3 7 53 k = some (M 53 k)) ∧
  zgk zK0 53 3 7 = some () ∧
  (∀ (M : zM) (k v : Int), zpf zK0 M 3 7 53 k v = some (zu M 53 k v)) ∧
  (∀ (M : zM) (k : Int), zgf zK0 M 12 49 60 k = some (M 60 k)) ∧
  zgk zK0 60 12 49 = some () ∧
  (∀ (M : zM) (k v : Int), zpf zK0 M 12 49 60 k v = some (zu M 60 k v)) := ⟨fun _ _ => zgf_ok rfl, zgk_ok rfl, fun _ _ _ => zpf_ok rfl, fun _ _ => zgf_ok rfl, zgk_ok rfl, fun _ _ _ => zpf_ok rfl, fun _ _ => zgf_ok rfl, zgk_ok rfl, fun _ _ _ => zpf_ok rfl, fun _ _ => zgf_ok rfl, zgk_ok rfl, fun _ _ _ => zpf_ok rfl, fun _ _ => zgf_ok rfl, zgk_ok rfl, fun _ _ _ => zpf_ok rfl, fun _ _ => zgf_ok rfl, zgk_ok rfl, fun _ _ _ => zpf_ok rfl, fun _ _ => zgf_ok rfl, zgk_ok rfl, fun _ _ _ => zpf_ok rfl, fun _ _ => zgf_ok rfl, zgk_ok rfl, fun _ _ _ => zpf_ok rfl, fun _ _ => zgf_ok rfl, zgk_ok rfl, fun _ _ _ => zpf_ok rfl, fun _ _ => zgf_ok rfl, zgk_ok rfl, fun _ _ _ => zpf_ok rfl, fun _ _ => zgf_ok rfl, zgk_ok rfl, fun _ _ _ => zpf_ok rfl, fun _ _ => zgf_ok rfl, zgk_ok rfl, fun _ _ _ => zpf_ok rfl, fun _ _ => zgf_ok rfl, zgk_ok rfl, fun _ _ _ => zpf_ok rfl, fun _ _ => zgf_ok rfl, zgk_ok rfl, fun _ _ _ => zpf_ok rfl, fun _ _ => zgf_ok rfl, zgk_ok rfl, fun _ _ _ => zpf_ok rfl, fun _ _ => zgf_ok rfl, zgk_ok rfl, fun _ _ _ => zpf_ok rfl, fun _ _ => zgf_ok rfl, zgk_ok rfl, fun _ _ _ => zpf_ok rfl, fun _ _ => zgf_ok rfl, zgk_ok rfl, fun _ _ _ => zpf_ok rfl, fun _ _ => zgf_ok rfl, zgk_ok rfl, fun _ _ _ => zpf_ok rfl, fun _ _ => zgf_ok rfl, zgk_ok rfl, fun _ _ _ => zpf_ok rfl, fun _ _ => zgf_ok rfl, zgk_ok rfl, fun _ _ _ => zpf_ok rfl, fun _ _ => zgf_ok rfl, zgk_ok rfl, fun _ _ _ => zpf_ok rfl, fun _ _ => zgf_ok rfl, zgk_ok rfl, fun _ _ _ => zpf_ok rfl, fun _ _ => zgf_ok rfl, zgk_ok rfl, fun _ _ _ => zpf_ok rfl⟩

/-- two loops side by side -/
theorem zwh2 {σ τ ρ θ : Type} {f : σ → Option (σ ⊕ ρ)} {g : τ → Option (τ ⊕ θ)} (R : σ → τ → Prop) (μ : σ → Nat) (Q : ρ → θ → Prop) (h : ∀ s t, R s t → (∃ s' t', f s = some (.inl s') ∧ g t = some (.inl t') ∧ R s' t' ∧ μ s' < μ s) ∨ (∃ x y, f s = some (.inr x) ∧ g t = some (.inr y) ∧ Q x y)) : ∀ n s t, R s t → μ s < n → ∃ x y, zwh f n s = some x ∧ zwh g n t = some y ∧ Q x y := by
  intro n
  induction n with
  | zero => intro s t _ hm; omega
  | succ n ih =>
    intro s t hR hm
    rcases h s t hR with ⟨s', t', e1, e2, hR', hl⟩ | ⟨x, y, e1, e2, hq⟩
    · obtain ⟨x, y, x1, x2, x3⟩ := ih s' t' hR' (by omega)
      refine ⟨x, y, ?_, ?_, x3⟩
      · rw [zwh, e1]; exact x1
      · rw [zwh, e2]; exact x2
    · refine ⟨x, y, ?_, ?_, hq⟩
      · rw [zwh, e1]
      · rw [zwh, e2]
/-- a call whose cells are left to the next one -/
theorem zjn {M : zM} {c : Option (Int × zM)} {d : zM → Option (Int × zM)} (I : Iv M) (h : ∀ T, zsa M T → ∃ r P r' Q, c = some (r, P) ∧ d T = some (r', Q) ∧ zw r = zw r' ∧ zsa M P ∧ zsa M Q) : ∃ r M1 r' M2, c = some (r, M1) ∧ d M1 = some (r', M2) ∧ zw r = zw r' ∧ Iv M2 := by
  obtain ⟨r, P, r', Q, e1, e2, e3, e4, e5⟩ := h M (zsa.rf M)
  obtain ⟨s, P', s', Q', f1, f2, f3, f4, f5⟩ := h P e4
  rw [e1] at f1
  injection f1 with f1
  injection f1 with f1 f6
  subst f1 f6
  exact ⟨r, P, s', Q', e1, f2, f3, I.keep f5⟩
theorem zu_e (M : zM) (r k v : Int) : zu M r k v r k = v := by rw [zu_at, if_pos ⟨rfl, rfl⟩]
theorem zu_n {M : zM} {r k v r' k' : Int} (h : r' ≠ r) : zu M r k v r' k' = M r' k' := by rw [zu_at, if_neg (fun q => h q.1)]
theorem zu_m {M : zM} {r k v r' k' : Int} (h : k' ≠ k) : zu M r k v r' k' = M r' k' := by rw [zu_at, if_neg (fun q => h q.2)]
theorem zfl_n {M : zM} {r N v r' k' : Int} (h : r' ≠ r) : zfl M r N v r' k' = M r' k' := by unfold zfl; rw [if_neg (fun q => h q.1)]
theorem zfl_e {M : zM} {r N v k' : Int} (h0 : 0 ≤ k') (h1 : k' < N) : zfl M r N v r k' = v := by unfold zfl; rw [if_pos ⟨rfl, h0, h1⟩]
theorem zgr_u {K : zK} {M : zM} {ci N : Nat} {r k r' k' v : Int} (h : r ≠ r' ∨ k ≠ k') : zgr K (zu M r' k' v) ci N r k = zgr K M ci N r k := by
  have e : zu M r' k' v r k = M r k := by rw [zu_at, if_neg (fun q => by omega)]
  unfold zgr
  rw [e]
theorem zgr_fl {K : zK} {M : zM} {ci N : Nat} {r k r' v m : Int} (h : r ≠ r') : zgr K (zfl M r' m v) ci N r k = zgr K M ci N r k := by
  unfold zgr
  rw [zfl_n h]
theorem zadr.cg {M P : zM} (h : zsa M P) (x : Int) : zadr P x = zadr M x := by
  have e2 : ∀ i, P 2 i = M 2 i := fun i => h 2 i rfl
  have e3 : P 3 = M 3 := funext fun i => h 3 i rfl
  unfold zadr zBs
  rw [e2, e2, e2, e2, e2, e2, e3]
theorem mbegins {M : zM} {n : Nat} (hn : 1000000 ≤ n) (I : Iv M) : qmd_begins n zK0 M 60 = some (zfl (zlN M) 69 17 0) := by
  have h17 : M 60 17 = 69 := by
    have := I.1
    unfold zSR at this
    simp [this]
  unfold qmd_begins
  rw [zgk_ok rfl, Option.bind_some, mlaysNow hn I, Option.bind_some]
  refine zwh_eq (fun s => 0 ≤ s.1 ∧ s.1 ≤ 17 ∧ s.2 = zfl (zlN M) 69 s.1 0) (fun s => (17 - s.1).toNat) ?_ n _ ⟨by simp, by simp, by simp [zfl_0]⟩ (by simp; omega)
  intro ⟨j, Q⟩ ⟨h1, h2, h3⟩
  dsimp only at h1 h2 h3 ⊢
  subst h3
  rw [zw_id (x := 17) (by decide) (by decide), zw_id (x := j) (by omega) (by omega)]
  by_cases c : 17 ≤ j
  · right
    rw [if_pos c, show j = 17 by omega]
  · left
    rw [if_neg c, zgr_ok (v := 69) rfl (by rw [zfl_n (by decide), zlN_ne (by decide), h17]) (by decide), Option.bind_some, zpa_ok (N := 17) rfl (by decide) h1 (by omega), Option.bind_some]
    exact ⟨_, rfl, ⟨by dsimp only; omega, by dsimp only; omega, zfl_s h1⟩, by dsimp only; omega⟩
theorem zsa.ly {M T : zM} (h : zsa M T) : zsa M (zlN T) := by
  intro c i hc
  rw [zlN_ne (fun e => by rw [e] at hc; cases hc)]
  exact h c i hc
theorem zwh2p {σ τ : Type} {M : zM} {n : Nat} {s : σ} {t : τ} {f : σ → Option (σ ⊕ (Int × zM))} {g : τ → Option (τ ⊕ (Int × zM))} (h : ∃ x y, zwh f n s = some x ∧ zwh g n t = some y ∧ x.1 = y.1 ∧ zsa M x.2 ∧ zsa M y.2) : ∃ t' P Q, zwh f n s = some (t', P) ∧ zwh g n t = some (t', Q) ∧ zsa M P ∧ zsa M Q := by
  obtain ⟨⟨x1, x2⟩, ⟨y1, y2⟩, e1, e2, e3, e4, e5⟩ := h
  dsimp only at e3 e4 e5
  subst e3
  exact ⟨_, _, _, e1, e2, e4, e5⟩
