/-- the number of the u-th cell of a shape at the p-th place -/
def znu (C k d p u : Int) : Int := ((p / C + zrd k d u) * C + p % C) + zcx k d u
def zcA (g : Int → Int) : Nat → Int
  | 0 => 0
  | u + 1 => zlor (zcA g u) (zlshl 1 (g u))
def zcR (g : Int → Int) (al : Int) (ρ : Int → Int) : Nat → Int → Int
  | 0 => ρ
  | u + 1 => fun x => if x = g u then zlor (zcR g al ρ u (g u)) al else zcR g al ρ u x
def zcP (R C k m d : Int) (ρ : Int → Int) : Nat → Int → Int
  | 0 => ρ
  | p + 1 => if zft R C k m d ((p : Int) / C) ((p : Int) % C) then zcR (znu C k d p) (zcA (znu C k d p) (zsz k m d).toNat) (zcP R C k m d ρ p) (zsz k m d).toNat else zcP R C k m d ρ p
def zcW (R C : Int) (k m d : Int → Int) : Nat → Int → Int
  | 0 => fun _ => 0
  | w + 1 => zcP R C (k w) (m w) (d w) (zcW R C k m d w) (R * C).toNat
/-- the rivals of each cell -/
def zrv (M : zM) : Int → Int := zcW (M 2 0) (M 2 1) (fun w => M (9 + w) 0) (fun w => M (9 + w) 1) (fun w => M (9 + w) 2) (M 7 1).toNat
theorem zcA_s {g : Int → Int} {u : Int} (h : 0 ≤ u) : zcA g (u + 1).toNat = zlor (zcA g u.toNat) (zlshl 1 (g u)) := by
  rw [show (u + 1).toNat = u.toNat + 1 by omega, zcA, show ((u.toNat : Nat) : Int) = u by omega]
theorem zcR_s {g : Int → Int} {al : Int} {ρ : Int → Int} {u : Int} (h : 0 ≤ u) (x : Int) : zcR g al ρ (u + 1).toNat x = if x = g u then zlor (zcR g al ρ u.toNat (g u)) al else zcR g al ρ u.toNat x := by
  rw [show (u + 1).toNat = u.toNat + 1 by omega, zcR, show ((u.toNat : Nat) : Int) = u by omega]
theorem zcP_s {R C k m d : Int} {ρ : Int → Int} {p : Int} (h : 0 ≤ p) : zcP R C k m d ρ (p + 1).toNat = if zft R C k m d (p / C) (p % C) then zcR (znu C k d p) (zcA (znu C k d p) (zsz k m d).toNat) (zcP R C k m d ρ p.toNat) (zsz k m d).toNat else zcP R C k m d ρ p.toNat := by
  rw [show (p + 1).toNat = p.toNat + 1 by omega, zcP, show ((p.toNat : Nat) : Int) = p by omega]
theorem zcW_s {R C : Int} {k m d : Int → Int} {w : Int} (h : 0 ≤ w) : zcW R C k m d (w + 1).toNat = zcP R C (k w) (m w) (d w) (zcW R C k m d w.toNat) (R * C).toNat := by
  rw [show (w + 1).toNat = w.toNat + 1 by omega, zcW, show ((w.toNat : Nat) : Int) = w by omega]
theorem znu_rg {R C k m d p u : Int} (h : zsg k m d) (hf : zft R C k m d (p / C) (p % C)) (u0 : 0 ≤ u) (u1 : u < zsz k m d) : 0 ≤ znu C k d p u ∧ znu C k d p u < R * C := by
  obtain ⟨⟨a1, a2⟩, a3, a4⟩ := zft_in h hf u0 u1
  have := zlin (R := R) (C := C) a1 a2 a3 a4
  unfold znu
  omega
/-- both loops over the places, cells alone -/
theorem zdb2 {n : Nat} {R C : Int} (hn : 1000000 ≤ n) (R0 : 0 ≤ R) (R1 : R ≤ 16) (C0 : 0 ≤ C) (C1 : C ≤ 16) (V : Int → zM → Prop) (fo : Int × zM → Option ((Int × zM) ⊕ zM)) (fi : Int → Int × zM → Option ((Int × zM) ⊕ (Int × zM)))
    (hi : ∀ i j Q, 0 ≤ i → i < R → 0 ≤ j → j < C → V (i * C + j) Q → ∃ Q', fi i (j, Q) = some (.inl (j + 1, Q')) ∧ V (i * C + (j + 1)) Q')
    (hie : ∀ i p Q, V p Q → fi i (C, Q) = some (.inr (C, Q)))
    (ho : ∀ i p Q, 0 ≤ i → i < R → V p Q → fo (i, Q) = (zwh (fi i) n (0, Q)).bind fun e => some (.inl (i + 1, e.2)))
    (hoe : ∀ p Q, V p Q → fo (R, Q) = some (.inr Q)) (Q : zM) (hV : V 0 Q) : ∃ Q', zwh fo n (0, Q) = some Q' ∧ V (R * C) Q' := by
  refine zwh_inv (fun s => 0 ≤ s.1 ∧ s.1 ≤ R ∧ V (s.1 * C) s.2) (fun s => (R - s.1).toNat) _ ?_ n _ ⟨by simp, by simp; omega, by simpa using hV⟩ (by simp; omega)
  rintro ⟨i, Q⟩ ⟨i0, i1, hq⟩
  dsimp only at i0 i1 hq ⊢
  by_cases c : i < R
  · left
    obtain ⟨⟨r1, r2⟩, e1, e2, e3⟩ := zwh_inv (f := fi i) (fun s => 0 ≤ s.1 ∧ s.1 ≤ C ∧ V (i * C + s.1) s.2) (fun s => (C - s.1).toNat) (fun r => r.1 = C ∧ V (i * C + C) r.2) (by
      rintro ⟨j, Q⟩ ⟨j0, j1, hj⟩
      dsimp only at j0 j1 hj ⊢
      by_cases d : j < C
      · left
        obtain ⟨Q', g1, g2⟩ := hi i j Q i0 c j0 d hj
        exact ⟨_, g1, ⟨by dsimp only; omega, by dsimp only; omega, g2⟩, by dsimp only; omega⟩
      · right
        have : j = C := by omega
        subst this
        exact ⟨_, hie i _ Q hj, rfl, hj⟩) n (0, Q) ⟨by simp, by simp; omega, by simpa using hq⟩ (by simp; omega)
    dsimp only at e2 e3
    refine ⟨(i + 1, r2), by rw [ho i _ Q i0 c hq, e1]; rfl, ⟨by dsimp only; omega, by dsimp only; omega, ?_⟩, by dsimp only; omega⟩
    dsimp only
    rw [Int.add_mul, Int.one_mul]
    exact e3
  · right
    have : i = R := by omega
    subst this
    exact ⟨_, hoe _ Q hq, hq⟩
theorem c_cut {M P : zM} {n : Nat} {w p : Int} {ρ : Int → Int} (hn : 1000000 ≤ n) (I : Iv M) (hP : zsa M P) (w0 : 0 ≤ w) (w1 : w < M 7 1) (hN : M 2 0 * M 2 1 ≤ 64) (hf : zft (M 2 0) (M 2 1) (M (9 + w) 0) (M (9 + w) 1) (M (9 + w) 2) (p / M 2 1) (p % M 2 1)) (h17 : ∀ x, 0 ≤ x → x < 64 → P 17 x = ρ x) : ∃ P', qfs_gatherCut n zK0 P 16 2 (9 + w) (p / M 2 1) (p % M 2 1) = some P' ∧ zsa M P' ∧ zeq 17 P P' ∧ ∀ x, 0 ≤ x → x < 64 → P' 17 x = zcR (znu (M 2 1) (M (9 + w) 0) (M (9 + w) 2) p) (zcA (znu (M 2 1) (M (9 + w) 0) (M (9 + w) 2) p) (zsz (M (9 + w) 0) (M (9 + w) 1) (M (9 + w) 2)).toNat) ρ (zsz (M (9 + w) 0) (M (9 + w) 1) (M (9 + w) 2)).toNat x := by
  have h6 := I.2.2.2.1
  unfold IvW at h6
  have hs := (zw_sM I w0 w1).2
  have hz := zsz_rg hs
  obtain ⟨k, hk⟩ : ∃ k, M (9 + w) 0 = k := ⟨_, rfl⟩
  obtain ⟨m, hm⟩ : ∃ m, M (9 + w) 1 = m := ⟨_, rfl⟩
  obtain ⟨d, hd⟩ : ∃ d, M (9 + w) 2 = d := ⟨_, rfl⟩
  have kk := (zw_c w0 (show w < 6 by omega)).1
  have e0 : ∀ P, zsa M P → P (9 + w) 0 = k ∧ P (9 + w) 1 = m ∧ P (9 + w) 2 = d := fun P hP => ⟨(hP _ 0 (zst9 w0 (by omega))).trans hk, (hP _ 1 (zst9 w0 (by omega))).trans hm, (hP _ 2 (zst9 w0 (by omega))).trans hd⟩
  have eM : ∀ P, zsa M P → zsM P (9 + w) := fun P hP => zw_sM (I.keep hP) w0 (by rw [hP 7 1 rfl]; exact w1)
  rw [hk, hm, hd] at hs hz hf ⊢
  have hsz : ∀ P, zsa M P → qsh_size zK0 P (9 + w) = some (zsz k m d) := by
    intro P hP
    obtain ⟨x1, x2, x3⟩ := e0 P hP
    rw [sh_size (eM P hP), x1, x2, x3]
  have hnu : ∀ P u, zsa M P → 0 ≤ u → u < zsz k m d → qfs_numberOf zK0 P 2 (9 + w) (p / M 2 1) (p % M 2 1) u = some (znu (M 2 1) k d p u) := by
    intro P u hP u0 u1
    obtain ⟨x1, x2, x3⟩ := e0 P hP
    unfold qfs_numberOf znu
    rw [zgk_ok kk, Option.bind_some, sh_rows (eM P hP) u0 (by rw [x1, x2, x3]; exact u1), Option.bind_some, zgf_ok rfl, Option.bind_some, Option.bind_some, sh_cols (eM P hP) u0 (by rw [x1, x2, x3]; exact u1), Option.bind_some, x1, x3, hP 2 1 rfl]
  have hrg := fun {u : Int} => znu_rg (u := u) hs hf
  obtain ⟨g, hg⟩ : ∃ g, znu (M 2 1) k d p = g := ⟨_, rfl⟩
  have hge : ∀ u, znu (M 2 1) k d p u = g u := fun u => by rw [← hg]
  simp only [hge] at hnu hrg
  rw [hg]
  obtain ⟨S, hS⟩ : ∃ S, zsz k m d = S := ⟨_, rfl⟩
  rw [hS] at hz hsz hnu hrg ⊢
  unfold qfs_gatherCut
  have eA : ∀ F : Int × Int → Option ((Int × Int) ⊕ (Int × Int)), (∀ a u, 0 ≤ u → u < S → F (a, u) = some (.inl (zlor a (zlshl 1 (g u)), u + 1))) → (∀ a, F (a, S) = some (.inr (a, S))) → zwh F n (0, 0) = some (zcA g S.toNat, S) := by
    intro F f1 f2
    refine zwh_eq (fun s => 0 ≤ s.2 ∧ s.2 ≤ S ∧ s.1 = zcA g s.2.toNat) (fun s => (S - s.2).toNat) ?_ n _ ⟨by simp, by simp; omega, rfl⟩ (by simp; omega)
    rintro ⟨a, u⟩ ⟨u0, u1, hu⟩
    dsimp only at u0 u1 hu ⊢
    by_cases c : u < S
    · left
      exact ⟨_, f1 a u u0 c, ⟨by dsimp only; omega, by dsimp only; omega, by dsimp only; rw [zcA_s u0, hu]⟩, by dsimp only; omega⟩
    · right
      have : u = S := by omega
      rw [this, f2, hu, this]
  rw [eA, Option.bind_some]
  · refine zwh_inv (fun s => 0 ≤ s.1 ∧ s.1 ≤ S ∧ zsa M s.2 ∧ zeq 17 P s.2 ∧ ∀ x, 0 ≤ x → x < 64 → s.2 17 x = zcR g (zcA g S.toNat) ρ s.1.toNat x) (fun s => (S - s.1).toNat) _ ?_ n _ ⟨by simp, by simp; omega, hP, fun _ _ _ => rfl, fun x x0 x1 => by dsimp only; rw [h17 x x0 x1]; rfl⟩ (by simp; omega)
    rintro ⟨u, E⟩ ⟨u0, u1, h1, h2, h3⟩
    dsimp only at u0 u1 h1 h2 h3 ⊢
    rw [zgk_ok kk, Option.bind_some, hsz E h1, Option.bind_some, zw_id (x := S) (by omega) (by omega), zw_id (x := u) (by omega) (by omega)]
    by_cases c : S ≤ u
    · right
      rw [if_pos c]
      have : u = S := by omega
      subst this
      exact ⟨_, rfl, h1, h2, h3⟩
    · left
      have gE := (I.keep h1).g
      unfold zPt at gE
      have r := hrg u0 (by omega)
      rw [if_neg c, show zgr zK0 E 0 5 16 0 = some 17 by simp only [gE], Option.bind_some, hnu E u h1 u0 (by omega), Option.bind_some, zga_ok (N := 64) rfl (by decide) r.1 (by omega), Option.bind_some, zpa_ok (N := 64) rfl (by decide) r.1 (by omega), Option.bind_some]
      refine ⟨_, rfl, ⟨by dsimp only; omega, by dsimp only; omega, h1.up rfl, fun c x hc => by dsimp only; rw [zu_n hc]; exact h2 c x hc, fun x x0 x1 => ?_⟩, by dsimp only; omega⟩
      dsimp only
      rw [zcR_s u0]
      by_cases e : x = g u
      · rw [if_pos e, e, zu_e, h3 _ r.1 (by omega)]
      · rw [if_neg e, zu_m e, h3 x x0 x1]
  · intro a u u0 u1
    dsimp only
    rw [zgk_ok kk, Option.bind_some, hsz P hP, Option.bind_some, zw_id (x := S) (by omega) (by omega), zw_id (x := u) (by omega) (by omega), if_neg (by omega), hnu P u hP u0 u1, Option.bind_some]
  · intro a
    dsimp only
    rw [zgk_ok kk, Option.bind_some, hsz P hP, Option.bind_some, zw_id (x := S) (by omega) (by omega), if_pos (by omega)]
theorem c_gshape {M P : zM} {n : Nat} {w : Int} {ρ : Int → Int} (hn : 1000000 ≤ n) (I : Iv M) (hP : zsa M P) (w0 : 0 ≤ w) (w1 : w < M 7 1) (hN : M 2 0 * M 2 1 ≤ 64) (h17 : ∀ x, 0 ≤ x → x < 64 → P 17 x = ρ x) : ∃ P', qfs_gatherShape n zK0 P 16 2 (9 + w) = some P' ∧ zsa M P' ∧ zeq 17 P P' ∧ ∀ x, 0 ≤ x → x < 64 → P' 17 x = zcP (M 2 0) (M 2 1) (M (9 + w) 0) (M (9 + w) 1) (M (9 + w) 2) ρ (M 2 0 * M 2 1).toNat x := by
  have ht := I.2.1
  unfold IvT at ht
  have h6 := I.2.2.2.1
  unfold IvW at h6
  have kk := (zw_c w0 (show w < 6 by omega)).1
  unfold qfs_gatherShape
  refine zdb2 (R := M 2 0) (C := M 2 1) hn (by omega) (by omega) (by omega) (by omega) (fun p E => zsa M E ∧ zeq 17 P E ∧ ∀ x, 0 ≤ x → x < 64 → E 17 x = zcP (M 2 0) (M 2 1) (M (9 + w) 0) (M (9 + w) 1) (M (9 + w) 2) ρ p.toNat x) _ (fun i s3 =>
        (zgf zK0 s3.2 2 7 2 1).bind fun v5 =>
        if zw v5 ≤ zw s3.1 then
          some (.inr (s3.1, s3.2))
        else
          (zgk zK0 (9 + w) 6 3).bind fun _ => (qsh_fits zK0 s3.2 (9 + w) 2 i s3.1).bind fun v6 =>
          (if zw v6 = 0 then
            some s3.2
          else
            (zgk zK0 16 0 5).bind fun _ => (qfs_gatherCut n zK0 s3.2 16 2 (9 + w) i s3.1).bind fun M8 =>
            some M8 : Option (zM)).bind fun j7 =>
          some (.inl (s3.1 + 1, j7))) ?_ ?_ ?_ ?_ P ⟨hP, fun _ _ _ => rfl, fun x x0 x1 => by rw [h17 x x0 x1]; rfl⟩
  · rintro i j E i0 i1 j0 j1 ⟨h1, h2, h3⟩
    dsimp only
    have IE := I.keep h1
    have hl := zlin (R := M 2 0) (C := M 2 1) i0 i1 j0 j1
    have ij := zij (i := i) j0 j1
    have hfit := sh_fits (M := E) (i := i) (j := j) (zw_sM IE w0 (by rw [h1 7 1 rfl]; exact w1)) IE.la (by unfold zrg; omega) (by unfold zrg; omega)
    rw [h1 2 0 rfl, h1 2 1 rfl, h1 (9 + w) 0 (zst9 w0 (by omega)), h1 (9 + w) 1 (zst9 w0 (by omega)), h1 (9 + w) 2 (zst9 w0 (by omega))] at hfit
    rw [zgf_ok rfl, Option.bind_some, h1 2 1 rfl, zw_id (x := M 2 1) (by omega) (by omega), zw_id (x := j) (by omega) (by omega), if_neg (by omega), zgk_ok kk, Option.bind_some, hfit, Option.bind_some, ← Int.add_assoc]
    have es := zcP_s (R := M 2 0) (C := M 2 1) (k := M (9 + w) 0) (m := M (9 + w) 1) (d := M (9 + w) 2) (ρ := ρ) hl.1
    rw [ij.1, ij.2] at es
    by_cases f : zft (M 2 0) (M 2 1) (M (9 + w) 0) (M (9 + w) 1) (M (9 + w) 2) i j
    · rw [if_pos f] at es
      obtain ⟨P', e1, e2, e3, e4⟩ := c_cut (P := E) (p := i * M 2 1 + j) hn I h1 w0 w1 hN (by rw [ij.1, ij.2]; exact f) h3
      rw [ij.1, ij.2] at e1
      rw [if_pos f, if_neg (by decide), zgk_ok rfl, Option.bind_some, e1, Option.bind_some, Option.bind_some]
      refine ⟨_, rfl, e2, fun c x hc => (e3 c x hc).trans (h2 c x hc), fun x x0 x1 => ?_⟩
      rw [es]
      exact e4 x x0 x1
    · rw [if_neg f] at es
      rw [if_neg f, if_pos (by decide), Option.bind_some, es]
      exact ⟨_, rfl, h1, h2, h3⟩
  · rintro i p E ⟨h1, h2, h3⟩
    dsimp only
    rw [zgf_ok rfl, Option.bind_some, h1 2 1 rfl, if_pos (by omega)]
  · rintro i p E i0 i1 ⟨h1, h2, h3⟩
    dsimp only
    rw [zgf_ok rfl, Option.bind_some, h1 2 0 rfl, zw_id (x := M 2 0) (by omega) (by omega), zw_id (x := i) (by omega) (by omega), if_neg (by omega)]
  · rintro p E ⟨h1, h2, h3⟩
    dsimp only
    rw [zgf_ok rfl, Option.bind_some, h1 2 0 rfl, if_pos (by omega)]
theorem c_gather {M : zM} {n : Nat} (hn : 1000000 ≤ n) (I : Iv M) (hN : M 2 0 * M 2 1 ≤ 64) : ∃ P, qfs_gather n zK0 M 16 2 7 = some P ∧ zsa M P ∧ P 16 4 = M 2 0 * M 2 1 ∧ ∀ x, 0 ≤ x → x < 64 → P 17 x = zrv M x := by
  have ht := I.2.1
  unfold IvT at ht
  have h6 := I.2.2.2.1
  unfold IvW at h6
  have hrc := zrc (R := M 2 0) (C := M 2 1) (by omega) (by omega) (by omega) (by omega)
  have g := I.g
  unfold zPt at g
  have g16 : zgr zK0 M 0 5 16 0 = some 17 := by simp only [g]
  have em : zmin (M 2 0 * M 2 1) 64 = M 2 0 * M 2 1 := by
    rw [zmin_ok (by omega) (by omega) (by omega) (by omega)]
    split <;> omega
  have h0 : zsa M (zfl (zu M 16 4 (M 2 0 * M 2 1)) 17 64 0) := ((zsa.rf M).up rfl).fl (fun _ => rfl)
  unfold qfs_gather
  rw [zgk_ok rfl, Option.bind_some, la_count I.la, Option.bind_some, zpf_ok rfl, Option.bind_some, em, zgr_u (Or.inr (by decide)), g16, Option.bind_some, zfillJ (N := 64) rfl (by decide) (by omega), Option.bind_some]
  refine zwh_inv (fun s => 0 ≤ s.1 ∧ s.1 ≤ M 7 1 ∧ zsa M s.2 ∧ s.2 16 4 = M 2 0 * M 2 1 ∧ ∀ x, 0 ≤ x → x < 64 → s.2 17 x = zcW (M 2 0) (M 2 1) (fun w => M (9 + w) 0) (fun w => M (9 + w) 1) (fun w => M (9 + w) 2) s.1.toNat x) (fun s => (M 7 1 - s.1).toNat) _ ?_ n _ ⟨by simp, by simp; omega, h0, by dsimp only; rw [zfl_n (by decide), zu_e], fun x x0 x1 => by dsimp only; rw [zfl_e x0 (by exact x1)]; rfl⟩ (by simp; omega)
  rintro ⟨w, E⟩ ⟨w0, w1, h1, h2, h3⟩
  dsimp only at w0 w1 h1 h2 h3 ⊢
  rw [zgf_ok rfl, Option.bind_some, h1 7 1 rfl, zw_id (x := M 7 1) (by omega) (by omega), zw_id (x := w) (by omega) (by omega)]
  by_cases c : M 7 1 ≤ w
  · right
    rw [if_pos c]
    have : w = M 7 1 := by omega
    subst this
    exact ⟨_, rfl, h1, h2, h3⟩
  · left
    have IE := I.keep h1
    have gE := IE.g
    unfold zPt at gE
    obtain ⟨P', e1, e2, e3, e4⟩ := c_gshape (P := E) hn I h1 w0 (by omega) hN h3
    rw [if_neg c, show zgr zK0 E 10 2 7 0 = some 8 by simp only [gE], Option.bind_some, zgq_ok (v := 9 + w) (N := 6) rfl (by decide) w0 (by omega) (zw_8 IE.1 w0 (by omega)) (by omega), Option.bind_some, zgk_ok rfl, Option.bind_some, e1, Option.bind_some]
    refine ⟨_, rfl, ⟨by dsimp only; omega, by dsimp only; omega, e2, by dsimp only; rw [e3 16 4 (by decide)]; exact h2, fun x x0 x1 => ?_⟩, by dsimp only; omega⟩
    dsimp only
    rw [zcW_s w0]
    exact e4 x x0 x1
