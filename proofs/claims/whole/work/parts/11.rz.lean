/-! what a row of a method's function is worth: from here on no machine is seen but the small one -/
abbrev zRes : Type := Option zV × zM × zK
def zG (X : Int × (Int → Int)) (k : Nat) (c : zC) (P : zRes → Prop) : Prop := ∃ n r, zrun X zT znl n k c = some r ∧ P r
def Rz {α : Type} (X : Int × (Int → Int)) (k : Nat) (c : zC) (o : Option α) (S : α → (zRes → Prop) → Prop) : Prop := ∀ x, o = some x → ∀ P, S x P → zG X k c P
/-- a loop -/
def zwh {σ ρ : Type} (f : σ → Option (σ ⊕ ρ)) : Nat → σ → Option ρ
  | 0, _ => none
  | n + 1, s => match f s with
    | none => none
    | some (.inl s') => zwh f n s'
    | some (.inr r) => some r
/-- a way on, or an end already -/
def zesc {α β : Type} (o : Option (β ⊕ α)) (f : β → Option α) : Option α := match o with
  | none => none
  | some (.inl x) => f x
  | some (.inr e) => some e
def zsS {α β : Type} (X : Int × (Int → Int)) (k : Nat) (t : β → zC) (S : α → (zRes → Prop) → Prop) (r : β ⊕ α) (P : zRes → Prop) : Prop := match r with
  | .inl x => zG X k (t x) P
  | .inr e => S e P
def zgk (K : zK) (r : Int) (ci N : Nat) : Option Unit := if zkd K r = some (ci, N) then some () else none
def zbr (v : Int) : Option Int := if v = 0 ∨ v = 1 then some v else none
def zge1 (v : Int) : Option Unit := if 1 ≤ v then some () else none
def zscr (X : Int × (Int → Int)) (i : Int) : Option Int := if 0 ≤ zw i ∧ zw i < X.1 then some (X.2 (zw i)) else none
theorem zgr_ge {K : zK} {M : zM} {ci N : Nat} {r k v : Int} (h : zgr K M ci N r k = some v) : 1 ≤ v := by
  unfold zgr at h
  split at h
  · rename_i q
    cases h
    exact q.2
  · cases h
theorem zgq_ge {K : zK} {M : zM} {kn : Nat} {r i v : Int} (h : zgq K M kn r i = some v) : 1 ≤ v := by
  unfold zgq at h
  split at h
  · split at h
    · rename_i q
      cases h
      exact q
    · cases h
  · cases h
theorem zrun_more {X : Int × (Int → Int)} {T : Nat → List zE} {nl : Nat → Nat} : ∀ (n k : Nat) (c : zC) (r : zRes), zrun X T nl n k c = some r → zrun X T nl (n + 1) k c = some r := by
  intro n
  induction n with
  | zero => intro k c r h; cases h
  | succ n ih =>
    intro k c r h
    obtain ⟨nd, ls, st, M, K⟩ := c
    rw [zrun] at h ⊢
    split at h
    · cases h
    · split at h
      · cases h
      · exact ih _ _ _ h
      · exact h
      · split at h
        · rename_i hl
          rw [if_pos hl]
          split at h
          · cases h
          · rename_i v1 M1 K1 h1
            rw [ih _ _ _ h1]
            exact ih _ _ _ h
        · cases h
theorem zrun_le {X : Int × (Int → Int)} {T : Nat → List zE} {nl : Nat → Nat} {n m k : Nat} {c : zC} {r : zRes} (h : zrun X T nl n k c = some r) (hm : n ≤ m) : zrun X T nl m k c = some r := by
  induction hm with
  | refl => exact h
  | step _ ih => exact zrun_more _ _ _ _ ih
section
variable {α β : Type} {X : Int × (Int → Int)} {k : Nat} {T : List zE} {nd pc nx : Nat} {a b : Int} {l : List Int} {ls st ls' : List zV} {M : zM} {K : zK} {S : α → (zRes → Prop) → Prop} {o o1 o2 : Option α}
theorem zG.step {en : zE} {c : zC} {P : zRes → Prop} (hT : zT k = T) (he : T[nd]? = some en) (hs : zstp X en ls st M K = some (.inl c)) (h : zG X k c P) : zG X k (nd, ls, st, M, K) P := by
  obtain ⟨n, r, h1, h2⟩ := h
  refine ⟨n + 1, r, ?_, h2⟩
  rw [zrun, hT, he]
  dsimp only
  rw [hs]
  exact h1
theorem zG.ret {en : zE} {v : Option zV} {P : zRes → Prop} (hT : zT k = T) (he : T[nd]? = some en) (hs : zstp X en ls st M K = some (.inr (.inr v))) (h : P (v, M, K)) : zG X k (nd, ls, st, M, K) P := by
  refine ⟨1, _, ?_, h⟩
  rw [zrun, hT, he]
  dsimp only
  rw [hs]
theorem Rz.step {en : zE} {c : zC} (hT : zT k = T) (he : T[nd]? = some en) (hs : zstp X en ls st M K = some (.inl c)) (h : Rz X k c o S) : Rz X k (nd, ls, st, M, K) o S := fun x hx P hP => zG.step hT he hs (h x hx P hP)
theorem Rz.here {x : α} {c : zC} (h : ∀ P, S x P → zG X k c P) : Rz X k c (some x) S := fun y hy P hP => h P (by cases hy; exact hP)
theorem Rz.bind {t : β → zC} {c : zC} {ob : Option β} {oc : β → Option α} (h1 : Rz X k c ob (fun x P => zG X k (t x) P)) (h2 : ∀ x, Rz X k (t x) (oc x) S) : Rz X k c (ob.bind oc) S := by
  intro x hx P hP
  obtain ⟨y, hy, hxy⟩ := Option.bind_eq_some_iff.mp hx
  exact h1 y hy P (h2 y x hxy P hP)
theorem Rz.bind2 {S1 : β → (zRes → Prop) → Prop} {c : zC} {ob : Option β} {oc : β → Option α} (h1 : Rz X k c ob S1) (h2 : ∀ x z, oc x = some z → ∀ P, S z P → S1 x P) : Rz X k c (ob.bind oc) S := by
  intro x hx P hP
  obtain ⟨y, hy, hxy⟩ := Option.bind_eq_some_iff.mp hx
  exact h1 y hy P (h2 y x hxy P hP)
theorem Rz.esc {t : β → zC} {c : zC} {ob : Option (β ⊕ α)} {oc : β → Option α} (h1 : Rz X k c ob (zsS X k t S)) (h2 : ∀ x, Rz X k (t x) (oc x) S) : Rz X k c (zesc ob oc) S := by
  intro x hx P hP
  unfold zesc at hx
  split at hx
  · cases hx
  · rename_i y
    exact h1 _ rfl P (h2 y x hx P hP)
  · cases hx
    exact h1 _ rfl P hP
theorem Rz.wh {σ : Type} {f : σ → Option (σ ⊕ α)} {hd : σ → zC} (h : ∀ s, Rz X k (hd s) (f s) (zsS X k hd S)) : ∀ n s, Rz X k (hd s) (zwh f n s) S := by
  intro n
  induction n with
  | zero => intro s x hx; cases hx
  | succ n ih =>
    intro s x hx P hP
    rw [zwh] at hx
    split at hx
    · cases hx
    · rename_i s' hs
      exact h s _ hs P (ih s' x hx P hP)
    · rename_i r hs
      cases hx
      exact h s _ hs P hP
theorem Rz.ite {c : zC} {p : Prop} {d : Decidable p} (h1 : p → Rz X k c o1 S) (h2 : ¬ p → Rz X k c o2 S) : Rz X k c (@ite _ p d o1 o2) S := by
  by_cases hp : p
  · rw [if_pos hp]; exact h1 hp
  · rw [if_neg hp]; exact h2 hp
theorem Rz.let {c : zC} {e : β} {oc : β → Option α} (h : Rz X k c (oc e) S) : Rz X k c ((some e).bind oc) S := h
-- rows
theorem z_iconst (hT : zT k = T) (he : T[nd]? = some (1, pc, nx, a, b, l)) (h : Rz X k (nx, ls, zi a :: st, M, K) o S) : Rz X k (nd, ls, st, M, K) o S := Rz.step hT he rfl h
theorem z_lconst (hT : zT k = T) (he : T[nd]? = some (2, pc, nx, a, b, l)) (h : Rz X k (nx, ls, zl a :: st, M, K) o S) : Rz X k (nd, ls, st, M, K) o S := Rz.step hT he rfl h
theorem z_iload (hT : zT k = T) (he : T[nd]? = some (3, pc, nx, a, b, l)) {x : Int} (hx : ls[a.toNat]? = some (zi x)) (hb : b = 0 ∨ b = 1) (h : Rz X k (nx, ls, zi x :: st, M, K) o S) : Rz X k (nd, ls, st, M, K) o S := Rz.step hT he (by simp only [zstp, hx, if_pos hb]; rfl) h
theorem z_lload (hT : zT k = T) (he : T[nd]? = some (3, pc, nx, a, b, l)) {x : Int} (hx : ls[a.toNat]? = some (zl x)) (hb : b = 2 ∨ b = 3) (h : Rz X k (nx, ls, zl x :: st, M, K) o S) : Rz X k (nd, ls, st, M, K) o S := Rz.step hT he (by simp only [zstp, hx, if_pos hb]; rfl) h
theorem z_aload (hT : zT k = T) (he : T[nd]? = some (3, pc, nx, a, b, l)) {x : Int} (hx : ls[a.toNat]? = some (zr x)) (hb : b = 4 ∨ b = 5) (h20 : -20 < x) (h : Rz X k (nx, ls, zr x :: st, M, K) o S) : Rz X k (nd, ls, st, M, K) o S := Rz.step hT he (by simp only [zstp, hx]; rw [if_pos ⟨hb, h20⟩]; rfl) h
theorem z_istore (hT : zT k = T) (he : T[nd]? = some (4, pc, nx, a, b, l)) {x : Int} (hb : b = 0 ∨ b = 1) (hs : zset ls a.toNat (zi x) = ls') (h : Rz X k (nx, ls', st, M, K) o S) : Rz X k (nd, ls, zi x :: st, M, K) o S := Rz.step hT he (by simp only [zstp, if_pos hb, hs]; rfl) h
theorem z_istoreL (hT : zT k = T) (he : T[nd]? = some (4, pc, nx, a, b, l)) {e : Int} {lsf : Int → List zV} {oc : Int → Option α} (hb : b = 0 ∨ b = 1) (hs : ∀ x, zset ls a.toNat (zi x) = lsf x) (h : ∀ x, Rz X k (nx, lsf x, st, M, K) (oc x) S) : Rz X k (nd, ls, zi e :: st, M, K) ((some e).bind oc) S := Rz.step hT he (by simp only [zstp, if_pos hb, hs]; rfl) (h e)
theorem z_lstore (hT : zT k = T) (he : T[nd]? = some (4, pc, nx, a, b, l)) {x : Int} (hb : b = 2 ∨ b = 3) (hs : zset2 ls a.toNat (zl x) = ls') (h : Rz X k (nx, ls', st, M, K) o S) : Rz X k (nd, ls, zl x :: st, M, K) o S := Rz.step hT he (by simp only [zstp, if_pos hb, hs]; rfl) h
theorem z_astore (hT : zT k = T) (he : T[nd]? = some (4, pc, nx, a, b, l)) {x : Int} (hb : b = 4 ∨ b = 5) (h20 : -20 < x) (hs : zset ls a.toNat (zr x) = ls') (h : Rz X k (nx, ls', st, M, K) o S) : Rz X k (nd, ls, zr x :: st, M, K) o S := Rz.step hT he (by simp only [zstp]; rw [if_pos ⟨hb, h20⟩, hs]; rfl) h
theorem z_iinc (hT : zT k = T) (he : T[nd]? = some (5, pc, nx, a, b, l)) {x : Int} (hx : ls[a.toNat]? = some (zi x)) (hs : zset ls a.toNat (zi (x + b)) = ls') (h : Rz X k (nx, ls', st, M, K) o S) : Rz X k (nd, ls, st, M, K) o S := Rz.step hT he (by simp only [zstp, hx, hs]; rfl) h
theorem z_iadd (hT : zT k = T) (he : T[nd]? = some (6, pc, nx, a, 0, l)) {x y : Int} (h : Rz X k (nx, ls, zi (x + y) :: st, M, K) o S) : Rz X k (nd, ls, zi y :: zi x :: st, M, K) o S := Rz.step hT he rfl h
theorem z_isub (hT : zT k = T) (he : T[nd]? = some (6, pc, nx, a, 1, l)) {x y : Int} (h : Rz X k (nx, ls, zi (x - y) :: st, M, K) o S) : Rz X k (nd, ls, zi y :: zi x :: st, M, K) o S := Rz.step hT he rfl h
theorem z_imul (hT : zT k = T) (he : T[nd]? = some (6, pc, nx, a, 2, l)) {x y : Int} (h : Rz X k (nx, ls, zi (x * y) :: st, M, K) o S) : Rz X k (nd, ls, zi y :: zi x :: st, M, K) o S := Rz.step hT he rfl h
theorem z_iand (hT : zT k = T) (he : T[nd]? = some (6, pc, nx, a, 3, l)) {x y : Int} (h : Rz X k (nx, ls, zi (zand x y) :: st, M, K) o S) : Rz X k (nd, ls, zi y :: zi x :: st, M, K) o S := Rz.step hT he rfl h
theorem z_ior (hT : zT k = T) (he : T[nd]? = some (6, pc, nx, a, 4, l)) {x y : Int} (h : Rz X k (nx, ls, zi (zor x y) :: st, M, K) o S) : Rz X k (nd, ls, zi y :: zi x :: st, M, K) o S := Rz.step hT he rfl h
theorem z_ixor (hT : zT k = T) (he : T[nd]? = some (6, pc, nx, a, 5, l)) {x y : Int} (h : Rz X k (nx, ls, zi (zxor x y) :: st, M, K) o S) : Rz X k (nd, ls, zi y :: zi x :: st, M, K) o S := Rz.step hT he rfl h
theorem z_ishl (hT : zT k = T) (he : T[nd]? = some (6, pc, nx, a, 6, l)) {x y : Int} (h : Rz X k (nx, ls, zi (zshl x y) :: st, M, K) o S) : Rz X k (nd, ls, zi y :: zi x :: st, M, K) o S := Rz.step hT he rfl h
theorem z_ishr (hT : zT k = T) (he : T[nd]? = some (6, pc, nx, a, 7, l)) {x y : Int} (h : Rz X k (nx, ls, zi (zshr x y) :: st, M, K) o S) : Rz X k (nd, ls, zi y :: zi x :: st, M, K) o S := Rz.step hT he rfl h
theorem z_ladd (hT : zT k = T) (he : T[nd]? = some (9, pc, nx, a, 0, l)) {x y : Int} (h : Rz X k (nx, ls, zl (x + y) :: st, M, K) o S) : Rz X k (nd, ls, zl y :: zl x :: st, M, K) o S := Rz.step hT he rfl h
theorem z_lmul (hT : zT k = T) (he : T[nd]? = some (9, pc, nx, a, 1, l)) {x y : Int} (h : Rz X k (nx, ls, zl (x * y) :: st, M, K) o S) : Rz X k (nd, ls, zl y :: zl x :: st, M, K) o S := Rz.step hT he rfl h
theorem z_land (hT : zT k = T) (he : T[nd]? = some (9, pc, nx, a, 2, l)) {x y : Int} (h : Rz X k (nx, ls, zl (zland x y) :: st, M, K) o S) : Rz X k (nd, ls, zl y :: zl x :: st, M, K) o S := Rz.step hT he rfl h
theorem z_lor (hT : zT k = T) (he : T[nd]? = some (9, pc, nx, a, 3, l)) {x y : Int} (h : Rz X k (nx, ls, zl (zlor x y) :: st, M, K) o S) : Rz X k (nd, ls, zl y :: zl x :: st, M, K) o S := Rz.step hT he rfl h
theorem z_lxor (hT : zT k = T) (he : T[nd]? = some (9, pc, nx, a, 4, l)) {x y : Int} (h : Rz X k (nx, ls, zl (zlxor x y) :: st, M, K) o S) : Rz X k (nd, ls, zl y :: zl x :: st, M, K) o S := Rz.step hT he rfl h
theorem z_lshl (hT : zT k = T) (he : T[nd]? = some (10, pc, nx, a, 0, l)) {x y : Int} (h : Rz X k (nx, ls, zl (zlshl x y) :: st, M, K) o S) : Rz X k (nd, ls, zi y :: zl x :: st, M, K) o S := Rz.step hT he rfl h
theorem z_lshr (hT : zT k = T) (he : T[nd]? = some (10, pc, nx, a, 1, l)) {x y : Int} (h : Rz X k (nx, ls, zl (zlshr x y) :: st, M, K) o S) : Rz X k (nd, ls, zi y :: zl x :: st, M, K) o S := Rz.step hT he rfl h
theorem z_lushr (hT : zT k = T) (he : T[nd]? = some (10, pc, nx, a, 2, l)) {x y : Int} (h : Rz X k (nx, ls, zl (zlushr x y) :: st, M, K) o S) : Rz X k (nd, ls, zi y :: zl x :: st, M, K) o S := Rz.step hT he rfl h
theorem z_lcmp (hT : zT k = T) (he : T[nd]? = some (11, pc, nx, a, b, l)) {x y : Int} (h : Rz X k (nx, ls, zi (zlcmp x y) :: st, M, K) o S) : Rz X k (nd, ls, zl y :: zl x :: st, M, K) o S := Rz.step hT he rfl h
theorem z_ineg (hT : zT k = T) (he : T[nd]? = some (8, pc, nx, a, b, l)) {x : Int} (h : Rz X k (nx, ls, zi (-x) :: st, M, K) o S) : Rz X k (nd, ls, zi x :: st, M, K) o S := Rz.step hT he rfl h
theorem z_ci2l (hT : zT k = T) (he : T[nd]? = some (12, pc, nx, a, 0, l)) {x : Int} (h : Rz X k (nx, ls, zl (zw x) :: st, M, K) o S) : Rz X k (nd, ls, zi x :: st, M, K) o S := Rz.step hT he rfl h
theorem z_cl2i (hT : zT k = T) (he : T[nd]? = some (12, pc, nx, a, 1, l)) {x : Int} (h : Rz X k (nx, ls, zi x :: st, M, K) o S) : Rz X k (nd, ls, zl x :: st, M, K) o S := Rz.step hT he rfl h
theorem z_ci2b (hT : zT k = T) (he : T[nd]? = some (12, pc, nx, a, 2, l)) {x : Int} (h : Rz X k (nx, ls, zi (zb8 x) :: st, M, K) o S) : Rz X k (nd, ls, zi x :: st, M, K) o S := Rz.step hT he rfl h
theorem z_ci2s (hT : zT k = T) (he : T[nd]? = some (12, pc, nx, a, 3, l)) {x : Int} (h : Rz X k (nx, ls, zi (zb16 x) :: st, M, K) o S) : Rz X k (nd, ls, zi x :: st, M, K) o S := Rz.step hT he rfl h
theorem z_ci2c (hT : zT k = T) (he : T[nd]? = some (12, pc, nx, a, 4, l)) {x : Int} (h : Rz X k (nx, ls, zi (x % 65536) :: st, M, K) o S) : Rz X k (nd, ls, zi x :: st, M, K) o S := Rz.step hT he rfl h
theorem z_dup (hT : zT k = T) (he : T[nd]? = some (13, pc, nx, a, b, l)) {x : Int} (h : Rz X k (nx, ls, zi x :: zi x :: st, M, K) o S) : Rz X k (nd, ls, zi x :: st, M, K) o S := Rz.step hT he rfl h
theorem z_dupr (hT : zT k = T) (he : T[nd]? = some (13, pc, nx, a, b, l)) {x : Int} (h : Rz X k (nx, ls, zr x :: zr x :: st, M, K) o S) : Rz X k (nd, ls, zr x :: st, M, K) o S := Rz.step hT he rfl h
theorem z_dup2 (hT : zT k = T) (he : T[nd]? = some (14, pc, nx, a, b, l)) {x y : Int} (h : Rz X k (nx, ls, zi x :: zr y :: zi x :: zr y :: st, M, K) o S) : Rz X k (nd, ls, zi x :: zr y :: st, M, K) o S := Rz.step hT he rfl h
theorem z_pop (hT : zT k = T) (he : T[nd]? = some (15, pc, nx, a, b, l)) {x : Int} (h : Rz X k (nx, ls, st, M, K) o S) : Rz X k (nd, ls, zi x :: st, M, K) o S := Rz.step hT he rfl h
theorem z_goto (hT : zT k = T) (he : T[nd]? = some (18, pc, nx, a, b, l)) (h : Rz X k (nx, ls, st, M, K) o S) : Rz X k (nd, ls, st, M, K) o S := Rz.step hT he rfl h
theorem z_kill (hT : zT k = T) (he : T[nd]? = some (44, pc, nx, a, b, l)) (hk : zkill ls l = ls') (h : Rz X k (nx, ls', st, M, K) o S) : Rz X k (nd, ls, st, M, K) o S := Rz.step hT he (by simp only [zstp, hk]; rfl) h
theorem z_div (hT : zT k = T) (he : T[nd]? = some (7, pc, nx, a, 0, l)) {x y : Int} {oc : Int → Option α} (h : ∀ v, Rz X k (nx, ls, zi v :: st, M, K) (oc v) S) : Rz X k (nd, ls, zi y :: zi x :: st, M, K) ((zdv x y).bind oc) S := by
  intro z hz P hP
  obtain ⟨v, hv, hz⟩ := Option.bind_eq_some_iff.mp hz
  exact zG.step hT he (by simp only [zstp, if_pos, hv]; rfl) (h v z hz P hP)
theorem z_rem (hT : zT k = T) (he : T[nd]? = some (7, pc, nx, a, 1, l)) {x y : Int} {oc : Int → Option α} (h : ∀ v, Rz X k (nx, ls, zi v :: st, M, K) (oc v) S) : Rz X k (nd, ls, zi y :: zi x :: st, M, K) ((zrm x y).bind oc) S := by
  intro z hz P hP
  obtain ⟨v, hv, hz⟩ := Option.bind_eq_some_iff.mp hz
  exact zG.step hT he (by simp only [zstp, show ¬ ((1 : Int) = 0) by decide, if_false, hv]; rfl) (h v z hz P hP)
theorem z_ifeq (hT : zT k = T) (he : T[nd]? = some (16, pc, nx, a, 0, l)) {x : Int} (h1 : Rz X k (a.toNat, ls, st, M, K) o1 S) (h2 : Rz X k (nx, ls, st, M, K) o2 S) : Rz X k (nd, ls, zi x :: st, M, K) (if zw x = 0 then o1 else o2) S := by
  refine Rz.ite (fun hc => Rz.step hT he ?_ h1) (fun hc => Rz.step hT he ?_ h2)
  · simp only [zstp]; rw [if_pos (by simpa [zcd] using hc)]; rfl
  · simp only [zstp]; rw [if_neg (by simpa [zcd] using hc)]; rfl
theorem z_ifne (hT : zT k = T) (he : T[nd]? = some (16, pc, nx, a, 1, l)) {x : Int} (h1 : Rz X k (nx, ls, st, M, K) o1 S) (h2 : Rz X k (a.toNat, ls, st, M, K) o2 S) : Rz X k (nd, ls, zi x :: st, M, K) (if zw x = 0 then o1 else o2) S := by
  refine Rz.ite (fun hc => Rz.step hT he ?_ h1) (fun hc => Rz.step hT he ?_ h2)
  · simp only [zstp]; rw [if_neg (by simpa [zcd] using hc)]; rfl
  · simp only [zstp]; rw [if_pos (by simpa [zcd] using hc)]; rfl
theorem z_iflt (hT : zT k = T) (he : T[nd]? = some (16, pc, nx, a, 2, l)) {x : Int} (h1 : Rz X k (a.toNat, ls, st, M, K) o1 S) (h2 : Rz X k (nx, ls, st, M, K) o2 S) : Rz X k (nd, ls, zi x :: st, M, K) (if zw x < 0 then o1 else o2) S := by
  refine Rz.ite (fun hc => Rz.step hT he ?_ h1) (fun hc => Rz.step hT he ?_ h2)
  · simp only [zstp]; rw [if_pos (by simpa [zcd] using hc)]; rfl
  · simp only [zstp]; rw [if_neg (by simpa [zcd] using hc)]; rfl
theorem z_ifge (hT : zT k = T) (he : T[nd]? = some (16, pc, nx, a, 3, l)) {x : Int} (h1 : Rz X k (a.toNat, ls, st, M, K) o1 S) (h2 : Rz X k (nx, ls, st, M, K) o2 S) : Rz X k (nd, ls, zi x :: st, M, K) (if 0 ≤ zw x then o1 else o2) S := by
  refine Rz.ite (fun hc => Rz.step hT he ?_ h1) (fun hc => Rz.step hT he ?_ h2)
  · simp only [zstp]; rw [if_pos (by simpa [zcd] using hc)]; rfl
  · simp only [zstp]; rw [if_neg (by simpa [zcd] using hc)]; rfl
theorem z_ifgt (hT : zT k = T) (he : T[nd]? = some (16, pc, nx, a, 4, l)) {x : Int} (h1 : Rz X k (a.toNat, ls, st, M, K) o1 S) (h2 : Rz X k (nx, ls, st, M, K) o2 S) : Rz X k (nd, ls, zi x :: st, M, K) (if 0 < zw x then o1 else o2) S := by
  refine Rz.ite (fun hc => Rz.step hT he ?_ h1) (fun hc => Rz.step hT he ?_ h2)
  · simp only [zstp]; rw [if_pos (by simpa [zcd] using hc)]; rfl
  · simp only [zstp]; rw [if_neg (by simpa [zcd] using hc)]; rfl
theorem z_ifle (hT : zT k = T) (he : T[nd]? = some (16, pc, nx, a, 5, l)) {x : Int} (h1 : Rz X k (a.toNat, ls, st, M, K) o1 S) (h2 : Rz X k (nx, ls, st, M, K) o2 S) : Rz X k (nd, ls, zi x :: st, M, K) (if zw x ≤ 0 then o1 else o2) S := by
  refine Rz.ite (fun hc => Rz.step hT he ?_ h1) (fun hc => Rz.step hT he ?_ h2)
  · simp only [zstp]; rw [if_pos (by simpa [zcd] using hc)]; rfl
  · simp only [zstp]; rw [if_neg (by simpa [zcd] using hc)]; rfl
theorem z_iceq (hT : zT k = T) (he : T[nd]? = some (17, pc, nx, a, 0, l)) {x y : Int} (h1 : Rz X k (a.toNat, ls, st, M, K) o1 S) (h2 : Rz X k (nx, ls, st, M, K) o2 S) : Rz X k (nd, ls, zi y :: zi x :: st, M, K) (if zw x = zw y then o1 else o2) S := by
  refine Rz.ite (fun hc => Rz.step hT he ?_ h1) (fun hc => Rz.step hT he ?_ h2)
  · simp only [zstp]; rw [if_pos (by simpa [zcd] using hc)]; rfl
  · simp only [zstp]; rw [if_neg (by simpa [zcd] using hc)]; rfl
theorem z_icne (hT : zT k = T) (he : T[nd]? = some (17, pc, nx, a, 1, l)) {x y : Int} (h1 : Rz X k (nx, ls, st, M, K) o1 S) (h2 : Rz X k (a.toNat, ls, st, M, K) o2 S) : Rz X k (nd, ls, zi y :: zi x :: st, M, K) (if zw x = zw y then o1 else o2) S := by
  refine Rz.ite (fun hc => Rz.step hT he ?_ h1) (fun hc => Rz.step hT he ?_ h2)
  · simp only [zstp]; rw [if_neg (by simpa [zcd] using hc)]; rfl
  · simp only [zstp]; rw [if_pos (by simpa [zcd] using hc)]; rfl
theorem z_iclt (hT : zT k = T) (he : T[nd]? = some (17, pc, nx, a, 2, l)) {x y : Int} (h1 : Rz X k (a.toNat, ls, st, M, K) o1 S) (h2 : Rz X k (nx, ls, st, M, K) o2 S) : Rz X k (nd, ls, zi y :: zi x :: st, M, K) (if zw x < zw y then o1 else o2) S := by
  refine Rz.ite (fun hc => Rz.step hT he ?_ h1) (fun hc => Rz.step hT he ?_ h2)
  · simp only [zstp]; rw [if_pos (by simpa [zcd] using hc)]; rfl
  · simp only [zstp]; rw [if_neg (by simpa [zcd] using hc)]; rfl
theorem z_icge (hT : zT k = T) (he : T[nd]? = some (17, pc, nx, a, 3, l)) {x y : Int} (h1 : Rz X k (a.toNat, ls, st, M, K) o1 S) (h2 : Rz X k (nx, ls, st, M, K) o2 S) : Rz X k (nd, ls, zi y :: zi x :: st, M, K) (if zw y ≤ zw x then o1 else o2) S := by
  refine Rz.ite (fun hc => Rz.step hT he ?_ h1) (fun hc => Rz.step hT he ?_ h2)
  · simp only [zstp]; rw [if_pos (by simpa [zcd] using hc)]; rfl
  · simp only [zstp]; rw [if_neg (by simpa [zcd] using hc)]; rfl
theorem z_icgt (hT : zT k = T) (he : T[nd]? = some (17, pc, nx, a, 4, l)) {x y : Int} (h1 : Rz X k (a.toNat, ls, st, M, K) o1 S) (h2 : Rz X k (nx, ls, st, M, K) o2 S) : Rz X k (nd, ls, zi y :: zi x :: st, M, K) (if zw y < zw x then o1 else o2) S := by
  refine Rz.ite (fun hc => Rz.step hT he ?_ h1) (fun hc => Rz.step hT he ?_ h2)
  · simp only [zstp]; rw [if_pos (by simpa [zcd] using hc)]; rfl
  · simp only [zstp]; rw [if_neg (by simpa [zcd] using hc)]; rfl
theorem z_icle (hT : zT k = T) (he : T[nd]? = some (17, pc, nx, a, 5, l)) {x y : Int} (h1 : Rz X k (a.toNat, ls, st, M, K) o1 S) (h2 : Rz X k (nx, ls, st, M, K) o2 S) : Rz X k (nd, ls, zi y :: zi x :: st, M, K) (if zw x ≤ zw y then o1 else o2) S := by
  refine Rz.ite (fun hc => Rz.step hT he ?_ h1) (fun hc => Rz.step hT he ?_ h2)
  · simp only [zstp]; rw [if_pos (by simpa [zcd] using hc)]; rfl
  · simp only [zstp]; rw [if_neg (by simpa [zcd] using hc)]; rfl
theorem z_getf (hT : zT k = T) (he : T[nd]? = some (20, pc, nx, a, b, l)) {r : Int} {oc : Int → Option α} (h : ∀ v, Rz X k (nx, ls, zi v :: st, M, K) (oc v) S) : Rz X k (nd, ls, zr r :: st, M, K) ((zgf K M a.toNat (l.getD 1 0).toNat r b).bind oc) S := by
  intro z hz P hP
  obtain ⟨v, hv, hz⟩ := Option.bind_eq_some_iff.mp hz
  exact zG.step hT he (by simp only [zstp, hv]; rfl) (h v z hz P hP)
theorem z_getr (hT : zT k = T) (he : T[nd]? = some (21, pc, nx, a, b, l)) {r : Int} {oc : Int → Option α} (h : ∀ v, 1 ≤ v → Rz X k (nx, ls, zr v :: st, M, K) (oc v) S) : Rz X k (nd, ls, zr r :: st, M, K) ((zgr K M a.toNat (l.getD 1 0).toNat r b).bind oc) S := by
  intro z hz P hP
  obtain ⟨v, hv, hz⟩ := Option.bind_eq_some_iff.mp hz
  exact zG.step hT he (by simp only [zstp, hv]; rfl) (h v (zgr_ge hv) z hz P hP)
theorem z_iald (hT : zT k = T) (he : T[nd]? = some (24, pc, nx, a, b, l)) {r i : Int} {oc : Int → Option α} (h : ∀ v, Rz X k (nx, ls, zi v :: st, M, K) (oc v) S) : Rz X k (nd, ls, zi i :: zr r :: st, M, K) ((zga K M 100 r i).bind oc) S := by
  intro z hz P hP
  obtain ⟨v, hv, hz⟩ := Option.bind_eq_some_iff.mp hz
  exact zG.step hT he (by simp only [zstp, hv]; rfl) (h v z hz P hP)
theorem z_bald (hT : zT k = T) (he : T[nd]? = some (25, pc, nx, a, b, l)) {r i : Int} {oc : Int → Option α} (h : ∀ v, Rz X k (nx, ls, zi v :: st, M, K) (oc v) S) : Rz X k (nd, ls, zi i :: zr r :: st, M, K) ((zga K M 101 r i).bind oc) S := by
  intro z hz P hP
  obtain ⟨v, hv, hz⟩ := Option.bind_eq_some_iff.mp hz
  exact zG.step hT he (by simp only [zstp, hv]; rfl) (h v z hz P hP)
theorem z_lald (hT : zT k = T) (he : T[nd]? = some (26, pc, nx, a, b, l)) {r i : Int} {oc : Int → Option α} (h : ∀ v, Rz X k (nx, ls, zl v :: st, M, K) (oc v) S) : Rz X k (nd, ls, zi i :: zr r :: st, M, K) ((zga K M 102 r i).bind oc) S := by
  intro z hz P hP
  obtain ⟨v, hv, hz⟩ := Option.bind_eq_some_iff.mp hz
  exact zG.step hT he (by simp only [zstp, hv]; rfl) (h v z hz P hP)
theorem z_aald (hT : zT k = T) (he : T[nd]? = some (27, pc, nx, a, b, l)) {r i : Int} {oc : Int → Option α} (h : ∀ v, 1 ≤ v → Rz X k (nx, ls, zr v :: st, M, K) (oc v) S) : Rz X k (nd, ls, zi i :: zr r :: st, M, K) ((zgq K M a.toNat r i).bind oc) S := by
  intro z hz P hP
  obtain ⟨v, hv, hz⟩ := Option.bind_eq_some_iff.mp hz
  exact zG.step hT he (by simp only [zstp, hv]; rfl) (h v (zgq_ge hv) z hz P hP)
theorem z_alen (hT : zT k = T) (he : T[nd]? = some (32, pc, nx, a, b, l)) {r : Int} {oc : Int → Option α} (h : ∀ v, Rz X k (nx, ls, zi v :: st, M, K) (oc v) S) : Rz X k (nd, ls, zr r :: st, M, K) ((zln K a.toNat r).bind oc) S := by
  intro z hz P hP
  obtain ⟨v, hv, hz⟩ := Option.bind_eq_some_iff.mp hz
  exact zG.step hT he (by simp only [zstp, hv]; rfl) (h v z hz P hP)
theorem z_putf (hT : zT k = T) (he : T[nd]? = some (22, pc, nx, a, b, l)) {r v : Int} {oc : zM → Option α} (h : ∀ M', Rz X k (nx, ls, st, M', K) (oc M') S) : Rz X k (nd, ls, zi v :: zr r :: st, M, K) ((zpf K M a.toNat (l.getD 1 0).toNat r b v).bind oc) S := by
  intro z hz P hP
  obtain ⟨v', hv, hz⟩ := Option.bind_eq_some_iff.mp hz
  exact zG.step hT he (by simp only [zstp, hv]; rfl) (h v' z hz P hP)
theorem z_putr (hT : zT k = T) (he : T[nd]? = some (23, pc, nx, a, b, l)) {r v : Int} {oc : zM → Option α} (h1 : 1 ≤ v) (h : ∀ M', Rz X k (nx, ls, st, M', K) (oc M') S) : Rz X k (nd, ls, zr v :: zr r :: st, M, K) ((zpf K M a.toNat (l.getD 1 0).toNat r b v).bind oc) S := by
  intro z hz P hP
  obtain ⟨v', hv, hz⟩ := Option.bind_eq_some_iff.mp hz
  exact zG.step hT he (by simp only [zstp, if_pos h1, hv]; rfl) (h v' z hz P hP)
theorem z_iast (hT : zT k = T) (he : T[nd]? = some (28, pc, nx, a, b, l)) {r i v : Int} {oc : zM → Option α} (h : ∀ M', Rz X k (nx, ls, st, M', K) (oc M') S) : Rz X k (nd, ls, zi v :: zi i :: zr r :: st, M, K) ((zpa K M 100 r i v).bind oc) S := by
  intro z hz P hP
  obtain ⟨v', hv, hz⟩ := Option.bind_eq_some_iff.mp hz
  exact zG.step hT he (by simp only [zstp, hv]; rfl) (h v' z hz P hP)
theorem z_bast (hT : zT k = T) (he : T[nd]? = some (29, pc, nx, a, b, l)) {r i v : Int} {oc : zM → Option α} (h : ∀ M', Rz X k (nx, ls, st, M', K) (oc M') S) : Rz X k (nd, ls, zi v :: zi i :: zr r :: st, M, K) ((zpa K M 101 r i (zb8 v)).bind oc) S := by
  intro z hz P hP
  obtain ⟨v', hv, hz⟩ := Option.bind_eq_some_iff.mp hz
  exact zG.step hT he (by simp only [zstp, hv]; rfl) (h v' z hz P hP)
theorem z_last (hT : zT k = T) (he : T[nd]? = some (30, pc, nx, a, b, l)) {r i v : Int} {oc : zM → Option α} (h : ∀ M', Rz X k (nx, ls, st, M', K) (oc M') S) : Rz X k (nd, ls, zl v :: zi i :: zr r :: st, M, K) ((zpa K M 102 r i v).bind oc) S := by
  intro z hz P hP
  obtain ⟨v', hv, hz⟩ := Option.bind_eq_some_iff.mp hz
  exact zG.step hT he (by simp only [zstp, hv]; rfl) (h v' z hz P hP)
theorem z_mmax (hT : zT k = T) (he : T[nd]? = some (54, pc, nx, a, 0, l)) {x y : Int} (hr : zroom st = true) (h : Rz X k (nx, ls, zi (zmax x y) :: st, M, K) o S) : Rz X k (nd, ls, zi y :: zi x :: st, M, K) o S := Rz.step hT he (by simp only [zstp]; rw [if_pos hr]; rfl) h
theorem z_mmin (hT : zT k = T) (he : T[nd]? = some (54, pc, nx, a, 1, l)) {x y : Int} (hr : zroom st = true) (h : Rz X k (nx, ls, zi (zmin x y) :: st, M, K) o S) : Rz X k (nd, ls, zi y :: zi x :: st, M, K) o S := Rz.step hT he (by simp only [zstp]; rw [if_pos hr]; rfl) h
theorem z_ldcs (hT : zT k = T) (he : T[nd]? = some (43, pc, nx, a, b, l)) (h : Rz X k (nx, ls, zr a :: st, M, K) o S) : Rz X k (nd, ls, st, M, K) o S := Rz.step hT he rfl h
theorem z_slen (hT : zT k = T) (he : T[nd]? = some (46, pc, nx, a, b, l)) (h : Rz X k (nx, ls, zi X.1 :: st, M, K) o S) : Rz X k (nd, ls, zr (-1) :: st, M, K) o S := Rz.step hT he rfl h
theorem z_sald (hT : zT k = T) (he : T[nd]? = some (45, pc, nx, a, b, l)) {i : Int} {oc : Int → Option α} (h : ∀ v, Rz X k (nx, ls, zi v :: st, M, K) (oc v) S) : Rz X k (nd, ls, zi i :: zr (-1) :: st, M, K) ((zscr X i).bind oc) S := by
  intro z hz P hP
  obtain ⟨v, hv, hz⟩ := Option.bind_eq_some_iff.mp hz
  unfold zscr at hv
  split at hv
  · rename_i q
    cases hv
    exact zG.step hT he (by simp only [zstp]; rw [if_pos ⟨trivial, q.1, q.2⟩]; rfl) (h _ z hz P hP)
  · cases hv
theorem z_gs0 (hT : zT k = T) (he : T[nd]? = some (47, pc, nx, 0, b, l)) (h : Rz X k (nx, ls, zi 1 :: st, M, K) o S) : Rz X k (nd, ls, st, M, K) o S := Rz.step hT he rfl h
theorem z_gs1 (hT : zT k = T) (he : T[nd]? = some (47, pc, nx, 1, b, l)) (h : Rz X k (nx, ls, zr (-20) :: st, M, K) o S) : Rz X k (nd, ls, st, M, K) o S := Rz.step hT he rfl h
theorem z_sval (hT : zT k = T) (he : T[nd]? = some (48, pc, nx, a, b, l)) {r : Int} (hr : -5 ≤ r ∧ r ≤ -2) (h : Rz X k (nx, ls, zr (r - 8) :: st, M, K) o S) : Rz X k (nd, ls, zr r :: st, M, K) o S := Rz.step hT he (by simp only [zstp]; rw [if_pos hr]; rfl) h
theorem z_scod (hT : zT k = T) (he : T[nd]? = some (49, pc, nx, a, b, l)) {r : Int} (hr : -5 ≤ r ∧ r ≤ -2) (h : Rz X k (nx, ls, zi 0 :: st, M, K) o S) : Rz X k (nd, ls, zr r :: st, M, K) o S := Rz.step hT he (by simp only [zstp]; rw [if_pos hr]; rfl) h
theorem z_sbl (hT : zT k = T) (he : T[nd]? = some (50, pc, nx, a, b, l)) {r : Int} (hr : -13 ≤ r ∧ r ≤ -10) (h : Rz X k (nx, ls, zi ((zSb.getD (-10 - r).toNat []).length : Int) :: st, M, K) o S) : Rz X k (nd, ls, zr r :: st, M, K) o S := Rz.step hT he (by simp only [zstp]; rw [if_pos hr]; rfl) h
def zsb (r i : Int) : Option Int := if (-13 ≤ r ∧ r ≤ -10) ∧ 0 ≤ zw i ∧ zw i < ((zSb.getD (-10 - r).toNat []).length : Int) then some ((zSb.getD (-10 - r).toNat []).getD (zw i).toNat 0) else none
theorem z_sba (hT : zT k = T) (he : T[nd]? = some (51, pc, nx, a, b, l)) {r i : Int} {oc : Int → Option α} (h : ∀ v, Rz X k (nx, ls, zi v :: st, M, K) (oc v) S) : Rz X k (nd, ls, zi i :: zr r :: st, M, K) ((zsb r i).bind oc) S := by
  intro z hz P hP
  obtain ⟨v, hv, hz⟩ := Option.bind_eq_some_iff.mp hz
  unfold zsb at hv
  split at hv
  · rename_i q
    cases hv
    exact zG.step hT he (by simp only [zstp]; rw [if_pos q]; rfl) (h _ z hz P hP)
  · cases hv
theorem z_iret (hT : zT k = T) (he : T[nd]? = some (40, pc, nx, a, b, l)) {x : α} {v : Int} (h : ∀ P, S x P → P (some (zi v), M, K)) : Rz X k (nd, ls, [zi v], M, K) (some x) S := Rz.here fun P hP => zG.ret hT he rfl (h P hP)
theorem z_vret (hT : zT k = T) (he : T[nd]? = some (41, pc, nx, a, b, l)) {x : α} (h : ∀ P, S x P → P (none, M, K)) : Rz X k (nd, ls, [], M, K) (some x) S := Rz.here fun P hP => zG.ret hT he rfl (h P hP)
theorem z_zret (hT : zT k = T) (he : T[nd]? = some (42, pc, nx, a, b, l)) {x : α} {v : Int} (hv : v = 0 ∨ v = 1) (h : ∀ P, S x P → P (some (zi v), M, K)) : Rz X k (nd, ls, [zi v], M, K) (some x) S := Rz.here fun P hP => zG.ret hT he (by simp only [zstp]; rw [if_pos hv]) (h P hP)
theorem z_zretb (hT : zT k = T) (he : T[nd]? = some (42, pc, nx, a, b, l)) {v : Int} {oc : Int → Option α} (h : ∀ x, oc v = some x → ∀ P, S x P → P (some (zi v), M, K)) : Rz X k (nd, ls, [zi v], M, K) ((zbr v).bind oc) S := by
  intro z hz P hP
  obtain ⟨v', hv, hz⟩ := Option.bind_eq_some_iff.mp hz
  unfold zbr at hv
  split at hv
  · rename_i q
    cases hv
    exact zG.ret hT he (by simp only [zstp]; rw [if_pos q]) (h z hz P hP)
  · cases hv
def zcr (v : Int) : Option Int := if 0 ≤ v ∧ v < 128 then some v else none
theorem z_cretb (hT : zT k = T) (he : T[nd]? = some (52, pc, nx, a, b, l)) {v : Int} {oc : Int → Option α} (h : ∀ x, oc v = some x → ∀ P, S x P → P (some (zi v), M, K)) : Rz X k (nd, ls, [zi v], M, K) ((zcr v).bind oc) S := by
  intro z hz P hP
  obtain ⟨v', hv, hz⟩ := Option.bind_eq_some_iff.mp hz
  unfold zcr at hv
  split at hv
  · rename_i q
    cases hv
    exact zG.ret hT he (by simp only [zstp]; rw [if_pos q]) (h z hz P hP)
  · cases hv
/-- what a call wants of the stack -/
def zcal (st : List zV) (na : Nat) (k' : Nat) (as lsE st' : List zV) : Prop := (st.take na).reverse = as ∧ st.drop na = st' ∧ zroom st' = true ∧ na ≤ st.length ∧ (zargs as).length ≤ znl k' ∧ zent (znl k') as = lsE
theorem zG.call {en : zE} {k' nx' : Nat} {as st' lsE : List zV} {P : zRes → Prop} {v : Option zV} {M' : zM} {K' : zK} (hT : zT k = T) (he : T[nd]? = some en) (hs : zstp X en ls st M K = some (.inr (.inl (k', as, nx', ls', st')))) (hl : (zargs as).length ≤ znl k') (hE : zent (znl k') as = lsE) (h1 : zG X k' (0, lsE, [], M, K) (fun r => r = (v, M', K'))) (h2 : zG X k (nx', ls', zpush v st', M', K') P) : zG X k (nd, ls, st, M, K) P := by
  obtain ⟨n1, r1, a1, rfl⟩ := h1
  obtain ⟨n2, r2, a2, a3⟩ := h2
  refine ⟨n1 + n2 + 1, r2, ?_, a3⟩
  rw [zrun, hT, he]
  dsimp only
  rw [hs]
  dsimp only
  rw [if_pos hl, hE, zrun_le a1 (by omega)]
  exact zrun_le a2 (by omega)
theorem z_cs (hT : zT k = T) (he : T[nd]? = some (36, pc, nx, a, b, l)) {as st' lsE : List zV} {o1 : Option β} {oc : β → Option α} {val : β → Option zV} {mem : β → zM} (hc : zcal st (l.getD 1 0).toNat a.toNat as lsE st') (h1 : Rz X a.toNat (0, lsE, [], M, K) o1 (fun x P => P (val x, mem x, K))) (h2 : ∀ x, Rz X k (nx, ls, zpush (val x) st', mem x, K) (oc x) S) : Rz X k (nd, ls, st, M, K) (o1.bind oc) S := by
  intro z hz P hP
  obtain ⟨v, hv, hz⟩ := Option.bind_eq_some_iff.mp hz
  obtain ⟨c1, c2, c3, c4, c5, c6⟩ := hc
  exact zG.call hT he (by simp only [zstp, c1, c2]; rw [if_pos ⟨c3, c4⟩]) c5 c6 (h1 v hv _ rfl) (h2 v z hz P hP)
theorem z_cv (hT : zT k = T) (he : T[nd]? = some (37, pc, nx, a, b, l)) {as st' lsE : List zV} {r : Int} {o1 : Option β} {oc : β → Option α} {val : β → Option zV} {mem : β → zM} (hc : zcal st (l.getD 1 0).toNat a.toNat (zr r :: as) lsE st') (h1 : 1 ≤ r → Rz X a.toNat (0, lsE, [], M, K) o1 (fun x P => P (val x, mem x, K))) (h2 : ∀ x, Rz X k (nx, ls, zpush (val x) st', mem x, K) (oc x) S) : Rz X k (nd, ls, st, M, K) ((zgk K r (l.getD 2 0).toNat (l.getD 3 0).toNat).bind fun _ => o1.bind oc) S := by
  intro z hz P hP
  obtain ⟨u, hu, hz⟩ := Option.bind_eq_some_iff.mp hz
  obtain ⟨v, hv, hz⟩ := Option.bind_eq_some_iff.mp hz
  unfold zgk at hu
  split at hu
  · rename_i q
    obtain ⟨c1, c2, c3, c4, c5, c6⟩ := hc
    have hr : 1 ≤ r := by
      obtain ⟨j, rfl, -⟩ := zkd_at q
      omega
    exact zG.call hT he (by simp only [zstp, c1, c2]; rw [if_pos ⟨c3, c4⟩, if_pos q]) c5 c6 (h1 hr v hv _ rfl) (h2 v z hz P hP)
  · cases hu
theorem z_c53 (hT : zT k = T) (he : T[nd]? = some (53, pc, nx, a, b, l)) {as st' lsE : List zV} {r : Int} {o1 : Option β} {oc : β → Option α} {val : β → Option zV} {mem : β → zM} (hr : -5 ≤ r ∧ r ≤ -2) (hc : zcal st (l.getD 1 0).toNat a.toNat (zr r :: as) lsE st') (h1 : Rz X a.toNat (0, lsE, [], M, K) o1 (fun x P => P (val x, mem x, K))) (h2 : ∀ x, Rz X k (nx, ls, zpush (val x) st', mem x, K) (oc x) S) : Rz X k (nd, ls, st, M, K) (o1.bind oc) S := by
  intro z hz P hP
  obtain ⟨v, hv, hz⟩ := Option.bind_eq_some_iff.mp hz
  obtain ⟨c1, c2, c3, c4, c5, c6⟩ := hc
  exact zG.call hT he (by simp only [zstp, c1, c2]; rw [if_pos ⟨c3, c4⟩, if_pos hr]) c5 c6 (h1 v hv _ rfl) (h2 v z hz P hP)
theorem z_sw (hT : zT k = T) (he : T[nd]? = some (19, pc, nx, a, b, l)) {x : Int} (h1 : (zw x < a ∨ b < zw x) → Rz X k (nx, ls, st, M, K) o S) (h2 : ¬ (zw x < a ∨ b < zw x) → ∃ t, l[(zw x - a).toNat]? = some t ∧ Rz X k (t.toNat, ls, st, M, K) o S) : Rz X k (nd, ls, zi x :: st, M, K) o S := by
  by_cases hc : zw x < a ∨ b < zw x
  · exact Rz.step hT he (by simp only [zstp]; rw [if_pos hc]; rfl) (h1 hc)
  · obtain ⟨t, e1, e2⟩ := h2 hc
    exact Rz.step hT he (by simp only [zstp]; rw [if_neg hc, e1]; rfl) e2
end
