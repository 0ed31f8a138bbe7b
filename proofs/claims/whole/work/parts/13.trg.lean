set_option maxRecDepth 20000 in
theorem t_qmd_used (X : Int × (Int → Int)) (n : Nat) (K : zK) (M : zM) (self a1 a2 a3 a4 : Int) (g_self : 1 ≤ self) : Rz X 198 (0, [zr self, zi a1, zi a2, zi a3, zi a4, zU, zU, zU], [], M, K) (qmd_used n K M self a1 a2 a3 a4) (fun e P => P (some (zi e.1), e.2, K)) := by
  have h198 : zT 198 = zt198 := rfl
  unfold qmd_used
  refine z_iload h198 rfl rfl (Or.inl rfl) ?_
  refine z_cs (a := 195) (b := 0) (l := [332, 1]) (as := [zi a1]) (lsE := [zi a1]) (st' := []) (val := fun p => some (zi p)) (mem := fun _ => M) h198 rfl ⟨rfl, rfl, rfl, Nat.le_of_ble_eq_true rfl, Nat.le_of_ble_eq_true rfl, rfl⟩ (t_qmd_isLong X K M a1 ) (fun v1 => ?_)
  refine z_ifeq h198 rfl ?_ ?_
  · refine z_kill h198 rfl (ls' := [zU, zU, zU, zU, zU, zU, zU, zU]) rfl ?_
    refine z_iconst h198 rfl ?_
    exact z_iret h198 rfl (fun _ q => q)
  · refine z_iload h198 rfl rfl (Or.inl rfl) ?_
    refine z_ci2l h198 rfl ?_
    refine z_lconst h198 rfl ?_
    refine z_lconst h198 rfl ?_
    refine z_cs (a := 129) (b := 0) (l := [110, 3]) (as := [zl (zw a3), zl 0, zl 2]) (lsE := [zl (zw a3), zU, zl 0, zU, zl 2, zU]) (st' := []) (val := fun p => some (zi p)) (mem := fun _ => M) h198 rfl ⟨rfl, rfl, rfl, Nat.le_of_ble_eq_true rfl, Nat.le_of_ble_eq_true rfl, rfl⟩ (t_qmd_in X K M (zw a3) 0 2 ) (fun v2 => ?_)
    refine z_ifeq h198 rfl ?_ ?_
    · refine z_kill h198 rfl (ls' := [zU, zU, zU, zU, zU, zU, zU, zU]) rfl ?_
      refine z_iconst h198 rfl ?_
      exact z_iret h198 rfl (fun _ q => q)
    · refine z_iload h198 rfl rfl (Or.inr rfl) ?_
      refine z_ci2l h198 rfl ?_
      refine z_lconst h198 rfl ?_
      refine z_lconst h198 rfl ?_
      refine z_cs (a := 129) (b := 0) (l := [110, 3]) (as := [zl (zw a4), zl 0, zl 1]) (lsE := [zl (zw a4), zU, zl 0, zU, zl 1, zU]) (st' := []) (val := fun p => some (zi p)) (mem := fun _ => M) h198 rfl ⟨rfl, rfl, rfl, Nat.le_of_ble_eq_true rfl, Nat.le_of_ble_eq_true rfl, rfl⟩ (t_qmd_in X K M (zw a4) 0 1 ) (fun v3 => ?_)
      refine z_ifne h198 rfl ?_ ?_
      · refine z_kill h198 rfl (ls' := [zU, zU, zU, zU, zU, zU, zU, zU]) rfl ?_
        refine z_iconst h198 rfl ?_
        exact z_iret h198 rfl (fun _ q => q)
      · refine z_aload h198 rfl rfl (Or.inl rfl) (by omega) ?_
        refine z_cv (a := 137) (b := 0) (l := [135, 1, 12, 49]) (as := []) (lsE := [zr self]) (st' := []) (val := fun _ => none) (mem := fun p => p) h198 rfl ⟨rfl, rfl, rfl, Nat.le_of_ble_eq_true rfl, Nat.le_of_ble_eq_true rfl, rfl⟩ (fun g1 => (t_qmd_laysNow X n K M self (by omega))) (fun M4 => ?_)
        refine z_aload h198 rfl rfl (Or.inl rfl) (by omega) ?_
        refine z_iload h198 rfl rfl (Or.inl rfl) ?_
        refine z_iload h198 rfl rfl (Or.inl rfl) ?_
        refine z_cv (a := 194) (b := 0) (l := [335, 3, 12, 49]) (as := [zi a1, zi a2]) (lsE := [zr self, zi a1, zi a2, zU, zU]) (st' := []) (val := fun p => some (zi p.1)) (mem := fun p => p.2) h198 rfl ⟨rfl, rfl, rfl, Nat.le_of_ble_eq_true rfl, Nat.le_of_ble_eq_true rfl, rfl⟩ (fun g1 => (t_qmd_runs X n K M4 self a1 a2 (by omega))) (fun p5 => ?_)
        refine z_istore h198 rfl (Or.inr rfl) (ls' := [zr self, zi a1, zi a2, zi a3, zi a4, zi p5.1, zU, zU]) rfl ?_
        refine z_iconst h198 rfl ?_
        refine z_istore h198 rfl (Or.inr rfl) (ls' := [zr self, zi a1, zi a2, zi a3, zi a4, zi p5.1, zi 0, zU]) rfl ?_
        refine z_iconst h198 rfl ?_
        refine z_istore h198 rfl (Or.inr rfl) (ls' := [zr self, zi a1, zi a2, zi a3, zi a4, zi p5.1, zi 0, zi 0]) rfl ?_
        refine z_kill h198 rfl (ls' := [zr self, zi a1, zU, zi a3, zi a4, zi p5.1, zi 0, zi 0]) rfl ?_
        refine Rz.wh (hd := fun s6 => (28, [zr self, zi a1, zU, zi a3, zi a4, zi p5.1, zi s6.1, zi s6.2], [], p5.2, K)) (fun s6 => ?_) n (0, 0)
        (try dsimp only)
        refine z_iload h198 rfl rfl (Or.inr rfl) ?_
        refine z_aload h198 rfl rfl (Or.inl rfl) (by omega) ?_
        refine z_getf (a := 12) (b := 24) (l := [310, 49]) h198 rfl (fun v7 => ?_)
        refine z_icge h198 rfl ?_ ?_
        · refine z_iload h198 rfl rfl (Or.inr rfl) ?_
          refine z_ifne h198 rfl ?_ ?_
          · refine z_iload h198 rfl rfl (Or.inr rfl) ?_
            refine z_goto h198 rfl ?_
            refine z_kill h198 rfl (ls' := [zU, zU, zU, zU, zU, zU, zU, zU]) rfl ?_
            exact z_iret h198 rfl (fun _ q => q)
          · refine z_iload h198 rfl rfl (Or.inr rfl) ?_
            refine z_kill h198 rfl (ls' := [zU, zU, zU, zU, zU, zU, zU, zU]) rfl ?_
            exact z_iret h198 rfl (fun _ q => q)
        · refine z_iload h198 rfl rfl (Or.inr rfl) ?_
          refine z_aload h198 rfl rfl (Or.inl rfl) (by omega) ?_
          refine z_getr (a := 12) (b := 25) (l := [63, 49]) h198 rfl (fun r8 g_r8 => ?_)
          refine z_iload h198 rfl rfl (Or.inr rfl) ?_
          refine z_iald h198 rfl (fun v9 => ?_)
          refine z_iconst h198 rfl ?_
          refine Rz.bind (t := fun j10 => (47, [zr self, zi a1, zU, zi a3, zi a4, zi p5.1, zU, zi s6.2], [zi j10, zi s6.1], p5.2, K)) ?_ (fun j10 => ?_)
          · refine z_icge h198 rfl ?_ ?_
            · refine z_aload h198 rfl rfl (Or.inl rfl) (by omega) ?_
              refine z_getr (a := 12) (b := 25) (l := [63, 49]) h198 rfl (fun r13 g_r13 => ?_)
              refine z_iload h198 rfl rfl (Or.inr rfl) ?_
              refine z_iald h198 rfl (fun v14 => ?_)
              refine z_iconst h198 rfl ?_
              refine z_isub h198 rfl ?_
              refine z_kill h198 rfl (ls' := [zr self, zi a1, zU, zi a3, zi a4, zi p5.1, zU, zi s6.2]) rfl ?_
              exact Rz.here fun _ q => q
            · refine z_iconst h198 rfl ?_
              refine z_goto h198 rfl ?_
              refine z_kill h198 rfl (ls' := [zr self, zi a1, zU, zi a3, zi a4, zi p5.1, zU, zi s6.2]) rfl ?_
              exact Rz.here fun _ q => q
          · (try dsimp only)
            refine z_iload h198 rfl rfl (Or.inl rfl) ?_
            refine Rz.bind (t := fun j11 => (52, [zr self, zi a1, zU, zi a3, zi a4, zi p5.1, zU, zi s6.2], [zi j11, zi s6.1], p5.2, K)) ?_ (fun j11 => ?_)
            · refine z_icne h198 rfl ?_ ?_
              · refine z_iload h198 rfl rfl (Or.inl rfl) ?_
                refine z_goto h198 rfl ?_
                refine z_kill h198 rfl (ls' := [zr self, zi a1, zU, zi a3, zi a4, zi p5.1, zU, zi s6.2]) rfl ?_
                exact Rz.here fun _ q => q
              · refine z_iconst h198 rfl ?_
                refine z_kill h198 rfl (ls' := [zr self, zi a1, zU, zi a3, zi a4, zi p5.1, zU, zi s6.2]) rfl ?_
                exact Rz.here fun _ q => q
            · (try dsimp only)
              refine z_iadd h198 rfl ?_
              refine z_istoreL (lsf := fun x12 => [zr self, zi a1, zU, zi a3, zi a4, zi p5.1, zi x12, zi s6.2]) h198 rfl (Or.inr rfl) (fun _ => rfl) (fun x12 => ?_)
              (try dsimp only)
              refine z_iinc h198 rfl rfl (ls' := [zr self, zi a1, zU, zi a3, zi a4, zi p5.1, zi x12, zi (s6.2 + 1)]) rfl ?_
              refine z_goto h198 rfl ?_
              refine z_kill h198 rfl (ls' := [zr self, zi a1, zU, zi a3, zi a4, zi p5.1, zi x12, zi (s6.2 + 1)]) rfl ?_
              exact Rz.here fun _ q => q
set_option maxRecDepth 20000 in
theorem t_qmd_tuned (X : Int × (Int → Int)) (n : Nat) (K : zK) (M : zM) (self a1 a2 a3 : Int) (g_self : 1 ≤ self) : Rz X 199 (0, [zr self, zi a1, zi a2, zi a3, zU, zU, zU, zU], [], M, K) (qmd_tuned n K M self a1 a2 a3) (fun e P => P (some (zi e.1), e.2, K)) := by
  have h199 : zT 199 = zt199 := rfl
  unfold qmd_tuned
  refine z_iload h199 rfl rfl (Or.inl rfl) ?_
  refine z_cs (a := 195) (b := 0) (l := [332, 1]) (as := [zi a1]) (lsE := [zi a1]) (st' := []) (val := fun p => some (zi p)) (mem := fun _ => M) h199 rfl ⟨rfl, rfl, rfl, Nat.le_of_ble_eq_true rfl, Nat.le_of_ble_eq_true rfl, rfl⟩ (t_qmd_isLong X K M a1 ) (fun v1 => ?_)
  refine z_ifeq h199 rfl ?_ ?_
  · refine z_kill h199 rfl (ls' := [zU, zU, zU, zU, zU, zU, zU, zU]) rfl ?_
    refine z_iconst h199 rfl ?_
    exact z_iret h199 rfl (fun _ q => q)
  · refine z_iload h199 rfl rfl (Or.inl rfl) ?_
    refine z_ci2l h199 rfl ?_
    refine z_lconst h199 rfl ?_
    refine z_lconst h199 rfl ?_
    refine z_cs (a := 129) (b := 0) (l := [110, 3]) (as := [zl (zw a3), zl 0, zl 2]) (lsE := [zl (zw a3), zU, zl 0, zU, zl 2, zU]) (st' := []) (val := fun p => some (zi p)) (mem := fun _ => M) h199 rfl ⟨rfl, rfl, rfl, Nat.le_of_ble_eq_true rfl, Nat.le_of_ble_eq_true rfl, rfl⟩ (t_qmd_in X K M (zw a3) 0 2 ) (fun v2 => ?_)
    refine z_ifne h199 rfl ?_ ?_
    · refine z_kill h199 rfl (ls' := [zU, zU, zU, zU, zU, zU, zU, zU]) rfl ?_
      refine z_iconst h199 rfl ?_
      exact z_iret h199 rfl (fun _ q => q)
    · refine z_iconst h199 rfl ?_
      refine z_istore h199 rfl (Or.inr rfl) (ls' := [zr self, zi a1, zi a2, zi a3, zi 0, zU, zU, zU]) rfl ?_
      refine z_iconst h199 rfl ?_
      refine z_istore h199 rfl (Or.inr rfl) (ls' := [zr self, zi a1, zi a2, zi a3, zi 0, zi (-1), zU, zU]) rfl ?_
      refine z_iconst h199 rfl ?_
      refine z_istore h199 rfl (Or.inr rfl) (ls' := [zr self, zi a1, zi a2, zi a3, zi 0, zi (-1), zi 0, zU]) rfl ?_
      refine z_kill h199 rfl (ls' := [zr self, zi a1, zi a2, zi a3, zi 0, zi (-1), zi 0, zU]) rfl ?_
      refine Rz.bind (t := fun e4 => (53, [zr self, zi a1, zi a2, zi a3, zi e4.1, zi e4.2.1, zi e4.2.2.1, zU], [], e4.2.2.2, K)) ?_ (fun e4 => ?_)
      · refine Rz.wh (hd := fun s3 => (17, [zr self, zi a1, zi a2, zi a3, zi s3.1, zi s3.2.1, zi s3.2.2.1, zU], [], s3.2.2.2, K)) (fun s3 => ?_) n (0, (-1), 0, M)
        (try dsimp only)
        refine z_iload h199 rfl rfl (Or.inr rfl) ?_
        refine z_aload h199 rfl rfl (Or.inl rfl) (by omega) ?_
        refine z_getf (a := 12) (b := 2) (l := [16, 49]) h199 rfl (fun v9 => ?_)
        refine z_aload h199 rfl rfl (Or.inl rfl) (by omega) ?_
        refine z_getf (a := 12) (b := 2) (l := [16, 49]) h199 rfl (fun v10 => ?_)
        refine z_imul h199 rfl ?_
        refine z_icge h199 rfl ?_ ?_
        · exact Rz.here fun _ q => q
        · refine z_aload h199 rfl rfl (Or.inl rfl) (by omega) ?_
          refine z_iconst h199 rfl ?_
          refine z_iload h199 rfl rfl (Or.inr rfl) ?_
          refine z_aload h199 rfl rfl (Or.inl rfl) (by omega) ?_
          refine z_getf (a := 12) (b := 2) (l := [16, 49]) h199 rfl (fun v11 => ?_)
          refine z_div h199 rfl (fun v12 => ?_)
          refine z_iload h199 rfl rfl (Or.inr rfl) ?_
          refine z_aload h199 rfl rfl (Or.inl rfl) (by omega) ?_
          refine z_getf (a := 12) (b := 2) (l := [16, 49]) h199 rfl (fun v13 => ?_)
          refine z_rem h199 rfl (fun v14 => ?_)
          refine z_aload h199 rfl rfl (Or.inl rfl) (by omega) ?_
          refine z_getf (a := 12) (b := 2) (l := [16, 49]) h199 rfl (fun v15 => ?_)
          refine z_cv (a := 136) (b := 0) (l := [131, 5, 12, 49]) (as := [zi 0, zi v12, zi v14, zi v15]) (lsE := [zr self, zi 0, zi v12, zi v14, zi v15, zU, zU]) (st' := []) (val := fun _ => none) (mem := fun p => p) h199 rfl ⟨rfl, rfl, rfl, Nat.le_of_ble_eq_true rfl, Nat.le_of_ble_eq_true rfl, rfl⟩ (fun g1 => (t_qmd_lays X n K s3.2.2.2 self 0 v12 v14 v15 (by omega))) (fun M16 => ?_)
          refine z_aload h199 rfl rfl (Or.inl rfl) (by omega) ?_
          refine z_iload h199 rfl rfl (Or.inl rfl) ?_
          refine z_iload h199 rfl rfl (Or.inl rfl) ?_
          refine z_cv (a := 194) (b := 0) (l := [335, 3, 12, 49]) (as := [zi a1, zi a2]) (lsE := [zr self, zi a1, zi a2, zU, zU]) (st' := []) (val := fun p => some (zi p.1)) (mem := fun p => p.2) h199 rfl ⟨rfl, rfl, rfl, Nat.le_of_ble_eq_true rfl, Nat.le_of_ble_eq_true rfl, rfl⟩ (fun g1 => (t_qmd_runs X n K M16 self a1 a2 (by omega))) (fun p17 => ?_)
          refine z_istore h199 rfl (Or.inr rfl) (ls' := [zr self, zi a1, zi a2, zi a3, zi s3.1, zi s3.2.1, zi s3.2.2.1, zi p17.1]) rfl ?_
          refine z_iload h199 rfl rfl (Or.inr rfl) ?_
          refine Rz.esc (t := fun j18 => (47, [zr self, zi a1, zi a2, zi a3, zU, zU, zi s3.2.2.1, zi p17.1], [], p17.2, K)) ?_ (fun j18 => ?_)
          · refine z_iflt h199 rfl ?_ ?_
            · refine z_kill h199 rfl (ls' := [zr self, zi a1, zi a2, zi a3, zU, zU, zi s3.2.2.1, zi p17.1]) rfl ?_
              exact Rz.here fun _ q => q
            · refine z_iload h199 rfl rfl (Or.inr rfl) ?_
              refine z_iload h199 rfl rfl (Or.inr rfl) ?_
              refine z_icge h199 rfl ?_ ?_
              · refine z_kill h199 rfl (ls' := [zr self, zi a1, zi a2, zi a3, zi s3.1, zi s3.2.1, zi s3.2.2.1, zU]) rfl ?_
                refine z_iinc h199 rfl rfl (ls' := [zr self, zi a1, zi a2, zi a3, zi s3.1, zi s3.2.1, zi (s3.2.2.1 + 1), zU]) rfl ?_
                refine z_goto h199 rfl ?_
                refine z_kill h199 rfl (ls' := [zr self, zi a1, zi a2, zi a3, zi s3.1, zi s3.2.1, zi (s3.2.2.1 + 1), zU]) rfl ?_
                exact Rz.here fun _ q => q
              · refine z_kill h199 rfl (ls' := [zr self, zi a1, zi a2, zi a3, zU, zU, zi s3.2.2.1, zi p17.1]) rfl ?_
                exact Rz.here fun _ q => q
          · (try dsimp only)
            refine z_iload h199 rfl rfl (Or.inr rfl) ?_
            refine z_istore h199 rfl (Or.inr rfl) (ls' := [zr self, zi a1, zi a2, zi a3, zi s3.2.2.1, zU, zi s3.2.2.1, zi p17.1]) rfl ?_
            refine z_iload h199 rfl rfl (Or.inr rfl) ?_
            refine z_istore h199 rfl (Or.inr rfl) (ls' := [zr self, zi a1, zi a2, zi a3, zi s3.2.2.1, zi p17.1, zi s3.2.2.1, zi p17.1]) rfl ?_
            refine z_kill h199 rfl (ls' := [zr self, zi a1, zi a2, zi a3, zi s3.2.2.1, zi p17.1, zi s3.2.2.1, zU]) rfl ?_
            refine z_iinc h199 rfl rfl (ls' := [zr self, zi a1, zi a2, zi a3, zi s3.2.2.1, zi p17.1, zi (s3.2.2.1 + 1), zU]) rfl ?_
            refine z_goto h199 rfl ?_
            refine z_kill h199 rfl (ls' := [zr self, zi a1, zi a2, zi a3, zi s3.2.2.1, zi p17.1, zi (s3.2.2.1 + 1), zU]) rfl ?_
            exact Rz.here fun _ q => q
      · (try dsimp only)
        refine z_iload h199 rfl rfl (Or.inl rfl) ?_
        refine z_ifne h199 rfl ?_ ?_
        · refine z_iload h199 rfl rfl (Or.inr rfl) ?_
          refine z_aload h199 rfl rfl (Or.inl rfl) (by omega) ?_
          refine z_getf (a := 12) (b := 2) (l := [16, 49]) h199 rfl (fun v5 => ?_)
          refine z_div h199 rfl (fun v6 => ?_)
          refine z_goto h199 rfl ?_
          refine z_kill h199 rfl (ls' := [zU, zU, zU, zU, zU, zU, zU, zU]) rfl ?_
          exact z_iret h199 rfl (fun _ q => q)
        · refine z_iload h199 rfl rfl (Or.inl rfl) ?_
          refine z_iconst h199 rfl ?_
          refine z_icne h199 rfl ?_ ?_
          · refine z_iload h199 rfl rfl (Or.inr rfl) ?_
            refine z_aload h199 rfl rfl (Or.inl rfl) (by omega) ?_
            refine z_getf (a := 12) (b := 2) (l := [16, 49]) h199 rfl (fun v7 => ?_)
            refine z_rem h199 rfl (fun v8 => ?_)
            refine z_goto h199 rfl ?_
            refine z_kill h199 rfl (ls' := [zU, zU, zU, zU, zU, zU, zU, zU]) rfl ?_
            exact z_iret h199 rfl (fun _ q => q)
          · refine z_iload h199 rfl rfl (Or.inr rfl) ?_
            refine z_kill h199 rfl (ls' := [zU, zU, zU, zU, zU, zU, zU, zU]) rfl ?_
            exact z_iret h199 rfl (fun _ q => q)
set_option maxRecDepth 20000 in
theorem t_qmd_isSheet (X : Int × (Int → Int)) (K : zK) (M : zM) (a0 a1 : Int) : Rz X 200 (0, [zi a0, zi a1], [], M, K) (qmd_isSheet K M a0 a1) (fun e P => P (some (zi e), M, K)) := by
  have h200 : zT 200 = zt200 := rfl
  unfold qmd_isSheet
  refine z_iload h200 rfl rfl (Or.inl rfl) ?_
  refine z_ci2l h200 rfl ?_
  refine z_lconst h200 rfl ?_
  refine z_lconst h200 rfl ?_
  refine z_cs (a := 129) (b := 0) (l := [110, 3]) (as := [zl (zw a0), zl 0, zl 3]) (lsE := [zl (zw a0), zU, zl 0, zU, zl 3, zU]) (st' := []) (val := fun p => some (zi p)) (mem := fun _ => M) h200 rfl ⟨rfl, rfl, rfl, Nat.le_of_ble_eq_true rfl, Nat.le_of_ble_eq_true rfl, rfl⟩ (t_qmd_in X K M (zw a0) 0 3 ) (fun v1 => ?_)
  refine z_ifeq h200 rfl ?_ ?_
  · refine z_kill h200 rfl (ls' := [zU, zU]) rfl ?_
    refine z_iconst h200 rfl ?_
    refine z_kill h200 rfl (ls' := [zU, zU]) rfl ?_
    exact z_zret h200 rfl (Or.inl rfl) (fun _ q => q)
  · refine z_iload h200 rfl rfl (Or.inl rfl) ?_
    refine z_ci2l h200 rfl ?_
    refine z_lconst h200 rfl ?_
    refine z_lconst h200 rfl ?_
    refine z_cs (a := 129) (b := 0) (l := [110, 3]) (as := [zl (zw a1), zl 0, zl 2]) (lsE := [zl (zw a1), zU, zl 0, zU, zl 2, zU]) (st' := []) (val := fun p => some (zi p)) (mem := fun _ => M) h200 rfl ⟨rfl, rfl, rfl, Nat.le_of_ble_eq_true rfl, Nat.le_of_ble_eq_true rfl, rfl⟩ (t_qmd_in X K M (zw a1) 0 2 ) (fun v2 => ?_)
    refine z_ifeq h200 rfl ?_ ?_
    · refine z_kill h200 rfl (ls' := [zU, zU]) rfl ?_
      refine z_iconst h200 rfl ?_
      refine z_kill h200 rfl (ls' := [zU, zU]) rfl ?_
      exact z_zret h200 rfl (Or.inl rfl) (fun _ q => q)
    · refine z_iconst h200 rfl ?_
      refine z_goto h200 rfl ?_
      refine z_kill h200 rfl (ls' := [zU, zU]) rfl ?_
      exact z_zret h200 rfl (Or.inr rfl) (fun _ q => q)
set_option maxRecDepth 20000 in
theorem t_qmd_sheet (X : Int × (Int → Int)) (n : Nat) (K : zK) (M : zM) (self a1 a2 a3 : Int) (g_self : 1 ≤ self) : Rz X 201 (0, [zr self, zi a1, zi a2, zi a3, zU], [], M, K) (qmd_sheet n K M self a1 a2 a3) (fun e P => P (some (zi e.1), e.2, K)) := by
  have h201 : zT 201 = zt201 := rfl
  unfold qmd_sheet
  refine z_iload h201 rfl rfl (Or.inl rfl) ?_
  refine z_iload h201 rfl rfl (Or.inl rfl) ?_
  refine z_cs (a := 200) (b := 0) (l := [339, 2]) (as := [zi a1, zi a2]) (lsE := [zi a1, zi a2]) (st' := []) (val := fun p => some (zi p)) (mem := fun _ => M) h201 rfl ⟨rfl, rfl, rfl, Nat.le_of_ble_eq_true rfl, Nat.le_of_ble_eq_true rfl, rfl⟩ (t_qmd_isSheet X K M a1 a2 ) (fun v1 => ?_)
  refine z_ifeq h201 rfl ?_ ?_
  · refine z_kill h201 rfl (ls' := [zU, zU, zU, zU, zU]) rfl ?_
    refine z_iconst h201 rfl ?_
    exact z_iret h201 rfl (fun _ q => q)
  · refine z_iload h201 rfl rfl (Or.inl rfl) ?_
    refine z_iconst h201 rfl ?_
    refine z_icle h201 rfl ?_ ?_
    · refine z_iload h201 rfl rfl (Or.inl rfl) ?_
      refine z_ifge h201 rfl ?_ ?_
      · refine z_aload h201 rfl rfl (Or.inl rfl) (by omega) ?_
        refine z_getr (a := 12) (b := 46) (l := [99, 49]) h201 rfl (fun r2 g_r2 => ?_)
        refine z_iload h201 rfl rfl (Or.inl rfl) ?_
        refine z_iload h201 rfl rfl (Or.inl rfl) ?_
        refine z_iast h201 rfl (fun M3 => ?_)
        refine z_aload h201 rfl rfl (Or.inl rfl) (by omega) ?_
        refine z_getr (a := 12) (b := 47) (l := [102, 49]) h201 rfl (fun r4 g_r4 => ?_)
        refine z_iload h201 rfl rfl (Or.inl rfl) ?_
        refine z_iload h201 rfl rfl (Or.inl rfl) ?_
        refine z_iast h201 rfl (fun M5 => ?_)
        refine z_iconst h201 rfl ?_
        refine z_istore h201 rfl (Or.inr rfl) (ls' := [zr self, zi a1, zi a2, zi a3, zi 0]) rfl ?_
        refine z_kill h201 rfl (ls' := [zr self, zi a1, zU, zU, zi 0]) rfl ?_
        refine Rz.wh (hd := fun s6 => (25, [zr self, zi a1, zU, zU, zi s6.1], [], s6.2, K)) (fun s6 => ?_) n (0, M5)
        (try dsimp only)
        refine z_iload h201 rfl rfl (Or.inr rfl) ?_
        refine z_iconst h201 rfl ?_
        refine z_icge h201 rfl ?_ ?_
        · refine z_iconst h201 rfl ?_
          exact z_iret h201 rfl (fun _ q => q)
        · refine z_aload h201 rfl rfl (Or.inl rfl) (by omega) ?_
          refine z_getr (a := 12) (b := 48) (l := [105, 49]) h201 rfl (fun r7 g_r7 => ?_)
          refine z_iconst h201 rfl ?_
          refine z_iload h201 rfl rfl (Or.inl rfl) ?_
          refine z_imul h201 rfl ?_
          refine z_iload h201 rfl rfl (Or.inr rfl) ?_
          refine z_iadd h201 rfl ?_
          refine z_iconst h201 rfl ?_
          refine z_iast h201 rfl (fun M8 => ?_)
          refine z_iinc h201 rfl rfl (ls' := [zr self, zi a1, zU, zU, zi (s6.1 + 1)]) rfl ?_
          refine z_goto h201 rfl ?_
          refine z_kill h201 rfl (ls' := [zr self, zi a1, zU, zU, zi (s6.1 + 1)]) rfl ?_
          exact Rz.here fun _ q => q
      · refine z_iconst h201 rfl ?_
        exact z_iret h201 rfl (fun _ q => q)
    · refine z_kill h201 rfl (ls' := [zU, zU, zU, zU, zU]) rfl ?_
      refine z_iconst h201 rfl ?_
      exact z_iret h201 rfl (fun _ q => q)
set_option maxRecDepth 20000 in
theorem t_qmd_write (X : Int × (Int → Int)) (K : zK) (M : zM) (self a1 a2 a3 : Int) (g_self : 1 ≤ self) : Rz X 202 (0, [zr self, zi a1, zi a2, zi a3], [], M, K) (qmd_write K M self a1 a2 a3) (fun e P => P (some (zi e.1), e.2, K)) := by
  have h202 : zT 202 = zt202 := rfl
  unfold qmd_write
  refine z_iload h202 rfl rfl (Or.inl rfl) ?_
  refine z_iconst h202 rfl ?_
  refine z_cs (a := 200) (b := 0) (l := [339, 2]) (as := [zi a1, zi 0]) (lsE := [zi a1, zi 0]) (st' := []) (val := fun p => some (zi p)) (mem := fun _ => M) h202 rfl ⟨rfl, rfl, rfl, Nat.le_of_ble_eq_true rfl, Nat.le_of_ble_eq_true rfl, rfl⟩ (t_qmd_isSheet X K M a1 0 ) (fun v1 => ?_)
  refine z_ifne h202 rfl ?_ ?_
  · refine z_iconst h202 rfl ?_
    exact z_iret h202 rfl (fun _ q => q)
  · refine z_aload h202 rfl rfl (Or.inl rfl) (by omega) ?_
    refine z_getr (a := 12) (b := 46) (l := [99, 49]) h202 rfl (fun r2 g_r2 => ?_)
    refine z_iload h202 rfl rfl (Or.inl rfl) ?_
    refine z_iald h202 rfl (fun v3 => ?_)
    refine z_iconst h202 rfl ?_
    refine z_icne h202 rfl ?_ ?_
    · refine z_iconst h202 rfl ?_
      exact z_iret h202 rfl (fun _ q => q)
    · refine z_iload h202 rfl rfl (Or.inl rfl) ?_
      refine z_ci2l h202 rfl ?_
      refine z_lconst h202 rfl ?_
      refine z_aload h202 rfl rfl (Or.inl rfl) (by omega) ?_
      refine z_getr (a := 12) (b := 47) (l := [102, 49]) h202 rfl (fun r4 g_r4 => ?_)
      refine z_iload h202 rfl rfl (Or.inl rfl) ?_
      refine z_iald h202 rfl (fun v5 => ?_)
      refine z_iconst h202 rfl ?_
      refine z_isub h202 rfl ?_
      refine z_ci2l h202 rfl ?_
      refine z_cs (a := 129) (b := 0) (l := [110, 3]) (as := [zl (zw a2), zl 0, zl (zw (v5 - 1))]) (lsE := [zl (zw a2), zU, zl 0, zU, zl (zw (v5 - 1)), zU]) (st' := []) (val := fun p => some (zi p)) (mem := fun _ => M) h202 rfl ⟨rfl, rfl, rfl, Nat.le_of_ble_eq_true rfl, Nat.le_of_ble_eq_true rfl, rfl⟩ (t_qmd_in X K M (zw a2) 0 (zw (v5 - 1)) ) (fun v6 => ?_)
      refine z_ifne h202 rfl ?_ ?_
      · refine z_iconst h202 rfl ?_
        exact z_iret h202 rfl (fun _ q => q)
      · refine z_aload h202 rfl rfl (Or.inl rfl) (by omega) ?_
        refine z_getr (a := 12) (b := 48) (l := [105, 49]) h202 rfl (fun r7 g_r7 => ?_)
        refine z_iconst h202 rfl ?_
        refine z_iload h202 rfl rfl (Or.inl rfl) ?_
        refine z_imul h202 rfl ?_
        refine z_iload h202 rfl rfl (Or.inl rfl) ?_
        refine z_iadd h202 rfl ?_
        refine z_aload h202 rfl rfl (Or.inl rfl) (by omega) ?_
        refine z_getr (a := 12) (b := 46) (l := [99, 49]) h202 rfl (fun r8 g_r8 => ?_)
        refine z_iload h202 rfl rfl (Or.inl rfl) ?_
        refine z_iald h202 rfl (fun v9 => ?_)
        refine Rz.bind (t := fun j10 => (53, [zU, zU, zU, zU], [zi j10, zi ((256 * a1) + a2), zr r7], M, K)) ?_ (fun j10 => ?_)
        · refine z_ifne h202 rfl ?_ ?_
          · refine z_iload h202 rfl rfl (Or.inl rfl) ?_
            refine z_ci2b h202 rfl ?_
            refine z_goto h202 rfl ?_
            refine z_kill h202 rfl (ls' := [zU, zU, zU, zU]) rfl ?_
            exact Rz.here fun _ q => q
          · refine z_aload h202 rfl rfl (Or.inl rfl) (by omega) ?_
            refine z_getr (a := 12) (b := 46) (l := [99, 49]) h202 rfl (fun r12 g_r12 => ?_)
            refine z_iload h202 rfl rfl (Or.inl rfl) ?_
            refine z_iald h202 rfl (fun v13 => ?_)
            refine z_iconst h202 rfl ?_
            refine z_icne h202 rfl ?_ ?_
            · refine z_iload h202 rfl rfl (Or.inl rfl) ?_
              refine z_ci2s h202 rfl ?_
              refine z_goto h202 rfl ?_
              refine z_kill h202 rfl (ls' := [zU, zU, zU, zU]) rfl ?_
              exact Rz.here fun _ q => q
            · refine z_iload h202 rfl rfl (Or.inl rfl) ?_
              refine z_kill h202 rfl (ls' := [zU, zU, zU, zU]) rfl ?_
              exact Rz.here fun _ q => q
        · (try dsimp only)
          refine z_iast h202 rfl (fun M11 => ?_)
          refine z_iconst h202 rfl ?_
          exact z_iret h202 rfl (fun _ q => q)
set_option maxRecDepth 20000 in
theorem t_qmd_read (X : Int × (Int → Int)) (n : Nat) (K : zK) (M : zM) (self a1 a2 a3 : Int) (g_self : 1 ≤ self) : Rz X 203 (0, [zr self, zi a1, zi a2, zi a3, zU, zU, zU, zU], [], M, K) (qmd_read n K M self a1 a2 a3) (fun e P => P (some (zi e.1), e.2, K)) := by
  have h203 : zT 203 = zt203 := rfl
  unfold qmd_read
  refine z_iload h203 rfl rfl (Or.inl rfl) ?_
  refine z_iload h203 rfl rfl (Or.inl rfl) ?_
  refine z_cs (a := 200) (b := 0) (l := [339, 2]) (as := [zi a1, zi a2]) (lsE := [zi a1, zi a2]) (st' := []) (val := fun p => some (zi p)) (mem := fun _ => M) h203 rfl ⟨rfl, rfl, rfl, Nat.le_of_ble_eq_true rfl, Nat.le_of_ble_eq_true rfl, rfl⟩ (t_qmd_isSheet X K M a1 a2 ) (fun v1 => ?_)
  refine z_ifne h203 rfl ?_ ?_
  · refine z_iconst h203 rfl ?_
    exact z_iret h203 rfl (fun _ q => q)
  · refine z_aload h203 rfl rfl (Or.inl rfl) (by omega) ?_
    refine z_getr (a := 12) (b := 46) (l := [99, 49]) h203 rfl (fun r2 g_r2 => ?_)
    refine z_iload h203 rfl rfl (Or.inl rfl) ?_
    refine z_iald h203 rfl (fun v3 => ?_)
    refine z_iload h203 rfl rfl (Or.inl rfl) ?_
    refine z_iceq h203 rfl ?_ ?_
    · refine z_iconst h203 rfl ?_
      refine z_istore h203 rfl (Or.inr rfl) (ls' := [zr self, zi a1, zi a2, zi a3, zi 0, zU, zU, zU]) rfl ?_
      refine z_kill h203 rfl (ls' := [zr self, zi a1, zU, zi a3, zi 0, zU, zU, zU]) rfl ?_
      refine Rz.esc (t := fun e5 => (75, [zr self, zi a1, zU, zi a3, zi e5, zU, zU, zU], [], M, K)) ?_ (fun e5 => ?_)
      · refine Rz.wh (hd := fun s4 => (24, [zr self, zi a1, zU, zi a3, zi s4, zU, zU, zU], [], M, K)) (fun s4 => ?_) n 0
        (try dsimp only)
        refine z_iload h203 rfl rfl (Or.inr rfl) ?_
        refine z_aload h203 rfl rfl (Or.inl rfl) (by omega) ?_
        refine z_getf (a := 12) (b := 0) (l := [7, 49]) h203 rfl (fun v22 => ?_)
        refine z_aload h203 rfl rfl (Or.inl rfl) (by omega) ?_
        refine z_getf (a := 12) (b := 1) (l := [13, 49]) h203 rfl (fun v23 => ?_)
        refine z_imul h203 rfl ?_
        refine z_icge h203 rfl ?_ ?_
        · exact Rz.here fun _ q => q
        · refine z_iload h203 rfl rfl (Or.inl rfl) ?_
          refine z_ci2l h203 rfl ?_
          refine z_iload h203 rfl rfl (Or.inr rfl) ?_
          refine z_ci2l h203 rfl ?_
          refine z_ladd h203 rfl ?_
          refine z_lstore h203 rfl (Or.inr rfl) (ls' := [zr self, zi a1, zU, zi a3, zi s4, zl ((zw a3) + (zw s4)), zU, zU]) rfl ?_
          refine z_lload h203 rfl rfl (Or.inr rfl) ?_
          refine z_lconst h203 rfl ?_
          refine z_lcmp h203 rfl ?_
          refine z_iflt h203 rfl ?_ ?_
          · refine z_kill h203 rfl (ls' := [zU, zU, zU, zU, zU, zU, zU, zU]) rfl ?_
            refine z_iconst h203 rfl ?_
            exact z_iret h203 rfl (fun _ q => q)
          · refine z_lload h203 rfl rfl (Or.inr rfl) ?_
            refine z_aload h203 rfl rfl (Or.inl rfl) (by omega) ?_
            refine z_getr (a := 12) (b := 47) (l := [102, 49]) h203 rfl (fun r24 g_r24 => ?_)
            refine z_iload h203 rfl rfl (Or.inl rfl) ?_
            refine z_iald h203 rfl (fun v25 => ?_)
            refine z_ci2l h203 rfl ?_
            refine z_lcmp h203 rfl ?_
            refine z_iflt h203 rfl ?_ ?_
            · refine z_aload h203 rfl rfl (Or.inl rfl) (by omega) ?_
              refine z_getr (a := 12) (b := 48) (l := [105, 49]) h203 rfl (fun r26 g_r26 => ?_)
              refine z_iconst h203 rfl ?_
              refine z_iload h203 rfl rfl (Or.inl rfl) ?_
              refine z_imul h203 rfl ?_
              refine z_lload h203 rfl rfl (Or.inr rfl) ?_
              refine z_cl2i h203 rfl ?_
              refine z_iadd h203 rfl ?_
              refine z_iald h203 rfl (fun v27 => ?_)
              refine z_ci2l h203 rfl ?_
              refine z_lconst h203 rfl ?_
              refine z_aload h203 rfl rfl (Or.inl rfl) (by omega) ?_
              refine z_getf (a := 12) (b := 2) (l := [16, 49]) h203 rfl (fun v28 => ?_)
              refine z_iconst h203 rfl ?_
              refine z_isub h203 rfl ?_
              refine z_ci2l h203 rfl ?_
              refine z_cs (a := 129) (b := 0) (l := [110, 3]) (as := [zl (zw v27), zl 0, zl (zw (v28 - 1))]) (lsE := [zl (zw v27), zU, zl 0, zU, zl (zw (v28 - 1)), zU]) (st' := []) (val := fun p => some (zi p)) (mem := fun _ => M) h203 rfl ⟨rfl, rfl, rfl, Nat.le_of_ble_eq_true rfl, Nat.le_of_ble_eq_true rfl, rfl⟩ (t_qmd_in X K M (zw v27) 0 (zw (v28 - 1)) ) (fun v29 => ?_)
              refine z_ifne h203 rfl ?_ ?_
              · refine z_iconst h203 rfl ?_
                refine z_iload h203 rfl rfl (Or.inr rfl) ?_
                refine z_isub h203 rfl ?_
                exact z_iret h203 rfl (fun _ q => q)
              · refine z_iinc h203 rfl rfl (ls' := [zr self, zi a1, zU, zi a3, zi (s4 + 1), zl ((zw a3) + (zw s4)), zU, zU]) rfl ?_
                refine z_goto h203 rfl ?_
                refine z_kill h203 rfl (ls' := [zr self, zi a1, zU, zi a3, zi (s4 + 1), zU, zU, zU]) rfl ?_
                exact Rz.here fun _ q => q
            · refine z_kill h203 rfl (ls' := [zU, zU, zU, zU, zU, zU, zU, zU]) rfl ?_
              refine z_iconst h203 rfl ?_
              exact z_iret h203 rfl (fun _ q => q)
      · (try dsimp only)
        refine z_iconst h203 rfl ?_
        refine z_istore h203 rfl (Or.inr rfl) (ls' := [zr self, zi a1, zU, zi a3, zi 0, zU, zU, zU]) rfl ?_
        refine z_iconst h203 rfl ?_
        refine z_istore h203 rfl (Or.inr rfl) (ls' := [zr self, zi a1, zU, zi a3, zi 0, zi 0, zU, zU]) rfl ?_
        refine z_kill h203 rfl (ls' := [zr self, zi a1, zU, zi a3, zi 0, zi 0, zU, zU]) rfl ?_
        refine Rz.wh (hd := fun s6 => (79, [zr self, zi a1, zU, zi a3, zi s6.1, zi s6.2.1, zU, zU], [], s6.2.2, K)) (fun s6 => ?_) n (0, 0, M)
        (try dsimp only)
        refine z_iload h203 rfl rfl (Or.inr rfl) ?_
        refine z_aload h203 rfl rfl (Or.inl rfl) (by omega) ?_
        refine z_getf (a := 12) (b := 0) (l := [7, 49]) h203 rfl (fun v7 => ?_)
        refine z_aload h203 rfl rfl (Or.inl rfl) (by omega) ?_
        refine z_getf (a := 12) (b := 1) (l := [13, 49]) h203 rfl (fun v8 => ?_)
        refine z_imul h203 rfl ?_
        refine z_icge h203 rfl ?_ ?_
        · refine z_iload h203 rfl rfl (Or.inr rfl) ?_
          exact z_iret h203 rfl (fun _ q => q)
        · refine z_iconst h203 rfl ?_
          refine z_iload h203 rfl rfl (Or.inr rfl) ?_
          refine z_aload h203 rfl rfl (Or.inl rfl) (by omega) ?_
          refine z_getf (a := 12) (b := 1) (l := [13, 49]) h203 rfl (fun v9 => ?_)
          refine z_div h203 rfl (fun v10 => ?_)
          refine z_imul h203 rfl ?_
          refine z_iload h203 rfl rfl (Or.inr rfl) ?_
          refine z_aload h203 rfl rfl (Or.inl rfl) (by omega) ?_
          refine z_getf (a := 12) (b := 1) (l := [13, 49]) h203 rfl (fun v11 => ?_)
          refine z_rem h203 rfl (fun v12 => ?_)
          refine z_iadd h203 rfl ?_
          refine z_istoreL (lsf := fun x13 => [zr self, zi a1, zU, zi a3, zi s6.1, zi s6.2.1, zi x13, zU]) h203 rfl (Or.inr rfl) (fun _ => rfl) (fun x13 => ?_)
          (try dsimp only)
          refine z_aload h203 rfl rfl (Or.inl rfl) (by omega) ?_
          refine z_getr (a := 12) (b := 48) (l := [105, 49]) h203 rfl (fun r14 g_r14 => ?_)
          refine z_iconst h203 rfl ?_
          refine z_iload h203 rfl rfl (Or.inl rfl) ?_
          refine z_imul h203 rfl ?_
          refine z_iload h203 rfl rfl (Or.inl rfl) ?_
          refine z_iadd h203 rfl ?_
          refine z_iload h203 rfl rfl (Or.inr rfl) ?_
          refine z_iadd h203 rfl ?_
          refine z_iald h203 rfl (fun v15 => ?_)
          refine z_istore h203 rfl (Or.inr rfl) (ls' := [zr self, zi a1, zU, zi a3, zi s6.1, zi s6.2.1, zi x13, zi v15]) rfl ?_
          refine z_iload h203 rfl rfl (Or.inr rfl) ?_
          refine z_aload h203 rfl rfl (Or.inl rfl) (by omega) ?_
          refine z_getr (a := 12) (b := 6) (l := [22, 49]) h203 rfl (fun r16 g_r16 => ?_)
          refine z_iload h203 rfl rfl (Or.inr rfl) ?_
          refine z_iald h203 rfl (fun v17 => ?_)
          refine z_iload h203 rfl rfl (Or.inr rfl) ?_
          refine Rz.bind (t := fun j18 => (119, [zr self, zi a1, zU, zi a3, zU, zi s6.2.1, zi x13, zi v15], [zi j18, zi s6.1], s6.2.2, K)) ?_ (fun j18 => ?_)
          · refine z_icne h203 rfl ?_ ?_
            · refine z_iconst h203 rfl ?_
              refine z_goto h203 rfl ?_
              refine z_kill h203 rfl (ls' := [zr self, zi a1, zU, zi a3, zU, zi s6.2.1, zi x13, zi v15]) rfl ?_
              exact Rz.here fun _ q => q
            · refine z_iconst h203 rfl ?_
              refine z_kill h203 rfl (ls' := [zr self, zi a1, zU, zi a3, zU, zi s6.2.1, zi x13, zi v15]) rfl ?_
              exact Rz.here fun _ q => q
          · (try dsimp only)
            refine z_iadd h203 rfl ?_
            refine z_istoreL (lsf := fun x19 => [zr self, zi a1, zU, zi a3, zi x19, zi s6.2.1, zi x13, zi v15]) h203 rfl (Or.inr rfl) (fun _ => rfl) (fun x19 => ?_)
            (try dsimp only)
            refine z_aload h203 rfl rfl (Or.inl rfl) (by omega) ?_
            refine z_getr (a := 12) (b := 6) (l := [22, 49]) h203 rfl (fun r20 g_r20 => ?_)
            refine z_iload h203 rfl rfl (Or.inr rfl) ?_
            refine z_iload h203 rfl rfl (Or.inr rfl) ?_
            refine z_iast h203 rfl (fun M21 => ?_)
            refine z_iinc h203 rfl rfl (ls' := [zr self, zi a1, zU, zi a3, zi x19, zi (s6.2.1 + 1), zi x13, zi v15]) rfl ?_
            refine z_goto h203 rfl ?_
            refine z_kill h203 rfl (ls' := [zr self, zi a1, zU, zi a3, zi x19, zi (s6.2.1 + 1), zU, zU]) rfl ?_
            exact Rz.here fun _ q => q
    · refine z_aload h203 rfl rfl (Or.inl rfl) (by omega) ?_
      refine z_getr (a := 12) (b := 46) (l := [99, 49]) h203 rfl (fun r30 g_r30 => ?_)
      refine z_iload h203 rfl rfl (Or.inl rfl) ?_
      refine z_iald h203 rfl (fun v31 => ?_)
      refine z_iconst h203 rfl ?_
      refine z_icne h203 rfl ?_ ?_
      · refine z_iconst h203 rfl ?_
        refine z_goto h203 rfl ?_
        refine z_kill h203 rfl (ls' := [zU, zU, zU, zU, zU, zU, zU, zU]) rfl ?_
        exact z_iret h203 rfl (fun _ q => q)
      · refine z_iconst h203 rfl ?_
        refine z_kill h203 rfl (ls' := [zU, zU, zU, zU, zU, zU, zU, zU]) rfl ?_
        exact z_iret h203 rfl (fun _ q => q)
set_option maxRecDepth 20000 in
theorem t_qmd_count (X : Int × (Int → Int)) (K : zK) (M : zM) (self a1 : Int) (g_self : 1 ≤ self) : Rz X 204 (0, [zr self, zi a1], [], M, K) (qmd_count K M self a1) (fun e P => P (some (zi e), M, K)) := by
  have h204 : zT 204 = zt204 := rfl
  unfold qmd_count
  refine z_iload h204 rfl rfl (Or.inl rfl) ?_
  refine z_sw h204 rfl (fun hc => ?_) (fun hc => ?_)
  · rw [if_neg (show ¬ zw a1 = 0 by omega), if_neg (show ¬ zw a1 = 1 by omega), if_neg (show ¬ zw a1 = 2 by omega), if_neg (show ¬ zw a1 = 3 by omega), if_neg (show ¬ zw a1 = 4 by omega), if_neg (show ¬ zw a1 = 5 by omega), if_neg (show ¬ zw a1 = 6 by omega), if_neg (show ¬ zw a1 = 7 by omega), if_neg (show ¬ zw a1 = 8 by omega), if_neg (show ¬ zw a1 = 9 by omega), if_neg (show ¬ zw a1 = 10 by omega)]
    refine z_iconst h204 rfl ?_
    exact z_iret h204 rfl (fun _ q => q)
  · rcases (show zw a1 = 0 ∨ zw a1 = 1 ∨ zw a1 = 2 ∨ zw a1 = 3 ∨ zw a1 = 4 ∨ zw a1 = 5 ∨ zw a1 = 6 ∨ zw a1 = 7 ∨ zw a1 = 8 ∨ zw a1 = 9 ∨ zw a1 = 10 by omega) with hq | hq | hq | hq | hq | hq | hq | hq | hq | hq | hq
    · rw [if_pos hq]
      refine ⟨2, by rw [hq]; rfl, ?_⟩
      show Rz X 204 (2, [zr self, zi a1], [], M, K) _ _
      refine z_aload h204 rfl rfl (Or.inl rfl) (by omega) ?_
      refine z_getf (a := 12) (b := 0) (l := [7, 49]) h204 rfl (fun v1 => ?_)
      exact z_iret h204 rfl (fun _ q => q)
    · rw [if_neg (show ¬ zw a1 = 0 by omega), if_pos hq]
      refine ⟨5, by rw [hq]; rfl, ?_⟩
      show Rz X 204 (5, [zr self, zi a1], [], M, K) _ _
      refine z_aload h204 rfl rfl (Or.inl rfl) (by omega) ?_
      refine z_getf (a := 12) (b := 1) (l := [13, 49]) h204 rfl (fun v2 => ?_)
      exact z_iret h204 rfl (fun _ q => q)
    · rw [if_neg (show ¬ zw a1 = 0 by omega), if_neg (show ¬ zw a1 = 1 by omega), if_pos hq]
      refine ⟨8, by rw [hq]; rfl, ?_⟩
      show Rz X 204 (8, [zr self, zi a1], [], M, K) _ _
      refine z_aload h204 rfl rfl (Or.inl rfl) (by omega) ?_
      refine z_getf (a := 12) (b := 2) (l := [16, 49]) h204 rfl (fun v3 => ?_)
      exact z_iret h204 rfl (fun _ q => q)
    · rw [if_neg (show ¬ zw a1 = 0 by omega), if_neg (show ¬ zw a1 = 1 by omega), if_neg (show ¬ zw a1 = 2 by omega), if_pos hq]
      refine ⟨11, by rw [hq]; rfl, ?_⟩
      show Rz X 204 (11, [zr self, zi a1], [], M, K) _ _
      refine z_aload h204 rfl rfl (Or.inl rfl) (by omega) ?_
      refine z_getf (a := 12) (b := 3) (l := [121, 49]) h204 rfl (fun v4 => ?_)
      exact z_iret h204 rfl (fun _ q => q)
    · rw [if_neg (show ¬ zw a1 = 0 by omega), if_neg (show ¬ zw a1 = 1 by omega), if_neg (show ¬ zw a1 = 2 by omega), if_neg (show ¬ zw a1 = 3 by omega), if_pos hq]
      refine ⟨14, by rw [hq]; rfl, ?_⟩
      show Rz X 204 (14, [zr self, zi a1], [], M, K) _ _
      refine z_aload h204 rfl rfl (Or.inl rfl) (by omega) ?_
      refine z_getf (a := 12) (b := 4) (l := [124, 49]) h204 rfl (fun v5 => ?_)
      exact z_iret h204 rfl (fun _ q => q)
    · rw [if_neg (show ¬ zw a1 = 0 by omega), if_neg (show ¬ zw a1 = 1 by omega), if_neg (show ¬ zw a1 = 2 by omega), if_neg (show ¬ zw a1 = 3 by omega), if_neg (show ¬ zw a1 = 4 by omega), if_pos hq]
      refine ⟨17, by rw [hq]; rfl, ?_⟩
      show Rz X 204 (17, [zr self, zi a1], [], M, K) _ _
      refine z_aload h204 rfl rfl (Or.inl rfl) (by omega) ?_
      refine z_getf (a := 12) (b := 5) (l := [19, 49]) h204 rfl (fun v6 => ?_)
      exact z_iret h204 rfl (fun _ q => q)
    · rw [if_neg (show ¬ zw a1 = 0 by omega), if_neg (show ¬ zw a1 = 1 by omega), if_neg (show ¬ zw a1 = 2 by omega), if_neg (show ¬ zw a1 = 3 by omega), if_neg (show ¬ zw a1 = 4 by omega), if_neg (show ¬ zw a1 = 5 by omega), if_pos hq]
      refine ⟨20, by rw [hq]; rfl, ?_⟩
      show Rz X 204 (20, [zr self, zi a1], [], M, K) _ _
      refine z_aload h204 rfl rfl (Or.inl rfl) (by omega) ?_
      refine z_getf (a := 12) (b := 9) (l := [161, 49]) h204 rfl (fun v7 => ?_)
      exact z_iret h204 rfl (fun _ q => q)
    · rw [if_neg (show ¬ zw a1 = 0 by omega), if_neg (show ¬ zw a1 = 1 by omega), if_neg (show ¬ zw a1 = 2 by omega), if_neg (show ¬ zw a1 = 3 by omega), if_neg (show ¬ zw a1 = 4 by omega), if_neg (show ¬ zw a1 = 5 by omega), if_neg (show ¬ zw a1 = 6 by omega), if_pos hq]
      refine ⟨23, by rw [hq]; rfl, ?_⟩
      show Rz X 204 (23, [zr self, zi a1], [], M, K) _ _
      refine z_aload h204 rfl rfl (Or.inl rfl) (by omega) ?_
      refine z_getf (a := 12) (b := 16) (l := [48, 49]) h204 rfl (fun v8 => ?_)
      exact z_iret h204 rfl (fun _ q => q)
    · rw [if_neg (show ¬ zw a1 = 0 by omega), if_neg (show ¬ zw a1 = 1 by omega), if_neg (show ¬ zw a1 = 2 by omega), if_neg (show ¬ zw a1 = 3 by omega), if_neg (show ¬ zw a1 = 4 by omega), if_neg (show ¬ zw a1 = 5 by omega), if_neg (show ¬ zw a1 = 6 by omega), if_neg (show ¬ zw a1 = 7 by omega), if_pos hq]
      refine ⟨26, by rw [hq]; rfl, ?_⟩
      show Rz X 204 (26, [zr self, zi a1], [], M, K) _ _
      refine z_aload h204 rfl rfl (Or.inl rfl) (by omega) ?_
      refine z_getf (a := 12) (b := 24) (l := [310, 49]) h204 rfl (fun v9 => ?_)
      exact z_iret h204 rfl (fun _ q => q)
    · rw [if_neg (show ¬ zw a1 = 0 by omega), if_neg (show ¬ zw a1 = 1 by omega), if_neg (show ¬ zw a1 = 2 by omega), if_neg (show ¬ zw a1 = 3 by omega), if_neg (show ¬ zw a1 = 4 by omega), if_neg (show ¬ zw a1 = 5 by omega), if_neg (show ¬ zw a1 = 6 by omega), if_neg (show ¬ zw a1 = 7 by omega), if_neg (show ¬ zw a1 = 8 by omega), if_pos hq]
      refine ⟨29, by rw [hq]; rfl, ?_⟩
      show Rz X 204 (29, [zr self, zi a1], [], M, K) _ _
      refine z_aload h204 rfl rfl (Or.inl rfl) (by omega) ?_
      refine z_getf (a := 12) (b := 36) (l := [244, 49]) h204 rfl (fun v10 => ?_)
      exact z_iret h204 rfl (fun _ q => q)
    · rw [if_neg (show ¬ zw a1 = 0 by omega), if_neg (show ¬ zw a1 = 1 by omega), if_neg (show ¬ zw a1 = 2 by omega), if_neg (show ¬ zw a1 = 3 by omega), if_neg (show ¬ zw a1 = 4 by omega), if_neg (show ¬ zw a1 = 5 by omega), if_neg (show ¬ zw a1 = 6 by omega), if_neg (show ¬ zw a1 = 7 by omega), if_neg (show ¬ zw a1 = 8 by omega), if_neg (show ¬ zw a1 = 9 by omega), if_pos hq]
      refine ⟨32, by rw [hq]; rfl, ?_⟩
      show Rz X 204 (32, [zr self, zi a1], [], M, K) _ _
      refine z_aload h204 rfl rfl (Or.inl rfl) (by omega) ?_
      refine z_getr (a := 12) (b := 46) (l := [99, 49]) h204 rfl (fun r11 g_r11 => ?_)
      refine z_iconst h204 rfl ?_
      refine z_iald h204 rfl (fun v12 => ?_)
      refine z_iconst h204 rfl ?_
      refine z_icne h204 rfl ?_ ?_
      · refine z_iconst h204 rfl ?_
        refine z_goto h204 rfl ?_
        refine z_kill h204 rfl (ls' := [zU, zU]) rfl ?_
        exact z_iret h204 rfl (fun _ q => q)
      · refine z_aload h204 rfl rfl (Or.inl rfl) (by omega) ?_
        refine z_getr (a := 12) (b := 47) (l := [102, 49]) h204 rfl (fun r13 g_r13 => ?_)
        refine z_iconst h204 rfl ?_
        refine z_iald h204 rfl (fun v14 => ?_)
        refine z_kill h204 rfl (ls' := [zU, zU]) rfl ?_
        exact z_iret h204 rfl (fun _ q => q)
