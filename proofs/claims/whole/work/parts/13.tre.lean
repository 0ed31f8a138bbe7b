set_option maxRecDepth 20000 in
theorem t_qmd_grantsAll (X : Int × (Int → Int)) (n : Nat) (K : zK) (M : zM) (self : Int) (g_self : 1 ≤ self) : Rz X 152 (0, [zr self, zU, zU], [], M, K) (qmd_grantsAll n K M self) (fun e P => P (some (zi e), M, K)) := by
  have h152 : zT 152 = zt152 := rfl
  unfold qmd_grantsAll
  refine z_iconst h152 rfl ?_
  refine z_istore h152 rfl (Or.inl rfl) (ls' := [zr self, zi 1, zU]) rfl ?_
  refine z_iconst h152 rfl ?_
  refine z_istore h152 rfl (Or.inl rfl) (ls' := [zr self, zi 1, zi 0]) rfl ?_
  refine Rz.wh (hd := fun s1 => (4, [zr self, zi s1.1, zi s1.2], [], M, K)) (fun s1 => ?_) n (1, 0)
  (try dsimp only)
  refine z_iload h152 rfl rfl (Or.inl rfl) ?_
  refine z_aload h152 rfl rfl (Or.inl rfl) (by omega) ?_
  refine z_getf (a := 12) (b := 9) (l := [161, 49]) h152 rfl (fun v2 => ?_)
  refine z_icge h152 rfl ?_ ?_
  · refine z_kill h152 rfl (ls' := [zU, zi s1.1, zU]) rfl ?_
    refine z_iload h152 rfl rfl (Or.inl rfl) ?_
    exact z_zretb h152 rfl (fun z hz P q => by cases hz; exact q)
  · refine z_iload h152 rfl rfl (Or.inl rfl) ?_
    refine z_ifeq h152 rfl ?_ ?_
    · refine z_kill h152 rfl (ls' := [zU, zi s1.1, zU]) rfl ?_
      refine z_iload h152 rfl rfl (Or.inl rfl) ?_
      exact z_zretb h152 rfl (fun z hz P q => by cases hz; exact q)
    · refine z_aload h152 rfl rfl (Or.inl rfl) (by omega) ?_
      refine z_iload h152 rfl rfl (Or.inl rfl) ?_
      refine z_cv (a := 150) (b := 0) (l := [167, 2, 12, 49]) (as := [zi s1.2]) (lsE := [zr self, zi s1.2, zU, zU, zU]) (st' := []) (val := fun p => some (zi p)) (mem := fun _ => M) h152 rfl ⟨rfl, rfl, rfl, Nat.le_of_ble_eq_true rfl, Nat.le_of_ble_eq_true rfl, rfl⟩ (fun g1 => (t_qmd_grants X n K M self s1.2 (by omega))) (fun v5 => ?_)
      refine z_istore h152 rfl (Or.inl rfl) (ls' := [zr self, zi v5, zi s1.2]) rfl ?_
      refine z_iinc h152 rfl rfl (ls' := [zr self, zi v5, zi (s1.2 + 1)]) rfl ?_
      refine z_goto h152 rfl ?_
      exact Rz.here fun _ q => q
set_option maxRecDepth 20000 in
theorem t_qmd_bound (X : Int × (Int → Int)) (n : Nat) (K : zK) (M : zM) (self : Int) (g_self : 1 ≤ self) : Rz X 154 (0, [zr self, zU, zU, zU, zU], [], M, K) (qmd_bound n K M self) (fun e P => P (some (zi e), M, K)) := by
  have h154 : zT 154 = zt154 := rfl
  unfold qmd_bound
  refine z_iconst h154 rfl ?_
  refine z_istore h154 rfl (Or.inl rfl) (ls' := [zr self, zi 1, zU, zU, zU]) rfl ?_
  refine z_iconst h154 rfl ?_
  refine z_istore h154 rfl (Or.inl rfl) (ls' := [zr self, zi 1, zi 0, zU, zU]) rfl ?_
  refine z_kill h154 rfl (ls' := [zr self, zi 1, zi 0, zU, zU]) rfl ?_
  refine Rz.wh (hd := fun s1 => (4, [zr self, zi s1.1, zi s1.2, zU, zU], [], M, K)) (fun s1 => ?_) n (1, 0)
  (try dsimp only)
  refine z_iload h154 rfl rfl (Or.inl rfl) ?_
  refine z_aload h154 rfl rfl (Or.inl rfl) (by omega) ?_
  refine z_getf (a := 12) (b := 9) (l := [161, 49]) h154 rfl (fun v2 => ?_)
  refine z_icge h154 rfl ?_ ?_
  · refine z_iload h154 rfl rfl (Or.inl rfl) ?_
    exact z_iret h154 rfl (fun _ q => q)
  · refine z_iconst h154 rfl ?_
    refine z_istore h154 rfl (Or.inl rfl) (ls' := [zr self, zi s1.1, zi s1.2, zi 0, zU]) rfl ?_
    refine z_iconst h154 rfl ?_
    refine z_istore h154 rfl (Or.inr rfl) (ls' := [zr self, zi s1.1, zi s1.2, zi 0, zi 0]) rfl ?_
    refine Rz.bind (t := fun e4 => (44, [zr self, zi s1.1, zi s1.2, zi e4.1, zi e4.2], [], M, K)) ?_ (fun e4 => ?_)
    · refine Rz.wh (hd := fun s3 => (12, [zr self, zi s1.1, zi s1.2, zi s3.1, zi s3.2], [], M, K)) (fun s3 => ?_) n (0, 0)
      (try dsimp only)
      refine z_iload h154 rfl rfl (Or.inr rfl) ?_
      refine z_iconst h154 rfl ?_
      refine z_icge h154 rfl ?_ ?_
      · exact Rz.here fun _ q => q
      · refine z_iload h154 rfl rfl (Or.inl rfl) ?_
        refine Rz.esc (t := fun j13 => (38, [zr self, zi s1.1, zi s1.2, zU, zi s3.2], [], M, K)) ?_ (fun j13 => ?_)
        · refine z_ifne h154 rfl ?_ ?_
          · refine z_aload h154 rfl rfl (Or.inl rfl) (by omega) ?_
            refine z_aload h154 rfl rfl (Or.inl rfl) (by omega) ?_
            refine z_getr (a := 12) (b := 10) (l := [32, 49]) h154 rfl (fun r14 g_r14 => ?_)
            refine z_iload h154 rfl rfl (Or.inl rfl) ?_
            refine z_iald h154 rfl (fun v15 => ?_)
            refine z_aload h154 rfl rfl (Or.inl rfl) (by omega) ?_
            refine z_getr (a := 12) (b := 11) (l := [35, 49]) h154 rfl (fun r16 g_r16 => ?_)
            refine z_iload h154 rfl rfl (Or.inl rfl) ?_
            refine z_iald h154 rfl (fun v17 => ?_)
            refine z_aload h154 rfl rfl (Or.inl rfl) (by omega) ?_
            refine z_getr (a := 12) (b := 12) (l := [38, 49]) h154 rfl (fun r18 g_r18 => ?_)
            refine z_iload h154 rfl rfl (Or.inl rfl) ?_
            refine z_iald h154 rfl (fun v19 => ?_)
            refine z_iload h154 rfl rfl (Or.inr rfl) ?_
            refine z_iconst h154 rfl ?_
            refine z_div h154 rfl (fun v20 => ?_)
            refine z_iload h154 rfl rfl (Or.inr rfl) ?_
            refine z_iconst h154 rfl ?_
            refine z_rem h154 rfl (fun v21 => ?_)
            refine z_cv (a := 143) (b := 0) (l := [154, 6, 12, 49]) (as := [zi v15, zi v17, zi v19, zi v20, zi v21]) (lsE := [zr self, zi v15, zi v17, zi v19, zi v20, zi v21, zU]) (st' := []) (val := fun p => some (zi p)) (mem := fun _ => M) h154 rfl ⟨rfl, rfl, rfl, Nat.le_of_ble_eq_true rfl, Nat.le_of_ble_eq_true rfl, rfl⟩ (fun g1 => (t_qmd_isThere X K M self v15 v17 v19 v20 v21 (by omega))) (fun v22 => ?_)
            refine z_ifeq h154 rfl ?_ ?_
            · refine z_iconst h154 rfl ?_
              refine z_kill h154 rfl (ls' := [zr self, zi s1.1, zi s1.2, zU, zi s3.2]) rfl ?_
              refine z_istore h154 rfl (Or.inl rfl) (ls' := [zr self, zi s1.1, zi s1.2, zi 0, zi s3.2]) rfl ?_
              refine z_iinc h154 rfl rfl (ls' := [zr self, zi s1.1, zi s1.2, zi 0, zi (s3.2 + 1)]) rfl ?_
              refine z_goto h154 rfl ?_
              exact Rz.here fun _ q => q
            · refine z_kill h154 rfl (ls' := [zr self, zi s1.1, zi s1.2, zU, zi s3.2]) rfl ?_
              exact Rz.here fun _ q => q
          · refine z_kill h154 rfl (ls' := [zr self, zi s1.1, zi s1.2, zU, zi s3.2]) rfl ?_
            exact Rz.here fun _ q => q
        · (try dsimp only)
          refine z_iconst h154 rfl ?_
          refine z_goto h154 rfl ?_
          refine z_kill h154 rfl (ls' := [zr self, zi s1.1, zi s1.2, zU, zi s3.2]) rfl ?_
          refine z_istore h154 rfl (Or.inl rfl) (ls' := [zr self, zi s1.1, zi s1.2, zi 1, zi s3.2]) rfl ?_
          refine z_iinc h154 rfl rfl (ls' := [zr self, zi s1.1, zi s1.2, zi 1, zi (s3.2 + 1)]) rfl ?_
          refine z_goto h154 rfl ?_
          exact Rz.here fun _ q => q
    · (try dsimp only)
      refine z_aload h154 rfl rfl (Or.inl rfl) (by omega) ?_
      refine z_getr (a := 12) (b := 10) (l := [32, 49]) h154 rfl (fun r5 g_r5 => ?_)
      refine z_iload h154 rfl rfl (Or.inl rfl) ?_
      refine z_iald h154 rfl (fun v6 => ?_)
      refine z_aload h154 rfl rfl (Or.inl rfl) (by omega) ?_
      refine z_getr (a := 12) (b := 11) (l := [35, 49]) h154 rfl (fun r7 g_r7 => ?_)
      refine z_iload h154 rfl rfl (Or.inl rfl) ?_
      refine z_iald h154 rfl (fun v8 => ?_)
      refine z_aload h154 rfl rfl (Or.inl rfl) (by omega) ?_
      refine z_getr (a := 12) (b := 12) (l := [38, 49]) h154 rfl (fun r9 g_r9 => ?_)
      refine z_iload h154 rfl rfl (Or.inl rfl) ?_
      refine z_iald h154 rfl (fun v10 => ?_)
      refine z_cs (a := 141) (b := 0) (l := [142, 3]) (as := [zi v6, zi v8, zi v10]) (lsE := [zi v6, zi v8, zi v10]) (st' := []) (val := fun p => some (zi p)) (mem := fun _ => M) h154 rfl ⟨rfl, rfl, rfl, Nat.le_of_ble_eq_true rfl, Nat.le_of_ble_eq_true rfl, rfl⟩ (t_qmd_cellsOf X K M v6 v8 v10 ) (fun v11 => ?_)
      refine z_istore h154 rfl (Or.inr rfl) (ls' := [zr self, zi s1.1, zi s1.2, zi e4.1, zi v11]) rfl ?_
      refine z_iload h154 rfl rfl (Or.inl rfl) ?_
      refine Rz.esc (t := fun j12 => (65, [zr self, zi s1.1, zi s1.2, zU, zU], [], M, K)) ?_ (fun j12 => ?_)
      · refine z_ifeq h154 rfl ?_ ?_
        · refine z_kill h154 rfl (ls' := [zr self, zi s1.1, zi s1.2, zU, zU]) rfl ?_
          exact Rz.here fun _ q => q
        · refine z_iload h154 rfl rfl (Or.inr rfl) ?_
          refine z_iload h154 rfl rfl (Or.inl rfl) ?_
          refine z_icle h154 rfl ?_ ?_
          · refine z_kill h154 rfl (ls' := [zr self, zi s1.1, zi s1.2, zU, zU]) rfl ?_
            exact Rz.here fun _ q => q
          · refine z_iload h154 rfl rfl (Or.inr rfl) ?_
            refine z_goto h154 rfl ?_
            refine z_kill h154 rfl (ls' := [zr self, zU, zi s1.2, zU, zU]) rfl ?_
            refine z_istore h154 rfl (Or.inl rfl) (ls' := [zr self, zi v11, zi s1.2, zU, zU]) rfl ?_
            refine z_iinc h154 rfl rfl (ls' := [zr self, zi v11, zi (s1.2 + 1), zU, zU]) rfl ?_
            refine z_goto h154 rfl ?_
            refine z_kill h154 rfl (ls' := [zr self, zi v11, zi (s1.2 + 1), zU, zU]) rfl ?_
            exact Rz.here fun _ q => q
      · (try dsimp only)
        refine z_iload h154 rfl rfl (Or.inl rfl) ?_
        refine z_kill h154 rfl (ls' := [zr self, zU, zi s1.2, zU, zU]) rfl ?_
        refine z_istore h154 rfl (Or.inl rfl) (ls' := [zr self, zi s1.1, zi s1.2, zU, zU]) rfl ?_
        refine z_iinc h154 rfl rfl (ls' := [zr self, zi s1.1, zi (s1.2 + 1), zU, zU]) rfl ?_
        refine z_goto h154 rfl ?_
        refine z_kill h154 rfl (ls' := [zr self, zi s1.1, zi (s1.2 + 1), zU, zU]) rfl ?_
        exact Rz.here fun _ q => q
set_option maxRecDepth 20000 in
theorem t_qmd_fewest (X : Int × (Int → Int)) (n : Nat) (K : zK) (M : zM) (self a1 a2 : Int) (g_self : 1 ≤ self) : Rz X 153 (0, [zr self, zi a1, zi a2, zU, zU, zU, zU], [], M, K) (qmd_fewest n K M self a1 a2) (fun e P => P (some (zi e.1), e.2, K)) := by
  have h153 : zT 153 = zt153 := rfl
  unfold qmd_fewest
  refine z_iload h153 rfl rfl (Or.inl rfl) ?_
  refine z_ci2l h153 rfl ?_
  refine z_lconst h153 rfl ?_
  refine z_lconst h153 rfl ?_
  refine z_cs (a := 129) (b := 0) (l := [110, 3]) (as := [zl (zw a1), zl 0, zl 1]) (lsE := [zl (zw a1), zU, zl 0, zU, zl 1, zU]) (st' := []) (val := fun p => some (zi p)) (mem := fun _ => M) h153 rfl ⟨rfl, rfl, rfl, Nat.le_of_ble_eq_true rfl, Nat.le_of_ble_eq_true rfl, rfl⟩ (t_qmd_in X K M (zw a1) 0 1 ) (fun v1 => ?_)
  refine z_ifeq h153 rfl ?_ ?_
  · refine z_kill h153 rfl (ls' := [zU, zU, zU, zU, zU, zU, zU]) rfl ?_
    refine z_iconst h153 rfl ?_
    exact z_iret h153 rfl (fun _ q => q)
  · refine z_iload h153 rfl rfl (Or.inl rfl) ?_
    refine z_ci2l h153 rfl ?_
    refine z_lconst h153 rfl ?_
    refine z_lconst h153 rfl ?_
    refine z_cs (a := 129) (b := 0) (l := [110, 3]) (as := [zl (zw a2), zl 0, zl 3]) (lsE := [zl (zw a2), zU, zl 0, zU, zl 3, zU]) (st' := []) (val := fun p => some (zi p)) (mem := fun _ => M) h153 rfl ⟨rfl, rfl, rfl, Nat.le_of_ble_eq_true rfl, Nat.le_of_ble_eq_true rfl, rfl⟩ (t_qmd_in X K M (zw a2) 0 3 ) (fun v2 => ?_)
    refine z_ifne h153 rfl ?_ ?_
    · refine z_kill h153 rfl (ls' := [zU, zU, zU, zU, zU, zU, zU]) rfl ?_
      refine z_iconst h153 rfl ?_
      exact z_iret h153 rfl (fun _ q => q)
    · refine z_iconst h153 rfl ?_
      refine z_istore h153 rfl (Or.inl rfl) (ls' := [zr self, zi a1, zi a2, zi 1, zU, zU, zU]) rfl ?_
      refine z_kill h153 rfl (ls' := [zr self, zi a1, zi a2, zi 1, zU, zU, zU]) rfl ?_
      refine Rz.esc (t := fun e4 => (58, [zr self, zi a1, zi a2, zi e4.1, zi e4.2.1, zi e4.2.2.1, zU], [], e4.2.2.2, K)) ?_ (fun e4 => ?_)
      · refine Rz.wh (hd := fun s3 => (16, [zr self, zi a1, zi a2, zi s3.1, zU, zU, zU], [], s3.2, K)) (fun s3 => ?_) n (1, M)
        (try dsimp only)
        refine z_iload h153 rfl rfl (Or.inl rfl) ?_
        refine z_iconst h153 rfl ?_
        refine z_icgt h153 rfl ?_ ?_
        · refine z_iconst h153 rfl ?_
          exact z_iret h153 rfl (fun _ q => q)
        · refine z_iconst h153 rfl ?_
          refine z_istore h153 rfl (Or.inr rfl) (ls' := [zr self, zi a1, zi a2, zi s3.1, zi 0, zU, zU]) rfl ?_
          refine z_iconst h153 rfl ?_
          refine z_istore h153 rfl (Or.inr rfl) (ls' := [zr self, zi a1, zi a2, zi s3.1, zi 0, zi 0, zU]) rfl ?_
          refine z_iconst h153 rfl ?_
          refine z_istore h153 rfl (Or.inr rfl) (ls' := [zr self, zi a1, zi a2, zi s3.1, zi 0, zi 0, zi 0]) rfl ?_
          refine Rz.bind (t := fun e8 => (85, [zr self, zi a1, zi a2, zi s3.1, zi e8.1, zi e8.2.1, zi e8.2.2.1], [], e8.2.2.2, K)) ?_ (fun e8 => ?_)
          · refine Rz.wh (hd := fun s7 => (25, [zr self, zi a1, zi a2, zi s3.1, zi s7.1, zi s7.2.1, zi s7.2.2.1], [], s7.2.2.2, K)) (fun s7 => ?_) n (0, 0, 0, s3.2)
            (try dsimp only)
            refine z_iload h153 rfl rfl (Or.inr rfl) ?_
            refine z_iload h153 rfl rfl (Or.inl rfl) ?_
            refine z_iload h153 rfl rfl (Or.inl rfl) ?_
            refine z_imul h153 rfl ?_
            refine z_icge h153 rfl ?_ ?_
            · exact Rz.here fun _ q => q
            · refine z_iload h153 rfl rfl (Or.inl rfl) ?_
              refine z_aload h153 rfl rfl (Or.inl rfl) (by omega) ?_
              refine z_cv (a := 154) (b := 0) (l := [173, 1, 12, 49]) (as := []) (lsE := [zr self, zU, zU, zU, zU]) (st' := [zi s3.1]) (val := fun p => some (zi p)) (mem := fun _ => s7.2.2.2) h153 rfl ⟨rfl, rfl, rfl, Nat.le_of_ble_eq_true rfl, Nat.le_of_ble_eq_true rfl, rfl⟩ (fun g1 => (t_qmd_bound X n K s7.2.2.2 self (by omega))) (fun v9 => ?_)
              refine z_iclt h153 rfl ?_ ?_
              · exact Rz.here fun _ q => q
              · refine z_aload h153 rfl rfl (Or.inl rfl) (by omega) ?_
                refine z_iload h153 rfl rfl (Or.inl rfl) ?_
                refine z_iload h153 rfl rfl (Or.inr rfl) ?_
                refine z_iload h153 rfl rfl (Or.inl rfl) ?_
                refine z_div h153 rfl (fun v10 => ?_)
                refine z_iload h153 rfl rfl (Or.inr rfl) ?_
                refine z_iload h153 rfl rfl (Or.inl rfl) ?_
                refine z_rem h153 rfl (fun v11 => ?_)
                refine z_iload h153 rfl rfl (Or.inl rfl) ?_
                refine z_cv (a := 136) (b := 0) (l := [131, 5, 12, 49]) (as := [zi a1, zi v10, zi v11, zi s3.1]) (lsE := [zr self, zi a1, zi v10, zi v11, zi s3.1, zU, zU]) (st' := []) (val := fun _ => none) (mem := fun p => p) h153 rfl ⟨rfl, rfl, rfl, Nat.le_of_ble_eq_true rfl, Nat.le_of_ble_eq_true rfl, rfl⟩ (fun g1 => (t_qmd_lays X n K s7.2.2.2 self a1 v10 v11 s3.1 (by omega))) (fun M12 => ?_)
                refine z_aload h153 rfl rfl (Or.inl rfl) (by omega) ?_
                refine z_cv (a := 152) (b := 0) (l := [177, 1, 12, 49]) (as := []) (lsE := [zr self, zU, zU]) (st' := []) (val := fun p => some (zi p)) (mem := fun _ => M12) h153 rfl ⟨rfl, rfl, rfl, Nat.le_of_ble_eq_true rfl, Nat.le_of_ble_eq_true rfl, rfl⟩ (fun g1 => (t_qmd_grantsAll X n K M12 self (by omega))) (fun v13 => ?_)
                refine Rz.bind (t := fun j14 => (54, [zr self, zi a1, zi a2, zi s3.1, zi j14.1, zi j14.2, zi s7.2.2.1], [], M12, K)) ?_ (fun j14 => ?_)
                · refine z_ifeq h153 rfl ?_ ?_
                  · exact Rz.here fun _ q => q
                  · refine z_iload h153 rfl rfl (Or.inr rfl) ?_
                    refine Rz.bind (t := fun j15 => (52, [zr self, zi a1, zi a2, zi s3.1, zi s7.1, zU, zi s7.2.2.1], [zi j15], M12, K)) ?_ (fun j15 => ?_)
                    · refine z_ifne h153 rfl ?_ ?_
                      · refine z_iload h153 rfl rfl (Or.inr rfl) ?_
                        refine z_goto h153 rfl ?_
                        refine z_kill h153 rfl (ls' := [zr self, zi a1, zi a2, zi s3.1, zi s7.1, zU, zi s7.2.2.1]) rfl ?_
                        exact Rz.here fun _ q => q
                      · refine z_iload h153 rfl rfl (Or.inr rfl) ?_
                        refine z_kill h153 rfl (ls' := [zr self, zi a1, zi a2, zi s3.1, zi s7.1, zU, zi s7.2.2.1]) rfl ?_
                        exact Rz.here fun _ q => q
                    · (try dsimp only)
                      refine z_istore h153 rfl (Or.inr rfl) (ls' := [zr self, zi a1, zi a2, zi s3.1, zi s7.1, zi j15, zi s7.2.2.1]) rfl ?_
                      refine z_iinc h153 rfl rfl (ls' := [zr self, zi a1, zi a2, zi s3.1, zi (s7.1 + 1), zi j15, zi s7.2.2.1]) rfl ?_
                      exact Rz.here fun _ q => q
                · (try dsimp only)
                  refine z_iinc h153 rfl rfl (ls' := [zr self, zi a1, zi a2, zi s3.1, zi j14.1, zi j14.2, zi (s7.2.2.1 + 1)]) rfl ?_
                  refine z_goto h153 rfl ?_
                  exact Rz.here fun _ q => q
          · (try dsimp only)
            refine z_kill h153 rfl (ls' := [zr self, zi a1, zi a2, zi s3.1, zi e8.1, zi e8.2.1, zU]) rfl ?_
            refine z_iload h153 rfl rfl (Or.inr rfl) ?_
            refine z_ifle h153 rfl ?_ ?_
            · refine z_iinc h153 rfl rfl (ls' := [zr self, zi a1, zi a2, zi (s3.1 + 1), zi e8.1, zi e8.2.1, zU]) rfl ?_
              refine z_goto h153 rfl ?_
              refine z_kill h153 rfl (ls' := [zr self, zi a1, zi a2, zi (s3.1 + 1), zU, zU, zU]) rfl ?_
              exact Rz.here fun _ q => q
            · exact Rz.here fun _ q => q
      · (try dsimp only)
        refine z_iload h153 rfl rfl (Or.inl rfl) ?_
        refine z_ifne h153 rfl ?_ ?_
        · refine z_iload h153 rfl rfl (Or.inl rfl) ?_
          refine z_goto h153 rfl ?_
          refine z_kill h153 rfl (ls' := [zU, zU, zU, zU, zU, zU, zU]) rfl ?_
          exact z_iret h153 rfl (fun _ q => q)
        · refine z_iload h153 rfl rfl (Or.inl rfl) ?_
          refine z_iconst h153 rfl ?_
          refine z_icne h153 rfl ?_ ?_
          · refine z_iload h153 rfl rfl (Or.inr rfl) ?_
            refine z_goto h153 rfl ?_
            refine z_kill h153 rfl (ls' := [zU, zU, zU, zU, zU, zU, zU]) rfl ?_
            exact z_iret h153 rfl (fun _ q => q)
          · refine z_iload h153 rfl rfl (Or.inl rfl) ?_
            refine z_iconst h153 rfl ?_
            refine z_icne h153 rfl ?_ ?_
            · refine z_iload h153 rfl rfl (Or.inr rfl) ?_
              refine z_iload h153 rfl rfl (Or.inl rfl) ?_
              refine z_div h153 rfl (fun v5 => ?_)
              refine z_goto h153 rfl ?_
              refine z_kill h153 rfl (ls' := [zU, zU, zU, zU, zU, zU, zU]) rfl ?_
              exact z_iret h153 rfl (fun _ q => q)
            · refine z_iload h153 rfl rfl (Or.inr rfl) ?_
              refine z_iload h153 rfl rfl (Or.inl rfl) ?_
              refine z_rem h153 rfl (fun v6 => ?_)
              refine z_kill h153 rfl (ls' := [zU, zU, zU, zU, zU, zU, zU]) rfl ?_
              exact z_iret h153 rfl (fun _ q => q)
set_option maxRecDepth 20000 in
theorem t_qmd_placeOf (X : Int × (Int → Int)) (K : zK) (M : zM) (self a1 : Int) (g_self : 1 ≤ self) : Rz X 156 (0, [zr self, zi a1], [], M, K) (qmd_placeOf K M self a1) (fun e P => P (some (zi e), M, K)) := by
  have h156 : zT 156 = zt156 := rfl
  unfold qmd_placeOf
  refine z_iload h156 rfl rfl (Or.inl rfl) ?_
  refine z_iconst h156 rfl ?_
  refine z_div h156 rfl (fun v1 => ?_)
  refine z_iconst h156 rfl ?_
  refine z_isub h156 rfl ?_
  refine z_aload h156 rfl rfl (Or.inl rfl) (by omega) ?_
  refine z_getf (a := 12) (b := 1) (l := [13, 49]) h156 rfl (fun v2 => ?_)
  refine z_imul h156 rfl ?_
  refine z_iload h156 rfl rfl (Or.inl rfl) ?_
  refine z_iconst h156 rfl ?_
  refine z_rem h156 rfl (fun v3 => ?_)
  refine z_iadd h156 rfl ?_
  refine z_iconst h156 rfl ?_
  refine z_isub h156 rfl ?_
  exact z_iret h156 rfl (fun _ q => q)
set_option maxRecDepth 20000 in
theorem t_qmd_findClash (X : Int × (Int → Int)) (n : Nat) (K : zK) (M : zM) (self : Int) (g_self : 1 ≤ self) : Rz X 155 (0, [zr self, zU, zU, zU, zU, zU, zU], [], M, K) (qmd_findClash n K M self) (fun e P => P (none, e, K)) := by
  have h155 : zT 155 = zt155 := rfl
  unfold qmd_findClash
  refine z_iconst h155 rfl ?_
  refine z_istore h155 rfl (Or.inl rfl) (ls' := [zr self, zi 0, zU, zU, zU, zU, zU]) rfl ?_
  refine z_kill h155 rfl (ls' := [zr self, zi 0, zU, zU, zU, zU, zU]) rfl ?_
  refine Rz.bind (t := fun e2 => (12, [zr self, zi e2.1, zU, zU, zU, zU, zU], [], e2.2, K)) ?_ (fun e2 => ?_)
  · refine Rz.wh (hd := fun s1 => (2, [zr self, zi s1.1, zU, zU, zU, zU, zU], [], s1.2, K)) (fun s1 => ?_) n (0, M)
    (try dsimp only)
    refine z_iload h155 rfl rfl (Or.inl rfl) ?_
    refine z_iconst h155 rfl ?_
    refine z_icge h155 rfl ?_ ?_
    · exact Rz.here fun _ q => q
    · refine z_aload h155 rfl rfl (Or.inl rfl) (by omega) ?_
      refine z_getr (a := 12) (b := 13) (l := [41, 49]) h155 rfl (fun r55 g_r55 => ?_)
      refine z_iload h155 rfl rfl (Or.inl rfl) ?_
      refine z_lconst h155 rfl ?_
      refine z_last h155 rfl (fun M56 => ?_)
      refine z_iinc h155 rfl rfl (ls' := [zr self, zi (s1.1 + 1), zU, zU, zU, zU, zU]) rfl ?_
      refine z_goto h155 rfl ?_
      refine z_kill h155 rfl (ls' := [zr self, zi (s1.1 + 1), zU, zU, zU, zU, zU]) rfl ?_
      exact Rz.here fun _ q => q
  · (try dsimp only)
    refine z_iconst h155 rfl ?_
    refine z_istore h155 rfl (Or.inl rfl) (ls' := [zr self, zi 0, zU, zU, zU, zU, zU]) rfl ?_
    refine z_kill h155 rfl (ls' := [zr self, zi 0, zU, zU, zU, zU, zU]) rfl ?_
    refine Rz.wh (hd := fun s3 => (14, [zr self, zi s3.1, zU, zU, zU, zU, zU], [], s3.2, K)) (fun s3 => ?_) n (0, e2.2)
    (try dsimp only)
    refine z_iload h155 rfl rfl (Or.inl rfl) ?_
    refine z_aload h155 rfl rfl (Or.inl rfl) (by omega) ?_
    refine z_getf (a := 12) (b := 9) (l := [161, 49]) h155 rfl (fun v4 => ?_)
    refine z_icge h155 rfl ?_ ?_
    · exact z_vret h155 rfl (fun _ q => q)
    · refine z_aload h155 rfl rfl (Or.inl rfl) (by omega) ?_
      refine z_getr (a := 12) (b := 10) (l := [32, 49]) h155 rfl (fun r5 g_r5 => ?_)
      refine z_iload h155 rfl rfl (Or.inl rfl) ?_
      refine z_iald h155 rfl (fun v6 => ?_)
      refine z_aload h155 rfl rfl (Or.inl rfl) (by omega) ?_
      refine z_getr (a := 12) (b := 11) (l := [35, 49]) h155 rfl (fun r7 g_r7 => ?_)
      refine z_iload h155 rfl rfl (Or.inl rfl) ?_
      refine z_iald h155 rfl (fun v8 => ?_)
      refine z_aload h155 rfl rfl (Or.inl rfl) (by omega) ?_
      refine z_getr (a := 12) (b := 12) (l := [38, 49]) h155 rfl (fun r9 g_r9 => ?_)
      refine z_iload h155 rfl rfl (Or.inl rfl) ?_
      refine z_iald h155 rfl (fun v10 => ?_)
      refine z_cs (a := 141) (b := 0) (l := [142, 3]) (as := [zi v6, zi v8, zi v10]) (lsE := [zi v6, zi v8, zi v10]) (st' := []) (val := fun p => some (zi p)) (mem := fun _ => s3.2) h155 rfl ⟨rfl, rfl, rfl, Nat.le_of_ble_eq_true rfl, Nat.le_of_ble_eq_true rfl, rfl⟩ (t_qmd_cellsOf X K s3.2 v6 v8 v10 ) (fun v11 => ?_)
      refine z_istore h155 rfl (Or.inl rfl) (ls' := [zr self, zi s3.1, zi v11, zU, zU, zU, zU]) rfl ?_
      refine z_iconst h155 rfl ?_
      refine z_istore h155 rfl (Or.inl rfl) (ls' := [zr self, zi s3.1, zi v11, zi 0, zU, zU, zU]) rfl ?_
      refine z_kill h155 rfl (ls' := [zr self, zi s3.1, zi v11, zi 0, zU, zU, zU]) rfl ?_
      refine Rz.bind (t := fun e13 => (134, [zr self, zi s3.1, zi v11, zi e13.1, zU, zU, zU], [], e13.2, K)) ?_ (fun e13 => ?_)
      · refine Rz.wh (hd := fun s12 => (34, [zr self, zi s3.1, zi v11, zi s12.1, zU, zU, zU], [], s12.2, K)) (fun s12 => ?_) n (0, s3.2)
        (try dsimp only)
        refine z_iload h155 rfl rfl (Or.inl rfl) ?_
        refine z_aload h155 rfl rfl (Or.inl rfl) (by omega) ?_
        refine z_getf (a := 12) (b := 0) (l := [7, 49]) h155 rfl (fun v14 => ?_)
        refine z_aload h155 rfl rfl (Or.inl rfl) (by omega) ?_
        refine z_getf (a := 12) (b := 1) (l := [13, 49]) h155 rfl (fun v15 => ?_)
        refine z_imul h155 rfl ?_
        refine z_icge h155 rfl ?_ ?_
        · exact Rz.here fun _ q => q
        · refine z_aload h155 rfl rfl (Or.inl rfl) (by omega) ?_
          refine z_aload h155 rfl rfl (Or.inl rfl) (by omega) ?_
          refine z_getr (a := 12) (b := 10) (l := [32, 49]) h155 rfl (fun r16 g_r16 => ?_)
          refine z_iload h155 rfl rfl (Or.inl rfl) ?_
          refine z_iald h155 rfl (fun v17 => ?_)
          refine z_aload h155 rfl rfl (Or.inl rfl) (by omega) ?_
          refine z_getr (a := 12) (b := 11) (l := [35, 49]) h155 rfl (fun r18 g_r18 => ?_)
          refine z_iload h155 rfl rfl (Or.inl rfl) ?_
          refine z_iald h155 rfl (fun v19 => ?_)
          refine z_aload h155 rfl rfl (Or.inl rfl) (by omega) ?_
          refine z_getr (a := 12) (b := 12) (l := [38, 49]) h155 rfl (fun r20 g_r20 => ?_)
          refine z_iload h155 rfl rfl (Or.inl rfl) ?_
          refine z_iald h155 rfl (fun v21 => ?_)
          refine z_iload h155 rfl rfl (Or.inl rfl) ?_
          refine z_aload h155 rfl rfl (Or.inl rfl) (by omega) ?_
          refine z_getf (a := 12) (b := 1) (l := [13, 49]) h155 rfl (fun v22 => ?_)
          refine z_div h155 rfl (fun v23 => ?_)
          refine z_iload h155 rfl rfl (Or.inl rfl) ?_
          refine z_aload h155 rfl rfl (Or.inl rfl) (by omega) ?_
          refine z_getf (a := 12) (b := 1) (l := [13, 49]) h155 rfl (fun v24 => ?_)
          refine z_rem h155 rfl (fun v25 => ?_)
          refine z_cv (a := 143) (b := 0) (l := [154, 6, 12, 49]) (as := [zi v17, zi v19, zi v21, zi v23, zi v25]) (lsE := [zr self, zi v17, zi v19, zi v21, zi v23, zi v25, zU]) (st' := []) (val := fun p => some (zi p)) (mem := fun _ => s12.2) h155 rfl ⟨rfl, rfl, rfl, Nat.le_of_ble_eq_true rfl, Nat.le_of_ble_eq_true rfl, rfl⟩ (fun g1 => (t_qmd_isThere X K s12.2 self v17 v19 v21 v23 v25 (by omega))) (fun v26 => ?_)
          refine Rz.bind (t := fun j27 => (132, [zr self, zi s3.1, zi v11, zi s12.1, zU, zU, zU], [], j27, K)) ?_ (fun j27 => ?_)
          · refine z_ifeq h155 rfl ?_ ?_
            · refine z_kill h155 rfl (ls' := [zr self, zi s3.1, zi v11, zi s12.1, zU, zU, zU]) rfl ?_
              exact Rz.here fun _ q => q
            · refine z_lconst h155 rfl ?_
              refine z_lstore h155 rfl (Or.inr rfl) (ls' := [zr self, zi s3.1, zi v11, zi s12.1, zl 0, zU, zU]) rfl ?_
              refine z_iconst h155 rfl ?_
              refine z_istore h155 rfl (Or.inr rfl) (ls' := [zr self, zi s3.1, zi v11, zi s12.1, zl 0, zU, zi 0]) rfl ?_
              refine Rz.bind (t := fun e29 => (98, [zr self, zi s3.1, zi v11, zi s12.1, zl e29.1, zU, zi e29.2], [], s12.2, K)) ?_ (fun e29 => ?_)
              · refine Rz.wh (hd := fun s28 => (68, [zr self, zi s3.1, zi v11, zi s12.1, zl s28.1, zU, zi s28.2], [], s12.2, K)) (fun s28 => ?_) n (0, 0)
                (try dsimp only)
                refine z_iload h155 rfl rfl (Or.inr rfl) ?_
                refine z_iload h155 rfl rfl (Or.inl rfl) ?_
                refine z_icge h155 rfl ?_ ?_
                · exact Rz.here fun _ q => q
                · refine z_lload h155 rfl rfl (Or.inr rfl) ?_
                  refine z_lconst h155 rfl ?_
                  refine z_aload h155 rfl rfl (Or.inl rfl) (by omega) ?_
                  refine z_aload h155 rfl rfl (Or.inl rfl) (by omega) ?_
                  refine z_getr (a := 12) (b := 10) (l := [32, 49]) h155 rfl (fun r45 g_r45 => ?_)
                  refine z_iload h155 rfl rfl (Or.inl rfl) ?_
                  refine z_iald h155 rfl (fun v46 => ?_)
                  refine z_aload h155 rfl rfl (Or.inl rfl) (by omega) ?_
                  refine z_getr (a := 12) (b := 12) (l := [38, 49]) h155 rfl (fun r47 g_r47 => ?_)
                  refine z_iload h155 rfl rfl (Or.inl rfl) ?_
                  refine z_iald h155 rfl (fun v48 => ?_)
                  refine z_iload h155 rfl rfl (Or.inl rfl) ?_
                  refine z_aload h155 rfl rfl (Or.inl rfl) (by omega) ?_
                  refine z_getf (a := 12) (b := 1) (l := [13, 49]) h155 rfl (fun v49 => ?_)
                  refine z_div h155 rfl (fun v50 => ?_)
                  refine z_iload h155 rfl rfl (Or.inl rfl) ?_
                  refine z_aload h155 rfl rfl (Or.inl rfl) (by omega) ?_
                  refine z_getf (a := 12) (b := 1) (l := [13, 49]) h155 rfl (fun v51 => ?_)
                  refine z_rem h155 rfl (fun v52 => ?_)
                  refine z_iload h155 rfl rfl (Or.inr rfl) ?_
                  refine z_cs (a := 142) (b := 0) (l := [146, 5]) (as := [zi v46, zi v48, zi v50, zi v52, zi s28.2]) (lsE := [zi v46, zi v48, zi v50, zi v52, zi s28.2, zU, zU]) (st' := [zr self, zl 1, zl s28.1]) (val := fun p => some (zi p)) (mem := fun _ => s12.2) h155 rfl ⟨rfl, rfl, rfl, Nat.le_of_ble_eq_true rfl, Nat.le_of_ble_eq_true rfl, rfl⟩ (t_qmd_cellAt X K s12.2 v46 v48 v50 v52 s28.2 ) (fun v53 => ?_)
                  refine z_cv (a := 156) (b := 0) (l := [181, 2, 12, 49]) (as := [zi v53]) (lsE := [zr self, zi v53]) (st' := [zl 1, zl s28.1]) (val := fun p => some (zi p)) (mem := fun _ => s12.2) h155 rfl ⟨rfl, rfl, rfl, Nat.le_of_ble_eq_true rfl, Nat.le_of_ble_eq_true rfl, rfl⟩ (fun g1 => (t_qmd_placeOf X K s12.2 self v53 (by omega))) (fun v54 => ?_)
                  refine z_lshl h155 rfl ?_
                  refine z_lor h155 rfl ?_
                  refine z_lstore h155 rfl (Or.inr rfl) (ls' := [zr self, zi s3.1, zi v11, zi s12.1, zl (zlor s28.1 (zlshl 1 v54)), zU, zi s28.2]) rfl ?_
                  refine z_iinc h155 rfl rfl (ls' := [zr self, zi s3.1, zi v11, zi s12.1, zl (zlor s28.1 (zlshl 1 v54)), zU, zi (s28.2 + 1)]) rfl ?_
                  refine z_goto h155 rfl ?_
                  exact Rz.here fun _ q => q
              · (try dsimp only)
                refine z_iconst h155 rfl ?_
                refine z_istore h155 rfl (Or.inr rfl) (ls' := [zr self, zi s3.1, zi v11, zi s12.1, zl e29.1, zU, zi 0]) rfl ?_
                refine Rz.bind (t := fun e31 => (140, [zr self, zi s3.1, zi v11, zi s12.1, zl e29.1, zU, zi e31.1], [], e31.2, K)) ?_ (fun e31 => ?_)
                · refine Rz.wh (hd := fun s30 => (100, [zr self, zi s3.1, zi v11, zi s12.1, zl e29.1, zU, zi s30.1], [], s30.2, K)) (fun s30 => ?_) n (0, s12.2)
                  (try dsimp only)
                  refine z_iload h155 rfl rfl (Or.inr rfl) ?_
                  refine z_iload h155 rfl rfl (Or.inl rfl) ?_
                  refine z_icge h155 rfl ?_ ?_
                  · exact Rz.here fun _ q => q
                  · refine z_aload h155 rfl rfl (Or.inl rfl) (by omega) ?_
                    refine z_getr (a := 12) (b := 13) (l := [41, 49]) h155 rfl (fun r32 g_r32 => ?_)
                    refine z_aload h155 rfl rfl (Or.inl rfl) (by omega) ?_
                    refine z_aload h155 rfl rfl (Or.inl rfl) (by omega) ?_
                    refine z_getr (a := 12) (b := 10) (l := [32, 49]) h155 rfl (fun r33 g_r33 => ?_)
                    refine z_iload h155 rfl rfl (Or.inl rfl) ?_
                    refine z_iald h155 rfl (fun v34 => ?_)
                    refine z_aload h155 rfl rfl (Or.inl rfl) (by omega) ?_
                    refine z_getr (a := 12) (b := 12) (l := [38, 49]) h155 rfl (fun r35 g_r35 => ?_)
                    refine z_iload h155 rfl rfl (Or.inl rfl) ?_
                    refine z_iald h155 rfl (fun v36 => ?_)
                    refine z_iload h155 rfl rfl (Or.inl rfl) ?_
                    refine z_aload h155 rfl rfl (Or.inl rfl) (by omega) ?_
                    refine z_getf (a := 12) (b := 1) (l := [13, 49]) h155 rfl (fun v37 => ?_)
                    refine z_div h155 rfl (fun v38 => ?_)
                    refine z_iload h155 rfl rfl (Or.inl rfl) ?_
                    refine z_aload h155 rfl rfl (Or.inl rfl) (by omega) ?_
                    refine z_getf (a := 12) (b := 1) (l := [13, 49]) h155 rfl (fun v39 => ?_)
                    refine z_rem h155 rfl (fun v40 => ?_)
                    refine z_iload h155 rfl rfl (Or.inr rfl) ?_
                    refine z_cs (a := 142) (b := 0) (l := [146, 5]) (as := [zi v34, zi v36, zi v38, zi v40, zi s30.1]) (lsE := [zi v34, zi v36, zi v38, zi v40, zi s30.1, zU, zU]) (st' := [zr self, zr r32]) (val := fun p => some (zi p)) (mem := fun _ => s30.2) h155 rfl ⟨rfl, rfl, rfl, Nat.le_of_ble_eq_true rfl, Nat.le_of_ble_eq_true rfl, rfl⟩ (t_qmd_cellAt X K s30.2 v34 v36 v38 v40 s30.1 ) (fun v41 => ?_)
                    refine z_cv (a := 156) (b := 0) (l := [181, 2, 12, 49]) (as := [zi v41]) (lsE := [zr self, zi v41]) (st' := [zr r32]) (val := fun p => some (zi p)) (mem := fun _ => s30.2) h155 rfl ⟨rfl, rfl, rfl, Nat.le_of_ble_eq_true rfl, Nat.le_of_ble_eq_true rfl, rfl⟩ (fun g1 => (t_qmd_placeOf X K s30.2 self v41 (by omega))) (fun v42 => ?_)
                    refine z_dup2 h155 rfl ?_
                    refine z_lald h155 rfl (fun v43 => ?_)
                    refine z_lload h155 rfl rfl (Or.inr rfl) ?_
                    refine z_lor h155 rfl ?_
                    refine z_last h155 rfl (fun M44 => ?_)
                    refine z_iinc h155 rfl rfl (ls' := [zr self, zi s3.1, zi v11, zi s12.1, zl e29.1, zU, zi (s30.1 + 1)]) rfl ?_
                    refine z_goto h155 rfl ?_
                    exact Rz.here fun _ q => q
                · (try dsimp only)
                  refine z_kill h155 rfl (ls' := [zr self, zi s3.1, zi v11, zi s12.1, zU, zU, zU]) rfl ?_
                  exact Rz.here fun _ q => q
          · (try dsimp only)
            refine z_iinc h155 rfl rfl (ls' := [zr self, zi s3.1, zi v11, zi (s12.1 + 1), zU, zU, zU]) rfl ?_
            refine z_goto h155 rfl ?_
            refine z_kill h155 rfl (ls' := [zr self, zi s3.1, zi v11, zi (s12.1 + 1), zU, zU, zU]) rfl ?_
            exact Rz.here fun _ q => q
      · (try dsimp only)
        refine z_iinc h155 rfl rfl (ls' := [zr self, zi (s3.1 + 1), zi v11, zi e13.1, zU, zU, zU]) rfl ?_
        refine z_goto h155 rfl ?_
        refine z_kill h155 rfl (ls' := [zr self, zi (s3.1 + 1), zU, zU, zU, zU, zU]) rfl ?_
        exact Rz.here fun _ q => q
set_option maxRecDepth 20000 in
theorem t_qmd_isAlone (X : Int × (Int → Int)) (n : Nat) (K : zK) (M : zM) (self a1 a2 : Int) (g_self : 1 ≤ self) : Rz X 157 (0, [zr self, zi a1, zi a2, zU, zU], [], M, K) (qmd_isAlone n K M self a1 a2) (fun e P => P (some (zi e), M, K)) := by
  have h157 : zT 157 = zt157 := rfl
  unfold qmd_isAlone
  refine z_iconst h157 rfl ?_
  refine z_istore h157 rfl (Or.inl rfl) (ls' := [zr self, zi a1, zi a2, zi 1, zU]) rfl ?_
  refine z_iconst h157 rfl ?_
  refine z_istore h157 rfl (Or.inr rfl) (ls' := [zr self, zi a1, zi a2, zi 1, zi 0]) rfl ?_
  refine Rz.wh (hd := fun s1 => (4, [zr self, zi a1, zi a2, zi s1.1, zi s1.2], [], M, K)) (fun s1 => ?_) n (1, 0)
  (try dsimp only)
  refine z_iload h157 rfl rfl (Or.inr rfl) ?_
  refine z_iload h157 rfl rfl (Or.inl rfl) ?_
  refine z_icge h157 rfl ?_ ?_
  · refine z_kill h157 rfl (ls' := [zU, zU, zU, zi s1.1, zU]) rfl ?_
    refine z_iload h157 rfl rfl (Or.inl rfl) ?_
    exact z_zretb h157 rfl (fun z hz P q => by cases hz; exact q)
  · refine z_iload h157 rfl rfl (Or.inl rfl) ?_
    refine z_ifeq h157 rfl ?_ ?_
    · refine z_kill h157 rfl (ls' := [zU, zU, zU, zi s1.1, zU]) rfl ?_
      refine z_iload h157 rfl rfl (Or.inl rfl) ?_
      exact z_zretb h157 rfl (fun z hz P q => by cases hz; exact q)
    · refine z_aload h157 rfl rfl (Or.inl rfl) (by omega) ?_
      refine z_getr (a := 12) (b := 13) (l := [41, 49]) h157 rfl (fun r4 g_r4 => ?_)
      refine z_iload h157 rfl rfl (Or.inl rfl) ?_
      refine z_lald h157 rfl (fun v5 => ?_)
      refine z_iload h157 rfl rfl (Or.inr rfl) ?_
      refine z_lshr h157 rfl ?_
      refine z_lconst h157 rfl ?_
      refine z_land h157 rfl ?_
      refine z_lconst h157 rfl ?_
      refine z_lcmp h157 rfl ?_
      refine Rz.esc (t := fun j6 => (26, [zr self, zi a1, zi a2, zU, zi s1.2], [], M, K)) ?_ (fun j6 => ?_)
      · refine z_ifeq h157 rfl ?_ ?_
        · refine z_kill h157 rfl (ls' := [zr self, zi a1, zi a2, zU, zi s1.2]) rfl ?_
          exact Rz.here fun _ q => q
        · refine z_aload h157 rfl rfl (Or.inl rfl) (by omega) ?_
          refine z_getr (a := 12) (b := 14) (l := [45, 49]) h157 rfl (fun r7 g_r7 => ?_)
          refine z_iload h157 rfl rfl (Or.inr rfl) ?_
          refine z_iald h157 rfl (fun v8 => ?_)
          refine z_iload h157 rfl rfl (Or.inl rfl) ?_
          refine z_iceq h157 rfl ?_ ?_
          · refine z_iconst h157 rfl ?_
            refine z_kill h157 rfl (ls' := [zr self, zi a1, zi a2, zU, zi s1.2]) rfl ?_
            refine z_istore h157 rfl (Or.inl rfl) (ls' := [zr self, zi a1, zi a2, zi 0, zi s1.2]) rfl ?_
            refine z_iinc h157 rfl rfl (ls' := [zr self, zi a1, zi a2, zi 0, zi (s1.2 + 1)]) rfl ?_
            refine z_goto h157 rfl ?_
            exact Rz.here fun _ q => q
          · refine z_kill h157 rfl (ls' := [zr self, zi a1, zi a2, zU, zi s1.2]) rfl ?_
            exact Rz.here fun _ q => q
      · (try dsimp only)
        refine z_iconst h157 rfl ?_
        refine z_goto h157 rfl ?_
        refine z_kill h157 rfl (ls' := [zr self, zi a1, zi a2, zU, zi s1.2]) rfl ?_
        refine z_istore h157 rfl (Or.inl rfl) (ls' := [zr self, zi a1, zi a2, zi 1, zi s1.2]) rfl ?_
        refine z_iinc h157 rfl rfl (ls' := [zr self, zi a1, zi a2, zi 1, zi (s1.2 + 1)]) rfl ?_
        refine z_goto h157 rfl ?_
        exact Rz.here fun _ q => q
set_option maxRecDepth 20000 in
theorem t_qmd_greatestAhead (X : Int × (Int → Int)) (n : Nat) (K : zK) (M : zM) (self a1 : Int) (g_self : 1 ≤ self) : Rz X 158 (0, [zr self, zi a1, zU, zU], [], M, K) (qmd_greatestAhead n K M self a1) (fun e P => P (some (zi e), M, K)) := by
  have h158 : zT 158 = zt158 := rfl
  unfold qmd_greatestAhead
  refine z_iconst h158 rfl ?_
  refine z_istore h158 rfl (Or.inl rfl) (ls' := [zr self, zi a1, zi (-1), zU]) rfl ?_
  refine z_iconst h158 rfl ?_
  refine z_istore h158 rfl (Or.inl rfl) (ls' := [zr self, zi a1, zi (-1), zi 0]) rfl ?_
  refine Rz.wh (hd := fun s1 => (4, [zr self, zi a1, zi s1.1, zi s1.2], [], M, K)) (fun s1 => ?_) n ((-1), 0)
  (try dsimp only)
  refine z_iload h158 rfl rfl (Or.inl rfl) ?_
  refine z_iload h158 rfl rfl (Or.inl rfl) ?_
  refine z_icge h158 rfl ?_ ?_
  · refine z_iload h158 rfl rfl (Or.inl rfl) ?_
    exact z_iret h158 rfl (fun _ q => q)
  · refine z_aload h158 rfl rfl (Or.inl rfl) (by omega) ?_
    refine z_getr (a := 12) (b := 14) (l := [45, 49]) h158 rfl (fun r2 g_r2 => ?_)
    refine z_iload h158 rfl rfl (Or.inl rfl) ?_
    refine z_iald h158 rfl (fun v3 => ?_)
    refine z_iload h158 rfl rfl (Or.inl rfl) ?_
    refine Rz.bind (t := fun j4 => (19, [zr self, zi a1, zU, zi s1.2], [zi j4], M, K)) ?_ (fun j4 => ?_)
    · refine z_icle h158 rfl ?_ ?_
      · refine z_iload h158 rfl rfl (Or.inl rfl) ?_
        refine z_kill h158 rfl (ls' := [zr self, zi a1, zU, zi s1.2]) rfl ?_
        exact Rz.here fun _ q => q
      · refine z_aload h158 rfl rfl (Or.inl rfl) (by omega) ?_
        refine z_getr (a := 12) (b := 14) (l := [45, 49]) h158 rfl (fun r5 g_r5 => ?_)
        refine z_iload h158 rfl rfl (Or.inl rfl) ?_
        refine z_iald h158 rfl (fun v6 => ?_)
        refine z_goto h158 rfl ?_
        refine z_kill h158 rfl (ls' := [zr self, zi a1, zU, zi s1.2]) rfl ?_
        exact Rz.here fun _ q => q
    · (try dsimp only)
      refine z_istore h158 rfl (Or.inl rfl) (ls' := [zr self, zi a1, zi j4, zi s1.2]) rfl ?_
      refine z_iinc h158 rfl rfl (ls' := [zr self, zi a1, zi j4, zi (s1.2 + 1)]) rfl ?_
      refine z_goto h158 rfl ?_
      exact Rz.here fun _ q => q
set_option maxRecDepth 20000 in
theorem t_qmd_laysFree (X : Int × (Int → Int)) (n : Nat) (K : zK) (M : zM) (self a1 : Int) (g_self : 1 ≤ self) : Rz X 159 (0, [zr self, zi a1, zU, zU, zU], [], M, K) (qmd_laysFree n K M self a1) (fun e P => P (some (zi e.1), e.2, K)) := by
  have h159 : zT 159 = zt159 := rfl
  unfold qmd_laysFree
  refine z_aload h159 rfl rfl (Or.inl rfl) (by omega) ?_
  refine z_cv (a := 155) (b := 0) (l := [185, 1, 12, 49]) (as := []) (lsE := [zr self, zU, zU, zU, zU, zU, zU]) (st' := []) (val := fun _ => none) (mem := fun p => p) h159 rfl ⟨rfl, rfl, rfl, Nat.le_of_ble_eq_true rfl, Nat.le_of_ble_eq_true rfl, rfl⟩ (fun g1 => (t_qmd_findClash X n K M self (by omega))) (fun M1 => ?_)
  refine z_aload h159 rfl rfl (Or.inl rfl) (by omega) ?_
  refine z_iconst h159 rfl ?_
  refine z_putf (a := 12) (b := 15) (l := [188, 49]) h159 rfl (fun M2 => ?_)
  refine z_iconst h159 rfl ?_
  refine z_istore h159 rfl (Or.inl rfl) (ls' := [zr self, zi a1, zi 0, zU, zU]) rfl ?_
  refine z_aload h159 rfl rfl (Or.inl rfl) (by omega) ?_
  refine z_getr (a := 12) (b := 14) (l := [45, 49]) h159 rfl (fun r3 g_r3 => ?_)
  refine z_iconst h159 rfl ?_
  refine z_iconst h159 rfl ?_
  refine z_iast h159 rfl (fun M4 => ?_)
  refine z_kill h159 rfl (ls' := [zr self, zi a1, zi 0, zU, zU]) rfl ?_
  refine Rz.wh (hd := fun s5 => (12, [zr self, zi a1, zi s5.1, zU, zU], [], s5.2, K)) (fun s5 => ?_) n (0, M4)
  (try dsimp only)
  refine z_iload h159 rfl rfl (Or.inl rfl) ?_
  refine Rz.esc (t := fun j6 => (110, [zr self, zU, zi s5.1, zU, zU], [], s5.2, K)) ?_ (fun j6 => ?_)
  · refine z_iflt h159 rfl ?_ ?_
    · refine z_kill h159 rfl (ls' := [zr self, zU, zi s5.1, zU, zU]) rfl ?_
      exact Rz.here fun _ q => q
    · refine z_iload h159 rfl rfl (Or.inl rfl) ?_
      refine z_aload h159 rfl rfl (Or.inl rfl) (by omega) ?_
      refine z_getf (a := 12) (b := 0) (l := [7, 49]) h159 rfl (fun v8 => ?_)
      refine z_aload h159 rfl rfl (Or.inl rfl) (by omega) ?_
      refine z_getf (a := 12) (b := 1) (l := [13, 49]) h159 rfl (fun v9 => ?_)
      refine z_imul h159 rfl ?_
      refine z_icge h159 rfl ?_ ?_
      · refine z_kill h159 rfl (ls' := [zr self, zU, zi s5.1, zU, zU]) rfl ?_
        exact Rz.here fun _ q => q
      · refine z_aload h159 rfl rfl (Or.inl rfl) (by omega) ?_
        refine z_iload h159 rfl rfl (Or.inl rfl) ?_
        refine z_cv (a := 158) (b := 0) (l := [191, 2, 12, 49]) (as := [zi s5.1]) (lsE := [zr self, zi s5.1, zU, zU]) (st' := []) (val := fun p => some (zi p)) (mem := fun _ => s5.2) h159 rfl ⟨rfl, rfl, rfl, Nat.le_of_ble_eq_true rfl, Nat.le_of_ble_eq_true rfl, rfl⟩ (fun g1 => (t_qmd_greatestAhead X n K s5.2 self s5.1 (by omega))) (fun v10 => ?_)
        refine z_iconst h159 rfl ?_
        refine z_iadd h159 rfl ?_
        refine z_istoreL (lsf := fun x11 => [zr self, zi a1, zi s5.1, zi x11, zU]) h159 rfl (Or.inl rfl) (fun _ => rfl) (fun x11 => ?_)
        (try dsimp only)
        refine z_iload h159 rfl rfl (Or.inl rfl) ?_
        refine z_iload h159 rfl rfl (Or.inl rfl) ?_
        refine z_iconst h159 rfl ?_
        refine z_isub h159 rfl ?_
        refine Rz.bind (t := fun j12 => (37, [zr self, zi a1, zi s5.1, zU, zU], [zi j12], s5.2, K)) ?_ (fun j12 => ?_)
        · refine z_icge h159 rfl ?_ ?_
          · refine z_iload h159 rfl rfl (Or.inl rfl) ?_
            refine z_iconst h159 rfl ?_
            refine z_isub h159 rfl ?_
            refine z_kill h159 rfl (ls' := [zr self, zi a1, zi s5.1, zU, zU]) rfl ?_
            exact Rz.here fun _ q => q
          · refine z_iload h159 rfl rfl (Or.inl rfl) ?_
            refine z_goto h159 rfl ?_
            refine z_kill h159 rfl (ls' := [zr self, zi a1, zi s5.1, zU, zU]) rfl ?_
            exact Rz.here fun _ q => q
        · (try dsimp only)
          refine z_istore h159 rfl (Or.inl rfl) (ls' := [zr self, zi a1, zi s5.1, zi j12, zU]) rfl ?_
          refine z_iconst h159 rfl ?_
          refine z_istore h159 rfl (Or.inr rfl) (ls' := [zr self, zi a1, zi s5.1, zi j12, zi 0]) rfl ?_
          refine Rz.esc (t := fun e14 => (120, [zr self, zi a1, zi s5.1, zi j12, zi e14.1], [], e14.2, K)) ?_ (fun e14 => ?_)
          · refine Rz.wh (hd := fun s13 => (40, [zr self, zi a1, zi s5.1, zi j12, zi s13.1], [], s13.2, K)) (fun s13 => ?_) n (0, s5.2)
            (try dsimp only)
            refine z_iload h159 rfl rfl (Or.inr rfl) ?_
            refine z_ifne h159 rfl ?_ ?_
            · refine z_aload h159 rfl rfl (Or.inl rfl) (by omega) ?_
              refine z_getr (a := 12) (b := 14) (l := [45, 49]) h159 rfl (fun r22 g_r22 => ?_)
              refine z_iload h159 rfl rfl (Or.inl rfl) ?_
              refine z_iald h159 rfl (fun v23 => ?_)
              refine z_iload h159 rfl rfl (Or.inl rfl) ?_
              refine z_icge h159 rfl ?_ ?_
              · exact Rz.here fun _ q => q
              · refine z_aload h159 rfl rfl (Or.inl rfl) (by omega) ?_
                refine z_dupr h159 rfl ?_
                refine z_getf (a := 12) (b := 15) (l := [188, 49]) h159 rfl (fun v24 => ?_)
                refine z_iconst h159 rfl ?_
                refine z_iadd h159 rfl ?_
                refine z_putf (a := 12) (b := 15) (l := [188, 49]) h159 rfl (fun M25 => ?_)
                refine z_aload h159 rfl rfl (Or.inl rfl) (by omega) ?_
                refine z_getr (a := 12) (b := 14) (l := [45, 49]) h159 rfl (fun r26 g_r26 => ?_)
                refine z_iload h159 rfl rfl (Or.inl rfl) ?_
                refine z_dup2 h159 rfl ?_
                refine z_iald h159 rfl (fun v27 => ?_)
                refine z_iconst h159 rfl ?_
                refine z_iadd h159 rfl ?_
                refine z_iast h159 rfl (fun M28 => ?_)
                refine z_aload h159 rfl rfl (Or.inl rfl) (by omega) ?_
                refine z_iload h159 rfl rfl (Or.inl rfl) ?_
                refine z_aload h159 rfl rfl (Or.inl rfl) (by omega) ?_
                refine z_getr (a := 12) (b := 14) (l := [45, 49]) h159 rfl (fun r29 g_r29 => ?_)
                refine z_iload h159 rfl rfl (Or.inl rfl) ?_
                refine z_iald h159 rfl (fun v30 => ?_)
                refine z_cv (a := 157) (b := 0) (l := [194, 3, 12, 49]) (as := [zi s5.1, zi v30]) (lsE := [zr self, zi s5.1, zi v30, zU, zU]) (st' := []) (val := fun p => some (zi p)) (mem := fun _ => M28) h159 rfl ⟨rfl, rfl, rfl, Nat.le_of_ble_eq_true rfl, Nat.le_of_ble_eq_true rfl, rfl⟩ (fun g1 => (t_qmd_isAlone X n K M28 self s5.1 v30 (by omega))) (fun v31 => ?_)
                refine z_istore h159 rfl (Or.inr rfl) (ls' := [zr self, zi a1, zi s5.1, zi j12, zi v31]) rfl ?_
                refine z_aload h159 rfl rfl (Or.inl rfl) (by omega) ?_
                refine z_getf (a := 12) (b := 15) (l := [188, 49]) h159 rfl (fun v32 => ?_)
                refine z_iconst h159 rfl ?_
                refine z_icne h159 rfl ?_ ?_
                · refine z_iload h159 rfl rfl (Or.inr rfl) ?_
                  refine z_ifeq h159 rfl ?_ ?_
                  · refine z_kill h159 rfl (ls' := [zU, zU, zU, zU, zU]) rfl ?_
                    refine z_iconst h159 rfl ?_
                    exact z_iret h159 rfl (fun _ q => q)
                  · refine z_iload h159 rfl rfl (Or.inl rfl) ?_
                    refine z_aload h159 rfl rfl (Or.inl rfl) (by omega) ?_
                    refine z_getf (a := 12) (b := 0) (l := [7, 49]) h159 rfl (fun v33 => ?_)
                    refine z_aload h159 rfl rfl (Or.inl rfl) (by omega) ?_
                    refine z_getf (a := 12) (b := 1) (l := [13, 49]) h159 rfl (fun v34 => ?_)
                    refine z_imul h159 rfl ?_
                    refine z_iconst h159 rfl ?_
                    refine z_isub h159 rfl ?_
                    refine z_iceq h159 rfl ?_ ?_
                    · exact Rz.here fun _ q => q
                    · refine z_kill h159 rfl (ls' := [zU, zU, zU, zU, zU]) rfl ?_
                      refine z_iconst h159 rfl ?_
                      exact z_iret h159 rfl (fun _ q => q)
                · exact Rz.here fun _ q => q
            · exact Rz.here fun _ q => q
          · (try dsimp only)
            refine z_kill h159 rfl (ls' := [zr self, zi a1, zi s5.1, zU, zi e14.1]) rfl ?_
            refine z_iload h159 rfl rfl (Or.inl rfl) ?_
            refine z_iload h159 rfl rfl (Or.inr rfl) ?_
            refine Rz.bind (t := fun j15 => (93, [zr self, zi a1, zU, zU, zi e14.1], [zi j15, zi s5.1], e14.2, K)) ?_ (fun j15 => ?_)
            · refine z_ifeq h159 rfl ?_ ?_
              · refine z_iconst h159 rfl ?_
                refine z_kill h159 rfl (ls' := [zr self, zi a1, zU, zU, zi e14.1]) rfl ?_
                exact Rz.here fun _ q => q
              · refine z_iconst h159 rfl ?_
                refine z_goto h159 rfl ?_
                refine z_kill h159 rfl (ls' := [zr self, zi a1, zU, zU, zi e14.1]) rfl ?_
                exact Rz.here fun _ q => q
            · (try dsimp only)
              refine z_iadd h159 rfl ?_
              refine z_istoreL (lsf := fun x16 => [zr self, zi a1, zi x16, zU, zi e14.1]) h159 rfl (Or.inl rfl) (fun _ => rfl) (fun x16 => ?_)
              (try dsimp only)
              refine z_iload h159 rfl rfl (Or.inr rfl) ?_
              refine Rz.bind (t := fun j17 => (109, [zr self, zi a1, zi x16, zU, zU], [], j17, K)) ?_ (fun j17 => ?_)
              · refine z_ifeq h159 rfl ?_ ?_
                · refine z_kill h159 rfl (ls' := [zr self, zi a1, zi x16, zU, zU]) rfl ?_
                  exact Rz.here fun _ q => q
                · refine z_iload h159 rfl rfl (Or.inl rfl) ?_
                  refine z_aload h159 rfl rfl (Or.inl rfl) (by omega) ?_
                  refine z_getf (a := 12) (b := 0) (l := [7, 49]) h159 rfl (fun v18 => ?_)
                  refine z_aload h159 rfl rfl (Or.inl rfl) (by omega) ?_
                  refine z_getf (a := 12) (b := 1) (l := [13, 49]) h159 rfl (fun v19 => ?_)
                  refine z_imul h159 rfl ?_
                  refine z_icge h159 rfl ?_ ?_
                  · refine z_kill h159 rfl (ls' := [zr self, zi a1, zi x16, zU, zU]) rfl ?_
                    exact Rz.here fun _ q => q
                  · refine z_aload h159 rfl rfl (Or.inl rfl) (by omega) ?_
                    refine z_getr (a := 12) (b := 14) (l := [45, 49]) h159 rfl (fun r20 g_r20 => ?_)
                    refine z_iload h159 rfl rfl (Or.inl rfl) ?_
                    refine z_iconst h159 rfl ?_
                    refine z_iast h159 rfl (fun M21 => ?_)
                    refine z_kill h159 rfl (ls' := [zr self, zi a1, zi x16, zU, zU]) rfl ?_
                    exact Rz.here fun _ q => q
              · (try dsimp only)
                refine z_goto h159 rfl ?_
                refine z_kill h159 rfl (ls' := [zr self, zi a1, zi x16, zU, zU]) rfl ?_
                exact Rz.here fun _ q => q
  · (try dsimp only)
    refine z_iload h159 rfl rfl (Or.inl rfl) ?_
    refine z_ifge h159 rfl ?_ ?_
    · refine z_aload h159 rfl rfl (Or.inl rfl) (by omega) ?_
      refine z_getf (a := 12) (b := 15) (l := [188, 49]) h159 rfl (fun v7 => ?_)
      refine z_kill h159 rfl (ls' := [zU, zU, zU, zU, zU]) rfl ?_
      exact z_iret h159 rfl (fun _ q => q)
    · refine z_iconst h159 rfl ?_
      refine z_goto h159 rfl ?_
      refine z_kill h159 rfl (ls' := [zU, zU, zU, zU, zU]) rfl ?_
      exact z_iret h159 rfl (fun _ q => q)
set_option maxRecDepth 20000 in
theorem t_qmd_free (X : Int × (Int → Int)) (n : Nat) (K : zK) (M : zM) (self : Int) (g_self : 1 ≤ self) : Rz X 160 (0, [zr self, zU, zU], [], M, K) (qmd_free n K M self) (fun e P => P (some (zi e.1), e.2, K)) := by
  have h160 : zT 160 = zt160 := rfl
  unfold qmd_free
  refine z_aload h160 rfl rfl (Or.inl rfl) (by omega) ?_
  refine z_getf (a := 12) (b := 0) (l := [7, 49]) h160 rfl (fun v1 => ?_)
  refine z_aload h160 rfl rfl (Or.inl rfl) (by omega) ?_
  refine z_getf (a := 12) (b := 1) (l := [13, 49]) h160 rfl (fun v2 => ?_)
  refine z_imul h160 rfl ?_
  refine z_iconst h160 rfl ?_
  refine z_icle h160 rfl ?_ ?_
  · refine z_aload h160 rfl rfl (Or.inl rfl) (by omega) ?_
    refine z_aload h160 rfl rfl (Or.inl rfl) (by omega) ?_
    refine z_getf (a := 12) (b := 2) (l := [16, 49]) h160 rfl (fun v3 => ?_)
    refine z_cv (a := 159) (b := 0) (l := [197, 2, 12, 49]) (as := [zi v3]) (lsE := [zr self, zi v3, zU, zU, zU]) (st' := []) (val := fun p => some (zi p.1)) (mem := fun p => p.2) h160 rfl ⟨rfl, rfl, rfl, Nat.le_of_ble_eq_true rfl, Nat.le_of_ble_eq_true rfl, rfl⟩ (fun g1 => (t_qmd_laysFree X n K M self v3 (by omega))) (fun p4 => ?_)
    refine z_istore h160 rfl (Or.inl rfl) (ls' := [zr self, zi p4.1, zU]) rfl ?_
    refine z_iconst h160 rfl ?_
    refine z_istore h160 rfl (Or.inl rfl) (ls' := [zr self, zi p4.1, zi 0]) rfl ?_
    refine Rz.wh (hd := fun s5 => (16, [zr self, zi p4.1, zi s5.1], [], s5.2, K)) (fun s5 => ?_) n (0, p4.2)
    (try dsimp only)
    refine z_iload h160 rfl rfl (Or.inl rfl) ?_
    refine z_aload h160 rfl rfl (Or.inl rfl) (by omega) ?_
    refine z_getf (a := 12) (b := 0) (l := [7, 49]) h160 rfl (fun v6 => ?_)
    refine z_aload h160 rfl rfl (Or.inl rfl) (by omega) ?_
    refine z_getf (a := 12) (b := 1) (l := [13, 49]) h160 rfl (fun v7 => ?_)
    refine z_imul h160 rfl ?_
    refine z_icge h160 rfl ?_ ?_
    · refine z_kill h160 rfl (ls' := [zU, zi p4.1, zU]) rfl ?_
      refine z_iload h160 rfl rfl (Or.inl rfl) ?_
      exact z_iret h160 rfl (fun _ q => q)
    · refine z_iload h160 rfl rfl (Or.inl rfl) ?_
      refine z_ifle h160 rfl ?_ ?_
      · refine z_kill h160 rfl (ls' := [zU, zi p4.1, zU]) rfl ?_
        refine z_iload h160 rfl rfl (Or.inl rfl) ?_
        exact z_iret h160 rfl (fun _ q => q)
      · refine z_aload h160 rfl rfl (Or.inl rfl) (by omega) ?_
        refine z_getr (a := 12) (b := 6) (l := [22, 49]) h160 rfl (fun r8 g_r8 => ?_)
        refine z_iconst h160 rfl ?_
        refine z_iload h160 rfl rfl (Or.inl rfl) ?_
        refine z_aload h160 rfl rfl (Or.inl rfl) (by omega) ?_
        refine z_getf (a := 12) (b := 1) (l := [13, 49]) h160 rfl (fun v9 => ?_)
        refine z_div h160 rfl (fun v10 => ?_)
        refine z_imul h160 rfl ?_
        refine z_iload h160 rfl rfl (Or.inl rfl) ?_
        refine z_aload h160 rfl rfl (Or.inl rfl) (by omega) ?_
        refine z_getf (a := 12) (b := 1) (l := [13, 49]) h160 rfl (fun v11 => ?_)
        refine z_rem h160 rfl (fun v12 => ?_)
        refine z_iadd h160 rfl ?_
        refine z_aload h160 rfl rfl (Or.inl rfl) (by omega) ?_
        refine z_getr (a := 12) (b := 14) (l := [45, 49]) h160 rfl (fun r13 g_r13 => ?_)
        refine z_iload h160 rfl rfl (Or.inl rfl) ?_
        refine z_iald h160 rfl (fun v14 => ?_)
        refine z_iast h160 rfl (fun M15 => ?_)
        refine z_iinc h160 rfl rfl (ls' := [zr self, zi p4.1, zi (s5.1 + 1)]) rfl ?_
        refine z_goto h160 rfl ?_
        exact Rz.here fun _ q => q
  · refine z_iconst h160 rfl ?_
    exact z_iret h160 rfl (fun _ q => q)
set_option maxRecDepth 20000 in
theorem t_qmd_freeBanks (X : Int × (Int → Int)) (n : Nat) (K : zK) (M : zM) (self : Int) (g_self : 1 ≤ self) : Rz X 161 (0, [zr self, zU, zU], [], M, K) (qmd_freeBanks n K M self) (fun e P => P (some (zi e.1), e.2, K)) := by
  have h161 : zT 161 = zt161 := rfl
  unfold qmd_freeBanks
  refine z_aload h161 rfl rfl (Or.inl rfl) (by omega) ?_
  refine z_getf (a := 12) (b := 0) (l := [7, 49]) h161 rfl (fun v1 => ?_)
  refine z_aload h161 rfl rfl (Or.inl rfl) (by omega) ?_
  refine z_getf (a := 12) (b := 1) (l := [13, 49]) h161 rfl (fun v2 => ?_)
  refine z_imul h161 rfl ?_
  refine z_iconst h161 rfl ?_
  refine z_icle h161 rfl ?_ ?_
  · refine z_iconst h161 rfl ?_
    refine z_istore h161 rfl (Or.inl rfl) (ls' := [zr self, zi 1, zU]) rfl ?_
    refine z_kill h161 rfl (ls' := [zr self, zi 1, zU]) rfl ?_
    refine Rz.wh (hd := fun s3 => (11, [zr self, zi s3.1, zU], [], s3.2, K)) (fun s3 => ?_) n (1, M)
    (try dsimp only)
    refine z_iload h161 rfl rfl (Or.inl rfl) ?_
    refine z_iconst h161 rfl ?_
    refine z_icgt h161 rfl ?_ ?_
    · refine z_iconst h161 rfl ?_
      exact z_iret h161 rfl (fun _ q => q)
    · refine z_aload h161 rfl rfl (Or.inl rfl) (by omega) ?_
      refine z_iload h161 rfl rfl (Or.inl rfl) ?_
      refine z_cv (a := 159) (b := 0) (l := [197, 2, 12, 49]) (as := [zi s3.1]) (lsE := [zr self, zi s3.1, zU, zU, zU]) (st' := []) (val := fun p => some (zi p.1)) (mem := fun p => p.2) h161 rfl ⟨rfl, rfl, rfl, Nat.le_of_ble_eq_true rfl, Nat.le_of_ble_eq_true rfl, rfl⟩ (fun g1 => (t_qmd_laysFree X n K s3.2 self s3.1 (by omega))) (fun p4 => ?_)
      refine z_istore h161 rfl (Or.inl rfl) (ls' := [zr self, zi s3.1, zi p4.1]) rfl ?_
      refine z_iload h161 rfl rfl (Or.inl rfl) ?_
      refine z_iconst h161 rfl ?_
      refine z_iceq h161 rfl ?_ ?_
      · refine z_iinc h161 rfl rfl (ls' := [zr self, zi (s3.1 + 1), zi p4.1]) rfl ?_
        refine z_goto h161 rfl ?_
        refine z_kill h161 rfl (ls' := [zr self, zi (s3.1 + 1), zU]) rfl ?_
        exact Rz.here fun _ q => q
      · refine z_iload h161 rfl rfl (Or.inl rfl) ?_
        refine z_iconst h161 rfl ?_
        refine z_icne h161 rfl ?_ ?_
        · refine z_iconst h161 rfl ?_
          refine z_goto h161 rfl ?_
          refine z_kill h161 rfl (ls' := [zU, zU, zU]) rfl ?_
          exact z_iret h161 rfl (fun _ q => q)
        · refine z_iload h161 rfl rfl (Or.inl rfl) ?_
          refine z_kill h161 rfl (ls' := [zU, zU, zU]) rfl ?_
          exact z_iret h161 rfl (fun _ q => q)
  · refine z_iconst h161 rfl ?_
    exact z_iret h161 rfl (fun _ q => q)
set_option maxRecDepth 20000 in
theorem t_qmd_rest (X : Int × (Int → Int)) (K : zK) (M : zM) (self a1 : Int) (g_self : 1 ≤ self) : Rz X 162 (0, [zr self, zi a1, zU], [], M, K) (qmd_rest K M self a1) (fun e P => P (some (zi e.1), e.2, K)) := by
  have h162 : zT 162 = zt162 := rfl
  unfold qmd_rest
  refine z_iload h162 rfl rfl (Or.inl rfl) ?_
  refine z_ci2l h162 rfl ?_
  refine z_lconst h162 rfl ?_
  refine z_lconst h162 rfl ?_
  refine z_cs (a := 129) (b := 0) (l := [110, 3]) (as := [zl (zw a1), zl 1, zl 12]) (lsE := [zl (zw a1), zU, zl 1, zU, zl 12, zU]) (st' := []) (val := fun p => some (zi p)) (mem := fun _ => M) h162 rfl ⟨rfl, rfl, rfl, Nat.le_of_ble_eq_true rfl, Nat.le_of_ble_eq_true rfl, rfl⟩ (t_qmd_in X K M (zw a1) 1 12 ) (fun v1 => ?_)
  refine z_ifne h162 rfl ?_ ?_
  · refine z_iconst h162 rfl ?_
    exact z_iret h162 rfl (fun _ q => q)
  · refine z_aload h162 rfl rfl (Or.inl rfl) (by omega) ?_
    refine z_getf (a := 12) (b := 16) (l := [48, 49]) h162 rfl (fun v2 => ?_)
    refine z_istore h162 rfl (Or.inl rfl) (ls' := [zr self, zi a1, zi v2]) rfl ?_
    refine z_aload h162 rfl rfl (Or.inl rfl) (by omega) ?_
    refine z_iload h162 rfl rfl (Or.inl rfl) ?_
    refine z_putf (a := 12) (b := 16) (l := [48, 49]) h162 rfl (fun M3 => ?_)
    refine z_iload h162 rfl rfl (Or.inl rfl) ?_
    exact z_iret h162 rfl (fun _ q => q)
set_option maxRecDepth 20000 in
theorem t_qmd_begins (X : Int × (Int → Int)) (n : Nat) (K : zK) (M : zM) (self : Int) (g_self : 1 ≤ self) : Rz X 163 (0, [zr self, zU], [], M, K) (qmd_begins n K M self) (fun e P => P (none, e, K)) := by
  have h163 : zT 163 = zt163 := rfl
  unfold qmd_begins
  refine z_aload h163 rfl rfl (Or.inl rfl) (by omega) ?_
  refine z_cv (a := 137) (b := 0) (l := [135, 1, 12, 49]) (as := []) (lsE := [zr self]) (st' := []) (val := fun _ => none) (mem := fun p => p) h163 rfl ⟨rfl, rfl, rfl, Nat.le_of_ble_eq_true rfl, Nat.le_of_ble_eq_true rfl, rfl⟩ (fun g1 => (t_qmd_laysNow X n K M self (by omega))) (fun M1 => ?_)
  refine z_iconst h163 rfl ?_
  refine z_istore h163 rfl (Or.inl rfl) (ls' := [zr self, zi 0]) rfl ?_
  refine Rz.wh (hd := fun s2 => (4, [zr self, zi s2.1], [], s2.2, K)) (fun s2 => ?_) n (0, M1)
  (try dsimp only)
  refine z_iload h163 rfl rfl (Or.inl rfl) ?_
  refine z_iconst h163 rfl ?_
  refine z_icge h163 rfl ?_ ?_
  · exact z_vret h163 rfl (fun _ q => q)
  · refine z_aload h163 rfl rfl (Or.inl rfl) (by omega) ?_
    refine z_getr (a := 12) (b := 17) (l := [51, 49]) h163 rfl (fun r3 g_r3 => ?_)
    refine z_iload h163 rfl rfl (Or.inl rfl) ?_
    refine z_iconst h163 rfl ?_
    refine z_iast h163 rfl (fun M4 => ?_)
    refine z_iinc h163 rfl rfl (ls' := [zr self, zi (s2.1 + 1)]) rfl ?_
    refine z_goto h163 rfl ?_
    exact Rz.here fun _ q => q
set_option maxRecDepth 20000 in
theorem t_qmd_bankAt (X : Int × (Int → Int)) (K : zK) (M : zM) (self a1 : Int) (g_self : 1 ≤ self) : Rz X 164 (0, [zr self, zi a1, zU], [], M, K) (qmd_bankAt K M self a1) (fun e P => P (some (zi e), M, K)) := by
  have h164 : zT 164 = zt164 := rfl
  unfold qmd_bankAt
  refine z_iload h164 rfl rfl (Or.inl rfl) ?_
  refine z_aload h164 rfl rfl (Or.inl rfl) (by omega) ?_
  refine z_getf (a := 12) (b := 0) (l := [7, 49]) h164 rfl (fun v1 => ?_)
  refine z_aload h164 rfl rfl (Or.inl rfl) (by omega) ?_
  refine z_getf (a := 12) (b := 1) (l := [13, 49]) h164 rfl (fun v2 => ?_)
  refine z_imul h164 rfl ?_
  refine z_rem h164 rfl (fun v3 => ?_)
  refine z_istore h164 rfl (Or.inl rfl) (ls' := [zr self, zi a1, zi v3]) rfl ?_
  refine z_aload h164 rfl rfl (Or.inl rfl) (by omega) ?_
  refine z_getr (a := 12) (b := 7) (l := [26, 49]) h164 rfl (fun r4 g_r4 => ?_)
  refine z_iconst h164 rfl ?_
  refine z_iload h164 rfl rfl (Or.inl rfl) ?_
  refine z_aload h164 rfl rfl (Or.inl rfl) (by omega) ?_
  refine z_getf (a := 12) (b := 1) (l := [13, 49]) h164 rfl (fun v5 => ?_)
  refine z_div h164 rfl (fun v6 => ?_)
  refine z_imul h164 rfl ?_
  refine z_iload h164 rfl rfl (Or.inl rfl) ?_
  refine z_aload h164 rfl rfl (Or.inl rfl) (by omega) ?_
  refine z_getf (a := 12) (b := 1) (l := [13, 49]) h164 rfl (fun v7 => ?_)
  refine z_rem h164 rfl (fun v8 => ?_)
  refine z_iadd h164 rfl ?_
  refine z_iald h164 rfl (fun v9 => ?_)
  exact z_iret h164 rfl (fun _ q => q)
set_option maxRecDepth 20000 in
theorem t_qmd_isStream (X : Int × (Int → Int)) (K : zK) (M : zM) (a0 a1 : Int) : Rz X 165 (0, [zi a0, zi a1], [], M, K) (qmd_isStream K M a0 a1) (fun e P => P (some (zi e), M, K)) := by
  have h165 : zT 165 = zt165 := rfl
  unfold qmd_isStream
  refine z_iload h165 rfl rfl (Or.inl rfl) ?_
  refine z_ci2l h165 rfl ?_
  refine z_lconst h165 rfl ?_
  refine z_lconst h165 rfl ?_
  refine z_cs (a := 129) (b := 0) (l := [110, 3]) (as := [zl (zw a0), zl 0, zl 999]) (lsE := [zl (zw a0), zU, zl 0, zU, zl 999, zU]) (st' := []) (val := fun p => some (zi p)) (mem := fun _ => M) h165 rfl ⟨rfl, rfl, rfl, Nat.le_of_ble_eq_true rfl, Nat.le_of_ble_eq_true rfl, rfl⟩ (t_qmd_in X K M (zw a0) 0 999 ) (fun v1 => ?_)
  refine z_ifeq h165 rfl ?_ ?_
  · refine z_kill h165 rfl (ls' := [zU, zU]) rfl ?_
    refine z_iconst h165 rfl ?_
    refine z_kill h165 rfl (ls' := [zU, zU]) rfl ?_
    exact z_zret h165 rfl (Or.inl rfl) (fun _ q => q)
  · refine z_iload h165 rfl rfl (Or.inl rfl) ?_
    refine z_ci2l h165 rfl ?_
    refine z_lconst h165 rfl ?_
    refine z_lconst h165 rfl ?_
    refine z_cs (a := 129) (b := 0) (l := [110, 3]) (as := [zl (zw a1), zl 1, zl 99]) (lsE := [zl (zw a1), zU, zl 1, zU, zl 99, zU]) (st' := []) (val := fun p => some (zi p)) (mem := fun _ => M) h165 rfl ⟨rfl, rfl, rfl, Nat.le_of_ble_eq_true rfl, Nat.le_of_ble_eq_true rfl, rfl⟩ (t_qmd_in X K M (zw a1) 1 99 ) (fun v2 => ?_)
    refine z_ifeq h165 rfl ?_ ?_
    · refine z_kill h165 rfl (ls' := [zU, zU]) rfl ?_
      refine z_iconst h165 rfl ?_
      refine z_kill h165 rfl (ls' := [zU, zU]) rfl ?_
      exact z_zret h165 rfl (Or.inl rfl) (fun _ q => q)
    · refine z_iconst h165 rfl ?_
      refine z_goto h165 rfl ?_
      refine z_kill h165 rfl (ls' := [zU, zU]) rfl ?_
      exact z_zret h165 rfl (Or.inr rfl) (fun _ q => q)
set_option maxRecDepth 20000 in
theorem t_qmd_asks (X : Int × (Int → Int)) (K : zK) (M : zM) (self a1 a2 : Int) (g_self : 1 ≤ self) : Rz X 166 (0, [zr self, zi a1, zi a2, zU, zU], [], M, K) (qmd_asks K M self a1 a2) (fun e P => P (some (zi e.1), e.2, K)) := by
  have h166 : zT 166 = zt166 := rfl
  unfold qmd_asks
  refine z_aload h166 rfl rfl (Or.inl rfl) (by omega) ?_
  refine z_iload h166 rfl rfl (Or.inl rfl) ?_
  refine z_cv (a := 164) (b := 0) (l := [206, 2, 12, 49]) (as := [zi a1]) (lsE := [zr self, zi a1, zU]) (st' := []) (val := fun p => some (zi p)) (mem := fun _ => M) h166 rfl ⟨rfl, rfl, rfl, Nat.le_of_ble_eq_true rfl, Nat.le_of_ble_eq_true rfl, rfl⟩ (fun g1 => (t_qmd_bankAt X K M self a1 (by omega))) (fun v1 => ?_)
  refine z_istore h166 rfl (Or.inl rfl) (ls' := [zr self, zi a1, zi a2, zi v1, zU]) rfl ?_
  refine z_iload h166 rfl rfl (Or.inl rfl) ?_
  refine z_iconst h166 rfl ?_
  refine z_iadd h166 rfl ?_
  refine z_aload h166 rfl rfl (Or.inl rfl) (by omega) ?_
  refine z_getr (a := 12) (b := 17) (l := [51, 49]) h166 rfl (fun r2 g_r2 => ?_)
  refine z_iload h166 rfl rfl (Or.inl rfl) ?_
  refine z_iald h166 rfl (fun v3 => ?_)
  refine Rz.bind (t := fun j4 => (20, [zr self, zU, zU, zi v1, zU], [zi j4], M, K)) ?_ (fun j4 => ?_)
  · refine z_icle h166 rfl ?_ ?_
    · refine z_aload h166 rfl rfl (Or.inl rfl) (by omega) ?_
      refine z_getr (a := 12) (b := 17) (l := [51, 49]) h166 rfl (fun r8 g_r8 => ?_)
      refine z_iload h166 rfl rfl (Or.inl rfl) ?_
      refine z_iald h166 rfl (fun v9 => ?_)
      refine z_kill h166 rfl (ls' := [zr self, zU, zU, zi v1, zU]) rfl ?_
      exact Rz.here fun _ q => q
    · refine z_iload h166 rfl rfl (Or.inl rfl) ?_
      refine z_iconst h166 rfl ?_
      refine z_iadd h166 rfl ?_
      refine z_goto h166 rfl ?_
      refine z_kill h166 rfl (ls' := [zr self, zU, zU, zi v1, zU]) rfl ?_
      exact Rz.here fun _ q => q
  · (try dsimp only)
    refine z_istore h166 rfl (Or.inr rfl) (ls' := [zr self, zU, zU, zi v1, zi j4]) rfl ?_
    refine z_aload h166 rfl rfl (Or.inl rfl) (by omega) ?_
    refine z_getr (a := 12) (b := 17) (l := [51, 49]) h166 rfl (fun r5 g_r5 => ?_)
    refine z_iload h166 rfl rfl (Or.inl rfl) ?_
    refine z_iload h166 rfl rfl (Or.inr rfl) ?_
    refine z_aload h166 rfl rfl (Or.inl rfl) (by omega) ?_
    refine z_getf (a := 12) (b := 16) (l := [48, 49]) h166 rfl (fun v6 => ?_)
    refine z_iadd h166 rfl ?_
    refine z_iast h166 rfl (fun M7 => ?_)
    refine z_iload h166 rfl rfl (Or.inr rfl) ?_
    exact z_iret h166 rfl (fun _ q => q)
set_option maxRecDepth 20000 in
theorem t_qmd_lastOf (X : Int × (Int → Int)) (n : Nat) (K : zK) (M : zM) (self a1 a2 a3 : Int) (g_self : 1 ≤ self) : Rz X 167 (0, [zr self, zi a1, zi a2, zi a3, zU, zU], [], M, K) (qmd_lastOf n K M self a1 a2 a3) (fun e P => P (some (zi e.1), e.2, K)) := by
  have h167 : zT 167 = zt167 := rfl
  unfold qmd_lastOf
  refine z_aload h167 rfl rfl (Or.inl rfl) (by omega) ?_
  refine z_cv (a := 163) (b := 0) (l := [209, 1, 12, 49]) (as := []) (lsE := [zr self, zU]) (st' := []) (val := fun _ => none) (mem := fun p => p) h167 rfl ⟨rfl, rfl, rfl, Nat.le_of_ble_eq_true rfl, Nat.le_of_ble_eq_true rfl, rfl⟩ (fun g1 => (t_qmd_begins X n K M self (by omega))) (fun M1 => ?_)
  refine z_iconst h167 rfl ?_
  refine z_istore h167 rfl (Or.inr rfl) (ls' := [zr self, zi a1, zi a2, zi a3, zi (-1), zU]) rfl ?_
  refine z_iconst h167 rfl ?_
  refine z_istore h167 rfl (Or.inr rfl) (ls' := [zr self, zi a1, zi a2, zi a3, zi (-1), zi 0]) rfl ?_
  refine Rz.wh (hd := fun s2 => (6, [zr self, zi a1, zi a2, zi a3, zi s2.1, zi s2.2.1], [], s2.2.2, K)) (fun s2 => ?_) n ((-1), 0, M1)
  (try dsimp only)
  refine z_iload h167 rfl rfl (Or.inr rfl) ?_
  refine z_iload h167 rfl rfl (Or.inl rfl) ?_
  refine z_icge h167 rfl ?_ ?_
  · refine z_iload h167 rfl rfl (Or.inr rfl) ?_
    exact z_iret h167 rfl (fun _ q => q)
  · refine z_aload h167 rfl rfl (Or.inl rfl) (by omega) ?_
    refine z_iload h167 rfl rfl (Or.inl rfl) ?_
    refine z_iload h167 rfl rfl (Or.inr rfl) ?_
    refine z_iload h167 rfl rfl (Or.inl rfl) ?_
    refine z_imul h167 rfl ?_
    refine z_iadd h167 rfl ?_
    refine z_iload h167 rfl rfl (Or.inr rfl) ?_
    refine z_cv (a := 166) (b := 0) (l := [212, 3, 12, 49]) (as := [zi (a1 + (s2.2.1 * a2)), zi s2.1]) (lsE := [zr self, zi (a1 + (s2.2.1 * a2)), zi s2.1, zU, zU]) (st' := []) (val := fun p => some (zi p.1)) (mem := fun p => p.2) h167 rfl ⟨rfl, rfl, rfl, Nat.le_of_ble_eq_true rfl, Nat.le_of_ble_eq_true rfl, rfl⟩ (fun g1 => (t_qmd_asks X K s2.2.2 self (a1 + (s2.2.1 * a2)) s2.1 (by omega))) (fun p3 => ?_)
    refine z_istore h167 rfl (Or.inr rfl) (ls' := [zr self, zi a1, zi a2, zi a3, zi p3.1, zi s2.2.1]) rfl ?_
    refine z_iinc h167 rfl rfl (ls' := [zr self, zi a1, zi a2, zi a3, zi p3.1, zi (s2.2.1 + 1)]) rfl ?_
    refine z_goto h167 rfl ?_
    exact Rz.here fun _ q => q
set_option maxRecDepth 20000 in
theorem t_qmd_inOrder (X : Int × (Int → Int)) (n : Nat) (K : zK) (M : zM) (self a1 a2 a3 : Int) (g_self : 1 ≤ self) : Rz X 168 (0, [zr self, zi a1, zi a2, zi a3], [], M, K) (qmd_inOrder n K M self a1 a2 a3) (fun e P => P (some (zi e.1), e.2, K)) := by
  have h168 : zT 168 = zt168 := rfl
  unfold qmd_inOrder
  refine z_iload h168 rfl rfl (Or.inl rfl) ?_
  refine z_iload h168 rfl rfl (Or.inl rfl) ?_
  refine z_cs (a := 165) (b := 0) (l := [216, 2]) (as := [zi a1, zi a2]) (lsE := [zi a1, zi a2]) (st' := []) (val := fun p => some (zi p)) (mem := fun _ => M) h168 rfl ⟨rfl, rfl, rfl, Nat.le_of_ble_eq_true rfl, Nat.le_of_ble_eq_true rfl, rfl⟩ (t_qmd_isStream X K M a1 a2 ) (fun v1 => ?_)
  refine z_ifeq h168 rfl ?_ ?_
  · refine z_kill h168 rfl (ls' := [zU, zU, zU, zU]) rfl ?_
    refine z_iconst h168 rfl ?_
    refine z_kill h168 rfl (ls' := [zU, zU, zU, zU]) rfl ?_
    exact z_iret h168 rfl (fun _ q => q)
  · refine z_iload h168 rfl rfl (Or.inl rfl) ?_
    refine z_ci2l h168 rfl ?_
    refine z_lconst h168 rfl ?_
    refine z_lconst h168 rfl ?_
    refine z_cs (a := 129) (b := 0) (l := [110, 3]) (as := [zl (zw a3), zl 1, zl 200]) (lsE := [zl (zw a3), zU, zl 1, zU, zl 200, zU]) (st' := []) (val := fun p => some (zi p)) (mem := fun _ => M) h168 rfl ⟨rfl, rfl, rfl, Nat.le_of_ble_eq_true rfl, Nat.le_of_ble_eq_true rfl, rfl⟩ (t_qmd_in X K M (zw a3) 1 200 ) (fun v2 => ?_)
    refine z_ifeq h168 rfl ?_ ?_
    · refine z_kill h168 rfl (ls' := [zU, zU, zU, zU]) rfl ?_
      refine z_iconst h168 rfl ?_
      refine z_kill h168 rfl (ls' := [zU, zU, zU, zU]) rfl ?_
      exact z_iret h168 rfl (fun _ q => q)
    · refine z_aload h168 rfl rfl (Or.inl rfl) (by omega) ?_
      refine z_iload h168 rfl rfl (Or.inl rfl) ?_
      refine z_iload h168 rfl rfl (Or.inl rfl) ?_
      refine z_iload h168 rfl rfl (Or.inl rfl) ?_
      refine z_cv (a := 167) (b := 0) (l := [221, 4, 12, 49]) (as := [zi a1, zi a2, zi a3]) (lsE := [zr self, zi a1, zi a2, zi a3, zU, zU]) (st' := []) (val := fun p => some (zi p.1)) (mem := fun p => p.2) h168 rfl ⟨rfl, rfl, rfl, Nat.le_of_ble_eq_true rfl, Nat.le_of_ble_eq_true rfl, rfl⟩ (fun g1 => (t_qmd_lastOf X n K M self a1 a2 a3 (by omega))) (fun p3 => ?_)
      refine z_aload h168 rfl rfl (Or.inl rfl) (by omega) ?_
      refine z_getf (a := 12) (b := 16) (l := [48, 49]) h168 rfl (fun v4 => ?_)
      refine z_iadd h168 rfl ?_
      refine z_goto h168 rfl ?_
      refine z_kill h168 rfl (ls' := [zU, zU, zU, zU]) rfl ?_
      exact z_iret h168 rfl (fun _ q => q)
set_option maxRecDepth 20000 in
theorem t_qmd_beat (X : Int × (Int → Int)) (n : Nat) (K : zK) (M : zM) (self a1 a2 a3 : Int) (g_self : 1 ≤ self) : Rz X 169 (0, [zr self, zi a1, zi a2, zi a3], [], M, K) (qmd_beat n K M self a1 a2 a3) (fun e P => P (some (zi e.1), e.2, K)) := by
  have h169 : zT 169 = zt169 := rfl
  unfold qmd_beat
  refine z_iload h169 rfl rfl (Or.inl rfl) ?_
  refine z_iload h169 rfl rfl (Or.inl rfl) ?_
  refine z_cs (a := 165) (b := 0) (l := [216, 2]) (as := [zi a1, zi a2]) (lsE := [zi a1, zi a2]) (st' := []) (val := fun p => some (zi p)) (mem := fun _ => M) h169 rfl ⟨rfl, rfl, rfl, Nat.le_of_ble_eq_true rfl, Nat.le_of_ble_eq_true rfl, rfl⟩ (t_qmd_isStream X K M a1 a2 ) (fun v1 => ?_)
  refine z_ifeq h169 rfl ?_ ?_
  · refine z_kill h169 rfl (ls' := [zU, zU, zU, zU]) rfl ?_
    refine z_iconst h169 rfl ?_
    refine z_kill h169 rfl (ls' := [zU, zU, zU, zU]) rfl ?_
    exact z_iret h169 rfl (fun _ q => q)
  · refine z_iload h169 rfl rfl (Or.inl rfl) ?_
    refine z_ci2l h169 rfl ?_
    refine z_lconst h169 rfl ?_
    refine z_lconst h169 rfl ?_
    refine z_cs (a := 129) (b := 0) (l := [110, 3]) (as := [zl (zw a3), zl 0, zl 199]) (lsE := [zl (zw a3), zU, zl 0, zU, zl 199, zU]) (st' := []) (val := fun p => some (zi p)) (mem := fun _ => M) h169 rfl ⟨rfl, rfl, rfl, Nat.le_of_ble_eq_true rfl, Nat.le_of_ble_eq_true rfl, rfl⟩ (t_qmd_in X K M (zw a3) 0 199 ) (fun v2 => ?_)
    refine z_ifeq h169 rfl ?_ ?_
    · refine z_kill h169 rfl (ls' := [zU, zU, zU, zU]) rfl ?_
      refine z_iconst h169 rfl ?_
      refine z_kill h169 rfl (ls' := [zU, zU, zU, zU]) rfl ?_
      exact z_iret h169 rfl (fun _ q => q)
    · refine z_aload h169 rfl rfl (Or.inl rfl) (by omega) ?_
      refine z_iload h169 rfl rfl (Or.inl rfl) ?_
      refine z_iload h169 rfl rfl (Or.inl rfl) ?_
      refine z_iload h169 rfl rfl (Or.inl rfl) ?_
      refine z_iconst h169 rfl ?_
      refine z_iadd h169 rfl ?_
      refine z_cv (a := 167) (b := 0) (l := [221, 4, 12, 49]) (as := [zi a1, zi a2, zi (a3 + 1)]) (lsE := [zr self, zi a1, zi a2, zi (a3 + 1), zU, zU]) (st' := []) (val := fun p => some (zi p.1)) (mem := fun p => p.2) h169 rfl ⟨rfl, rfl, rfl, Nat.le_of_ble_eq_true rfl, Nat.le_of_ble_eq_true rfl, rfl⟩ (fun g1 => (t_qmd_lastOf X n K M self a1 a2 (a3 + 1) (by omega))) (fun p3 => ?_)
      refine z_goto h169 rfl ?_
      refine z_kill h169 rfl (ls' := [zU, zU, zU, zU]) rfl ?_
      exact z_iret h169 rfl (fun _ q => q)
set_option maxRecDepth 20000 in
theorem t_qmd_queued (X : Int × (Int → Int)) (n : Nat) (K : zK) (M : zM) (self a1 a2 a3 a4 a5 : Int) (g_self : 1 ≤ self) : Rz X 170 (0, [zr self, zi a1, zi a2, zi a3, zi a4, zi a5, zU, zU, zU, zU, zU, zU, zU], [], M, K) (qmd_queued n K M self a1 a2 a3 a4 a5) (fun e P => P (some (zi e.1), e.2, K)) := by
  have h170 : zT 170 = zt170 := rfl
  unfold qmd_queued
  refine z_iload h170 rfl rfl (Or.inl rfl) ?_
  refine z_iload h170 rfl rfl (Or.inl rfl) ?_
  refine z_cs (a := 165) (b := 0) (l := [216, 2]) (as := [zi a1, zi a2]) (lsE := [zi a1, zi a2]) (st' := []) (val := fun p => some (zi p)) (mem := fun _ => M) h170 rfl ⟨rfl, rfl, rfl, Nat.le_of_ble_eq_true rfl, Nat.le_of_ble_eq_true rfl, rfl⟩ (t_qmd_isStream X K M a1 a2 ) (fun v1 => ?_)
  refine z_ifeq h170 rfl ?_ ?_
  · refine z_kill h170 rfl (ls' := [zU, zU, zU, zU, zU, zU, zU, zU, zU, zU, zU, zU, zU]) rfl ?_
    refine z_iconst h170 rfl ?_
    exact z_iret h170 rfl (fun _ q => q)
  · refine z_iload h170 rfl rfl (Or.inl rfl) ?_
    refine z_ci2l h170 rfl ?_
    refine z_lconst h170 rfl ?_
    refine z_lconst h170 rfl ?_
    refine z_cs (a := 129) (b := 0) (l := [110, 3]) (as := [zl (zw a3), zl 1, zl 200]) (lsE := [zl (zw a3), zU, zl 1, zU, zl 200, zU]) (st' := []) (val := fun p => some (zi p)) (mem := fun _ => M) h170 rfl ⟨rfl, rfl, rfl, Nat.le_of_ble_eq_true rfl, Nat.le_of_ble_eq_true rfl, rfl⟩ (t_qmd_in X K M (zw a3) 1 200 ) (fun v2 => ?_)
    refine z_ifeq h170 rfl ?_ ?_
    · refine z_kill h170 rfl (ls' := [zU, zU, zU, zU, zU, zU, zU, zU, zU, zU, zU, zU, zU]) rfl ?_
      refine z_iconst h170 rfl ?_
      exact z_iret h170 rfl (fun _ q => q)
    · refine z_iload h170 rfl rfl (Or.inr rfl) ?_
      refine z_ci2l h170 rfl ?_
      refine z_lconst h170 rfl ?_
      refine z_lconst h170 rfl ?_
      refine z_cs (a := 129) (b := 0) (l := [110, 3]) (as := [zl (zw a4), zl 1, zl 8]) (lsE := [zl (zw a4), zU, zl 1, zU, zl 8, zU]) (st' := []) (val := fun p => some (zi p)) (mem := fun _ => M) h170 rfl ⟨rfl, rfl, rfl, Nat.le_of_ble_eq_true rfl, Nat.le_of_ble_eq_true rfl, rfl⟩ (t_qmd_in X K M (zw a4) 1 8 ) (fun v3 => ?_)
      refine z_ifeq h170 rfl ?_ ?_
      · refine z_kill h170 rfl (ls' := [zU, zU, zU, zU, zU, zU, zU, zU, zU, zU, zU, zU, zU]) rfl ?_
        refine z_iconst h170 rfl ?_
        exact z_iret h170 rfl (fun _ q => q)
      · refine z_iload h170 rfl rfl (Or.inr rfl) ?_
        refine z_ci2l h170 rfl ?_
        refine z_lconst h170 rfl ?_
        refine z_lconst h170 rfl ?_
        refine z_cs (a := 129) (b := 0) (l := [110, 3]) (as := [zl (zw a5), zl 0, zl 2]) (lsE := [zl (zw a5), zU, zl 0, zU, zl 2, zU]) (st' := []) (val := fun p => some (zi p)) (mem := fun _ => M) h170 rfl ⟨rfl, rfl, rfl, Nat.le_of_ble_eq_true rfl, Nat.le_of_ble_eq_true rfl, rfl⟩ (t_qmd_in X K M (zw a5) 0 2 ) (fun v4 => ?_)
        refine z_ifne h170 rfl ?_ ?_
        · refine z_kill h170 rfl (ls' := [zU, zU, zU, zU, zU, zU, zU, zU, zU, zU, zU, zU, zU]) rfl ?_
          refine z_iconst h170 rfl ?_
          exact z_iret h170 rfl (fun _ q => q)
        · refine z_aload h170 rfl rfl (Or.inl rfl) (by omega) ?_
          refine z_cv (a := 163) (b := 0) (l := [209, 1, 12, 49]) (as := []) (lsE := [zr self, zU]) (st' := []) (val := fun _ => none) (mem := fun p => p) h170 rfl ⟨rfl, rfl, rfl, Nat.le_of_ble_eq_true rfl, Nat.le_of_ble_eq_true rfl, rfl⟩ (fun g1 => (t_qmd_begins X n K M self (by omega))) (fun M5 => ?_)
          refine z_iconst h170 rfl ?_
          refine z_istore h170 rfl (Or.inr rfl) (ls' := [zr self, zi a1, zi a2, zi a3, zi a4, zi a5, zi 0, zU, zU, zU, zU, zU, zU]) rfl ?_
          refine z_kill h170 rfl (ls' := [zr self, zi a1, zi a2, zi a3, zi a4, zi a5, zi 0, zU, zU, zU, zU, zU, zU]) rfl ?_
          refine Rz.bind (t := fun e7 => (38, [zr self, zi a1, zi a2, zi a3, zi a4, zi a5, zi e7.1, zU, zU, zU, zU, zU, zU], [], e7.2, K)) ?_ (fun e7 => ?_)
          · refine Rz.wh (hd := fun s6 => (28, [zr self, zi a1, zi a2, zi a3, zi a4, zi a5, zi s6.1, zU, zU, zU, zU, zU, zU], [], s6.2, K)) (fun s6 => ?_) n (0, M5)
            (try dsimp only)
            refine z_iload h170 rfl rfl (Or.inr rfl) ?_
            refine z_iconst h170 rfl ?_
            refine z_icge h170 rfl ?_ ?_
            · exact Rz.here fun _ q => q
            · refine z_aload h170 rfl rfl (Or.inl rfl) (by omega) ?_
              refine z_getr (a := 12) (b := 18) (l := [54, 49]) h170 rfl (fun r37 g_r37 => ?_)
              refine z_iload h170 rfl rfl (Or.inr rfl) ?_
              refine z_iconst h170 rfl ?_
              refine z_iast h170 rfl (fun M38 => ?_)
              refine z_iinc h170 rfl rfl (ls' := [zr self, zi a1, zi a2, zi a3, zi a4, zi a5, zi (s6.1 + 1), zU, zU, zU, zU, zU, zU]) rfl ?_
              refine z_goto h170 rfl ?_
              refine z_kill h170 rfl (ls' := [zr self, zi a1, zi a2, zi a3, zi a4, zi a5, zi (s6.1 + 1), zU, zU, zU, zU, zU, zU]) rfl ?_
              exact Rz.here fun _ q => q
          · (try dsimp only)
            refine z_iconst h170 rfl ?_
            refine z_istore h170 rfl (Or.inr rfl) (ls' := [zr self, zi a1, zi a2, zi a3, zi a4, zi a5, zi 0, zU, zU, zU, zU, zU, zU]) rfl ?_
            refine z_iconst h170 rfl ?_
            refine z_istore h170 rfl (Or.inr rfl) (ls' := [zr self, zi a1, zi a2, zi a3, zi a4, zi a5, zi 0, zi 0, zU, zU, zU, zU, zU]) rfl ?_
            refine z_iconst h170 rfl ?_
            refine z_istore h170 rfl (Or.inr rfl) (ls' := [zr self, zi a1, zi a2, zi a3, zi a4, zi a5, zi 0, zi 0, zi 0, zU, zU, zU, zU]) rfl ?_
            refine z_iconst h170 rfl ?_
            refine z_istore h170 rfl (Or.inr rfl) (ls' := [zr self, zi a1, zi a2, zi a3, zi a4, zi a5, zi 0, zi 0, zi 0, zi 0, zU, zU, zU]) rfl ?_
            refine z_iconst h170 rfl ?_
            refine z_istore h170 rfl (Or.inr rfl) (ls' := [zr self, zi a1, zi a2, zi a3, zi a4, zi a5, zi 0, zi 0, zi 0, zi 0, zi 0, zU, zU]) rfl ?_
            refine z_iconst h170 rfl ?_
            refine z_istore h170 rfl (Or.inr rfl) (ls' := [zr self, zi a1, zi a2, zi a3, zi a4, zi a5, zi 0, zi 0, zi 0, zi 0, zi 0, zi 0, zU]) rfl ?_
            refine z_kill h170 rfl (ls' := [zr self, zi a1, zi a2, zi a3, zi a4, zi a5, zi 0, zi 0, zi 0, zi 0, zi 0, zi 0, zU]) rfl ?_
            refine Rz.bind (t := fun e9 => (134, [zr self, zi a1, zi a2, zi a3, zi a4, zi a5, zi e9.1, zi e9.2.1, zi e9.2.2.1, zi e9.2.2.2.1, zi e9.2.2.2.2.1, zi e9.2.2.2.2.2.1, zU], [], e9.2.2.2.2.2.2, K)) ?_ (fun e9 => ?_)
            · refine Rz.wh (hd := fun s8 => (50, [zr self, zi a1, zi a2, zi a3, zi a4, zi a5, zi s8.1, zi s8.2.1, zi s8.2.2.1, zi s8.2.2.2.1, zi s8.2.2.2.2.1, zi s8.2.2.2.2.2.1, zU], [], s8.2.2.2.2.2.2, K)) (fun s8 => ?_) n (0, 0, 0, 0, 0, 0, e7.2)
              (try dsimp only)
              refine z_iload h170 rfl rfl (Or.inr rfl) ?_
              refine z_iload h170 rfl rfl (Or.inl rfl) ?_
              refine z_icge h170 rfl ?_ ?_
              · exact Rz.here fun _ q => q
              · refine z_iconst h170 rfl ?_
                refine z_istore h170 rfl (Or.inr rfl) (ls' := [zr self, zi a1, zi a2, zi a3, zi a4, zi a5, zi s8.1, zi s8.2.1, zi s8.2.2.1, zi s8.2.2.2.1, zi s8.2.2.2.2.1, zi s8.2.2.2.2.2.1, zi 0]) rfl ?_
                refine Rz.bind (t := fun e12 => (91, [zr self, zi a1, zi a2, zi a3, zi a4, zi a5, zi s8.1, zi e12.1, zi s8.2.2.1, zi s8.2.2.2.1, zi e12.2.1, zi s8.2.2.2.2.2.1, zi e12.2.2.1], [], e12.2.2.2, K)) ?_ (fun e12 => ?_)
                · refine Rz.wh (hd := fun s11 => (55, [zr self, zi a1, zi a2, zi a3, zi a4, zi a5, zi s8.1, zi s11.1, zi s8.2.2.1, zi s8.2.2.2.1, zi s11.2.1, zi s8.2.2.2.2.2.1, zi s11.2.2.1], [], s11.2.2.2, K)) (fun s11 => ?_) n (s8.2.1, s8.2.2.2.2.1, 0, s8.2.2.2.2.2.2)
                  (try dsimp only)
                  refine z_iload h170 rfl rfl (Or.inr rfl) ?_
                  refine z_aload h170 rfl rfl (Or.inl rfl) (by omega) ?_
                  refine z_getf (a := 12) (b := 2) (l := [16, 49]) h170 rfl (fun v25 => ?_)
                  refine z_icge h170 rfl ?_ ?_
                  · exact Rz.here fun _ q => q
                  · refine z_aload h170 rfl rfl (Or.inl rfl) (by omega) ?_
                    refine z_getr (a := 12) (b := 18) (l := [54, 49]) h170 rfl (fun r26 g_r26 => ?_)
                    refine z_iload h170 rfl rfl (Or.inr rfl) ?_
                    refine z_iald h170 rfl (fun v27 => ?_)
                    refine Rz.bind (t := fun j28 => (89, [zr self, zi a1, zi a2, zi a3, zi a4, zi a5, zi s8.1, zi j28.1, zi s8.2.2.1, zi s8.2.2.2.1, zi j28.2.1, zi s8.2.2.2.2.2.1, zi s11.2.2.1], [], j28.2.2, K)) ?_ (fun j28 => ?_)
                    · refine z_ifle h170 rfl ?_ ?_
                      · exact Rz.here fun _ q => q
                      · refine z_aload h170 rfl rfl (Or.inl rfl) (by omega) ?_
                        refine z_getr (a := 12) (b := 17) (l := [51, 49]) h170 rfl (fun r29 g_r29 => ?_)
                        refine z_iload h170 rfl rfl (Or.inr rfl) ?_
                        refine z_iald h170 rfl (fun v30 => ?_)
                        refine z_iload h170 rfl rfl (Or.inr rfl) ?_
                        refine z_icgt h170 rfl ?_ ?_
                        · exact Rz.here fun _ q => q
                        · refine z_aload h170 rfl rfl (Or.inl rfl) (by omega) ?_
                          refine z_getr (a := 12) (b := 18) (l := [54, 49]) h170 rfl (fun r31 g_r31 => ?_)
                          refine z_iload h170 rfl rfl (Or.inr rfl) ?_
                          refine z_dup2 h170 rfl ?_
                          refine z_iald h170 rfl (fun v32 => ?_)
                          refine z_iconst h170 rfl ?_
                          refine z_isub h170 rfl ?_
                          refine z_iast h170 rfl (fun M33 => ?_)
                          refine z_aload h170 rfl rfl (Or.inl rfl) (by omega) ?_
                          refine z_getr (a := 12) (b := 17) (l := [51, 49]) h170 rfl (fun r34 g_r34 => ?_)
                          refine z_iload h170 rfl rfl (Or.inr rfl) ?_
                          refine z_iload h170 rfl rfl (Or.inr rfl) ?_
                          refine z_aload h170 rfl rfl (Or.inl rfl) (by omega) ?_
                          refine z_getf (a := 12) (b := 16) (l := [48, 49]) h170 rfl (fun v35 => ?_)
                          refine z_iadd h170 rfl ?_
                          refine z_iast h170 rfl (fun M36 => ?_)
                          refine z_iinc h170 rfl rfl (ls' := [zr self, zi a1, zi a2, zi a3, zi a4, zi a5, zi s8.1, zi (s11.1 + 1), zi s8.2.2.1, zi s8.2.2.2.1, zi s11.2.1, zi s8.2.2.2.2.2.1, zi s11.2.2.1]) rfl ?_
                          refine z_iload h170 rfl rfl (Or.inr rfl) ?_
                          refine z_istore h170 rfl (Or.inr rfl) (ls' := [zr self, zi a1, zi a2, zi a3, zi a4, zi a5, zi s8.1, zi (s11.1 + 1), zi s8.2.2.1, zi s8.2.2.2.1, zi s8.2.2.2.2.2.1, zi s8.2.2.2.2.2.1, zi s11.2.2.1]) rfl ?_
                          exact Rz.here fun _ q => q
                    · (try dsimp only)
                      refine z_iinc h170 rfl rfl (ls' := [zr self, zi a1, zi a2, zi a3, zi a4, zi a5, zi s8.1, zi j28.1, zi s8.2.2.1, zi s8.2.2.2.1, zi j28.2.1, zi s8.2.2.2.2.2.1, zi (s11.2.2.1 + 1)]) rfl ?_
                      refine z_goto h170 rfl ?_
                      exact Rz.here fun _ q => q
                · (try dsimp only)
                  refine z_iload h170 rfl rfl (Or.inr rfl) ?_
                  refine z_iload h170 rfl rfl (Or.inl rfl) ?_
                  refine Rz.bind (t := fun j13 => (132, [zr self, zi a1, zi a2, zi a3, zi a4, zi a5, zi j13.1, zi e12.1, zi j13.2.1, zi j13.2.2.1, zi e12.2.1, zi s8.2.2.2.2.2.1, zU], [], j13.2.2.2, K)) ?_ (fun j13 => ?_)
                  · refine z_icge h170 rfl ?_ ?_
                    · refine z_kill h170 rfl (ls' := [zr self, zi a1, zi a2, zi a3, zi a4, zi a5, zi s8.1, zi e12.1, zi s8.2.2.1, zi s8.2.2.2.1, zi e12.2.1, zi s8.2.2.2.2.2.1, zU]) rfl ?_
                      exact Rz.here fun _ q => q
                    · refine z_aload h170 rfl rfl (Or.inl rfl) (by omega) ?_
                      refine z_iload h170 rfl rfl (Or.inl rfl) ?_
                      refine z_iload h170 rfl rfl (Or.inr rfl) ?_
                      refine z_iload h170 rfl rfl (Or.inl rfl) ?_
                      refine z_imul h170 rfl ?_
                      refine z_iadd h170 rfl ?_
                      refine z_cv (a := 164) (b := 0) (l := [206, 2, 12, 49]) (as := [zi (a1 + (s8.1 * a2))]) (lsE := [zr self, zi (a1 + (s8.1 * a2)), zU]) (st' := []) (val := fun p => some (zi p)) (mem := fun _ => e12.2.2.2) h170 rfl ⟨rfl, rfl, rfl, Nat.le_of_ble_eq_true rfl, Nat.le_of_ble_eq_true rfl, rfl⟩ (fun g1 => (t_qmd_bankAt X K e12.2.2.2 self (a1 + (s8.1 * a2)) (by omega))) (fun v14 => ?_)
                      refine z_istore h170 rfl (Or.inr rfl) (ls' := [zr self, zi a1, zi a2, zi a3, zi a4, zi a5, zi s8.1, zi e12.1, zi s8.2.2.1, zi s8.2.2.2.1, zi e12.2.1, zi s8.2.2.2.2.2.1, zi v14]) rfl ?_
                      refine z_aload h170 rfl rfl (Or.inl rfl) (by omega) ?_
                      refine z_getr (a := 12) (b := 18) (l := [54, 49]) h170 rfl (fun r15 g_r15 => ?_)
                      refine z_iload h170 rfl rfl (Or.inr rfl) ?_
                      refine z_iald h170 rfl (fun v16 => ?_)
                      refine z_iload h170 rfl rfl (Or.inr rfl) ?_
                      refine z_icge h170 rfl ?_ ?_
                      · refine z_iinc h170 rfl rfl (ls' := [zr self, zi a1, zi a2, zi a3, zi a4, zi a5, zi s8.1, zi e12.1, zi (s8.2.2.1 + 1), zi s8.2.2.2.1, zi e12.2.1, zi s8.2.2.2.2.2.1, zi v14]) rfl ?_
                        refine z_kill h170 rfl (ls' := [zr self, zi a1, zi a2, zi a3, zi a4, zi a5, zi s8.1, zi e12.1, zi (s8.2.2.1 + 1), zi s8.2.2.2.1, zi e12.2.1, zi s8.2.2.2.2.2.1, zU]) rfl ?_
                        exact Rz.here fun _ q => q
                      · refine z_aload h170 rfl rfl (Or.inl rfl) (by omega) ?_
                        refine z_getr (a := 12) (b := 18) (l := [54, 49]) h170 rfl (fun r17 g_r17 => ?_)
                        refine z_iload h170 rfl rfl (Or.inr rfl) ?_
                        refine z_dup2 h170 rfl ?_
                        refine z_iald h170 rfl (fun v18 => ?_)
                        refine z_iconst h170 rfl ?_
                        refine z_iadd h170 rfl ?_
                        refine z_iast h170 rfl (fun M19 => ?_)
                        refine z_iinc h170 rfl rfl (ls' := [zr self, zi a1, zi a2, zi a3, zi a4, zi a5, zi (s8.1 + 1), zi e12.1, zi s8.2.2.1, zi s8.2.2.2.1, zi e12.2.1, zi s8.2.2.2.2.2.1, zi v14]) rfl ?_
                        refine z_aload h170 rfl rfl (Or.inl rfl) (by omega) ?_
                        refine z_getr (a := 12) (b := 18) (l := [54, 49]) h170 rfl (fun r20 g_r20 => ?_)
                        refine z_iload h170 rfl rfl (Or.inr rfl) ?_
                        refine z_iald h170 rfl (fun v21 => ?_)
                        refine z_iload h170 rfl rfl (Or.inr rfl) ?_
                        refine Rz.bind (t := fun j22 => (129, [zr self, zi a1, zi a2, zi a3, zi a4, zi a5, zi (s8.1 + 1), zi e12.1, zi s8.2.2.1, zU, zi e12.2.1, zi s8.2.2.2.2.2.1, zU], [zi j22], M19, K)) ?_ (fun j22 => ?_)
                        · refine z_icle h170 rfl ?_ ?_
                          · refine z_iload h170 rfl rfl (Or.inr rfl) ?_
                            refine z_kill h170 rfl (ls' := [zr self, zi a1, zi a2, zi a3, zi a4, zi a5, zi (s8.1 + 1), zi e12.1, zi s8.2.2.1, zU, zi e12.2.1, zi s8.2.2.2.2.2.1, zU]) rfl ?_
                            exact Rz.here fun _ q => q
                          · refine z_aload h170 rfl rfl (Or.inl rfl) (by omega) ?_
                            refine z_getr (a := 12) (b := 18) (l := [54, 49]) h170 rfl (fun r23 g_r23 => ?_)
                            refine z_iload h170 rfl rfl (Or.inr rfl) ?_
                            refine z_iald h170 rfl (fun v24 => ?_)
                            refine z_goto h170 rfl ?_
                            refine z_kill h170 rfl (ls' := [zr self, zi a1, zi a2, zi a3, zi a4, zi a5, zi (s8.1 + 1), zi e12.1, zi s8.2.2.1, zU, zi e12.2.1, zi s8.2.2.2.2.2.1, zU]) rfl ?_
                            exact Rz.here fun _ q => q
                        · (try dsimp only)
                          refine z_istore h170 rfl (Or.inr rfl) (ls' := [zr self, zi a1, zi a2, zi a3, zi a4, zi a5, zi (s8.1 + 1), zi e12.1, zi s8.2.2.1, zi j22, zi e12.2.1, zi s8.2.2.2.2.2.1, zU]) rfl ?_
                          refine z_goto h170 rfl ?_
                          refine z_kill h170 rfl (ls' := [zr self, zi a1, zi a2, zi a3, zi a4, zi a5, zi (s8.1 + 1), zi e12.1, zi s8.2.2.1, zi j22, zi e12.2.1, zi s8.2.2.2.2.2.1, zU]) rfl ?_
                          exact Rz.here fun _ q => q
                  · (try dsimp only)
                    refine z_iinc h170 rfl rfl (ls' := [zr self, zi a1, zi a2, zi a3, zi a4, zi a5, zi j13.1, zi e12.1, zi j13.2.1, zi j13.2.2.1, zi e12.2.1, zi (s8.2.2.2.2.2.1 + 1), zU]) rfl ?_
                    refine z_goto h170 rfl ?_
                    refine z_kill h170 rfl (ls' := [zr self, zi a1, zi a2, zi a3, zi a4, zi a5, zi j13.1, zi e12.1, zi j13.2.1, zi j13.2.2.1, zi e12.2.1, zi (s8.2.2.2.2.2.1 + 1), zU]) rfl ?_
                    exact Rz.here fun _ q => q
            · (try dsimp only)
              refine z_iload h170 rfl rfl (Or.inr rfl) ?_
              refine z_ifne h170 rfl ?_ ?_
              · refine z_iload h170 rfl rfl (Or.inr rfl) ?_
                refine z_aload h170 rfl rfl (Or.inl rfl) (by omega) ?_
                refine z_getf (a := 12) (b := 16) (l := [48, 49]) h170 rfl (fun v10 => ?_)
                refine z_iadd h170 rfl ?_
                refine z_goto h170 rfl ?_
                refine z_kill h170 rfl (ls' := [zU, zU, zU, zU, zU, zU, zU, zU, zU, zU, zU, zU, zU]) rfl ?_
                exact z_iret h170 rfl (fun _ q => q)
              · refine z_iload h170 rfl rfl (Or.inr rfl) ?_
                refine z_iconst h170 rfl ?_
                refine z_icne h170 rfl ?_ ?_
                · refine z_iload h170 rfl rfl (Or.inr rfl) ?_
                  refine z_goto h170 rfl ?_
                  refine z_kill h170 rfl (ls' := [zU, zU, zU, zU, zU, zU, zU, zU, zU, zU, zU, zU, zU]) rfl ?_
                  exact z_iret h170 rfl (fun _ q => q)
                · refine z_iload h170 rfl rfl (Or.inr rfl) ?_
                  refine z_kill h170 rfl (ls' := [zU, zU, zU, zU, zU, zU, zU, zU, zU, zU, zU, zU, zU]) rfl ?_
                  exact z_iret h170 rfl (fun _ q => q)
set_option maxRecDepth 20000 in
theorem t_qmd_common (X : Int × (Int → Int)) (n : Nat) (K : zK) (M : zM) (a0 a1 : Int) : Rz X 171 (0, [zi a0, zi a1, zU, zU, zU], [], M, K) (qmd_common n K M a0 a1) (fun e P => P (some (zi e), M, K)) := by
  have h171 : zT 171 = zt171 := rfl
  unfold qmd_common
  refine z_iload h171 rfl rfl (Or.inl rfl) ?_
  refine z_istore h171 rfl (Or.inl rfl) (ls' := [zi a0, zi a1, zi a0, zU, zU]) rfl ?_
  refine z_iload h171 rfl rfl (Or.inl rfl) ?_
  refine z_istore h171 rfl (Or.inl rfl) (ls' := [zi a0, zi a1, zi a0, zi a1, zU]) rfl ?_
  refine z_kill h171 rfl (ls' := [zU, zU, zi a0, zi a1, zU]) rfl ?_
  refine Rz.wh (hd := fun s1 => (4, [zU, zU, zi s1.1, zi s1.2, zU], [], M, K)) (fun s1 => ?_) n (a0, a1)
  (try dsimp only)
  refine z_iload h171 rfl rfl (Or.inl rfl) ?_
  refine z_ifeq h171 rfl ?_ ?_
  · refine z_iload h171 rfl rfl (Or.inl rfl) ?_
    exact z_iret h171 rfl (fun _ q => q)
  · refine z_iload h171 rfl rfl (Or.inl rfl) ?_
    refine z_iload h171 rfl rfl (Or.inl rfl) ?_
    refine z_rem h171 rfl (fun v2 => ?_)
    refine z_istore h171 rfl (Or.inr rfl) (ls' := [zU, zU, zi s1.1, zi s1.2, zi v2]) rfl ?_
    refine z_iload h171 rfl rfl (Or.inl rfl) ?_
    refine z_istore h171 rfl (Or.inl rfl) (ls' := [zU, zU, zi s1.2, zi s1.2, zi v2]) rfl ?_
    refine z_iload h171 rfl rfl (Or.inr rfl) ?_
    refine z_istore h171 rfl (Or.inl rfl) (ls' := [zU, zU, zi s1.2, zi v2, zi v2]) rfl ?_
    refine z_goto h171 rfl ?_
    refine z_kill h171 rfl (ls' := [zU, zU, zi s1.2, zi v2, zU]) rfl ?_
    exact Rz.here fun _ q => q
set_option maxRecDepth 20000 in
theorem t_qmd_areAlike (X : Int × (Int → Int)) (n : Nat) (K : zK) (M : zM) (self a1 a2 : Int) (g_self : 1 ≤ self) : Rz X 172 (0, [zr self, zi a1, zi a2, zU, zU], [], M, K) (qmd_areAlike n K M self a1 a2) (fun e P => P (some (zi e), M, K)) := by
  have h172 : zT 172 = zt172 := rfl
  unfold qmd_areAlike
  refine z_iconst h172 rfl ?_
  refine z_istore h172 rfl (Or.inl rfl) (ls' := [zr self, zi a1, zi a2, zi 1, zU]) rfl ?_
  refine z_iconst h172 rfl ?_
  refine z_istore h172 rfl (Or.inr rfl) (ls' := [zr self, zi a1, zi a2, zi 1, zi 0]) rfl ?_
  refine Rz.wh (hd := fun s1 => (4, [zr self, zi a1, zi a2, zi s1.1, zi s1.2], [], M, K)) (fun s1 => ?_) n (1, 0)
  (try dsimp only)
  refine z_iload h172 rfl rfl (Or.inr rfl) ?_
  refine z_iconst h172 rfl ?_
  refine z_icge h172 rfl ?_ ?_
  · refine z_iload h172 rfl rfl (Or.inl rfl) ?_
    exact z_zretb h172 rfl (fun z hz P q => by cases hz; exact q)
  · refine z_iload h172 rfl rfl (Or.inl rfl) ?_
    refine Rz.esc (t := fun j3 => (28, [zr self, zi a1, zi a2, zU, zi s1.2], [], M, K)) ?_ (fun j3 => ?_)
    · refine z_ifeq h172 rfl ?_ ?_
      · refine z_kill h172 rfl (ls' := [zr self, zi a1, zi a2, zU, zi s1.2]) rfl ?_
        exact Rz.here fun _ q => q
      · refine z_aload h172 rfl rfl (Or.inl rfl) (by omega) ?_
        refine z_getr (a := 12) (b := 19) (l := [57, 49]) h172 rfl (fun r4 g_r4 => ?_)
        refine z_iconst h172 rfl ?_
        refine z_iload h172 rfl rfl (Or.inl rfl) ?_
        refine z_imul h172 rfl ?_
        refine z_iload h172 rfl rfl (Or.inr rfl) ?_
        refine z_iadd h172 rfl ?_
        refine z_iald h172 rfl (fun v5 => ?_)
        refine z_aload h172 rfl rfl (Or.inl rfl) (by omega) ?_
        refine z_getr (a := 12) (b := 19) (l := [57, 49]) h172 rfl (fun r6 g_r6 => ?_)
        refine z_iconst h172 rfl ?_
        refine z_iload h172 rfl rfl (Or.inl rfl) ?_
        refine z_imul h172 rfl ?_
        refine z_iload h172 rfl rfl (Or.inr rfl) ?_
        refine z_iadd h172 rfl ?_
        refine z_iald h172 rfl (fun v7 => ?_)
        refine z_icne h172 rfl ?_ ?_
        · refine z_iconst h172 rfl ?_
          refine z_goto h172 rfl ?_
          refine z_kill h172 rfl (ls' := [zr self, zi a1, zi a2, zU, zi s1.2]) rfl ?_
          refine z_istore h172 rfl (Or.inl rfl) (ls' := [zr self, zi a1, zi a2, zi 1, zi s1.2]) rfl ?_
          refine z_iinc h172 rfl rfl (ls' := [zr self, zi a1, zi a2, zi 1, zi (s1.2 + 1)]) rfl ?_
          refine z_goto h172 rfl ?_
          exact Rz.here fun _ q => q
        · refine z_kill h172 rfl (ls' := [zr self, zi a1, zi a2, zU, zi s1.2]) rfl ?_
          exact Rz.here fun _ q => q
    · (try dsimp only)
      refine z_iconst h172 rfl ?_
      refine z_kill h172 rfl (ls' := [zr self, zi a1, zi a2, zU, zi s1.2]) rfl ?_
      refine z_istore h172 rfl (Or.inl rfl) (ls' := [zr self, zi a1, zi a2, zi 0, zi s1.2]) rfl ?_
      refine z_iinc h172 rfl rfl (ls' := [zr self, zi a1, zi a2, zi 0, zi (s1.2 + 1)]) rfl ?_
      refine z_goto h172 rfl ?_
      exact Rz.here fun _ q => q
set_option maxRecDepth 20000 in
theorem t_qmd_findRate (X : Int × (Int → Int)) (n : Nat) (K : zK) (M : zM) (self a1 a2 : Int) (g_self : 1 ≤ self) : Rz X 173 (0, [zr self, zi a1, zi a2, zU, zU, zU, zU, zU, zU, zU, zU, zU], [], M, K) (qmd_findRate n K M self a1 a2) (fun e P => P (some (zi e.1), e.2, K)) := by
  have h173 : zT 173 = zt173 := rfl
  unfold qmd_findRate
  refine z_aload h173 rfl rfl (Or.inl rfl) (by omega) ?_
  refine z_cv (a := 163) (b := 0) (l := [209, 1, 12, 49]) (as := []) (lsE := [zr self, zU]) (st' := []) (val := fun _ => none) (mem := fun p => p) h173 rfl ⟨rfl, rfl, rfl, Nat.le_of_ble_eq_true rfl, Nat.le_of_ble_eq_true rfl, rfl⟩ (fun g1 => (t_qmd_begins X n K M self (by omega))) (fun M1 => ?_)
  refine z_aload h173 rfl rfl (Or.inl rfl) (by omega) ?_
  refine z_getf (a := 12) (b := 0) (l := [7, 49]) h173 rfl (fun v2 => ?_)
  refine z_aload h173 rfl rfl (Or.inl rfl) (by omega) ?_
  refine z_getf (a := 12) (b := 1) (l := [13, 49]) h173 rfl (fun v3 => ?_)
  refine z_imul h173 rfl ?_
  refine z_istoreL (lsf := fun x4 => [zr self, zi a1, zi a2, zi x4, zU, zU, zU, zU, zU, zU, zU, zU]) h173 rfl (Or.inl rfl) (fun _ => rfl) (fun x4 => ?_)
  (try dsimp only)
  refine z_iload h173 rfl rfl (Or.inl rfl) ?_
  refine z_iload h173 rfl rfl (Or.inl rfl) ?_
  refine z_iload h173 rfl rfl (Or.inl rfl) ?_
  refine z_cs (a := 171) (b := 0) (l := [226, 2]) (as := [zi a2, zi x4]) (lsE := [zi a2, zi x4, zU, zU, zU]) (st' := [zi x4]) (val := fun p => some (zi p)) (mem := fun _ => M1) h173 rfl ⟨rfl, rfl, rfl, Nat.le_of_ble_eq_true rfl, Nat.le_of_ble_eq_true rfl, rfl⟩ (t_qmd_common X n K M1 a2 x4 ) (fun v5 => ?_)
  refine z_div h173 rfl (fun v6 => ?_)
  refine z_istore h173 rfl (Or.inr rfl) (ls' := [zr self, zi a1, zi a2, zi x4, zi v6, zU, zU, zU, zU, zU, zU, zU]) rfl ?_
  refine z_iconst h173 rfl ?_
  refine z_istore h173 rfl (Or.inr rfl) (ls' := [zr self, zi a1, zi a2, zi x4, zi v6, zi (-1), zU, zU, zU, zU, zU, zU]) rfl ?_
  refine z_iconst h173 rfl ?_
  refine z_istore h173 rfl (Or.inr rfl) (ls' := [zr self, zi a1, zi a2, zi x4, zi v6, zi (-1), zi 0, zU, zU, zU, zU, zU]) rfl ?_
  refine z_iconst h173 rfl ?_
  refine z_istore h173 rfl (Or.inr rfl) (ls' := [zr self, zi a1, zi a2, zi x4, zi v6, zi (-1), zi 0, zi 1, zU, zU, zU, zU]) rfl ?_
  refine z_kill h173 rfl (ls' := [zr self, zi a1, zi a2, zi x4, zi v6, zi (-1), zi 0, zi 1, zU, zU, zU, zU]) rfl ?_
  refine Rz.esc (t := fun e8 => (90, [zr self, zi a1, zi a2, zi x4, zi v6, zi e8.1, zi e8.2.1, zi e8.2.2.1, zi e8.2.2.2.1, zU, zU, zU], [], e8.2.2.2.2, K)) ?_ (fun e8 => ?_)
  · refine Rz.wh (hd := fun s7 => (20, [zr self, zi a1, zi a2, zi x4, zi v6, zi s7.1, zi s7.2.1, zi s7.2.2.1, zU, zU, zU, zU], [], s7.2.2.2, K)) (fun s7 => ?_) n ((-1), 0, 1, M1)
    (try dsimp only)
    refine z_iload h173 rfl rfl (Or.inr rfl) ?_
    refine z_iconst h173 rfl ?_
    refine z_icgt h173 rfl ?_ ?_
    · refine z_iconst h173 rfl ?_
      exact z_zret h173 rfl (Or.inl rfl) (fun _ q => q)
    · refine z_iconst h173 rfl ?_
      refine z_istore h173 rfl (Or.inr rfl) (ls' := [zr self, zi a1, zi a2, zi x4, zi v6, zi s7.1, zi s7.2.1, zi s7.2.2.1, zi 0, zU, zU, zU]) rfl ?_
      refine z_kill h173 rfl (ls' := [zr self, zi a1, zi a2, zi x4, zi v6, zi s7.1, zi s7.2.1, zi s7.2.2.1, zi 0, zU, zU, zU]) rfl ?_
      refine Rz.bind (t := fun e22 => (42, [zr self, zi a1, zi a2, zi x4, zi v6, zi e22.1, zi e22.2.1, zi s7.2.2.1, zi e22.2.2.1, zU, zU, zU], [], e22.2.2.2, K)) ?_ (fun e22 => ?_)
      · refine Rz.wh (hd := fun s21 => (25, [zr self, zi a1, zi a2, zi x4, zi v6, zi s21.1, zi s21.2.1, zi s7.2.2.1, zi s21.2.2.1, zU, zU, zU], [], s21.2.2.2, K)) (fun s21 => ?_) n (s7.1, s7.2.1, 0, s7.2.2.2)
        (try dsimp only)
        refine z_iload h173 rfl rfl (Or.inr rfl) ?_
        refine z_iload h173 rfl rfl (Or.inr rfl) ?_
        refine z_icge h173 rfl ?_ ?_
        · exact Rz.here fun _ q => q
        · refine z_aload h173 rfl rfl (Or.inl rfl) (by omega) ?_
          refine z_iload h173 rfl rfl (Or.inl rfl) ?_
          refine z_iload h173 rfl rfl (Or.inr rfl) ?_
          refine z_iload h173 rfl rfl (Or.inl rfl) ?_
          refine z_rem h173 rfl (fun v37 => ?_)
          refine z_iload h173 rfl rfl (Or.inl rfl) ?_
          refine z_imul h173 rfl ?_
          refine z_iadd h173 rfl ?_
          refine z_iload h173 rfl rfl (Or.inr rfl) ?_
          refine z_cv (a := 166) (b := 0) (l := [212, 3, 12, 49]) (as := [zi (a1 + (v37 * a2)), zi s21.1]) (lsE := [zr self, zi (a1 + (v37 * a2)), zi s21.1, zU, zU]) (st' := []) (val := fun p => some (zi p.1)) (mem := fun p => p.2) h173 rfl ⟨rfl, rfl, rfl, Nat.le_of_ble_eq_true rfl, Nat.le_of_ble_eq_true rfl, rfl⟩ (fun g1 => (t_qmd_asks X K s21.2.2.2 self (a1 + (v37 * a2)) s21.1 (by omega))) (fun p38 => ?_)
          refine z_istore h173 rfl (Or.inr rfl) (ls' := [zr self, zi a1, zi a2, zi x4, zi v6, zi p38.1, zi s21.2.1, zi s7.2.2.1, zi s21.2.2.1, zU, zU, zU]) rfl ?_
          refine z_iinc h173 rfl rfl (ls' := [zr self, zi a1, zi a2, zi x4, zi v6, zi p38.1, zi (s21.2.1 + 1), zi s7.2.2.1, zi s21.2.2.1, zU, zU, zU]) rfl ?_
          refine z_iinc h173 rfl rfl (ls' := [zr self, zi a1, zi a2, zi x4, zi v6, zi p38.1, zi (s21.2.1 + 1), zi s7.2.2.1, zi (s21.2.2.1 + 1), zU, zU, zU]) rfl ?_
          refine z_goto h173 rfl ?_
          refine z_kill h173 rfl (ls' := [zr self, zi a1, zi a2, zi x4, zi v6, zi p38.1, zi (s21.2.1 + 1), zi s7.2.2.1, zi (s21.2.2.1 + 1), zU, zU, zU]) rfl ?_
          exact Rz.here fun _ q => q
      · (try dsimp only)
        refine z_aload h173 rfl rfl (Or.inl rfl) (by omega) ?_
        refine z_getr (a := 12) (b := 20) (l := [60, 49]) h173 rfl (fun r23 g_r23 => ?_)
        refine z_iload h173 rfl rfl (Or.inr rfl) ?_
        refine z_iload h173 rfl rfl (Or.inr rfl) ?_
        refine z_iast h173 rfl (fun M24 => ?_)
        refine z_iconst h173 rfl ?_
        refine z_istore h173 rfl (Or.inr rfl) (ls' := [zr self, zi a1, zi a2, zi x4, zi v6, zi e22.1, zi e22.2.1, zi s7.2.2.1, zi 0, zU, zU, zU]) rfl ?_
        refine z_kill h173 rfl (ls' := [zr self, zi a1, zi a2, zi x4, zi v6, zi e22.1, zi e22.2.1, zi s7.2.2.1, zi 0, zU, zU, zU]) rfl ?_
        refine Rz.bind (t := fun e26 => (80, [zr self, zi a1, zi a2, zi x4, zi v6, zi e22.1, zi e22.2.1, zi s7.2.2.1, zi e26.1, zU, zU, zU], [], e26.2, K)) ?_ (fun e26 => ?_)
        · refine Rz.wh (hd := fun s25 => (49, [zr self, zi a1, zi a2, zi x4, zi v6, zi e22.1, zi e22.2.1, zi s7.2.2.1, zi s25.1, zU, zU, zU], [], s25.2, K)) (fun s25 => ?_) n (0, M24)
          (try dsimp only)
          refine z_iload h173 rfl rfl (Or.inr rfl) ?_
          refine z_iconst h173 rfl ?_
          refine z_icge h173 rfl ?_ ?_
          · exact Rz.here fun _ q => q
          · refine z_aload h173 rfl rfl (Or.inl rfl) (by omega) ?_
            refine z_getr (a := 12) (b := 19) (l := [57, 49]) h173 rfl (fun r30 g_r30 => ?_)
            refine z_iconst h173 rfl ?_
            refine z_iload h173 rfl rfl (Or.inr rfl) ?_
            refine z_imul h173 rfl ?_
            refine z_iload h173 rfl rfl (Or.inr rfl) ?_
            refine z_iadd h173 rfl ?_
            refine z_aload h173 rfl rfl (Or.inl rfl) (by omega) ?_
            refine z_getr (a := 12) (b := 17) (l := [51, 49]) h173 rfl (fun r31 g_r31 => ?_)
            refine z_iload h173 rfl rfl (Or.inr rfl) ?_
            refine z_iald h173 rfl (fun v32 => ?_)
            refine z_iload h173 rfl rfl (Or.inr rfl) ?_
            refine z_iconst h173 rfl ?_
            refine z_iadd h173 rfl ?_
            refine Rz.bind (t := fun j33 => (77, [zr self, zi a1, zi a2, zi x4, zi v6, zi e22.1, zi e22.2.1, zi s7.2.2.1, zi s25.1, zU, zU, zU], [zi j33, zi ((17 * s7.2.2.1) + s25.1), zr r30], s25.2, K)) ?_ (fun j33 => ?_)
            · refine z_icle h173 rfl ?_ ?_
              · refine z_iconst h173 rfl ?_
                refine z_kill h173 rfl (ls' := [zr self, zi a1, zi a2, zi x4, zi v6, zi e22.1, zi e22.2.1, zi s7.2.2.1, zi s25.1, zU, zU, zU]) rfl ?_
                exact Rz.here fun _ q => q
              · refine z_aload h173 rfl rfl (Or.inl rfl) (by omega) ?_
                refine z_getr (a := 12) (b := 17) (l := [51, 49]) h173 rfl (fun r35 g_r35 => ?_)
                refine z_iload h173 rfl rfl (Or.inr rfl) ?_
                refine z_iald h173 rfl (fun v36 => ?_)
                refine z_iload h173 rfl rfl (Or.inr rfl) ?_
                refine z_isub h173 rfl ?_
                refine z_iconst h173 rfl ?_
                refine z_isub h173 rfl ?_
                refine z_goto h173 rfl ?_
                refine z_kill h173 rfl (ls' := [zr self, zi a1, zi a2, zi x4, zi v6, zi e22.1, zi e22.2.1, zi s7.2.2.1, zi s25.1, zU, zU, zU]) rfl ?_
                exact Rz.here fun _ q => q
            · (try dsimp only)
              refine z_iast h173 rfl (fun M34 => ?_)
              refine z_iinc h173 rfl rfl (ls' := [zr self, zi a1, zi a2, zi x4, zi v6, zi e22.1, zi e22.2.1, zi s7.2.2.1, zi (s25.1 + 1), zU, zU, zU]) rfl ?_
              refine z_goto h173 rfl ?_
              refine z_kill h173 rfl (ls' := [zr self, zi a1, zi a2, zi x4, zi v6, zi e22.1, zi e22.2.1, zi s7.2.2.1, zi (s25.1 + 1), zU, zU, zU]) rfl ?_
              exact Rz.here fun _ q => q
        · (try dsimp only)
          refine z_iconst h173 rfl ?_
          refine z_istore h173 rfl (Or.inr rfl) (ls' := [zr self, zi a1, zi a2, zi x4, zi v6, zi e22.1, zi e22.2.1, zi s7.2.2.1, zi 1, zU, zU, zU]) rfl ?_
          refine z_kill h173 rfl (ls' := [zr self, zi a1, zi a2, zi x4, zi v6, zi e22.1, zi e22.2.1, zi s7.2.2.1, zi 1, zU, zU, zU]) rfl ?_
          refine Rz.esc (t := fun e28 => (127, [zr self, zi a1, zi a2, zi x4, zi v6, zi e22.1, zi e22.2.1, zi s7.2.2.1, zi e28, zU, zU, zU], [], e26.2, K)) ?_ (fun e28 => ?_)
          · refine Rz.wh (hd := fun s27 => (82, [zr self, zi a1, zi a2, zi x4, zi v6, zi e22.1, zi e22.2.1, zi s7.2.2.1, zi s27, zU, zU, zU], [], e26.2, K)) (fun s27 => ?_) n 1
            (try dsimp only)
            refine z_iload h173 rfl rfl (Or.inr rfl) ?_
            refine z_iload h173 rfl rfl (Or.inr rfl) ?_
            refine z_icge h173 rfl ?_ ?_
            · exact Rz.here fun _ q => q
            · refine z_aload h173 rfl rfl (Or.inl rfl) (by omega) ?_
              refine z_iload h173 rfl rfl (Or.inr rfl) ?_
              refine z_iload h173 rfl rfl (Or.inr rfl) ?_
              refine z_cv (a := 172) (b := 0) (l := [229, 3, 12, 49]) (as := [zi s27, zi s7.2.2.1]) (lsE := [zr self, zi s27, zi s7.2.2.1, zU, zU]) (st' := []) (val := fun p => some (zi p)) (mem := fun _ => e26.2) h173 rfl ⟨rfl, rfl, rfl, Nat.le_of_ble_eq_true rfl, Nat.le_of_ble_eq_true rfl, rfl⟩ (fun g1 => (t_qmd_areAlike X n K e26.2 self s27 s7.2.2.1 (by omega))) (fun v29 => ?_)
              refine z_ifeq h173 rfl ?_ ?_
              · refine z_iinc h173 rfl rfl (ls' := [zr self, zi a1, zi a2, zi x4, zi v6, zi e22.1, zi e22.2.1, zi s7.2.2.1, zi (s27 + 1), zU, zU, zU]) rfl ?_
                refine z_goto h173 rfl ?_
                refine z_kill h173 rfl (ls' := [zr self, zi a1, zi a2, zi x4, zi v6, zi e22.1, zi e22.2.1, zi s7.2.2.1, zi (s27 + 1), zU, zU, zU]) rfl ?_
                exact Rz.here fun _ q => q
              · exact Rz.here fun _ q => q
          · (try dsimp only)
            refine z_iinc h173 rfl rfl (ls' := [zr self, zi a1, zi a2, zi x4, zi v6, zi e22.1, zi e22.2.1, zi (s7.2.2.1 + 1), zi e28, zU, zU, zU]) rfl ?_
            refine z_goto h173 rfl ?_
            refine z_kill h173 rfl (ls' := [zr self, zi a1, zi a2, zi x4, zi v6, zi e22.1, zi e22.2.1, zi (s7.2.2.1 + 1), zU, zU, zU, zU]) rfl ?_
            exact Rz.here fun _ q => q
  · (try dsimp only)
    refine z_iload h173 rfl rfl (Or.inr rfl) ?_
    refine z_iload h173 rfl rfl (Or.inr rfl) ?_
    refine z_isub h173 rfl ?_
    refine z_iload h173 rfl rfl (Or.inr rfl) ?_
    refine z_imul h173 rfl ?_
    refine z_istoreL (lsf := fun x9 => [zr self, zi a1, zi a2, zi x4, zi v6, zi e8.1, zi e8.2.1, zi e8.2.2.1, zi e8.2.2.2.1, zi x9, zU, zU]) h173 rfl (Or.inr rfl) (fun _ => rfl) (fun x9 => ?_)
    (try dsimp only)
    refine z_aload h173 rfl rfl (Or.inl rfl) (by omega) ?_
    refine z_getr (a := 12) (b := 20) (l := [60, 49]) h173 rfl (fun r10 g_r10 => ?_)
    refine z_iload h173 rfl rfl (Or.inr rfl) ?_
    refine z_iald h173 rfl (fun v11 => ?_)
    refine z_aload h173 rfl rfl (Or.inl rfl) (by omega) ?_
    refine z_getr (a := 12) (b := 20) (l := [60, 49]) h173 rfl (fun r12 g_r12 => ?_)
    refine z_iload h173 rfl rfl (Or.inr rfl) ?_
    refine z_iald h173 rfl (fun v13 => ?_)
    refine z_isub h173 rfl ?_
    refine z_istoreL (lsf := fun x14 => [zr self, zi a1, zi a2, zi x4, zi v6, zi e8.1, zi e8.2.1, zi e8.2.2.1, zi e8.2.2.2.1, zi x9, zi x14, zU]) h173 rfl (Or.inr rfl) (fun _ => rfl) (fun x14 => ?_)
    (try dsimp only)
    refine z_iload h173 rfl rfl (Or.inr rfl) ?_
    refine z_iload h173 rfl rfl (Or.inr rfl) ?_
    refine z_cs (a := 171) (b := 0) (l := [226, 2]) (as := [zi x9, zi x14]) (lsE := [zi x9, zi x14, zU, zU, zU]) (st' := []) (val := fun p => some (zi p)) (mem := fun _ => e8.2.2.2.2) h173 rfl ⟨rfl, rfl, rfl, Nat.le_of_ble_eq_true rfl, Nat.le_of_ble_eq_true rfl, rfl⟩ (t_qmd_common X n K e8.2.2.2.2 x9 x14 ) (fun v15 => ?_)
    refine z_istore h173 rfl (Or.inr rfl) (ls' := [zr self, zi a1, zi a2, zi x4, zi v6, zi e8.1, zi e8.2.1, zi e8.2.2.1, zi e8.2.2.2.1, zi x9, zi x14, zi v15]) rfl ?_
    refine z_aload h173 rfl rfl (Or.inl rfl) (by omega) ?_
    refine z_iload h173 rfl rfl (Or.inr rfl) ?_
    refine z_iload h173 rfl rfl (Or.inr rfl) ?_
    refine z_div h173 rfl (fun v16 => ?_)
    refine z_putf (a := 12) (b := 21) (l := [232, 49]) h173 rfl (fun M17 => ?_)
    refine z_aload h173 rfl rfl (Or.inl rfl) (by omega) ?_
    refine z_iload h173 rfl rfl (Or.inr rfl) ?_
    refine z_iload h173 rfl rfl (Or.inr rfl) ?_
    refine z_div h173 rfl (fun v18 => ?_)
    refine z_putf (a := 12) (b := 22) (l := [235, 49]) h173 rfl (fun M19 => ?_)
    refine z_aload h173 rfl rfl (Or.inl rfl) (by omega) ?_
    refine z_iload h173 rfl rfl (Or.inr rfl) ?_
    refine z_putf (a := 12) (b := 23) (l := [238, 49]) h173 rfl (fun M20 => ?_)
    refine z_iconst h173 rfl ?_
    exact z_zret h173 rfl (Or.inr rfl) (fun _ q => q)
set_option maxRecDepth 20000 in
theorem t_qmd_rate (X : Int × (Int → Int)) (n : Nat) (K : zK) (M : zM) (self a1 a2 a3 : Int) (g_self : 1 ≤ self) : Rz X 174 (0, [zr self, zi a1, zi a2, zi a3], [], M, K) (qmd_rate n K M self a1 a2 a3) (fun e P => P (some (zi e.1), e.2, K)) := by
  have h174 : zT 174 = zt174 := rfl
  unfold qmd_rate
  refine z_iload h174 rfl rfl (Or.inl rfl) ?_
  refine z_iload h174 rfl rfl (Or.inl rfl) ?_
  refine z_cs (a := 165) (b := 0) (l := [216, 2]) (as := [zi a1, zi a2]) (lsE := [zi a1, zi a2]) (st' := []) (val := fun p => some (zi p)) (mem := fun _ => M) h174 rfl ⟨rfl, rfl, rfl, Nat.le_of_ble_eq_true rfl, Nat.le_of_ble_eq_true rfl, rfl⟩ (t_qmd_isStream X K M a1 a2 ) (fun v1 => ?_)
  refine z_ifeq h174 rfl ?_ ?_
  · refine z_kill h174 rfl (ls' := [zU, zU, zU, zU]) rfl ?_
    refine z_iconst h174 rfl ?_
    exact z_iret h174 rfl (fun _ q => q)
  · refine z_iload h174 rfl rfl (Or.inl rfl) ?_
    refine z_ci2l h174 rfl ?_
    refine z_lconst h174 rfl ?_
    refine z_lconst h174 rfl ?_
    refine z_cs (a := 129) (b := 0) (l := [110, 3]) (as := [zl (zw a3), zl 0, zl 2]) (lsE := [zl (zw a3), zU, zl 0, zU, zl 2, zU]) (st' := []) (val := fun p => some (zi p)) (mem := fun _ => M) h174 rfl ⟨rfl, rfl, rfl, Nat.le_of_ble_eq_true rfl, Nat.le_of_ble_eq_true rfl, rfl⟩ (t_qmd_in X K M (zw a3) 0 2 ) (fun v2 => ?_)
    refine z_ifne h174 rfl ?_ ?_
    · refine z_kill h174 rfl (ls' := [zU, zU, zU, zU]) rfl ?_
      refine z_iconst h174 rfl ?_
      exact z_iret h174 rfl (fun _ q => q)
    · refine z_aload h174 rfl rfl (Or.inl rfl) (by omega) ?_
      refine z_iload h174 rfl rfl (Or.inl rfl) ?_
      refine z_iload h174 rfl rfl (Or.inl rfl) ?_
      refine z_cv (a := 173) (b := 0) (l := [241, 3, 12, 49]) (as := [zi a1, zi a2]) (lsE := [zr self, zi a1, zi a2, zU, zU, zU, zU, zU, zU, zU, zU, zU]) (st' := []) (val := fun p => some (zi p.1)) (mem := fun p => p.2) h174 rfl ⟨rfl, rfl, rfl, Nat.le_of_ble_eq_true rfl, Nat.le_of_ble_eq_true rfl, rfl⟩ (fun g1 => (t_qmd_findRate X n K M self a1 a2 (by omega))) (fun p3 => ?_)
      refine z_ifne h174 rfl ?_ ?_
      · refine z_iconst h174 rfl ?_
        exact z_iret h174 rfl (fun _ q => q)
      · refine z_iload h174 rfl rfl (Or.inl rfl) ?_
        refine z_ifne h174 rfl ?_ ?_
        · refine z_aload h174 rfl rfl (Or.inl rfl) (by omega) ?_
          refine z_getf (a := 12) (b := 21) (l := [232, 49]) h174 rfl (fun v4 => ?_)
          refine z_goto h174 rfl ?_
          refine z_kill h174 rfl (ls' := [zU, zU, zU, zU]) rfl ?_
          exact z_iret h174 rfl (fun _ q => q)
        · refine z_iload h174 rfl rfl (Or.inl rfl) ?_
          refine z_iconst h174 rfl ?_
          refine z_icne h174 rfl ?_ ?_
          · refine z_aload h174 rfl rfl (Or.inl rfl) (by omega) ?_
            refine z_getf (a := 12) (b := 22) (l := [235, 49]) h174 rfl (fun v5 => ?_)
            refine z_goto h174 rfl ?_
            refine z_kill h174 rfl (ls' := [zU, zU, zU, zU]) rfl ?_
            exact z_iret h174 rfl (fun _ q => q)
          · refine z_aload h174 rfl rfl (Or.inl rfl) (by omega) ?_
            refine z_getf (a := 12) (b := 23) (l := [238, 49]) h174 rfl (fun v6 => ?_)
            refine z_kill h174 rfl (ls' := [zU, zU, zU, zU]) rfl ?_
            exact z_iret h174 rfl (fun _ q => q)
